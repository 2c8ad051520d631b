/-! calls of the layer's contracts from outside it, with other cells beside -/
theorem D_fst {A : Nat → Prop} {w w' : va_W} (h : w.map Prod.fst = w'.map Prod.fst) (hD : va_D A w) : va_D A w' := by
  have key : ∀ (i : Nat) (q : Nat × va_E), w'[i]? = some q → ∃ e, w[i]? = some (q.1, e) := by
    intro i q hq
    have h1 : (w'.map Prod.fst)[i]? = some q.1 := by rw [List.getElem?_map, hq]; rfl
    rw [← h, List.getElem?_map] at h1
    cases hw : w[i]? with
    | none => rw [hw] at h1; cases h1
    | some x => rw [hw] at h1; exact ⟨x.2, by rw [← Option.some.inj h1]⟩
  refine ⟨fun i j p q hp hq e => ?_, fun k q hk => ?_⟩
  · obtain ⟨e1, h1⟩ := key i p hp
    obtain ⟨e2, h2⟩ := key j q hq
    exact hD.1 i j _ _ h1 h2 e
  · obtain ⟨e1, h1⟩ := key k q hk
    exact hD.2 k (q.1, e1) h1
theorem xw_fst {Λ : xLay} {G : xG} {I : xMem} : (xw Λ G I).map Prod.fst = (List.range Λ.1).map G.2.2 := by
  unfold xw; rw [List.map_map]; rfl
theorem xw_D2 {Λ : xLay} {G : xG} {I J : xMem} {A : Nat → Prop} {wr : va_W} (h : va_D A (xw Λ G I ++ wr)) : va_D A (xw Λ G J ++ wr) := D_fst (by rw [List.map_append, List.map_append, xw_fst, xw_fst]) h
theorem P_l {D : va_G} {w wr : va_W} {H : Heap} (h : va_P D vwCl (w ++ wr) H) : va_P D vwCl w H := fun k q hk => h k q (by rw [List.getElem?_append_left (List.getElem?_eq_some_iff.mp hk).1]; exact hk)
theorem P_r {D : va_G} {w wr : va_W} {H : Heap} (h : va_P D vwCl (w ++ wr) H) : va_P D vwCl wr H := fun k q hk => h (w.length + k) q (by rw [List.getElem?_append_right (by omega), Nat.add_sub_cancel_left]; exact hk)
theorem D_l {A : Nat → Prop} {w wr : va_W} (h : va_D A (w ++ wr)) : va_D A w := by
  have f : ∀ (k : Nat) (q : Nat × va_E), w[k]? = some q → (w ++ wr)[k]? = some q := fun k q hk => by rw [List.getElem?_append_left (List.getElem?_eq_some_iff.mp hk).1]; exact hk
  exact ⟨fun i j p q hp hq e => h.1 i j p q (f i p hp) (f j q hq) e, fun k q hk => h.2 k q (f k q hk)⟩
theorem P_swap {D : va_G} {w wr : va_W} {H : Heap} (h : va_P D vwCl (w ++ wr) H) : va_P D vwCl (wr ++ w) H := va_P.app (P_r h) (P_l h)
theorem D_swap {A : Nat → Prop} {w wr : va_W} (h : va_D A (w ++ wr)) : va_D A (wr ++ w) := by
  have f : ∀ (k : Nat) (q : Nat × va_E), (wr ++ w)[k]? = some q → ∃ k', (w ++ wr)[k']? = some q ∧ ((k < wr.length ∧ k' = w.length + k) ∨ (wr.length ≤ k ∧ k' = k - wr.length ∧ k' < w.length)) := by
    intro k q hk
    by_cases hl : k < wr.length
    · rw [List.getElem?_append_left hl] at hk
      exact ⟨w.length + k, by rw [List.getElem?_append_right (by omega), Nat.add_sub_cancel_left]; exact hk, Or.inl ⟨hl, rfl⟩⟩
    · rw [List.getElem?_append_right (by omega)] at hk
      have := (List.getElem?_eq_some_iff.mp hk).1
      exact ⟨k - wr.length, by rw [List.getElem?_append_left this]; exact hk, Or.inr ⟨by omega, rfl, this⟩⟩
  refine ⟨fun i j p q hp hq e => ?_, fun k q hk => ?_⟩
  · obtain ⟨i', hi, ci⟩ := f i p hp
    obtain ⟨j', hj, cj⟩ := f j q hq
    have := h.1 i' j' p q hi hj e
    omega
  · obtain ⟨k', hk', _⟩ := f k q hk
    exact h.2 k' q hk'
section ZC
variable {Λ : xLay} {G : xG} {I : xMem} {Q' : Option Value → xMem → Prop} {l : Launch} {A : Nat → Prop} {p : Program} {e : Env} {R : Room} {s : State} {m : MethodId} {args a : Array Value} {below : List Frame} {meth : Method} {c : Code} {H : Heap} {locs : List Loc} {la : Array Slot} {st st0 : List Value} {pc k n : Nat} {Qz : State → Prop} {wr : va_W}
theorem z_back (hP : va_P G.1 vwCl (xw Λ G I ++ wr) H) (hD : va_D A (xw Λ G I ++ wr)) (hS : va_S A s.heap H locs) (hA : ∀ q : Nat, s.heap.size ≤ q → A q)
    (hr : va_Run p l e R s m args below meth c H locs k n 0 0 (F0 m pc la st0) st (xQ Λ G (va_A (xw Λ G I) H.size) Q' a) (va_A (xw Λ G I) H.size))
    (kk : ∀ (v : Option Value) (J : xMem) (H1 : Heap) (locs1 : List Loc), Q' v J → va_P G.1 vwCl (xw Λ G J ++ wr) H1 → va_D A (xw Λ G J ++ wr) → va_S A s.heap H1 locs1 → W p l e R s m args below meth c H1 locs1 k n Qz (F0 m (pc + 3) la ((v.map (xv G.2.2)).toList ++ st))) : W p l e R s m args below meth c H locs k n Qz (F0 m pc la st0) := by
  intro T hT X
  obtain ⟨v, st₀, t, T', L, h0, X', hL, e1, e2, ⟨⟨v', J, hv, hp, hb⟩, hz, hk⟩, go⟩ := hr T hT X
  have hv : v = v'.map (xv G.2.2) := by simpa using hv
  subst hv
  rw [h0] at hz hk
  have hF : ∀ q, va_A (xw Λ G I) H.size q → A q := by
    rintro q (⟨k, e, h⟩ | h)
    · exact (D_l hD).2 k _ h
    · exact hA q (Nat.le_trans hS.1 h)
  have hR1 : va_P G.1 vwCl wr T'.heap := by
    intro k q hq
    have h1 := P_r hP k q hq
    have hlt := h1.lt
    refine h1.kept ?_
    rw [e1]
    refine hk q.1 hlt (fun hA' => ?_)
    rcases hA' with ⟨k2, e3, h3⟩ | h3
    · have hk2 := (List.getElem?_eq_some_iff.mp h3).1
      have := hD.1 k2 ((xw Λ G I).length + k) (q.1, e3) q (by rw [List.getElem?_append_left hk2]; exact h3) (by rw [List.getElem?_append_right (by omega), Nat.add_sub_cancel_left]; exact hq) rfl
      omega
    · omega
  obtain ⟨t2, a1, b1⟩ := kk v' J T'.heap (locs ++ L) hp (va_P.app (by rw [e1]; exact hb) hR1) (xw_D2 hD)
    ⟨Nat.le_trans hS.1 (by rw [e1]; exact hz), fun q h1 h2 => by rw [e1, hk q (Nat.lt_of_lt_of_le h1 hS.1) (fun z => h2 (hF q z))]; exact hS.2.1 q h1 h2, fun q hq => by
      rcases List.mem_append.mp hq with h | h
      · exact hS.2.2 q h
      · exact hF _ (hL q h)⟩ T' rfl X'
  exact ⟨t2, go t2 a1, b1⟩
/-- a method of an object of the layer is called -/
theorem z_callV {own : String} {cc : ByteArray} {y : MethodName} {μ' : xM} {d' idx nP : Nat} {as : List Value} (ci : Nat) {k0 N : Nat} {T : u_T} {fs : List (Option Nat)} (hx : p.tables.exec = Jvm.exec) (hb : c.code = cc) (hml : la.size = c.maxLocals) (hown : s.vm.findClass own = some m.cls) (hw : ∀ w ∈ x_good, w.before args s = true) (hK : va_K G.1 vwCl (xtys G) s) (hN : xNw s)
    (hl1 : Cond.methodLink own idx y ∈ x_good) (hl2 : Cond.instanceMethod y ∈ x_good) (hl3 : Cond.selects y.cls y y ∈ x_good) (hy : xcal y μ' nP) (hc : vwCl[ci]? = some (y.cls, T, N)) (hM : Cx Λ y μ' d' (.ref k0 :: as) I Q') (hd : decode cc pc = .ok (.invokevirtual idx, 3)) (hfr : d' + 1 ≤ R.frames ∧ 8 + (μ'.2.2.1 + 11) + 34 * d' ≤ R.locals) (hk : decide (k0 < Λ.1) = true) (hΛ : Λ.2 k0 = .inr (.inl (ci, fs))) (hn : as.length = nP) (hst0 : st0 = (as.map (xv G.2.2)).reverse ++ .ref (G.2.2 k0) :: st) (hst : (st.map fun v => v.category).sum ≤ 8) (hR : k ≤ R.cells ∧ n ≤ R.slots)
    (hP : va_P G.1 vwCl (xw Λ G I ++ wr) H) (hD : va_D A (xw Λ G I ++ wr)) (hS : va_S A s.heap H locs) (hA : ∀ q : Nat, s.heap.size ≤ q → A q)
    (kk : ∀ (v : Option Value) (J : xMem) (H1 : Heap) (locs1 : List Loc), Q' v J → va_P G.1 vwCl (xw Λ G J ++ wr) H1 → va_D A (xw Λ G J ++ wr) → va_S A s.heap H1 locs1 → W p l e R s m args below meth c H1 locs1 k n Qz (F0 m (pc + 3) la ((v.map (xv G.2.2)).toList ++ st))) : W p l e R s m args below meth c H locs k n Qz (F0 m pc la st0) := by
  subst hst0
  refine z_back hP hD hS hA (va_runV (As := as.map (xv G.2.2)) (C := y.cls) ⟨hx, hb, rfl, hown, hw⟩ (hM l G H.size) ⟨callB_of nP hw (x_goodIn hy.1) rfl rfl rfl (hw _ hy.2.1) (hw _ hl1) hy.2.2.1 hfr, hw _ hl2, hw _ hl3⟩ ⟨x_blind, va_recv hK (P_l hP) (ci := ci) (q0 := k0) hc (x_obj hk hΛ), x_pre (P_l hP) (D_l hD) hK hN⟩ rfl (by rw [List.length_map]; exact hn) hml rfl (lv_room hst) hd hR) kk
end ZC
/-- such a call in a constructor -/
theorem y_callX {Λ : xLay} {G : xG} {I : xMem} {μ : xM} {R : Room} {P : va_W → yT → Prop} {pc : Nat} {lv : List (Nat × Value)} {st : List Value} {k n : Nat} {y : MethodName} {μ' : xM} {d' idx : Nat} {P0 : xMem → Prop} (ci : Nat) {k0 N : Nat} {T : u_T} {fs : List (Option Nat)} (hl1 : Cond.methodLink μ.1 idx y ∈ x_good) (hl2 : Cond.instanceMethod y ∈ x_good) (hl3 : Cond.selects y.cls y y ∈ x_good) (hy : xcal y μ' 0) (hc : vwCl[ci]? = some (y.cls, T, N)) (hM : Cx Λ y μ' d' [.ref k0] I (xRv P0)) (hd : decode μ.2.1 pc = .ok (.invokevirtual idx, 3)) (hfr : d' + 1 ≤ R.frames ∧ 8 + (μ'.2.2.1 + 11) + 34 * d' ≤ R.locals) (hk : decide (k0 < Λ.1) = true) (hΛ : Λ.2 k0 = .inr (.inl (ci, fs))) (hst : (st.map fun v => v.category).sum ≤ 8) (hR : k ≤ R.cells ∧ n ≤ R.slots)
    (kk : ∀ J : xMem, P0 J → Yx G.1 (xtys G) μ R P (pc + 3) lv st (xw Λ G J) k n) : Yx G.1 (xtys G) μ R P pc lv (.ref (G.2.2 k0) :: st) (xw Λ G I) k n := by
  intro l A p e s m args below meth c H locs la hC hP hD hS hl
  refine z_callV (wr := []) ci hC.1 hC.2.1 (hl.1.trans hC.2.2.2.1.symm) hC.2.2.2.2.1 hC.2.2.2.2.2.1 hC.2.2.2.2.2.2.2.1 hC.2.2.2.2.2.2.2.2.1.2.2.2.2.2.2 hl1 hl2 hl3 hy hc hM hd hfr hk hΛ rfl rfl hst hR (by rw [List.append_nil]; exact hP) (by rw [List.append_nil]; exact hD) hS hC.2.2.2.2.2.2.2.2.2.1 (fun v J H1 locs1 h1 h2 h3 h4 => ?_)
  obtain ⟨rfl, h1⟩ := h1
  rw [List.append_nil] at h2 h3
  exact kk J h1 l A p e s m args below meth c H1 locs1 la hC h2 h3 h4 hl
