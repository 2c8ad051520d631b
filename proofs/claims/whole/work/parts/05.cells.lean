/-! fields, arrays, calls of the layer -/
theorem x_wX0 : ∀ w ∈ u_ws RX0 TX0 14, w ∈ x_good := by decide +kernel
theorem x_wX2 : ∀ w ∈ u_ws RX2 TX2 4, w ∈ x_good := by decide +kernel
theorem x_wX3 : ∀ w ∈ u_ws RX3 TX3 1, w ∈ x_good := by decide +kernel
theorem x_wX4 : ∀ w ∈ u_ws RX4 TX4 1, w ∈ x_good := by decide +kernel
theorem x_wX5 : ∀ w ∈ u_ws RX5 TX5 6, w ∈ x_good := by decide +kernel
theorem x_wX6 : ∀ w ∈ u_ws RX6 TX6 17, w ∈ x_good := by decide +kernel
/-- what the tables say of a class of the worlds -/
theorem x_cls : ∀ (ci : Nat) (q : vw_C), vwCl[ci]? = some q → (∀ w ∈ u_ws q.1 q.2.1 q.2.2, w ∈ x_good) ∧ (∃ ty0 : Nat → FieldType, ∀ k, k < q.2.2 → parseFieldDescriptor (q.2.1 k).2.2.1 = some (ty0 k)) ∧ (∀ a, a < q.2.2 → ∀ b, b < q.2.2 → a ≠ b → (q.2.1 a).2.1 ≠ (q.2.1 b).2.1) := by
  intro ci q h
  match ci, h with
  | 0, h => cases h; exact ⟨x_wX0, ⟨_, tyX0_ok⟩, nmX0⟩
  | 1, h => cases h; exact ⟨x_wX2, ⟨_, tyX2_ok⟩, nmX2⟩
  | 2, h => cases h; exact ⟨x_wX3, ⟨_, tyX3_ok⟩, nmX3⟩
  | 3, h => cases h; exact ⟨x_wX4, ⟨_, tyX4_ok⟩, nmX4⟩
  | 4, h => cases h; exact ⟨x_wX5, ⟨_, tyX5_ok⟩, nmX5⟩
  | 5, h => cases h; exact ⟨x_wX6, ⟨_, tyX6_ok⟩, nmX6⟩
  | k + 6, h => simp [vwCl] at h
section XF
variable {Λ : xLay} {μ : xM} {d : Nat} {Q : Option Value → xMem → Prop} {pc : Nat} {ls st : List Value} {I : xMem}
theorem x_obj {G : xG} {k ci : Nat} {fs : List (Option Nat)} (hk : decide (k < Λ.1) = true) (hΛ : Λ.2 k = .inr (.inl (ci, fs))) : (xw Λ G I)[k]? = some (G.2.2 k, .inr (ci, xfs G.2.2 (I k) 0 fs)) := by
  rw [xw_at (of_decide_eq_true hk), hΛ]; rfl
theorem x_arr {G : xG} {k t n : Nat} (hk : decide (k < Λ.1) = true) (hΛ : Λ.2 k = .inl (t, n)) : (xw Λ G I)[k]? = some (G.2.2 k, .inl (G.2.1 t, n, .inl (I k))) := by
  rw [xw_at (of_decide_eq_true hk), hΛ]; rfl
theorem x_rar {G : xG} {k t n : Nat} {g : Nat → Option Nat} (hk : decide (k < Λ.1) = true) (hΛ : Λ.2 k = .inr (.inr (t, n, g))) : (xw Λ G I)[k]? = some (G.2.2 k, .inl (G.2.1 t, n, .inr (.inr (.inr (.inr (fun j => (g j).map G.2.2)))))) := by
  rw [xw_at (of_decide_eq_true hk), hΛ]; rfl
/-- a field that is a number -/
theorem x_getI (ci j : Nat) {k idx N : Nat} {C : String} {T : u_T} {fs : List (Option Nat)} {v : Int32} (hc : vwCl[ci]? = some (C, T, N)) (hj : j < N) (hlink : Cond.fieldLink μ.1 idx (T j).1 (T j).2.1 (T j).2.2.1 ∈ x_good) (hd : decode μ.2.1 pc = .ok (.getfield idx, 3)) (hk : decide (k < Λ.1) = true) (hΛ : Λ.2 k = .inr (.inl (ci, fs))) (hf : fs[j]? = some none) (hv : I k j = v) (kk : Wx Λ μ d Q (pc + 3) ls (.int v :: st) I) : Wx Λ μ d Q pc ls (.ref k :: st) I := by
  intro l G A p e s m args below meth c H locs la hC hP hD hS hl
  refine va_get (v := .int v) hC.1 hC.2.1 hC.2.2.2.2.2.1 (x_cls ci _ hc).1 hC.2.2.2.2.1 hC.2.2.2.2.2.2.2.1 hP k (x_obj hk hΛ) hc j hj (hC.2.2.2.2.2.1 _ hlink) (fun _ h => h) ?_ hd (kk l G A p e s m args below meth c H locs la hC hP hD hS hl)
  rw [xfs_at, hf, ← hv]; simp [xfv]
/-- a field that is a cell -/
theorem x_getR (ci j : Nat) {k r idx N : Nat} {C : String} {T : u_T} {fs : List (Option Nat)} (hc : vwCl[ci]? = some (C, T, N)) (hj : j < N) (hlink : Cond.fieldLink μ.1 idx (T j).1 (T j).2.1 (T j).2.2.1 ∈ x_good) (hd : decode μ.2.1 pc = .ok (.getfield idx, 3)) (hk : decide (k < Λ.1) = true) (hΛ : Λ.2 k = .inr (.inl (ci, fs))) (hf : fs[j]? = some (some r)) (kk : Wx Λ μ d Q (pc + 3) ls (.ref r :: st) I) : Wx Λ μ d Q pc ls (.ref k :: st) I := by
  intro l G A p e s m args below meth c H locs la hC hP hD hS hl
  refine va_get (v := .ref (G.2.2 r)) hC.1 hC.2.1 hC.2.2.2.2.2.1 (x_cls ci _ hc).1 hC.2.2.2.2.1 hC.2.2.2.2.2.2.2.1 hP k (x_obj hk hΛ) hc j hj (hC.2.2.2.2.2.1 _ hlink) (fun _ h => h) ?_ hd (kk l G A p e s m args below meth c H locs la hC hP hD hS hl)
  rw [xfs_at, hf]; simp [xfv]
theorem x_put (ci j : Nat) {k idx N : Nat} {C : String} {T : u_T} {fs : List (Option Nat)} {x : Int32} {ty : FieldType} (hc : vwCl[ci]? = some (C, T, N)) (hj : j < N) (hlink : Cond.fieldLink μ.1 idx (T j).1 (T j).2.1 (T j).2.2.1 ∈ x_good) (hfin : (T j).2.2.2 = false) (hty : parseFieldDescriptor (T j).2.2.1 = some ty) (hn : narrow ty (.int x) = .int x) (hfit : fits ty (.int x) = true) (hd : decode μ.2.1 pc = .ok (.putfield idx, 3)) (hk : decide (k < Λ.1) = true) (hΛ : Λ.2 k = .inr (.inl (ci, fs))) (hf : fs[j]? = some none) (kk : Wx Λ μ d Q (pc + 3) ls st (xup I k j x)) : Wx Λ μ d Q pc ls (.int x :: .ref k :: st) I := by
  intro l G A p e s m args below meth c H locs la hC hP hD hS hl
  obtain ⟨h1, ⟨ty0, h2⟩, h3⟩ := x_cls ci _ hc
  refine va_put (v := .int x) hC.1 hC.2.1 hC.2.2.2.2.2.1 h1 ty0 h2 h3 hC.2.2.2.2.1 hC.2.2.2.2.2.2.2.1 hP hD hS k (x_obj hk hΛ) hc j hj (hC.2.2.2.2.2.1 _ hlink) (fun _ h => h) hfin hty hn hfit (by rw [xfs_len]; exact (List.getElem?_eq_some_iff.mp hf).1) hd (fun H1 locs1 hP1 hD1 hS1 => ?_)
  have e9 : (xw Λ G I).set k (G.2.2 k, .inr (ci, (xfs G.2.2 (I k) 0 fs).set j (.int x))) = xw Λ G (xup I k j x) := xw_set _ (by rw [hΛ]; show Sum.inr (ci, xfs _ _ _ _) = _; rw [xfs_set _ _ hf])
  rw [e9] at hP1 hD1
  exact kk l G A p e s m args below meth c H1 locs1 la hC hP1 hD1 hS1 hl
theorem x_iald {k n p : Nat} {i v : Int32} (hd : decode μ.2.1 pc = .ok (.iaload, 1)) (hk : decide (k < Λ.1) = true) (hΛ : Λ.2 k = .inl (0, n)) (hN : decide (n < 2 ^ 31) = true) (hi : i = nI p) (hp : p < n) (hv : I k p = v) (kk : Wx Λ μ d Q (pc + 1) ls (.int v :: st) I) : Wx Λ μ d Q pc ls (.int i :: .ref k :: st) I := by
  intro l G A p' e s m args below meth c H locs la hC hP hD hS hl
  subst hi
  have h := kk l G A p' e s m args below meth c H locs la hC hP hD hS hl
  have hN := of_decide_eq_true hN
  refine va_iald hC.1 hC.2.1 hC.2.2.2.2.2.2.2.1 hP k 0 (x_arr hk hΛ) rfl (vp_in_nI hp hN) hd ?_
  rw [nI_clamp (by omega), hv]; exact h
theorem x_zald {k n p : Nat} {i v : Int32} (hd : decode μ.2.1 pc = .ok (.baload, 1)) (hk : decide (k < Λ.1) = true) (hΛ : Λ.2 k = .inl (1, n)) (hN : decide (n < 2 ^ 31) = true) (hi : i = nI p) (hp : p < n) (hv : I k p = v) (kk : Wx Λ μ d Q (pc + 1) ls (.int v :: st) I) : Wx Λ μ d Q pc ls (.int i :: .ref k :: st) I := by
  intro l G A p' e s m args below meth c H locs la hC hP hD hS hl
  subst hi
  have h := kk l G A p' e s m args below meth c H locs la hC hP hD hS hl
  have hN := of_decide_eq_true hN
  refine va_zald hC.1 hC.2.1 hC.2.2.2.2.2.2.2.1 hP k 1 (x_arr hk hΛ) rfl (vp_in_nI hp hN) hd ?_
  rw [nI_clamp (by omega), hv]; exact h
theorem x_aald {k n p r : Nat} {g : Nat → Option Nat} {i : Int32} (hd : decode μ.2.1 pc = .ok (.aaload, 1)) (hk : decide (k < Λ.1) = true) (hΛ : Λ.2 k = .inr (.inr (2, n, g))) (hN : decide (n < 2 ^ 31) = true) (hi : i = nI p) (hp : p < n) (hv : g p = some r) (kk : Wx Λ μ d Q (pc + 1) ls (.ref r :: st) I) : Wx Λ μ d Q pc ls (.int i :: .ref k :: st) I := by
  intro l G A p' e s m args below meth c H locs la hC hP hD hS hl
  subst hi
  have h := kk l G A p' e s m args below meth c H locs la hC hP hD hS hl
  have hN := of_decide_eq_true hN
  refine va_aldq hC.1 hC.2.1 hC.2.2.2.2.2.2.2.1 hP k 2 (x_rar hk hΛ) rfl (vp_in_nI hp hN) hd ?_
  rw [nI_clamp (by omega), hv]; exact h
theorem x_iast {k n p : Nat} {i x : Int32} (hd : decode μ.2.1 pc = .ok (.iastore, 1)) (hk : decide (k < Λ.1) = true) (hΛ : Λ.2 k = .inl (0, n)) (hN : decide (n < 2 ^ 31) = true) (hi : i = nI p) (hp : p < n) (kk : Wx Λ μ d Q (pc + 1) ls st (xup I k p x)) : Wx Λ μ d Q pc ls (.int x :: .int i :: .ref k :: st) I := by
  intro l G A p' e s m args below meth c H locs la hC hP hD hS hl
  subst hi
  have hN := of_decide_eq_true hN
  refine va_iast hC.1 hC.2.1 hC.2.2.2.2.2.2.2.1 hP hD hS k 0 (x_arr hk hΛ) rfl (vp_in_nI hp hN) hd (fun H1 locs1 hP1 hD1 hS1 => ?_)
  have e1 : (xw Λ G I).set k (G.2.2 k, .inl (G.2.1 0, n, .inl (upd (I k) (nI p).toNatClampNeg x))) = xw Λ G (xup I k p x) := xw_set _ (by rw [hΛ, nI_clamp (by omega)]; rfl)
  rw [e1] at hP1 hD1
  exact kk l G A p' e s m args below meth c H1 locs1 la hC hP1 hD1 hS1 hl
theorem x_zast {k n p : Nat} {i x : Int32} (hd : decode μ.2.1 pc = .ok (.bastore, 1)) (hk : decide (k < Λ.1) = true) (hΛ : Λ.2 k = .inl (1, n)) (hN : decide (n < 2 ^ 31) = true) (hi : i = nI p) (hp : p < n) (hx : x = 0 ∨ x = 1) (kk : Wx Λ μ d Q (pc + 1) ls st (xup I k p x)) : Wx Λ μ d Q pc ls (.int x :: .int i :: .ref k :: st) I := by
  intro l G A p' e s m args below meth c H locs la hC hP hD hS hl
  subst hi
  have hN := of_decide_eq_true hN
  have hx' : vp_nar .boolean x = x := by rcases hx with rfl | rfl <;> rfl
  refine va_zast hC.1 hC.2.1 hC.2.2.2.2.2.2.2.1 hP hD hS k 1 (x_arr hk hΛ) rfl (vp_in_nI hp hN) hd (fun H1 locs1 hP1 hD1 hS1 => ?_)
  rw [hx'] at hP1 hD1
  have e1 : (xw Λ G I).set k (G.2.2 k, .inl (G.2.1 1, n, .inl (upd (I k) (nI p).toNatClampNeg x))) = xw Λ G (xup I k p x) := xw_set _ (by rw [hΛ, nI_clamp (by omega)]; rfl)
  rw [e1] at hP1 hD1
  exact kk l G A p' e s m args below meth c H1 locs1 la hC hP1 hD1 hS1 hl
theorem x_alen {k n : Nat} (hd : decode μ.2.1 pc = .ok (.arraylength, 1)) (hk : decide (k < Λ.1) = true) (hΛ : Λ.2 k = .inl (0, n)) (kk : Wx Λ μ d Q (pc + 1) ls (.int (nI n) :: st) I) : Wx Λ μ d Q pc ls (.ref k :: st) I := by
  intro l G A p' e s m args below meth c H locs la hC hP hD hS hl
  exact va_alen (v := nI n) hC.1 hC.2.1 hC.2.2.2.2.2.2.2.1 hP k 0 (x_arr hk hΛ) rfl rfl hd (kk l G A p' e s m args below meth c H locs la hC hP hD hS hl)
theorem x_sum (ad : Nat → Nat) (st : List Value) : ((st.map (xv ad)).map fun v => v.category).sum = (st.map fun v => v.category).sum := by
  rw [List.map_map]; congr 2; funext v; exact xv_cat ad v
/-- System.arraycopy of ints -/
theorem x_copy {idx k0 k1 n0 n1 sp dp n : Nat} {i0 i1 i2 : Int32} (hlink : Cond.methodLink μ.1 idx arraycopyName ∈ x_good) (hnat : Cond.native arraycopyName ∈ x_good) (hstat : Cond.static arraycopyName ∈ x_good) (hini : Cond.initialized "java/lang/System" ∈ x_good) (hd : decode μ.2.1 pc = .ok (.invokestatic idx, 3)) (hfr : 1 ≤ d) (hk0 : decide (k0 < Λ.1) = true) (hΛ0 : Λ.2 k0 = .inl (0, n0)) (hk1 : decide (k1 < Λ.1) = true) (hΛ1 : Λ.2 k1 = .inl (0, n1)) (hst : (st.map fun v => v.category).sum ≤ 8) (e0 : i0 = nI sp) (e1 : i1 = nI dp) (e2 : i2 = nI n) (h4 : sp + n ≤ n0) (h5 : dp + n ≤ n1) (hN0 : decide (n0 < 2 ^ 31) = true) (hN1 : decide (n1 < 2 ^ 31) = true) (kk : Wx Λ μ d Q (pc + 3) ls st (va_up I k1 (va_cpy (I k0) (I k1) sp dp n))) : Wx Λ μ d Q pc ls (.int i2 :: .int i1 :: .ref k1 :: .int i0 :: .ref k0 :: st) I := by
  intro l G A p' e s m args below meth c H locs la hC hP hD hS hl
  subst e0; subst e1; subst e2
  have hN0 := of_decide_eq_true hN0
  have hN1 := of_decide_eq_true hN1
  have hw := hC.2.2.2.2.2.1
  refine va_copyi hC.1 hC.2.1 (hC.2.2.2.1.trans hl.1.symm) hC.2.2.2.2.1 (hw _ hlink) (hw _ hnat) (hw _ hstat) (hw _ hini) hC.2.2.2.2.2.2.2.1 hP hD hS k0 k1 0 0 (ty := .int) (x_arr hk0 hΛ0) (x_arr hk1 hΛ1) rfl rfl rfl (nI_pos (by omega)) (nI_pos (by omega)) (nI_pos (by omega)) (by rw [nI_clamp (by omega), nI_clamp (by omega)]; exact h4) (by rw [nI_clamp (by omega), nI_clamp (by omega)]; exact h5) (fun _ _ => rfl) hfr ?_ hd (fun H1 locs1 hP1 hD1 hS1 => ?_)
  · rw [x_sum]
    show _ ≤ 34 * d
    have : nativeFrameWords "java/lang/System" "arraycopy" 5 ≤ 12 := by decide +kernel
    omega
  have e1 : (xw Λ G I).set k1 (G.2.2 k1, .inl (G.2.1 0, n1, .inl (va_cpy (I k0) (I k1) (nI sp).toNatClampNeg (nI dp).toNatClampNeg (nI n).toNatClampNeg))) = xw Λ G (va_up I k1 (va_cpy (I k0) (I k1) sp dp n)) := xw_set _ (by rw [hΛ1, nI_clamp (by omega), nI_clamp (by omega), nI_clamp (by omega)]; rfl)
  rw [e1] at hP1 hD1
  exact kk l G A p' e s m args below meth c H1 locs1 la hC hP1 hD1 hS1 hl
theorem x_min {idx : Nat} {x y v : Int32} (hlink : Cond.methodLink μ.1 idx Lib.Math.min.name ∈ x_good) (hstat : Cond.static Lib.Math.min.name ∈ x_good) (hini : Cond.initialized "java/lang/Math" ∈ x_good) (hcode : Cond.code Lib.Math.min.name Lib.Math.min.code 2 (some .int) ∈ x_good) (hd : decode μ.2.1 pc = .ok (.invokestatic idx, 3)) (hfr : 1 ≤ d) (hst : (st.map fun v => v.category).sum ≤ 8) (hv : (if y < x then y else x) = v) (kk : Wx Λ μ d Q (pc + 3) ls (.int v :: st) I) : Wx Λ μ d Q pc ls (.int y :: .int x :: st) I := by
  intro l G A p' e s m args below meth c H locs la hC hP hD hS hl
  subst hv
  have hw := hC.2.2.2.2.2.1
  exact va_mmin hC.1 hC.2.1 (hC.2.2.2.1.trans hl.1.symm) hC.2.2.2.2.1 (hw _ hlink) (hw _ hstat) (hw _ hini) (hw _ hcode) hfr (by rw [x_sum]; show _ ≤ 34 * d; omega) (Nat.le_refl 0) (Nat.le_refl 0) hd (kk l G A p' e s m args below meth c H locs la hC hP hD hS hl)
end XF
section XC
variable {Λ : xLay} {μ μ' : xM} {d d' : Nat} {Q Q' : Option Value → xMem → Prop} {pc idx n : Nat} {ls st as sk : List Value} {I : xMem} {y : MethodName}
/-- what a call asks of the callee, of the tables alone -/
def xcal (y : MethodName) (μ' : xM) (n : Nat) : Prop := Cond.code y μ'.2.1 μ'.2.2.1 μ'.2.2.2 ∈ x_good ∧ Cond.initialized y.cls ∈ x_good ∧ (y.cls ≠ "java/lang/invoke/MethodHandle" ∧ y.cls ≠ "java/lang/invoke/VarHandle" ∧ (parseMethodDescriptor y.desc).map (fun d => d.parameters.length) = some n) ∧ μ'.2.2.1 ≤ 15
/-- behind a call -/
theorem x_back {l : Launch} {G : xG} {A : Nat → Prop} {p : Program} {e : Env} {s : State} {m : MethodId} {args a : Array Value} {below : List Frame} {meth : Method} {c : Code} {H : Heap} {locs : List Loc} {la : Array Slot} {st0 : List Value} {pc : Nat} {Qz : State → Prop} (hD : va_D A (xw Λ G I)) (hS : va_S A s.heap H locs)
    (hA : ∀ q : Nat, s.heap.size ≤ q → A q)
    (hr : va_Run p l e (xrm d) s m args below meth c H locs 0 0 0 0 (F0 m pc la st0) (st.map (xv G.2.2)) (xQ Λ G (va_A (xw Λ G I) H.size) Q' a) (va_A (xw Λ G I) H.size))
    (kk : ∀ (v : Option Value) (J : xMem) (H1 : Heap) (locs1 : List Loc), Q' v J → va_P G.1 vwCl (xw Λ G J) H1 → va_D A (xw Λ G J) → va_S A s.heap H1 locs1 → W p l e (xrm d) s m args below meth c H1 locs1 0 0 Qz (F0 m (pc + 3) la ((v.toList ++ st).map (xv G.2.2)))) : W p l e (xrm d) s m args below meth c H locs 0 0 Qz (F0 m pc la st0) := by
  intro T hT X
  obtain ⟨v, st₀, t, T', L, h0, X', hL, e1, e2, ⟨⟨v', J, hv, hp, hb⟩, hz, hk⟩, go⟩ := hr T hT X
  have hv : v = v'.map (xv G.2.2) := by simpa using hv
  subst hv
  rw [h0] at hz hk
  have hF : ∀ q, va_A (xw Λ G I) H.size q → A q := by
    rintro q (⟨k, e, h⟩ | h)
    · exact hD.2 k _ h
    · exact hA q (Nat.le_trans hS.1 h)
  obtain ⟨t2, a1, b1⟩ := kk v' J T'.heap (locs ++ L) hp (by rw [e1]; exact hb) (xw_D hD)
    ⟨Nat.le_trans hS.1 (by rw [e1]; exact hz), fun q h1 h2 => by rw [e1, hk q (Nat.lt_of_lt_of_le h1 hS.1) (fun z => h2 (hF q z))]; exact hS.2.1 q h1 h2, fun q hq => by
      rcases List.mem_append.mp hq with h | h
      · exact hS.2.2 q h
      · exact hF _ (hL q h)⟩ T' rfl X'
  refine ⟨t2, go t2 ?_, b1⟩
  have e : (v'.toList ++ st).map (xv G.2.2) = (v'.map (xv G.2.2)).toList ++ st.map (xv G.2.2) := by cases v' <;> simp
  rw [e] at a1
  exact a1
theorem x_blind {G : xG} {vs : List Value} {sz : Nat} : FrameBlind (va_Pc vs (fun U => U.heap.size = sz ∧ va_P G.1 vwCl (xw Λ G I) U.heap ∧ va_K G.1 vwCl (xtys G) U ∧ xNw U ∧ va_D (fun _ => True) (xw Λ G I))) := by
  intro a U g mk h
  obtain ⟨h1, h2, h3, h4, h5, h6⟩ := h
  exact ⟨h1, h2, h3, va_K.moved (u := U) (U := U.calling g mk a) (Vm.Alike.refl U.vm) h4, xNw.same (u := U) (U := U.calling g mk a) rfl h5, h6⟩
theorem x_pre {G : xG} {A : Nat → Prop} {s : State} {H : Heap} {vs : List Value} (hP : va_P G.1 vwCl (xw Λ G I) H) (hD : va_D A (xw Λ G I)) (hK : va_K G.1 vwCl (xtys G) s) (hN : xNw s) : ∀ U : State, U.heap = H → s.WarmedH U.vm → va_Pc vs (fun U => U.heap.size = H.size ∧ va_P G.1 vwCl (xw Λ G I) U.heap ∧ va_K G.1 vwCl (xtys G) U ∧ xNw U ∧ va_D (fun _ => True) (xw Λ G I)) vs.toArray U :=
  fun U hU hW => ⟨rfl, by rw [hU], by rw [hU]; exact hP, va_K.moved hW.alike hK, hN.warm hW, hD.weaken (fun _ _ _ _ => trivial)⟩
theorem x_rm (h : d' + 1 ≤ d) (hm : μ'.2.2.1 ≤ 15) : (xrm d').frames + 1 ≤ (xrm d).frames ∧ 8 + (μ'.2.2.1 + 11) + (xrm d').locals ≤ (xrm d).locals := ⟨h, by show 8 + (μ'.2.2.1 + 11) + 34 * d' ≤ 34 * d; omega⟩
/-- a static method, by an ordinary link -/
theorem x_callS (hl1 : Cond.methodLink μ.1 idx y ∈ x_good) (hl2 : Cond.static y ∈ x_good) (hy : xcal y μ' n) (hM : Cx Λ y μ' d' as I Q') (hd : decode μ.2.1 pc = .ok (.invokestatic idx, 3)) (hdd : d' + 1 ≤ d) (hn : as.length = n) (hsk : as.reverse ++ st = sk) (hst : (st.map fun v => v.category).sum ≤ 8) (kk : ∀ (v : Option Value) (J : xMem), Q' v J → Wx Λ μ d Q (pc + 3) ls (v.toList ++ st) J) : Wx Λ μ d Q pc ls sk I := by
  intro l G A p e s m args below meth c H locs la hC hP hD hS hl
  have hw := hC.2.2.2.2.2.1
  refine x_back hD hS hC.2.2.2.2.2.2.2.2.2 (va_runS (As := as.map (xv G.2.2)) ⟨hC.1, hC.2.1, hC.2.2.2.1, hC.2.2.2.2.1, hw⟩ (hM l G H.size) ⟨callB_of n hw (x_goodIn hy.1) rfl rfl rfl (hw _ hy.2.1) (hw _ hl1) hy.2.2.1 (x_rm hdd hy.2.2.2), hw _ hl2⟩ ⟨x_blind, x_pre hP hD hC.2.2.2.2.2.2.2.1 hC.2.2.2.2.2.2.2.2.1⟩ rfl (by rw [List.length_map]; exact hn) hl.1 ?_ (lv_room (by rw [x_sum]; exact hst)) hd ⟨Nat.le_refl 0, Nat.le_refl 0⟩) (fun v J H1 locs1 h1 h2 h3 h4 => kk v J h1 l G A p e s m args below meth c H1 locs1 la hC h2 h3 h4 hl)
  show sk.map (xv G.2.2) = _
  rw [← hsk, List.map_append, List.map_reverse]
/-- a static method of a nest mate -/
theorem x_callSN (hl1 : ∀ s, xNw s → va_Nw (.methodLinkNest μ.1 idx y "GraveRows") s) (hl2 : Cond.static y ∈ x_good) (hy : xcal y μ' n) (hM : Cx Λ y μ' d' as I Q') (hd : decode μ.2.1 pc = .ok (.invokestatic idx, 3)) (hdd : d' + 1 ≤ d) (hn : as.length = n) (hsk : as.reverse ++ st = sk) (hst : (st.map fun v => v.category).sum ≤ 8) (kk : ∀ (v : Option Value) (J : xMem), Q' v J → Wx Λ μ d Q (pc + 3) ls (v.toList ++ st) J) : Wx Λ μ d Q pc ls sk I := by
  intro l G A p e s m args below meth c H locs la hC hP hD hS hl
  have hw := hC.2.2.2.2.2.1
  refine x_back hD hS hC.2.2.2.2.2.2.2.2.2 (va_runSN (As := as.map (xv G.2.2)) ⟨hC.1, hC.2.1, hC.2.2.2.1, hC.2.2.2.2.1, hw⟩ (hM l G H.size) ⟨va_cnB n hw (x_goodIn hy.1) rfl rfl rfl (hl1 s hC.2.2.2.2.2.2.2.2.1) (hw _ hy.2.1) hy.2.2.1 (x_rm hdd hy.2.2.2), hw _ hl2, trivial⟩ ⟨x_blind, x_pre hP hD hC.2.2.2.2.2.2.2.1 hC.2.2.2.2.2.2.2.2.1⟩ rfl (by rw [List.length_map]; exact hn) hl.1 ?_ (lv_room (by rw [x_sum]; exact hst)) hd ⟨Nat.le_refl 0, Nat.le_refl 0⟩) (fun v J H1 locs1 h1 h2 h3 h4 => kk v J h1 l G A p e s m args below meth c H1 locs1 la hC h2 h3 h4 hl)
  show sk.map (xv G.2.2) = _
  rw [← hsk, List.map_append, List.map_reverse]
/-- a method of an object whose class is known -/
theorem x_callV (ci : Nat) {k N : Nat} {T : u_T} {fs : List (Option Nat)} (hl1 : Cond.methodLink μ.1 idx y ∈ x_good) (hl2 : Cond.instanceMethod y ∈ x_good) (hl3 : Cond.selects y.cls y y ∈ x_good) (hy : xcal y μ' n) (hc : vwCl[ci]? = some (y.cls, T, N)) (hM : Cx Λ y μ' d' (.ref k :: as) I Q') (hd : decode μ.2.1 pc = .ok (.invokevirtual idx, 3)) (hdd : d' + 1 ≤ d) (hk : decide (k < Λ.1) = true) (hΛ : Λ.2 k = .inr (.inl (ci, fs))) (hn : as.length = n) (hsk : as.reverse ++ .ref k :: st = sk) (hst : (st.map fun v => v.category).sum ≤ 8) (kk : ∀ (v : Option Value) (J : xMem), Q' v J → Wx Λ μ d Q (pc + 3) ls (v.toList ++ st) J) : Wx Λ μ d Q pc ls sk I := by
  intro l G A p e s m args below meth c H locs la hC hP hD hS hl
  have hw := hC.2.2.2.2.2.1
  have hK := hC.2.2.2.2.2.2.2.1
  refine x_back hD hS hC.2.2.2.2.2.2.2.2.2 (va_runV (As := as.map (xv G.2.2)) (C := y.cls) ⟨hC.1, hC.2.1, hC.2.2.2.1, hC.2.2.2.2.1, hw⟩ (hM l G H.size) ⟨callB_of n hw (x_goodIn hy.1) rfl rfl rfl (hw _ hy.2.1) (hw _ hl1) hy.2.2.1 (x_rm hdd hy.2.2.2), hw _ hl2, hw _ hl3⟩ ⟨x_blind, va_recv hK hP (ci := ci) (q0 := k) hc (x_obj hk hΛ), x_pre hP hD hK hC.2.2.2.2.2.2.2.2.1⟩ rfl (by rw [List.length_map]; exact hn) hl.1 ?_ (lv_room (by rw [x_sum]; exact hst)) hd ⟨Nat.le_refl 0, Nat.le_refl 0⟩) (fun v J H1 locs1 h1 h2 h3 h4 => kk v J h1 l G A p e s m args below meth c H1 locs1 la hC h2 h3 h4 hl)
  show sk.map (xv G.2.2) = _
  rw [← hsk, List.map_append, List.map_reverse]; rfl
/-- a method that overrides an abstract one -/
theorem x_callA (ci : Nat) {k N : Nat} {T : u_T} {fs : List (Option Nat)} (hl1 : Cond.methodLink μ.1 idx y_CostNext ∈ x_good) (hl2 : Cond.sameMethod y_CostNext.cls "GraveRows$Cost" y_CostNext.name y_CostNext.desc ∈ x_good) (hl3 : Cond.selects y.cls y_CostNext y ∈ x_good) (hl4 : Cond.instanceMethod y ∈ x_good) (hy : xcal y μ' 3) (hc : vwCl[ci]? = some (y.cls, T, N)) (hM : Cx Λ y μ' d' (.ref k :: as) I Q') (hd : decode μ.2.1 pc = .ok (.invokevirtual idx, 3)) (hdd : d' + 1 ≤ d) (hk : decide (k < Λ.1) = true) (hΛ : Λ.2 k = .inr (.inl (ci, fs))) (hn : as.length = 3) (hsk : as.reverse ++ .ref k :: st = sk) (hst : (st.map fun v => v.category).sum ≤ 8) (kk : ∀ (v : Option Value) (J : xMem), Q' v J → Wx Λ μ d Q (pc + 3) ls (v.toList ++ st) J) : Wx Λ μ d Q pc ls sk I := by
  intro l G A p e s m args below meth c H locs la hC hP hD hS hl
  have hw := hC.2.2.2.2.2.1
  have hK := hC.2.2.2.2.2.2.2.1
  have hN := hC.2.2.2.2.2.2.2.2.1
  have hG : GoodIn x_good (va_wsU μ.1 idx y.cls "GraveRows$Cost" y_CostNext y (Cond.code y μ'.2.1 μ'.2.2.1 μ'.2.2.2 :: x_good)) := by
    intro w h
    have ok : ∀ {w : Cond}, w ∈ x_good → w ∈ x_good ∧ ((w.onTables && w.keeps) = true ∨ ∃ ty, w = .arrayClass ty) := fun h => ⟨h, good_of_word (List.mem_filter.mp h).2⟩
    unfold va_wsU at h
    rcases List.mem_append.mp h with h | h
    · simp only [List.mem_cons, List.not_mem_nil, or_false] at h
      rcases h with rfl | rfl | rfl | rfl | rfl
      · exact ok hl1
      · exact ok hl2
      · exact ok hl3
      · exact ok hl4
      · exact ok hy.2.1
    · exact x_goodIn hy.1 w h
  refine x_back hD hS hC.2.2.2.2.2.2.2.2.2 (va_runU (As := as.map (xv G.2.2)) (C := y.cls) (x := y_CostNext) (owner := "GraveRows$Cost") ⟨hC.1, hC.2.1, hC.2.2.2.1, hC.2.2.2.2.1, hw⟩ (hM l G H.size) (va_cwA 3 hw hG rfl rfl rfl hN.2.2 (by decide +kernel) (x_rm hdd hy.2.2.2)) ⟨x_blind, va_recv hK hP (ci := ci) (q0 := k) hc (x_obj hk hΛ), x_pre hP hD hK hN⟩ rfl (by rw [List.length_map]; exact hn) hl.1 ?_ (lv_room (by rw [x_sum]; exact hst)) hd ⟨Nat.le_refl 0, Nat.le_refl 0⟩) (fun v J H1 locs1 h1 h2 h3 h4 => kk v J h1 l G A p e s m args below meth c H1 locs1 la hC h2 h3 h4 hl)
  show sk.map (xv G.2.2) = _
  rw [← hsk, List.map_append, List.map_reverse]; rfl
end XC
section XI
variable {Λ : xLay} {μ μ' : xM} {d d' : Nat} {Q : Option Value → xMem → Prop} {pc idx n : Nat} {ls st as sk : List Value} {I : xMem} {y : MethodName}
/-- answers: a number, nothing, a cell -/
def xRi (P : Int32 → xMem → Prop) : Option Value → xMem → Prop := fun v J => ∃ r : Int32, v = some (.int r) ∧ P r J
def xRv (P : xMem → Prop) : Option Value → xMem → Prop := fun v J => v = none ∧ P J
def xRr (P : Nat → xMem → Prop) : Option Value → xMem → Prop := fun v J => ∃ r : Nat, v = some (.ref r) ∧ P r J
theorem x_ireti {P : Int32 → xMem → Prop} {v : Int32} (hd : decode μ.2.1 pc = .ok (.ireturn, 1)) (hr : μ.2.2.2 = some .int) (hq : P v I) : Wx Λ μ d (xRi P) pc ls [.int v] I := x_iret hd hr ⟨v, rfl, hq⟩
theorem x_zreti {P : Int32 → xMem → Prop} {v : Int32} (hd : decode μ.2.1 pc = .ok (.ireturn, 1)) (hr : μ.2.2.2 = some .boolean) (hv : v = 0 ∨ v = 1) (hq : P v I) : Wx Λ μ d (xRi P) pc ls [.int v] I := x_zret hd hr hv ⟨v, rfl, hq⟩
theorem x_vretv {P : xMem → Prop} (hd : decode μ.2.1 pc = .ok (.return_, 1)) (hr : μ.2.2.2 = none) (hq : P I) : Wx Λ μ d (xRv P) pc ls [] I := x_vret hd hr ⟨rfl, hq⟩
theorem x_aretr {P : Nat → xMem → Prop} {k : Nat} {rt : String} (hd : decode μ.2.1 pc = .ok (.areturn, 1)) (hr : μ.2.2.2 = some (.object rt)) (hq : P k I) : Wx Λ μ d (xRr P) pc ls [.ref k] I := x_aret hd hr ⟨k, rfl, hq⟩
theorem x_callSi {P : Int32 → xMem → Prop} (hl1 : Cond.methodLink μ.1 idx y ∈ x_good) (hl2 : Cond.static y ∈ x_good) (hy : xcal y μ' n) (hM : Cx Λ y μ' d' as I (xRi P)) (hd : decode μ.2.1 pc = .ok (.invokestatic idx, 3)) (hdd : d' + 1 ≤ d) (hn : as.length = n) (hsk : as.reverse ++ st = sk) (hst : (st.map fun v => v.category).sum ≤ 8) (kk : ∀ (r : Int32) (J : xMem), P r J → Wx Λ μ d Q (pc + 3) ls (.int r :: st) J) : Wx Λ μ d Q pc ls sk I :=
  x_callS hl1 hl2 hy hM hd hdd hn hsk hst (fun v J h => by obtain ⟨r, rfl, h⟩ := h; exact kk r J h)
theorem x_callSNi {P : Int32 → xMem → Prop} (hl1 : ∀ s, xNw s → va_Nw (.methodLinkNest μ.1 idx y "GraveRows") s) (hl2 : Cond.static y ∈ x_good) (hy : xcal y μ' n) (hM : Cx Λ y μ' d' as I (xRi P)) (hd : decode μ.2.1 pc = .ok (.invokestatic idx, 3)) (hdd : d' + 1 ≤ d) (hn : as.length = n) (hsk : as.reverse ++ st = sk) (hst : (st.map fun v => v.category).sum ≤ 8) (kk : ∀ (r : Int32) (J : xMem), P r J → Wx Λ μ d Q (pc + 3) ls (.int r :: st) J) : Wx Λ μ d Q pc ls sk I :=
  x_callSN hl1 hl2 hy hM hd hdd hn hsk hst (fun v J h => by obtain ⟨r, rfl, h⟩ := h; exact kk r J h)
theorem x_callVi (ci : Nat) {P : Int32 → xMem → Prop} {k N : Nat} {T : u_T} {fs : List (Option Nat)} (hl1 : Cond.methodLink μ.1 idx y ∈ x_good) (hl2 : Cond.instanceMethod y ∈ x_good) (hl3 : Cond.selects y.cls y y ∈ x_good) (hy : xcal y μ' n) (hc : vwCl[ci]? = some (y.cls, T, N)) (hM : Cx Λ y μ' d' (.ref k :: as) I (xRi P)) (hd : decode μ.2.1 pc = .ok (.invokevirtual idx, 3)) (hdd : d' + 1 ≤ d) (hk : decide (k < Λ.1) = true) (hΛ : Λ.2 k = .inr (.inl (ci, fs))) (hn : as.length = n) (hsk : as.reverse ++ .ref k :: st = sk) (hst : (st.map fun v => v.category).sum ≤ 8) (kk : ∀ (r : Int32) (J : xMem), P r J → Wx Λ μ d Q (pc + 3) ls (.int r :: st) J) : Wx Λ μ d Q pc ls sk I :=
  x_callV ci hl1 hl2 hl3 hy hc hM hd hdd hk hΛ hn hsk hst (fun v J h => by obtain ⟨r, rfl, h⟩ := h; exact kk r J h)
theorem x_callVv (ci : Nat) {P : xMem → Prop} {k N : Nat} {T : u_T} {fs : List (Option Nat)} (hl1 : Cond.methodLink μ.1 idx y ∈ x_good) (hl2 : Cond.instanceMethod y ∈ x_good) (hl3 : Cond.selects y.cls y y ∈ x_good) (hy : xcal y μ' n) (hc : vwCl[ci]? = some (y.cls, T, N)) (hM : Cx Λ y μ' d' (.ref k :: as) I (xRv P)) (hd : decode μ.2.1 pc = .ok (.invokevirtual idx, 3)) (hdd : d' + 1 ≤ d) (hk : decide (k < Λ.1) = true) (hΛ : Λ.2 k = .inr (.inl (ci, fs))) (hn : as.length = n) (hsk : as.reverse ++ .ref k :: st = sk) (hst : (st.map fun v => v.category).sum ≤ 8) (kk : ∀ (J : xMem), P J → Wx Λ μ d Q (pc + 3) ls st J) : Wx Λ μ d Q pc ls sk I :=
  x_callV ci hl1 hl2 hl3 hy hc hM hd hdd hk hΛ hn hsk hst (fun v J h => by obtain ⟨rfl, h⟩ := h; exact kk J h)
theorem x_callVr (ci : Nat) {P : Nat → xMem → Prop} {k N : Nat} {T : u_T} {fs : List (Option Nat)} (hl1 : Cond.methodLink μ.1 idx y ∈ x_good) (hl2 : Cond.instanceMethod y ∈ x_good) (hl3 : Cond.selects y.cls y y ∈ x_good) (hy : xcal y μ' n) (hc : vwCl[ci]? = some (y.cls, T, N)) (hM : Cx Λ y μ' d' (.ref k :: as) I (xRr P)) (hd : decode μ.2.1 pc = .ok (.invokevirtual idx, 3)) (hdd : d' + 1 ≤ d) (hk : decide (k < Λ.1) = true) (hΛ : Λ.2 k = .inr (.inl (ci, fs))) (hn : as.length = n) (hsk : as.reverse ++ .ref k :: st = sk) (hst : (st.map fun v => v.category).sum ≤ 8) (kk : ∀ (r : Nat) (J : xMem), P r J → Wx Λ μ d Q (pc + 3) ls (.ref r :: st) J) : Wx Λ μ d Q pc ls sk I :=
  x_callV ci hl1 hl2 hl3 hy hc hM hd hdd hk hΛ hn hsk hst (fun v J h => by obtain ⟨r, rfl, h⟩ := h; exact kk r J h)
theorem x_callAi (ci : Nat) {P : Int32 → xMem → Prop} {k N : Nat} {T : u_T} {fs : List (Option Nat)} (hl1 : Cond.methodLink μ.1 idx y_CostNext ∈ x_good) (hl2 : Cond.sameMethod y_CostNext.cls "GraveRows$Cost" y_CostNext.name y_CostNext.desc ∈ x_good) (hl3 : Cond.selects y.cls y_CostNext y ∈ x_good) (hl4 : Cond.instanceMethod y ∈ x_good) (hy : xcal y μ' 3) (hc : vwCl[ci]? = some (y.cls, T, N)) (hM : Cx Λ y μ' d' (.ref k :: as) I (xRi P)) (hd : decode μ.2.1 pc = .ok (.invokevirtual idx, 3)) (hdd : d' + 1 ≤ d) (hk : decide (k < Λ.1) = true) (hΛ : Λ.2 k = .inr (.inl (ci, fs))) (hn : as.length = 3) (hsk : as.reverse ++ .ref k :: st = sk) (hst : (st.map fun v => v.category).sum ≤ 8) (kk : ∀ (r : Int32) (J : xMem), P r J → Wx Λ μ d Q (pc + 3) ls (.int r :: st) J) : Wx Λ μ d Q pc ls sk I :=
  x_callA ci hl1 hl2 hl3 hl4 hy hc hM hd hdd hk hΛ hn hsk hst (fun v J h => by obtain ⟨r, rfl, h⟩ := h; exact kk r J h)
end XI
