/-! the class: the nearest best order; the i-th -/
def goF (n : Nat) (on : Nat → Nat → Nat) (c : Nat → Nat → Nat → Nat) : Nat → Nat × Nat
  | 0 => (0, 0)
  | p + 1 => ((goF n on c p).1 ||| 1 <<< lstM (onK n on c (goF n on c p).1 (goF n on c p).2), lstM (onK n on c (goF n on c p).1 (goF n on c p).2))
theorem lstM_lt {n S : Nat} (h1 : 1 ≤ n) (hS : ∀ g, S.testBit g = true → g < n) : lstM S < n := by
  unfold lstM
  cases e : (List.range 8).find? (fun g => S.testBit g) with
  | none => exact h1
  | some g => exact hS g (by simpa using List.find?_some e)
theorem goF_ok {n : Nat} {on : Nat → Nat → Nat} {c : Nat → Nat → Nat → Nat} (h1 : 1 ≤ n) : ∀ p, (goF n on c p).1 < 2 ^ n ∧ (goF n on c p).2 < n ∧ isSt (goF n on c p).1 (goF n on c p).2 = true
  | 0 => ⟨Nat.one_le_two_pow, h1, rfl⟩
  | p + 1 => by
    have ih := goF_ok (n := n) (on := on) (c := c) h1 p
    have hl : lstM (onK n on c (goF n on c p).1 (goF n on c p).2) < n := lstM_lt h1 (fun g hg => by
      rw [onK_bit] at hg
      simp only [Bool.and_eq_true, decide_eq_true_eq] at hg
      exact hg.2.1)
    exact ⟨or_lt ih.1 hl, hl, isSt_or _ _⟩
theorem pas_lt {n : Nat} {L : Nat → Nat} (hL : ∀ p, p < n → L p < n) : ∀ p, p ≤ n → pas L p < 2 ^ n
  | 0, _ => Nat.one_le_two_pow
  | p + 1, h => Nat.or_lt_two_pow (pas_lt hL p (by omega)) (shl_lt (hL p (by omega)))
section XQ
variable {I : xMem} {n d : Nat} {h a L : Nat → Nat}
theorem c_seekGoal {pos : Nat → Nat} (hd : 4 ≤ d) (h1 : 1 ≤ n) (hn : n ≤ 8) (hL : ∀ p, p < n → L p < n ∧ pos (L p) = p) (hpos : ∀ g, g < n → pos g < n ∧ L (pos g) = g) (hD : DigAt I 1 n h a L) (hB : BOk I n h a) : Cx LX yX0_seekGoal mX0_seekGoal d [.ref 14, .ref 1] I (xRv (fun J => J 14 4 = nI (Rr n (onB n h a) (cS (fun g => pas L (pos g))) 0 0) ∧ (∀ p, p < n → J 21 p = nI (goF n (onB n h a) (cS (fun g => pas L (pos g))) (p + 1)).2) ∧ (∀ j, j ≠ 4 → J 14 j = I 14 j) ∧ ∀ c, c ≠ 14 → c ≠ 18 → c ≠ 21 → c ≠ 25 → J c = I c)) := by
  have hp := p2_le hn
  have h1p := Nat.one_le_two_pow (n := n)
  have hfr : ∀ g, g < n → pas L (pos g) < 1024 := fun g hg => by have := pas_lt (n := n) (L := L) (fun p hp => (hL p hp).1) (pos g) (by have := (hpos g hg).1; omega); omega
  have lp : ∀ (k p : Nat) (J : xMem), p + k = n → J 14 4 = nI (Rr n (onB n h a) (cS (fun g => pas L (pos g))) 0 0) → (∀ q, q < p → J 21 q = nI (goF n (onB n h a) (cS (fun g => pas L (pos g))) (q + 1)).2) → (∀ S l, S < 2 ^ n → l < n → isSt S l = true → J 18 (S * 8 + l) = nI (Rr n (onB n h a) (cS (fun g => pas L (pos g))) S l)) → (∀ g, g < n → J 25 g = nI (pas L (pos g))) → (∀ j, j ≠ 4 → J 14 j = I 14 j) → (∀ c, c ≠ 14 → c ≠ 18 → c ≠ 21 → c ≠ 25 → J c = I c) → Wx LX mX0_seekGoal d (xRv (fun J => J 14 4 = nI (Rr n (onB n h a) (cS (fun g => pas L (pos g))) 0 0) ∧ (∀ p, p < n → J 21 p = nI (goF n (onB n h a) (cS (fun g => pas L (pos g))) (p + 1)).2) ∧ (∀ j, j ≠ 4 → J 14 j = I 14 j) ∧ ∀ c, c ≠ 14 → c ≠ 18 → c ≠ 21 → c ≠ 25 → J c = I c)) 33 [.ref 14, .ref 1, .int (nI (goF n (onB n h a) (cS (fun g => pas L (pos g))) p).1), .int (nI (goF n (onB n h a) (cS (fun g => pas L (pos g))) p).2), .int (nI p)] [] J := by
    intro k
    induction k with
    | zero =>
      intro p J hp e4 e21 e18 e25 e14 jf
      generalize goF n (onB n h a) (cS (fun g => pas L (pos g))) p = q
      refine x_iload dX0_seekGoal_33 rfl ?_
      refine x_aload_n dX0_seekGoal_35 rfl ?_
      refine x_getI 0 0 (v := nI n) rfl (by decide) fl_X0_57 dX0_seekGoal_36 rfl rfl rfl (by rw [e14 0 (by decide)]; exact hB.1) ?_
      refine x_icmpn_ge (a := p) (b := n) (by omega) (by omega) (tgt := 76) dX0_seekGoal_39 rfl (fun c => ?_) (fun c => ?_)
      ·
        refine x_vretv dX0_seekGoal_76 rfl ⟨e4, fun x hx => e21 x (by omega), e14, jf⟩
      ·
        omega
    | succ k ih =>
      intro p J hp' e4 e21 e18 e25 e14 jf
      have ok := goF_ok (n := n) (on := onB n h a) (c := cS (fun g => pas L (pos g))) h1 p
      have ok2 := goF_ok (n := n) (on := onB n h a) (c := cS (fun g => pas L (pos g))) h1 (p + 1)
      have key := ih (p + 1)
      have e1 : goF n (onB n h a) (cS (fun g => pas L (pos g))) (p + 1) = ((goF n (onB n h a) (cS (fun g => pas L (pos g))) p).1 ||| 1 <<< lstM (onK n (onB n h a) (cS (fun g => pas L (pos g))) (goF n (onB n h a) (cS (fun g => pas L (pos g))) p).1 (goF n (onB n h a) (cS (fun g => pas L (pos g))) p).2), lstM (onK n (onB n h a) (cS (fun g => pas L (pos g))) (goF n (onB n h a) (cS (fun g => pas L (pos g))) p).1 (goF n (onB n h a) (cS (fun g => pas L (pos g))) p).2)) := rfl
      have hg21 : ∀ q, q < p + 1 → q ≠ p → q < p := fun q h1 h2 => by omega
      have eg : (goF n (onB n h a) (cS (fun g => pas L (pos g))) (p + 1)).2 = lstM (onK n (onB n h a) (cS (fun g => pas L (pos g))) (goF n (onB n h a) (cS (fun g => pas L (pos g))) p).1 (goF n (onB n h a) (cS (fun g => pas L (pos g))) p).2) := rfl
      have hgn := ok2.2.1
      rw [eg] at hgn
      have e21' := e21
      generalize hgo : goF n (onB n h a) (cS (fun g => pas L (pos g))) p = q at ok eg e1 hgn ⊢
      obtain ⟨S, l⟩ := q
      dsimp only at ok eg e1 hgn ⊢
      have hkl := onK_lt (n := n) (on := onB n h a) (c := cS (fun g => pas L (pos g))) (S := S) (l := l) hn
      refine x_iload dX0_seekGoal_33 rfl ?_
      refine x_aload_n dX0_seekGoal_35 rfl ?_
      refine x_getI 0 0 (v := nI n) rfl (by decide) fl_X0_57 dX0_seekGoal_36 rfl rfl rfl (by rw [e14 0 (by decide)]; exact hB.1) ?_
      refine x_icmpn_ge (a := p) (b := n) (by omega) (by omega) (tgt := 76) dX0_seekGoal_39 rfl (fun c => ?_) (fun c => ?_)
      ·
        omega
      ·
        refine x_aload_n dX0_seekGoal_42 rfl ?_
        refine x_aload_n dX0_seekGoal_43 rfl ?_
        refine x_getR 0 13 rfl (by decide) fl_X0_43 dX0_seekGoal_44 rfl rfl rfl ?_
        refine x_iload_n dX0_seekGoal_47 rfl ?_
        refine x_iload_n dX0_seekGoal_48 rfl ?_
        refine x_callVi 0 ml_X0_127 in_X0_cheapestNext se_X0_cheapestNext ct_X0_cheapestNext rfl (c_cheapestNext24 (d := 3) (on := onB n h a) (hr := fun g => pas L (pos g)) (by decide) hn ok.1 ok.2.1 ok.2.2 hfr e25 (by rw [e14 0 (by decide)]; exact hB.1) (by rw [jf 15 (by decide) (by decide) (by decide) (by decide)]; exact hB.2.2.2.1 S l ok.1 ok.2.1) (fun g hg => onB_ob hg) (onB_lt hn) e18) dX0_seekGoal_49 hd rfl rfl rfl rfl (Nat.le_of_ble_eq_true rfl) (fun r0 J0 h0 => ?_)
        obtain ⟨rfl, hJ0⟩ := h0
        obtain rfl := hJ0.symm
        refine x_callSi (as := [.int (nI (onK n (onB n h a) (cS (fun g => pas L (pos g))) S l))]) ml_X0_165 st_X0_leastMember ct_X0_leastMember (c_leastMember (d := 1) (by decide) (by omega)) dX0_seekGoal_52 (by omega) rfl rfl (Nat.le_of_ble_eq_true rfl) (fun r0 J0 h0 => ?_)
        obtain ⟨rfl, hJ0⟩ := h0
        obtain rfl := hJ0.symm
        refine x_istore_n (ls' := [.ref 14, .ref 1, .int (nI S), .int (nI (lstM (onK n (onB n h a) (cS (fun g => pas L (pos g))) S l))), .int (nI p)]) dX0_seekGoal_55 rfl rfl ?_
        refine x_aload_n dX0_seekGoal_56 rfl ?_
        refine x_getR 0 11 rfl (by decide) fl_X0_30 dX0_seekGoal_57 rfl rfl rfl ?_
        refine x_iload dX0_seekGoal_60 rfl ?_
        refine x_iload_n dX0_seekGoal_62 rfl ?_
        refine x_iast (p := p) dX0_seekGoal_63 rfl rfl rfl rfl (by omega) ?_
        generalize hK1 : xup J 21 p (nI (lstM (onK n (onB n h a) (cS (fun g => pas L (pos g))) S l))) = K1
        refine x_iload_n dX0_seekGoal_64 rfl ?_
        refine x_iconst dX0_seekGoal_65 ic_1 ?_
        refine x_iload_n dX0_seekGoal_66 rfl ?_
        refine x_ishl (v := nI (1 <<< (lstM (onK n (onB n h a) (cS (fun g => pas L (pos g))) S l)))) dX0_seekGoal_67 (nI_shl _ (by omega)) ?_
        refine x_ior (v := nI (S ||| (1 <<< (lstM (onK n (onB n h a) (cS (fun g => pas L (pos g))) S l))))) dX0_seekGoal_68 (nI_or _ _) ?_
        refine x_istore_n (ls' := [.ref 14, .ref 1, .int (nI (S ||| (1 <<< (lstM (onK n (onB n h a) (cS (fun g => pas L (pos g))) S l))))), .int (nI (lstM (onK n (onB n h a) (cS (fun g => pas L (pos g))) S l))), .int (nI p)]) dX0_seekGoal_69 rfl rfl ?_
        refine x_iinc (v := nI (p + 1)) (ls' := [.ref 14, .ref 1, .int (nI (S ||| (1 <<< (lstM (onK n (onB n h a) (cS (fun g => pas L (pos g))) S l))))), .int (nI (lstM (onK n (onB n h a) (cS (fun g => pas L (pos g))) S l))), .int (nI (p + 1))]) dX0_seekGoal_70 rfl (inc_1 _) rfl rfl ?_
        refine x_goto (tgt := 33) dX0_seekGoal_73 rfl ?_
        have := key K1 (by omega) (by rw [← hK1, xup_ne (by decide)]; exact e4) (fun q hq => by
          rw [← hK1, xup_eq]
          by_cases e : q = p
          · subst e; rw [if_pos rfl, eg]
          · rw [if_neg e]; exact e21 q (hg21 q hq e)) (by rw [← hK1, xup_ne (by decide)]; exact e18) (by rw [← hK1, xup_ne (by decide)]; exact e25) (by rw [← hK1, xup_ne (by decide)]; exact e14) (fun c h1 h2 h3 h4 => by rw [← hK1, xup_ne h3]; exact jf c h1 h2 h3 h4)
        rw [e1] at this
        exact this
  refine Cx.of [.ref 14, .ref 1, .null, .null, .null] (by decide) rfl rfl (Nat.le_of_ble_eq_true rfl) rfl ?_
  refine x_aload_n dX0_seekGoal_0 rfl ?_
  refine x_getR 0 13 rfl (by decide) fl_X0_43 dX0_seekGoal_1 rfl rfl rfl ?_
  refine x_aload_n dX0_seekGoal_4 rfl ?_
  refine x_callVv 3 ml_X0_160 in_X4_lookAt se_X4_lookAt ct_X4_lookAt rfl (c_lookAt4 (d := 3) (pos := pos) hD hn hL hpos) dX0_seekGoal_5 hd rfl rfl rfl rfl (Nat.le_of_ble_eq_true rfl) (fun J1 h0 => ?_)
  obtain ⟨A1, A2⟩ := h0
  refine x_aload_n dX0_seekGoal_8 rfl ?_
  refine x_aload_n dX0_seekGoal_9 rfl ?_
  refine x_getR 0 13 rfl (by decide) fl_X0_43 dX0_seekGoal_10 rfl rfl rfl ?_
  refine x_callVv 0 ml_X0_72 in_X0_costRest se_X0_costRest ct_X0_costRest rfl (c_costRest24 (d := 3) (on := onB n h a) (hr := fun g => pas L (pos g)) (by decide) h1 hn hfr A1 (by rw [A2 14 (by decide)]; exact hB.1) (by rw [A2 14 (by decide)]; exact hB.2.1) (fun S l hS hl => by rw [A2 15 (by decide)]; exact hB.2.2.2.1 S l hS hl) (fun S l g _ _ hb => onB_ob hb) (fun S l _ _ => onB_lt hn)) dX0_seekGoal_13 hd rfl rfl rfl rfl (Nat.le_of_ble_eq_true rfl) (fun J2 h0 => ?_)
  obtain ⟨B1, B2⟩ := h0
  refine x_aload_n dX0_seekGoal_16 rfl ?_
  refine x_aload_n dX0_seekGoal_17 rfl ?_
  refine x_getR 0 8 rfl (by decide) fl_X0_21 dX0_seekGoal_18 rfl rfl rfl ?_
  refine x_iconst dX0_seekGoal_21 ic_0 ?_
  refine x_iald (p := 0) (v := nI (Rr n (onB n h a) (cS (fun g => pas L (pos g))) 0 0)) dX0_seekGoal_22 rfl rfl rfl rfl (by omega) (B1 0 0 h1p (by omega) rfl) ?_
  refine x_put 0 4 rfl (by decide) fl_X0_162 rfl rfl rfl rfl dX0_seekGoal_23 rfl rfl rfl ?_
  generalize hK1 : xup J2 14 4 (nI (Rr n (onB n h a) (cS (fun g => pas L (pos g))) 0 0)) = K1
  refine x_iconst dX0_seekGoal_26 ic_0 ?_
  refine x_istore_n (ls' := [.ref 14, .ref 1, .int (nI 0), .null, .null]) dX0_seekGoal_27 rfl rfl ?_
  refine x_iconst dX0_seekGoal_28 ic_0 ?_
  refine x_istore_n (ls' := [.ref 14, .ref 1, .int (nI 0), .int (nI 0), .null]) dX0_seekGoal_29 rfl rfl ?_
  refine x_iconst dX0_seekGoal_30 ic_0 ?_
  refine x_istore (ls' := [.ref 14, .ref 1, .int (nI 0), .int (nI 0), .int (nI 0)]) dX0_seekGoal_31 rfl rfl ?_
  refine lp n 0 K1 (by omega) ?_ (fun q hq => by omega) ?_ ?_ (fun j hj => ?_) (fun c h1 h2 h3 h4 => ?_)
  · rw [← hK1, xup_eq, if_pos rfl]
  · rw [← hK1, xup_ne (by decide)]; exact B1
  · rw [← hK1, xup_ne (by decide), B2 25 (by decide)]; exact A1
  · rw [← hK1, xup_eq, if_neg hj, B2 14 (by decide), A2 14 (by decide)]
  · rw [← hK1, xup_ne h1, B2 c h2, A2 c h4]
/-- which of the next graves the i-th order goes by, and what is left of i -/
def gaI (w : Nat → Nat) (nx : Nat) (st : Option Nat × Nat) (g : Nat) : Option Nat × Nat := match st.1 with
  | some _ => st
  | none => if st.2 < (if nx.testBit g then w g else 0) then (some g, st.2) else (none, st.2 - (if nx.testBit g then w g else 0))
def gaF (n : Nat) (on wn : Nat → Nat → Nat) (i : Nat) : Nat → Nat × Nat × Nat
  | 0 => (0, 0, i)
  | p + 1 => match gaF n on wn i p with
    | (S, l, lf) => match rf (gaI (fun g => wn (S ||| 1 <<< g) g) (on S l)) (none, lf) n with
      | (o, lf') => (S ||| 1 <<< o.getD l, o.getD l, lf')
theorem gaI_lt {w : Nat → Nat} {nx lf : Nat} : ∀ (k g : Nat) (lf' : Nat), rf (gaI w nx) (none, lf) k = (some g, lf') → g < k
  | 0, g, lf', h => by simp [rf_0] at h
  | k + 1, g, lf', h => by
    rw [rf_s] at h
    cases e : rf (gaI w nx) (none, lf) k with
    | mk o x =>
      rw [e] at h
      cases o with
      | some q =>
        simp only [gaI] at h
        have := gaI_lt k q x e
        simp at h; omega
      | none =>
        simp only [gaI] at h
        generalize (if nx.testBit k = true then w k else 0) = ws at h
        split at h
        · simp at h; omega
        · simp at h
theorem gaI_le {w : Nat → Nat} {nx lf : Nat} : ∀ (k : Nat), (rf (gaI w nx) (none, lf) k).2 ≤ lf
  | 0 => Nat.le_refl _
  | k + 1 => by
    rw [rf_s]
    have ih := gaI_le (w := w) (nx := nx) (lf := lf) k
    cases e : rf (gaI w nx) (none, lf) k with
    | mk o x =>
      rw [e] at ih
      dsimp only at ih
      cases o with
      | some q => exact ih
      | none =>
        simp only [gaI]
        generalize (if nx.testBit k = true then w k else 0) = ws
        split
        · exact ih
        · dsimp only; omega
theorem gaF_ok {n : Nat} {on wn : Nat → Nat → Nat} {i : Nat} (h1 : 1 ≤ n) : ∀ p, (gaF n on wn i p).1 < 2 ^ n ∧ (gaF n on wn i p).2.1 < n ∧ (gaF n on wn i p).2.2 ≤ i
  | 0 => ⟨Nat.one_le_two_pow, h1, Nat.le_refl _⟩
  | p + 1 => by
    have ih := gaF_ok (n := n) (on := on) (wn := wn) (i := i) h1 p
    simp only [gaF]
    generalize gaF n on wn i p = q at ih ⊢
    obtain ⟨S, l, lf⟩ := q
    dsimp only at ih ⊢
    have hle := gaI_le (w := fun g => wn (S ||| 1 <<< g) g) (nx := on S l) (lf := lf) n
    cases e : rf (gaI (fun g => wn (S ||| 1 <<< g) g) (on S l)) (none, lf) n with
    | mk o x =>
      rw [e] at hle
      dsimp only at hle ⊢
      have hg : o.getD l < n := by
        cases o with
        | none => exact ih.2.1
        | some g => exact gaI_lt n g x e
      exact ⟨or_lt ih.1 hg, hg, by omega⟩
theorem c_graveAt {i p : Nat} (hd : 1 ≤ d) (h1 : 1 ≤ n) (hn : n ≤ 8) (hi : i < 2 ^ 31) (hp : p < n) (hB : BOk I n h a) : Cx LX yX0_graveAt mX0_graveAt d [.ref 14, .int (nI i), .int (nI p)] I (xRi (fun r J => r = nI (gaF n (onB n h a) (wN n h a) i (p + 1)).2.1 ∧ J = I)) := by
  have hp8 := p2_le hn
  have inn : ∀ (k g S l lf q : Nat) (v10 : Value) (o : Option Nat) (l' x : Nat), g + k = n → S < 2 ^ n → l < n → x < 2 ^ 31 → rf (gaI (fun g => wN n h a (S ||| 1 <<< g) g) (onB n h a S l)) (none, lf) g = (o, x) → l' = o.getD l → l' < n →
      (∀ (v7 v8 v9 v10 : Value) (o : Option Nat) (x : Nat), rf (gaI (fun g => wN n h a (S ||| 1 <<< g) g) (onB n h a S l)) (none, lf) n = (o, x) → Wx LX mX0_graveAt d (xRi (fun r J => r = nI (gaF n (onB n h a) (wN n h a) i (p + 1)).2.1 ∧ J = I)) 107 [.ref 14, .int (nI i), .int (nI p), .int (nI S), .int (nI (o.getD l)), .int (nI x), .int (nI q), v7, v8, v9, v10] [] I) →
      Wx LX mX0_graveAt d (xRi (fun r J => r = nI (gaF n (onB n h a) (wN n h a) i (p + 1)).2.1 ∧ J = I)) 36 [.ref 14, .int (nI i), .int (nI p), .int (nI S), .int (nI l'), .int (nI x), .int (nI q), .int (nI (onB n h a S l)), .int (nI o.isSome.toNat), .int (nI g), v10] [] I := by
    intro k
    induction k with
    | zero =>
      intro g S l lf q v10 o l' x hg hS hl hx hrf hl' hln kk
      have e : g = n := by omega
      subst e
      refine x_iload dX0_graveAt_36 rfl ?_
      refine x_aload_n dX0_graveAt_38 rfl ?_
      refine x_getI 0 0 (v := nI g) rfl (by decide) fl_X0_57 dX0_graveAt_39 rfl rfl rfl hB.1 ?_
      refine x_icmpn_ge (a := g) (b := g) (by omega) (by omega) (tgt := 107) dX0_graveAt_42 rfl (fun c => ?_) (fun c => ?_)
      ·
        rw [hl']
        exact kk _ _ _ _ o x hrf
      ·
        omega
    | succ k ih =>
      intro g S l lf q v10 o l' x hg hS hl hx hrf hl' hln kk
      have hlB := onB_lt (n := n) (h := h) (a := a) (S := S) (l := l) hn
      cases o with
      | some g0 =>
        have est : ∀ t, rf (gaI (fun g => wN n h a (S ||| 1 <<< g) g) (onB n h a S l)) (none, lf) (g + t) = (some g0, x) := by
          intro t
          induction t with
          | zero => exact hrf
          | succ t iht => rw [← Nat.add_assoc, rf_s, iht]; rfl
        refine x_iload dX0_graveAt_36 rfl ?_
        refine x_aload_n dX0_graveAt_38 rfl ?_
        refine x_getI 0 0 (v := nI n) rfl (by decide) fl_X0_57 dX0_graveAt_39 rfl rfl rfl hB.1 ?_
        refine x_icmpn_ge (a := g) (b := n) (by omega) (by omega) (tgt := 107) dX0_graveAt_42 rfl (fun c => ?_) (fun c => ?_)
        ·
          omega
        ·
          refine x_iload dX0_graveAt_45 rfl ?_
          refine x_ifn_ne (a := 1) (by decide) (tgt := 107) dX0_graveAt_47 rfl (fun c1 => ?_) (fun c1 => ?_)
          ·
            rw [hl']
            exact kk _ _ _ _ (some g0) x (by have := est (n - g); rwa [show g + (n - g) = n by omega] at this)
          ·
            exact absurd c1 (by decide)
      | none =>
        have hS2 := or_lt (S := S) (g := g) hS (by omega)
        have hw : wN n h a (S ||| 1 <<< g) g ≤ 16777216 := Wr_le hn
        have stp : ∀ (ws : Nat), ws = (if (onB n h a S l).testBit g then wN n h a (S ||| 1 <<< g) g else 0) → ws < 2 ^ 31 → Wx LX mX0_graveAt d (xRi (fun r J => r = nI (gaF n (onB n h a) (wN n h a) i (p + 1)).2.1 ∧ J = I)) 75 [.ref 14, .int (nI i), .int (nI p), .int (nI S), .int (nI l'), .int (nI x), .int (nI q), .int (nI (onB n h a S l)), .int (nI 0), .int (nI g), v10] [.int (nI ws)] I := by
          intro ws ews hwl
          have nx := rf_s (gaI (fun g => wN n h a (S ||| 1 <<< g) g) (onB n h a S l)) (none, lf) g
          rw [hrf] at nx
          simp only [gaI] at nx
          rw [← ews] at nx
          refine x_istore (ls' := [.ref 14, .int (nI i), .int (nI p), .int (nI S), .int (nI l'), .int (nI x), .int (nI q), .int (nI (onB n h a S l)), .int (nI 0), .int (nI g), .int (nI ws)]) dX0_graveAt_75 rfl rfl ?_
          refine x_iload dX0_graveAt_77 rfl ?_
          refine x_iload dX0_graveAt_79 rfl ?_
          refine x_icmpn_ge (a := x) (b := ws) (by omega) (by omega) (tgt := 94) dX0_graveAt_81 rfl (fun c2 => ?_) (fun c2 => ?_)
          ·
            refine x_iload dX0_graveAt_94 rfl ?_
            refine x_iload dX0_graveAt_96 rfl ?_
            refine x_isub (v := nI (x - ws)) dX0_graveAt_98 (pk_sub (by omega)) ?_
            refine x_istore (ls' := [.ref 14, .int (nI i), .int (nI p), .int (nI S), .int (nI l'), .int (nI (x - ws)), .int (nI q), .int (nI (onB n h a S l)), .int (nI 0), .int (nI g), .int (nI ws)]) dX0_graveAt_99 rfl rfl ?_
            refine x_iinc (v := nI (g + 1)) (ls' := [.ref 14, .int (nI i), .int (nI p), .int (nI S), .int (nI l'), .int (nI (x - ws)), .int (nI q), .int (nI (onB n h a S l)), .int (nI 0), .int (nI (g + 1)), .int (nI ws)]) dX0_graveAt_101 rfl (inc_1 _) rfl rfl ?_
            refine x_goto (tgt := 36) dX0_graveAt_104 rfl ?_
            rw [if_neg (by omega)] at nx
            exact ih (g + 1) S l lf q _ none l' (x - ws) (by omega) hS hl (by omega) nx hl' hln kk
          ·
            refine x_iconst dX0_graveAt_84 ic_1 ?_
            refine x_istore (ls' := [.ref 14, .int (nI i), .int (nI p), .int (nI S), .int (nI l'), .int (nI x), .int (nI q), .int (nI (onB n h a S l)), .int (nI 1), .int (nI g), .int (nI ws)]) dX0_graveAt_85 rfl rfl ?_
            refine x_iload dX0_graveAt_87 rfl ?_
            refine x_istore (ls' := [.ref 14, .int (nI i), .int (nI p), .int (nI S), .int (nI g), .int (nI x), .int (nI q), .int (nI (onB n h a S l)), .int (nI 1), .int (nI g), .int (nI ws)]) dX0_graveAt_89 rfl rfl ?_
            refine x_goto (tgt := 101) dX0_graveAt_91 rfl ?_
            refine x_iinc (v := nI (g + 1)) (ls' := [.ref 14, .int (nI i), .int (nI p), .int (nI S), .int (nI g), .int (nI x), .int (nI q), .int (nI (onB n h a S l)), .int (nI 1), .int (nI (g + 1)), .int (nI ws)]) dX0_graveAt_101 rfl (inc_1 _) rfl rfl ?_
            refine x_goto (tgt := 36) dX0_graveAt_104 rfl ?_
            rw [if_pos c2] at nx
            exact ih (g + 1) S l lf q _ (some g) g x (by omega) hS hl hx nx rfl (by omega) kk
        refine x_iload dX0_graveAt_36 rfl ?_
        refine x_aload_n dX0_graveAt_38 rfl ?_
        refine x_getI 0 0 (v := nI n) rfl (by decide) fl_X0_57 dX0_graveAt_39 rfl rfl rfl hB.1 ?_
        refine x_icmpn_ge (a := g) (b := n) (by omega) (by omega) (tgt := 107) dX0_graveAt_42 rfl (fun c => ?_) (fun c => ?_)
        ·
          omega
        ·
          refine x_iload dX0_graveAt_45 rfl ?_
          refine x_ifn_ne (a := 0) (by decide) (tgt := 107) dX0_graveAt_47 rfl (fun c1 => ?_) (fun c1 => ?_)
          ·
            exact absurd rfl c1
          ·
            refine x_iload dX0_graveAt_50 rfl ?_
            refine x_iload dX0_graveAt_52 rfl ?_
            refine x_callSNi (as := [.int (nI (onB n h a S l)), .int (nI g)]) (fun _ h => h.2.1) st_X5_isMember ct_X5_isMember (c_isMember (d := 0) (by omega) (by omega)) dX0_graveAt_54 hd rfl rfl (Nat.le_of_ble_eq_true rfl) (fun r0 J0 h0 => ?_)
            obtain ⟨rfl, hJ0⟩ := h0
            obtain rfl := hJ0.symm
            refine x_ifb_eq (b := (onB n h a S l).testBit g) (tgt := 74) dX0_graveAt_57 rfl (fun c2 => ?_) (fun c2 => ?_)
            ·
              refine x_iconst dX0_graveAt_74 ic_0 ?_
              exact stp 0 (by rw [c2]; rfl) (by decide)
            ·
              refine x_aload_n dX0_graveAt_60 rfl ?_
              refine x_getR 0 6 rfl (by decide) fl_X0_15 dX0_graveAt_61 rfl rfl rfl ?_
              refine x_iload_n dX0_graveAt_64 rfl ?_
              refine x_iload dX0_graveAt_65 rfl ?_
              refine x_callSi (as := [.int (nI S), .int (nI g)]) ml_X0_113 st_X0_stateAfter ct_X0_stateAfter (c_stateAfter (d := 0) (by omega)) dX0_graveAt_67 hd rfl rfl (Nat.le_of_ble_eq_true rfl) (fun r0 J0 h0 => ?_)
              obtain ⟨rfl, hJ0⟩ := h0
              obtain rfl := hJ0.symm
              refine x_iald (p := ((S ||| 1 <<< g) * 8 + g)) (v := nI (wN n h a (S ||| 1 <<< g) g)) dX0_graveAt_70 rfl rfl rfl rfl (by omega) (hB.2.2.2.2.1 _ g hS2 (by omega) (isSt_or S g)) ?_
              refine x_goto (tgt := 75) dX0_graveAt_71 rfl ?_
              exact stp _ (by rw [c2]; rfl) (by omega)
  have out : ∀ (k q : Nat) (v7 v8 v9 v10 : Value), q + k = p + 1 → Wx LX mX0_graveAt d (xRi (fun r J => r = nI (gaF n (onB n h a) (wN n h a) i (p + 1)).2.1 ∧ J = I)) 11 [.ref 14, .int (nI i), .int (nI p), .int (nI (gaF n (onB n h a) (wN n h a) i q).1), .int (nI (gaF n (onB n h a) (wN n h a) i q).2.1), .int (nI (gaF n (onB n h a) (wN n h a) i q).2.2), .int (nI q), v7, v8, v9, v10] [] I := by
    intro k
    induction k with
    | zero =>
      intro q v7 v8 v9 v10 hq
      have e : q = p + 1 := by omega
      subst e
      generalize gaF n (onB n h a) (wN n h a) i (p + 1) = z
      refine x_iload dX0_graveAt_11 rfl ?_
      refine x_iload_n dX0_graveAt_13 rfl ?_
      refine x_icmpn_gt (a := p + 1) (b := p) (by omega) (by omega) (tgt := 120) dX0_graveAt_14 rfl (fun c => ?_) (fun c => ?_)
      ·
        refine x_iload dX0_graveAt_120 rfl ?_
        refine x_ireti dX0_graveAt_122 rfl ⟨rfl, rfl⟩
      ·
        omega
    | succ k ih =>
      intro q v7 v8 v9 v10 hq
      have ok := gaF_ok (n := n) (on := onB n h a) (wn := wN n h a) (i := i) h1 q
      have key := fun v7 v8 v9 v10 => ih (q + 1) v7 v8 v9 v10 (by omega)
      simp only [gaF] at key
      generalize hz : gaF n (onB n h a) (wN n h a) i q = z at ok key ⊢
      obtain ⟨S, l, lf⟩ := z
      dsimp only at ok key ⊢
      refine x_iload dX0_graveAt_11 rfl ?_
      refine x_iload_n dX0_graveAt_13 rfl ?_
      refine x_icmpn_gt (a := q) (b := p) (by omega) (by omega) (tgt := 120) dX0_graveAt_14 rfl (fun c => ?_) (fun c => ?_)
      ·
        omega
      ·
        refine x_aload_n dX0_graveAt_17 rfl ?_
        refine x_getR 0 5 rfl (by decide) fl_X0_9 dX0_graveAt_18 rfl rfl rfl ?_
        refine x_iload_n dX0_graveAt_21 rfl ?_
        refine x_iload dX0_graveAt_22 rfl ?_
        refine x_callSi (as := [.int (nI S), .int (nI l)]) ml_X0_101 st_X0_stateOf ct_X0_stateOf (c_stateOf (d := 0)) dX0_graveAt_24 hd rfl rfl (Nat.le_of_ble_eq_true rfl) (fun r0 J0 h0 => ?_)
        obtain ⟨rfl, hJ0⟩ := h0
        obtain rfl := hJ0.symm
        refine x_iald (p := (S * 8 + l)) (v := nI (onB n h a S l)) dX0_graveAt_27 rfl rfl rfl rfl (by omega) (hB.2.2.2.1 S l ok.1 ok.2.1) ?_
        refine x_istore (ls' := [.ref 14, .int (nI i), .int (nI p), .int (nI S), .int (nI l), .int (nI lf), .int (nI q), .int (nI (onB n h a S l)), v8, v9, v10]) dX0_graveAt_28 rfl rfl ?_
        refine x_iconst dX0_graveAt_30 ic_0 ?_
        refine x_istore (ls' := [.ref 14, .int (nI i), .int (nI p), .int (nI S), .int (nI l), .int (nI lf), .int (nI q), .int (nI (onB n h a S l)), .int (nI 0), v9, v10]) dX0_graveAt_31 rfl rfl ?_
        refine x_iconst dX0_graveAt_33 ic_0 ?_
        refine x_istore (ls' := [.ref 14, .int (nI i), .int (nI p), .int (nI S), .int (nI l), .int (nI lf), .int (nI q), .int (nI (onB n h a S l)), .int (nI 0), .int (nI 0), v10]) dX0_graveAt_34 rfl rfl ?_
        refine inn n 0 S l lf q _ none l lf (by omega) ok.1 ok.2.1 (by omega) rfl rfl ok.2.1 (fun v7 v8 v9 v10 o x hrf => ?_)
        rw [hrf] at key
        dsimp only at key
        have hol : o.getD l < n := by
          cases o with
          | none => exact ok.2.1
          | some g => exact gaI_lt n g x hrf
        refine x_iload_n dX0_graveAt_107 rfl ?_
        refine x_iconst dX0_graveAt_108 ic_1 ?_
        refine x_iload dX0_graveAt_109 rfl ?_
        refine x_ishl (v := nI (1 <<< (o.getD l))) dX0_graveAt_111 (nI_shl _ (by omega)) ?_
        refine x_ior (v := nI (S ||| (1 <<< (o.getD l)))) dX0_graveAt_112 (nI_or _ _) ?_
        refine x_istore_n (ls' := [.ref 14, .int (nI i), .int (nI p), .int (nI (S ||| (1 <<< (o.getD l)))), .int (nI (o.getD l)), .int (nI x), .int (nI q), v7, v8, v9, v10]) dX0_graveAt_113 rfl rfl ?_
        refine x_iinc (v := nI (q + 1)) (ls' := [.ref 14, .int (nI i), .int (nI p), .int (nI (S ||| (1 <<< (o.getD l)))), .int (nI (o.getD l)), .int (nI x), .int (nI (q + 1)), v7, v8, v9, v10]) dX0_graveAt_114 rfl (inc_1 _) rfl rfl ?_
        refine x_goto (tgt := 11) dX0_graveAt_117 rfl ?_
        exact key _ _ _ _
  refine Cx.of [.ref 14, .int (nI i), .int (nI p), .null, .null, .null, .null, .null, .null, .null, .null] (by decide) rfl rfl (Nat.le_of_ble_eq_true rfl) rfl ?_
  refine x_iconst dX0_graveAt_0 ic_0 ?_
  refine x_istore_n (ls' := [.ref 14, .int (nI i), .int (nI p), .int (nI 0), .null, .null, .null, .null, .null, .null, .null]) dX0_graveAt_1 rfl rfl ?_
  refine x_iconst dX0_graveAt_2 ic_0 ?_
  refine x_istore (ls' := [.ref 14, .int (nI i), .int (nI p), .int (nI 0), .int (nI 0), .null, .null, .null, .null, .null, .null]) dX0_graveAt_3 rfl rfl ?_
  refine x_iload_n dX0_graveAt_5 rfl ?_
  refine x_istore (ls' := [.ref 14, .int (nI i), .int (nI p), .int (nI 0), .int (nI 0), .int (nI i), .null, .null, .null, .null, .null]) dX0_graveAt_6 rfl rfl ?_
  refine x_iconst dX0_graveAt_8 ic_0 ?_
  refine x_istore (ls' := [.ref 14, .int (nI i), .int (nI p), .int (nI 0), .int (nI 0), .int (nI i), .int (nI 0), .null, .null, .null, .null]) dX0_graveAt_9 rfl rfl ?_
  exact out (p + 1) 0 _ _ _ _ (by omega)
end XQ
