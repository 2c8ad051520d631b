/-! the reference: its calls, to the end -/
theorem beL_or (f : Nat → Nat) : ∀ (c k fw : Nat) (fd : Int32), beL f k c fw fd = fd ∨ ∃ j, k ≤ j ∧ j < k + c ∧ beL f k c fw fd = nI j ∧ f j < fw
  | 0, k, fw, fd => Or.inl rfl
  | c + 1, k, fw, fd => by
    simp only [beL]
    by_cases e : f k < fw
    · rw [if_pos e]
      rcases beL_or f c (k + 1) (f k) (nI k) with h | ⟨j, h1, h2, h3, h4⟩
      · exact Or.inr ⟨k, Nat.le_refl _, by omega, h, e⟩
      · exact Or.inr ⟨j, by omega, by omega, h3, by omega⟩
    · rw [if_neg e]
      rcases beL_or f c (k + 1) fw fd with h | ⟨j, h1, h2, h3, h4⟩
      · exact Or.inl h
      · exact Or.inr ⟨j, by omega, by omega, h3, h4⟩
theorem neg6 : (-6 : Int32) < 0 := by decide +kernel
theorem bsw_or (T : ST) : bsw T = (-6) ∨ ∃ j, j < T.1 - 1 ∧ bsw T = nI j ∧ brk T.2.1 (seg (swp T.2.2.2 j) 0 T.1) < brk T.2.1 (rw0 T) := by
  rcases beL_or (fun k => brk T.2.1 (seg (swp T.2.2.2 k) 0 T.1)) (T.1 - 1) 0 (brk T.2.1 (rw0 T)) (-6) with h | ⟨j, h1, h2, h3, h4⟩
  · exact Or.inl h
  · exact Or.inr ⟨j, by omega, h3, h4⟩
theorem TOk_swp {n : Nat} {h a L : Nat → Nat} (hT : TOk (n, h, a, L)) {j : Nat} (hj : j + 1 < n) : TOk (n, h, a, swp L j) := by
  obtain ⟨h1, h2, h3, h4, h5, h6, h7⟩ := hT
  dsimp only at *
  have key : ∀ p, p < n → ∃ q, q < n ∧ swp L j p = L q ∧ (q = if p = j + 1 then j else if p = j then j + 1 else p) := by
    intro p hp
    unfold swp
    by_cases e1 : p = j + 1
    · rw [if_pos e1, if_pos e1]; exact ⟨j, by omega, rfl, rfl⟩
    · rw [if_neg e1, if_neg e1]
      by_cases e2 : p = j
      · rw [if_pos e2, if_pos e2]; exact ⟨j + 1, hj, rfl, rfl⟩
      · rw [if_neg e2, if_neg e2]; exact ⟨p, hp, rfl, rfl⟩
  refine ⟨h1, h2, h3, h4, fun p hp => ?_, fun p q hp hq e => ?_, fun p hp => ?_⟩
  · obtain ⟨q, hq, e, _⟩ := key p hp
    show _ < n
    rw [show (n, h, a, swp L j).2.2.2 p = _ from e]; exact h5 q hq
  · obtain ⟨p', hp', e1, f1⟩ := key p hp
    obtain ⟨q', hq', e2, f2⟩ := key q hq
    have e : L p' = L q' := by rw [← e1, ← e2]; exact e
    have := h6 p' q' hp' hq' e
    rw [f1, f2] at this
    clear f1 f2 e1 e2
    repeat' split at this
    all_goals omega
  · show swp L j p < 8
    unfold swp
    split
    · exact h7 _ (by omega)
    · split
      · exact h7 _ (by omega)
      · exact h7 _ hp
theorem WOk_better {W : WS} (hW : WOk W) : WOk (spBetter W).2 := by
  obtain ⟨⟨n, h, a, L⟩, im⟩ := W
  refine ⟨?_, hW.2⟩
  show TOk (n, h, a, swI L (bsw (n, h, a, L)))
  unfold swI
  have h1 : 1 ≤ n := hW.1.1
  have hn : n ≤ 8 := hW.1.2.1
  rcases bsw_or (n, h, a, L) with e | ⟨j, hj, e, _⟩
  · rw [e, if_pos neg6]; exact hW.1
  · have hj : j < n - 1 := hj
    rw [e, if_neg (nI_pos (by omega)), tN_nI (by omega)]; exact TOk_swp hW.1 (by omega)
section MP
variable {I : xMem} {W : WS} {n d : Nat} {h a L : Nat → Nat}
theorem exI_back {J K : xMem} {c q : Nat} (e : K c = exI J c q c) : exI K c q c = J c := by
  funext p
  rw [exI_at, e, exI_at, exI_at, exI_at]
  by_cases h1 : p = q + 1
  · subst h1; simp
  · by_cases h2 : p = q
    · subst h2; simp
    · simp [h1, h2]
theorem c_makeBest (hd : 4 ≤ d) (h1 : 1 ≤ n) (hn : n ≤ 8) (hh : ∀ g, h g < 1024) (hL8 : ∀ p, p < 8 → L p < 8) (hM : MSt I n h a L) : Cx LM yX6_makeBest mX6_makeBest d [.ref 0] I (xRi (fun r J => r = bsw (n, h, a, L) ∧ MSt J n h a (swI L r) ∧ ∀ c, c ≠ 1 → c ≠ 4 → J c = I c)) := by
  have fin : ∀ (v1 v3 v4 : Value) (J : xMem), (∀ c, c ≠ 4 → J c = I c) → Wx LM mX6_makeBest d (xRi (fun r J => r = bsw (n, h, a, L) ∧ MSt J n h a (swI L r) ∧ ∀ c, c ≠ 1 → c ≠ 4 → J c = I c)) 69 [.ref 0, v1, .int (bsw (n, h, a, L)), v3, v4] [] J := by
    intro v1 v3 v4 J hJ
    have hMJ := hM.kept (hJ 1 (by decide))
    refine x_iload_n dX6_makeBest_69 rfl ?_
    rcases bsw_or (n, h, a, L) with e | ⟨j, hj, e, _⟩
    ·
      refine x_if_lt (tgt := 78) dX6_makeBest_70 rfl (fun c => ?_) (fun c => ?_)
      ·
        refine x_iload_n dX6_makeBest_78 rfl ?_
        refine x_ireti dX6_makeBest_79 rfl ⟨rfl, by unfold swI; rw [if_pos c]; exact hMJ, fun c _ e4 => hJ c e4⟩
      ·
        exact absurd (by rw [e]; exact neg6) c
    ·
      have hj : j < n - 1 := hj
      refine x_if_lt (tgt := 78) dX6_makeBest_70 rfl (fun c => ?_) (fun c => ?_)
      ·
        exact absurd (by rw [e] at c; exact c) (nI_pos (by omega))
      ·
        have e2 : swI L (bsw (n, h, a, L)) = swp L j := by unfold swI; rw [if_neg c, e, tN_nI (by omega)]
        rw [e]
        refine x_aload_n dX6_makeBest_73 rfl ?_
        refine x_iload_n dX6_makeBest_74 rfl ?_
        refine x_callVv 5 ml_X6_145 in_X6_swapRow se_X6_swapRow ct_X6_swapRow rfl (c_swapRow (d := 0) (by omega)) dX6_makeBest_75 (by omega) rfl rfl rfl rfl (Nat.le_of_ble_eq_true rfl) (fun J0 h0 => ?_)
        obtain rfl := h0.symm
        refine x_iload_n dX6_makeBest_78 rfl ?_
        refine x_ireti dX6_makeBest_79 rfl ⟨rfl, by rw [← e, e2]; exact hMJ.ex (by omega), fun c e1 e4 => by rw [exI_ne _ e1]; exact hJ c e4⟩
  have lp : ∀ (k j fw : Nat) (fd : Int32) (v4 : Value) (J : xMem), j + k = n - 1 → fw ≤ 80 → beL (fun k => brk h (seg (swp L k) 0 n)) j k fw fd = bsw (n, h, a, L) → (∀ c, c ≠ 4 → J c = I c) → Wx LM mX6_makeBest d (xRi (fun r J => r = bsw (n, h, a, L) ∧ MSt J n h a (swI L r) ∧ ∀ c, c ≠ 1 → c ≠ 4 → J c = I c)) 10 [.ref 0, .int (nI fw), .int fd, .int (nI j), v4] [] J := by
    intro k
    induction k with
    | zero =>
      intro j fw fd v4 J hj hfw hb hJ
      simp only [beL] at hb
      have hMJ := hM.kept (hJ 1 (by decide))
      subst hb
      refine x_iload_n dX6_makeBest_10 rfl ?_
      refine x_aload_n dX6_makeBest_11 rfl ?_
      refine x_getR 5 0 rfl (by decide) fl_X6_7 dX6_makeBest_12 rfl rfl rfl ?_
      refine x_iconst dX6_makeBest_15 ic_0 ?_
      refine x_iald (p := 0) (v := nI n) dX6_makeBest_16 rfl rfl rfl rfl (by omega) hMJ.1 ?_
      refine x_iconst dX6_makeBest_17 ic_1 ?_
      refine x_isub (v := nI (n - 1)) dX6_makeBest_18 (pk_sub (by omega)) ?_
      refine x_icmpn_ge (a := j) (b := n - 1) (by omega) (by omega) (tgt := 69) dX6_makeBest_19 rfl (fun c => ?_) (fun c => ?_)
      ·
        exact fin _ _ _ J hJ
      ·
        omega
    | succ k ih =>
      intro j fw fd v4 J hj hfw hb hJ
      simp only [beL] at hb
      have hMJ := hM.kept (hJ 1 (by decide))
      have hbl := brk_le h (seg (swp L j) 0 n)
      rw [seg_len] at hbl
      refine x_iload_n dX6_makeBest_10 rfl ?_
      refine x_aload_n dX6_makeBest_11 rfl ?_
      refine x_getR 5 0 rfl (by decide) fl_X6_7 dX6_makeBest_12 rfl rfl rfl ?_
      refine x_iconst dX6_makeBest_15 ic_0 ?_
      refine x_iald (p := 0) (v := nI n) dX6_makeBest_16 rfl rfl rfl rfl (by omega) hMJ.1 ?_
      refine x_iconst dX6_makeBest_17 ic_1 ?_
      refine x_isub (v := nI (n - 1)) dX6_makeBest_18 (pk_sub (by omega)) ?_
      refine x_icmpn_ge (a := j) (b := n - 1) (by omega) (by omega) (tgt := 69) dX6_makeBest_19 rfl (fun c => ?_) (fun c => ?_)
      ·
        omega
      ·
        refine x_aload_n dX6_makeBest_22 rfl ?_
        refine x_iload_n dX6_makeBest_23 rfl ?_
        refine x_callVv 5 ml_X6_145 in_X6_swapRow se_X6_swapRow ct_X6_swapRow rfl (c_swapRow (d := 0) (by omega)) dX6_makeBest_24 (by omega) rfl rfl rfl rfl (Nat.le_of_ble_eq_true rfl) (fun J0 h0 => ?_)
        obtain rfl := h0.symm
        refine x_aload_n dX6_makeBest_27 rfl ?_
        refine x_callVi 5 ml_X6_148 in_X6_rowBreaks se_X6_rowBreaks ct_X6_rowBreaks rfl (c_rowBreaks (d := 3) (L := swp L j) (by decide) hh (fun p hp => by unfold swp; split; exact hL8 _ (by omega); split; exact hL8 _ (by omega); exact hL8 _ (by omega)) (hMJ.ex (by omega)) hn) dX6_makeBest_28 hd rfl rfl rfl rfl (Nat.le_of_ble_eq_true rfl) (fun r0 J0 h0 => ?_)
        obtain ⟨rfl, t2⟩ := h0
        refine x_istore (ls' := [.ref 0, .int (nI fw), .int fd, .int (nI j), .int (nI (brk h (seg (swp L j) 0 n)))]) dX6_makeBest_31 rfl rfl ?_
        refine x_aload_n dX6_makeBest_33 rfl ?_
        refine x_iload_n dX6_makeBest_34 rfl ?_
        refine x_callVv 5 ml_X6_145 in_X6_swapRow se_X6_swapRow ct_X6_swapRow rfl (c_swapRow (d := 0) (by omega)) dX6_makeBest_35 (by omega) rfl rfl rfl rfl (Nat.le_of_ble_eq_true rfl) (fun J0 h0 => ?_)
        have eJ := h0
        refine x_iload dX6_makeBest_38 rfl ?_
        refine x_iload_n dX6_makeBest_40 rfl ?_
        have hJ' : ∀ c, c ≠ 4 → J0 c = I c := by
          intro c e4
          rw [eJ]
          by_cases e1 : c = 1
          · subst e1; rw [exI_back (t2 1 (by decide))]; exact hJ 1 e4
          · rw [exI_ne _ e1, t2 c e4, exI_ne _ e1]; exact hJ c e4
        refine x_icmpn_ge (a := brk h (seg (swp L j) 0 n)) (b := fw) (by omega) (by omega) (tgt := 48) dX6_makeBest_41 rfl (fun c2 => ?_) (fun c2 => ?_)
        ·
          refine x_iload_n dX6_makeBest_48 rfl ?_
          refine x_istore_n (ls' := [.ref 0, .int (nI fw), .int fd, .int (nI j), .int (nI (brk h (seg (swp L j) 0 n)))]) dX6_makeBest_49 rfl rfl ?_
          refine x_iload dX6_makeBest_50 rfl ?_
          refine x_iload_n dX6_makeBest_52 rfl ?_
          refine x_icmpn_ge (a := brk h (seg (swp L j) 0 n)) (b := fw) (by omega) (by omega) (tgt := 61) dX6_makeBest_53 rfl (fun c3 => ?_) (fun c3 => ?_)
          ·
            refine x_iload_n dX6_makeBest_61 rfl ?_
            refine x_istore_n (ls' := [.ref 0, .int (nI fw), .int fd, .int (nI j), .int (nI (brk h (seg (swp L j) 0 n)))]) dX6_makeBest_62 rfl rfl ?_
            refine x_iinc (v := nI (j + 1)) (ls' := [.ref 0, .int (nI fw), .int fd, .int (nI (j + 1)), .int (nI (brk h (seg (swp L j) 0 n)))]) dX6_makeBest_63 rfl (inc_1 _) rfl rfl ?_
            refine x_goto (tgt := 10) dX6_makeBest_66 rfl ?_
            rw [if_neg (by omega)] at hb
            exact ih (j + 1) _ _ _ _ (by omega) (by omega) hb hJ'
          ·
            omega
        ·
          refine x_iload_n dX6_makeBest_44 rfl ?_
          refine x_goto (tgt := 49) dX6_makeBest_45 rfl ?_
          refine x_istore_n (ls' := [.ref 0, .int (nI fw), .int (nI j), .int (nI j), .int (nI (brk h (seg (swp L j) 0 n)))]) dX6_makeBest_49 rfl rfl ?_
          refine x_iload dX6_makeBest_50 rfl ?_
          refine x_iload_n dX6_makeBest_52 rfl ?_
          refine x_icmpn_ge (a := brk h (seg (swp L j) 0 n)) (b := fw) (by omega) (by omega) (tgt := 61) dX6_makeBest_53 rfl (fun c3 => ?_) (fun c3 => ?_)
          ·
            omega
          ·
            refine x_iload dX6_makeBest_56 rfl ?_
            refine x_goto (tgt := 62) dX6_makeBest_58 rfl ?_
            refine x_istore_n (ls' := [.ref 0, .int (nI (brk h (seg (swp L j) 0 n))), .int (nI j), .int (nI j), .int (nI (brk h (seg (swp L j) 0 n)))]) dX6_makeBest_62 rfl rfl ?_
            refine x_iinc (v := nI (j + 1)) (ls' := [.ref 0, .int (nI (brk h (seg (swp L j) 0 n))), .int (nI j), .int (nI (j + 1)), .int (nI (brk h (seg (swp L j) 0 n)))]) dX6_makeBest_63 rfl (inc_1 _) rfl rfl ?_
            refine x_goto (tgt := 10) dX6_makeBest_66 rfl ?_
            rw [if_pos c2] at hb
            exact ih (j + 1) _ _ _ _ (by omega) (by omega) hb hJ'
  have hb0 := brk_le h (seg L 0 n)
  rw [seg_len] at hb0
  refine Cx.of [.ref 0, .null, .null, .null, .null] (by decide) rfl rfl (Nat.le_of_ble_eq_true rfl) rfl ?_
  refine x_aload_n dX6_makeBest_0 rfl ?_
  refine x_callVi 5 ml_X6_148 in_X6_rowBreaks se_X6_rowBreaks ct_X6_rowBreaks rfl (c_rowBreaks (d := 3) (by decide) hh (fun p hp => hL8 p (by omega)) hM hn) dX6_makeBest_1 hd rfl rfl rfl rfl (Nat.le_of_ble_eq_true rfl) (fun r0 J0 h0 => ?_)
  obtain ⟨rfl, t2⟩ := h0
  refine x_istore_n (ls' := [.ref 0, .int (nI (brk h (seg L 0 n))), .null, .null, .null]) dX6_makeBest_4 rfl rfl ?_
  refine x_bipush dX6_makeBest_5 bp_m6 ?_
  refine x_istore_n (ls' := [.ref 0, .int (nI (brk h (seg L 0 n))), .int (-6), .null, .null]) dX6_makeBest_7 rfl rfl ?_
  refine x_iconst dX6_makeBest_8 ic_0 ?_
  refine x_istore_n (ls' := [.ref 0, .int (nI (brk h (seg L 0 n))), .int (-6), .int (nI 0), .null]) dX6_makeBest_9 rfl rfl ?_
  exact lp (n - 1) 0 _ _ _ J0 (by omega) (by omega) rfl t2
theorem g_makeBest (hd : 4 ≤ d) (hW : WOk W) (hR : MR I W) : Cx LM yX6_makeBest mX6_makeBest d [.ref 0] I (xRi (fun r J => r = (spBetter W).1 ∧ MR J (spBetter W).2)) := by
  obtain ⟨⟨n, h, a, L⟩, im⟩ := W
  have h1 : 1 ≤ n := hW.1.1
  have hn : n ≤ 8 := hW.1.2.1
  have hh : ∀ g, h g < 1024 := hW.1.2.2.1
  have ha : ∀ g, a g < 256 := hW.1.2.2.2.1
  have hL : ∀ p, p < n → L p < n := hW.1.2.2.2.2.1
  have hinj : ∀ p q, p < n → q < n → L p = L q → p = q := hW.1.2.2.2.2.2.1
  have hL8 : ∀ p, p < 8 → L p < 8 := hW.1.2.2.2.2.2.2
  have hM : MSt I n h a L := hR.1
  have hF : I 0 4 = nI 0 ∨ (I 0 4 = nI 1 ∧ I 0 5 = oI (fewB n h a)) := hR.2.1
  refine Cx.mono (c_makeBest hd h1 hn hh hL8 hM) ?_
  rintro v J ⟨r, rfl, rfl, q1, q2⟩
  refine ⟨_, rfl, rfl, ?_⟩
  refine MR.st (W := ((n, h, a, L), im)) (T := (n, h, a, swI L (bsw (n, h, a, L)))) hR q1 ?_ (q2 2 (by decide) (by decide)) (q2 3 (by decide) (by decide))
  rw [q2 0 (by decide) (by decide)]; exact hF
theorem m_better (hW : WOk W) (hR : MR I W) : Cx LM yX6_better mX6_better 8 [.ref 0] I (xRi (fun r J => r = (spBetter W).1 ∧ MR J (spBetter W).2)) := by
  refine Cx.of [.ref 0] (by decide) rfl rfl (Nat.le_of_ble_eq_true rfl) rfl ?_
  refine x_aload_n dX6_better_0 rfl ?_
  refine x_callVi 5 ml_X6_151 in_X6_makeBest se_X6_makeBest ct_X6_makeBest rfl (g_makeBest (d := 4) (by decide) hW hR) dX6_better_1 (by decide) rfl rfl rfl rfl (Nat.le_of_ble_eq_true rfl) (fun r0 J0 h0 => ?_)
  obtain ⟨rfl, q1⟩ := h0
  refine x_ireti dX6_better_4 rfl ⟨rfl, q1⟩
def bkW (W : WS) : Nat := brk W.1.2.1 (rw0 W.1)
theorem bkW_le {W : WS} (hW : WOk W) : bkW W ≤ 80 := by
  have := brk_le W.1.2.1 (rw0 W.1)
  rw [rw0, seg_len] at this
  have := hW.1.2.1
  unfold bkW rw0; omega
theorem bkW_lt {W : WS} (hW : WOk W) (h : ¬ (spBetter W).1 < 0) : bkW (spBetter W).2 < bkW W := by
  obtain ⟨⟨n, h0, a, L⟩, im⟩ := W
  have hn : n ≤ 8 := hW.1.2.1
  rcases bsw_or (n, h0, a, L) with e | ⟨j, hj, e, hl⟩
  · exact absurd (by show bsw (n, h0, a, L) < 0; rw [e]; exact neg6) h
  · have hj : j < n - 1 := hj
    show brk h0 (seg (swI L (bsw (n, h0, a, L))) 0 n) < _
    unfold swI
    rw [e, if_neg (nI_pos (by omega)), tN_nI (by omega)]; exact hl
theorem clF_s (f : Nat) (W : WS) : clF (f + 1) W = if (spBetter W).1 < 0 then (0, W) else ((clF f (spBetter W).2).1 + 1, (clF f (spBetter W).2).2) := rfl
theorem clF_le : ∀ (f : Nat) (W : WS), (clF f W).1 ≤ f
  | 0, W => Nat.le_refl _
  | f + 1, W => by
    simp only [clF]
    split
    · exact Nat.zero_le _
    · have := clF_le f (spBetter W).2; dsimp only; omega
theorem m_climb (hW : WOk W) (hR : MR I W) : Cx LM yX6_climb mX6_climb 8 [.ref 0] I (xRi (fun r J => r = (spClimb W).1 ∧ MR J (spClimb W).2)) := by
  have lp : ∀ (f c : Nat) (V : WS) (J : xMem), bkW V < f → WOk V → MR J V → c + (clF f V).1 = (clF 1000 W).1 → (clF f V).2 = (clF 1000 W).2 → Wx LM mX6_climb 8 (xRi (fun r J => r = (spClimb W).1 ∧ MR J (spClimb W).2)) 2 [.ref 0, .int (nI c)] [] J := by
    intro f
    induction f with
    | zero => intro c V J hb; omega
    | succ f ih =>
      intro c V J hb hV hRV e1 e2
      rw [clF_s] at e1 e2
      refine x_aload_n dX6_climb_2 rfl ?_
      refine x_callVi 5 ml_X6_151 in_X6_makeBest se_X6_makeBest ct_X6_makeBest rfl (g_makeBest (d := 4) (by decide) hV hRV) dX6_climb_3 (by decide) rfl rfl rfl rfl (Nat.le_of_ble_eq_true rfl) (fun r0 J0 h0 => ?_)
      obtain ⟨rfl, q1⟩ := h0
      refine x_if_lt (tgt := 15) dX6_climb_6 rfl (fun c1 => ?_) (fun c1 => ?_)
      ·
        rw [if_pos c1] at e1 e2
        dsimp only at e1 e2
        refine x_iload_n dX6_climb_15 rfl ?_
        refine x_ireti dX6_climb_16 rfl ⟨by rw [spClimb, ← e1]; rfl, by
          have : V = (spClimb W).2 := e2
          rw [← this]
          have hneg : (spBetter V).1 < 0 := c1
          have : (spBetter V).2 = V := by
            obtain ⟨⟨n, h, a, L⟩, im⟩ := V
            show ((n, h, a, swI L (bsw (n, h, a, L))), im) = _
            unfold swI
            rw [if_pos (show bsw (n, h, a, L) < 0 from hneg)]
          rw [this] at q1; exact q1⟩
      ·
        rw [if_neg c1] at e1 e2
        dsimp only at e1 e2
        refine x_iinc (v := nI (c + 1)) (ls' := [.ref 0, .int (nI (c + 1))]) dX6_climb_9 rfl (inc_1 _) rfl rfl ?_
        refine x_goto (tgt := 2) dX6_climb_12 rfl ?_
        exact ih (c + 1) _ J0 (by have := bkW_lt hV c1; omega) (WOk_better hV) q1 (by omega) e2
  have hb := bkW_le hW
  refine Cx.of [.ref 0, .null] (by decide) rfl rfl (Nat.le_of_ble_eq_true rfl) rfl ?_
  refine x_iconst dX6_climb_0 ic_0 ?_
  refine x_istore_n (ls' := [.ref 0, .int (nI 0)]) dX6_climb_1 rfl rfl ?_
  exact lp 1000 0 W I (by omega) hW hR (by omega) rfl
theorem m_nearest {p : Int32} (hW : WOk W) (hR : MR I W) : Cx LM yX6_nearest mX6_nearest 8 [.ref 0, .int p] I (xRi (fun r J => r = spNearest p W ∧ MR J W)) := by
  obtain ⟨⟨n, h, a, L⟩, im⟩ := W
  have h1 : 1 ≤ n := hW.1.1
  have hn : n ≤ 8 := hW.1.2.1
  have hh : ∀ g, h g < 1024 := hW.1.2.2.1
  have ha : ∀ g, a g < 256 := hW.1.2.2.2.1
  have hL : ∀ p, p < n → L p < n := hW.1.2.2.2.2.1
  have hinj : ∀ p q, p < n → q < n → L p = L q → p = q := hW.1.2.2.2.2.2.1
  have hL8 : ∀ p, p < 8 → L p < 8 := hW.1.2.2.2.2.2.2
  have hM : MSt I n h a L := hR.1
  have hF : I 0 4 = nI 0 ∨ (I 0 4 = nI 1 ∧ I 0 5 = oI (fewB n h a)) := hR.2.1
  refine Cx.of [.ref 0, .int p] (by decide) rfl rfl (Nat.le_of_ble_eq_true rfl) rfl ?_
  refine x_iload_n dX6_nearest_0 rfl ?_
  refine x_iconst dX6_nearest_1 ic_m1 ?_
  refine x_aload_n dX6_nearest_2 rfl ?_
  refine x_getR 5 0 rfl (by decide) fl_X6_7 dX6_nearest_3 rfl rfl rfl ?_
  refine x_iconst dX6_nearest_6 ic_0 ?_
  refine x_iald (p := 0) (v := nI n) dX6_nearest_7 rfl rfl rfl rfl (by omega) hM.1 ?_
  refine x_iconst dX6_nearest_8 ic_1 ?_
  refine x_isub (v := nI (n - 1)) dX6_nearest_9 (pk_sub (by omega)) ?_
  refine x_callSi (as := [.int p, .int (-1), .int (nI (n - 1))]) ml_X6_50 st_X6_in ct_X6_in (c_in (d := 0)) dX6_nearest_10 (by decide) rfl rfl (Nat.le_of_ble_eq_true rfl) (fun r0 J0 h0 => ?_)
  obtain ⟨rfl, hJ0⟩ := h0
  obtain rfl := hJ0.symm
  refine x_ifb_ne (b := inB p (-1) (nI (n - 1))) (tgt := 19) dX6_nearest_13 rfl (fun c => ?_) (fun c => ?_)
  ·
    have hbl := bests_len (n := n) (h := h) (a := a) hn
    have hnr : ∀ (l : List (List Nat)) (o : Option (List Nat)), (o ≠ none ∨ l ≠ []) → nrs (stp n L) o l ≠ none := by
      intro l
      induction l with
      | nil => intro o ho; rcases ho with ho | ho; cases o; exact absurd rfl ho; simp [nrs]; exact absurd rfl ho
      | cons w l ih => intro o ho; cases o <;> exact ih _ (Or.inl (by simp))
    refine x_aload_n dX6_nearest_19 rfl ?_
    refine x_iconst dX6_nearest_20 ic_0 ?_
    refine x_callVv 5 ml_X6_132 in_X6_lookAtAll se_X6_lookAtAll ct_X6_lookAtAll rfl (c_lookAtAll (d := 4) (x := nI 0) (by decide) h1 hn hh ha hL hM hF) dX6_nearest_21 (by decide) rfl rfl rfl rfl (Nat.le_of_ble_eq_true rfl) (fun J0 h0 => ?_)
    obtain ⟨q1, q2⟩ := h0
    refine x_aload_n dX6_nearest_24 rfl ?_
    refine x_getI 5 6 (v := nI ((bests n h a).length)) rfl (by decide) fl_X6_107 dX6_nearest_25 rfl rfl rfl q1.1 ?_
    refine x_ifn_ne (a := (bests n h a).length) (by omega) (tgt := 36) dX6_nearest_28 rfl (fun c2 => ?_) (fun c2 => ?_)
    ·
      obtain ⟨w, hw⟩ : ∃ w, nrst (n, h, a, L) = some w := by
        cases e : nrst (n, h, a, L) with
        | none => exact absurd e (hnr _ _ (Or.inr (fun e2 => c2 (by show (bst (n, h, a, L)).length = 0; rw [e2]; rfl))))
        | some w => exact ⟨w, rfl⟩
      have e0 : spNearest p ((n, h, a, L), im) = if p = (-1) then nI (stp n L w) else nI (w.getD (tN p) 0) := by
        rw [spNearest]; dsimp only; rw [c, if_pos rfl, hw]
      refine x_iload_n dX6_nearest_36 rfl ?_
      refine x_iconst dX6_nearest_37 ic_m1 ?_
      refine x_icmp_ne (tgt := 48) dX6_nearest_38 rfl (fun c3 => ?_) (fun c3 => ?_)
      ·
        obtain ⟨j, hj, rfl⟩ : ∃ j : Nat, j < n ∧ p = nI j := by
          have := of_decide_eq_true c
          have em : (-1 : Int32).toInt = -1 := by decide +kernel
          rw [nI_toInt (by omega), em] at this
          have : p.toInt ≠ -1 := fun e => c3 (Int32.toInt_inj.mp (by rw [e, em]))
          exact ⟨p.toInt.toNat, by omega, Int32.toInt_inj.mp (by rw [nI_toInt (by omega)]; omega)⟩
        refine x_aload_n dX6_nearest_48 rfl ?_
        refine x_getR 5 16 rfl (by decide) fl_X6_44 dX6_nearest_49 rfl rfl rfl ?_
        refine x_iload_n dX6_nearest_52 rfl ?_
        refine x_iald (p := j) (v := nI (w.getD j 0)) dX6_nearest_53 rfl rfl rfl rfl (by omega) (q1.2.2.2.1 w hw j hj) ?_
        refine x_ireti dX6_nearest_54 rfl ⟨by rw [e0, if_neg c3, tN_nI (by omega)], hR.base q2⟩
      ·
        refine x_aload_n dX6_nearest_41 rfl ?_
        refine x_getI 5 15 (v := nI (stp n L w)) rfl (by decide) fl_X6_123 dX6_nearest_42 rfl rfl rfl (by rw [q1.2.2.1]; show oI ((nrst (n, h, a, L)).map _) = _; rw [hw]; rfl) ?_
        refine x_goto (tgt := 54) dX6_nearest_45 rfl ?_
        refine x_ireti dX6_nearest_54 rfl ⟨by rw [e0, if_pos c3], hR.base q2⟩
    ·
      have e : nrst (n, h, a, L) = none := by
        show nrs _ none (bests n h a) = none
        rw [List.length_eq_zero_iff.mp c2]; rfl
      refine x_bipush dX6_nearest_31 bp_m6 ?_
      refine x_goto (tgt := 54) dX6_nearest_33 rfl ?_
      refine x_ireti dX6_nearest_54 rfl ⟨by rw [spNearest]; dsimp only; rw [c, if_pos rfl, e], hR.base q2⟩
  ·
    refine x_bipush dX6_nearest_16 bp_m2 ?_
    refine x_ireti dX6_nearest_18 rfl ⟨by rw [spNearest]; dsimp only; rw [c]; rfl, hR⟩
theorem m_settle (hW : WOk W) (hR : MR I W) : Cx LM yX6_settle mX6_settle 8 [.ref 0] I (xRi (fun r J => r = (spSettle W).1 ∧ MR J (spSettle W).2)) := by
  obtain ⟨⟨n, h, a, L⟩, im⟩ := W
  have h1 : 1 ≤ n := hW.1.1
  have hn : n ≤ 8 := hW.1.2.1
  have hh : ∀ g, h g < 1024 := hW.1.2.2.1
  have ha : ∀ g, a g < 256 := hW.1.2.2.2.1
  have hL : ∀ p, p < n → L p < n := hW.1.2.2.2.2.1
  have hinj : ∀ p q, p < n → q < n → L p = L q → p = q := hW.1.2.2.2.2.2.1
  have hL8 : ∀ p, p < 8 → L p < 8 := hW.1.2.2.2.2.2.2
  have hM : MSt I n h a L := hR.1
  have hF : I 0 4 = nI 0 ∨ (I 0 4 = nI 1 ∧ I 0 5 = oI (fewB n h a)) := hR.2.1
  have hbl := bests_len (n := n) (h := h) (a := a) hn
  have hnr : ∀ (l : List (List Nat)) (o : Option (List Nat)), (o ≠ none ∨ l ≠ []) → nrs (stp n L) o l ≠ none := by
    intro l
    induction l with
    | nil => intro o ho; rcases ho with ho | ho; cases o; exact absurd rfl ho; simp [nrs]; exact absurd rfl ho
    | cons w l ih => intro o ho; cases o <;> exact ih _ (Or.inl (by simp))
  refine Cx.of [.ref 0, .null] (by decide) rfl rfl (Nat.le_of_ble_eq_true rfl) rfl ?_
  refine x_aload_n dX6_settle_0 rfl ?_
  refine x_iconst dX6_settle_1 ic_0 ?_
  refine x_callVv 5 ml_X6_132 in_X6_lookAtAll se_X6_lookAtAll ct_X6_lookAtAll rfl (c_lookAtAll (d := 4) (x := nI 0) (by decide) h1 hn hh ha hL hM hF) dX6_settle_2 (by decide) rfl rfl rfl rfl (Nat.le_of_ble_eq_true rfl) (fun J0 h0 => ?_)
  obtain ⟨q1, q2⟩ := h0
  refine x_aload_n dX6_settle_5 rfl ?_
  refine x_getI 5 6 (v := nI ((bests n h a).length)) rfl (by decide) fl_X6_107 dX6_settle_6 rfl rfl rfl q1.1 ?_
  refine x_ifn_ne (a := (bests n h a).length) (by omega) (tgt := 15) dX6_settle_9 rfl (fun c2 => ?_) (fun c2 => ?_)
  ·
    obtain ⟨w, hw⟩ : ∃ w, nrst (n, h, a, L) = some w := by
      cases e : nrst (n, h, a, L) with
      | none => exact absurd e (hnr _ _ (Or.inr (fun e2 => c2 (by show (bst (n, h, a, L)).length = 0; rw [e2]; rfl))))
      | some w => exact ⟨w, rfl⟩
    have e0 : spSettle ((n, h, a, L), im) = (nI (stp n L w), ((n, h, a, fun p => if p < n then w.getD p 0 else L p), im)) := by
      rw [spSettle, hw]; rfl
    have lp : ∀ (t k : Nat) (J : xMem), k + t = n → J 0 15 = nI (stp n L w) → (∀ p, p < n → J 12 p = nI (w.getD p 0)) → MSt J n h a (fun p => if p < k then w.getD p 0 else L p) → (J 0 4 = nI 0 ∨ (J 0 4 = nI 1 ∧ J 0 5 = oI (fewB n h a))) → J 2 = I 2 → J 3 = I 3 → Wx LM mX6_settle 8 (xRi (fun r J => r = (spSettle ((n, h, a, L), im)).1 ∧ MR J (spSettle ((n, h, a, L), im)).2)) 17 [.ref 0, .int (nI k)] [] J := by
      intro t
      induction t with
      | zero =>
        intro k J hk e15 e12 hMJ hFJ e2 e3
        have e : k = n := by omega
        subst e
        refine x_iload_n dX6_settle_17 rfl ?_
        refine x_aload_n dX6_settle_18 rfl ?_
        refine x_getR 5 0 rfl (by decide) fl_X6_7 dX6_settle_19 rfl rfl rfl ?_
        refine x_iconst dX6_settle_22 ic_0 ?_
        refine x_iald (p := 0) (v := nI k) dX6_settle_23 rfl rfl rfl rfl (by omega) hMJ.1 ?_
        refine x_icmpn_ge (a := k) (b := k) (by omega) (by omega) (tgt := 48) dX6_settle_24 rfl (fun c => ?_) (fun c => ?_)
        ·
          refine x_aload_n dX6_settle_48 rfl ?_
          refine x_getI 5 15 (v := nI (stp k L w)) rfl (by decide) fl_X6_123 dX6_settle_49 rfl rfl rfl e15 ?_
          refine x_ireti dX6_settle_52 rfl ⟨by rw [e0], by rw [e0]; exact MR.st (W := ((k, h, a, L), im)) (T := (k, h, a, fun p => if p < k then w.getD p 0 else L p)) hR hMJ hFJ e2 e3⟩
        ·
          omega
      | succ t ih =>
        intro k J hk e15 e12 hMJ hFJ e2 e3
        refine x_iload_n dX6_settle_17 rfl ?_
        refine x_aload_n dX6_settle_18 rfl ?_
        refine x_getR 5 0 rfl (by decide) fl_X6_7 dX6_settle_19 rfl rfl rfl ?_
        refine x_iconst dX6_settle_22 ic_0 ?_
        refine x_iald (p := 0) (v := nI n) dX6_settle_23 rfl rfl rfl rfl (by omega) hMJ.1 ?_
        refine x_icmpn_ge (a := k) (b := n) (by omega) (by omega) (tgt := 48) dX6_settle_24 rfl (fun c => ?_) (fun c => ?_)
        ·
          omega
        ·
          refine x_aload_n dX6_settle_27 rfl ?_
          refine x_getR 5 0 rfl (by decide) fl_X6_7 dX6_settle_28 rfl rfl rfl ?_
          refine x_bipush dX6_settle_31 bp_17 ?_
          refine x_iload_n dX6_settle_33 rfl ?_
          refine x_iadd (v := nI (17 + k)) dX6_settle_34 (nI_add _ _) ?_
          refine x_aload_n dX6_settle_35 rfl ?_
          refine x_getR 5 16 rfl (by decide) fl_X6_44 dX6_settle_36 rfl rfl rfl ?_
          refine x_iload_n dX6_settle_39 rfl ?_
          refine x_iald (p := k) (v := nI (w.getD k 0)) dX6_settle_40 rfl rfl rfl rfl (by omega) (e12 k (by omega)) ?_
          refine x_iast (p := 17 + k) dX6_settle_41 rfl rfl rfl rfl (by omega) ?_
          generalize hK : xup J 1 (17 + k) (nI (w.getD k 0)) = K
          refine x_iinc (v := nI (k + 1)) (ls' := [.ref 0, .int (nI (k + 1))]) dX6_settle_42 rfl (inc_1 _) rfl rfl ?_
          refine x_goto (tgt := 17) dX6_settle_45 rfl ?_
          refine ih (k + 1) K (by omega) ?_ ?_ ⟨?_, fun g hg => ?_, fun g hg => ?_, fun g hg => ?_⟩ ?_ ?_ ?_
          · rw [← hK, xup_ne (by decide)]; exact e15
          · rw [← hK, xup_ne (by decide)]; exact e12
          · rw [← hK, xup_eq, if_neg (by omega)]; exact hMJ.1
          · rw [← hK, xup_eq, if_neg (by omega)]; exact hMJ.2.1 g hg
          · rw [← hK, xup_eq, if_neg (by omega)]; exact hMJ.2.2.1 g hg
          · rw [← hK, xup_eq]
            by_cases e : g = k
            · subst e; rw [if_pos rfl]; dsimp only; rw [if_pos (Nat.lt_succ_self _)]
            · rw [if_neg (by omega), hMJ.2.2.2 g hg]
              dsimp only
              by_cases e' : g < k
              · rw [if_pos e', if_pos (by omega)]
              · rw [if_neg e', if_neg (by omega)]
          · rw [← hK, xup_ne (by decide)]; exact hFJ
          · rw [← hK, xup_ne (by decide)]; exact e2
          · rw [← hK, xup_ne (by decide)]; exact e3
    refine x_iconst dX6_settle_15 ic_0 ?_
    refine x_istore_n (ls' := [.ref 0, .int (nI 0)]) dX6_settle_16 rfl rfl ?_
    refine lp n 0 J0 (by omega) ?_ (q1.2.2.2.1 w hw) ?_ (Or.inr ⟨q2.1, q2.2.1⟩) q2.2.2.2.1 q2.2.2.2.2
    · rw [q1.2.2.1]; show oI ((nrst (n, h, a, L)).map _) = _; rw [hw]; rfl
    · exact hM.kept q2.2.2.1
  ·
    have e : nrst (n, h, a, L) = none := by
      show nrs _ none (bests n h a) = none
      rw [List.length_eq_zero_iff.mp c2]; rfl
    refine x_bipush dX6_settle_12 bp_m3 ?_
    refine x_ireti dX6_settle_14 rfl ⟨by rw [spSettle, e], by rw [spSettle, e]; exact hR.base q2⟩
end MP
