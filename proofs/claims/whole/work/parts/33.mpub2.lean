/-! the reference: its calls, on -/
section MP
variable {I : xMem} {W : WS}
theorem m_order {i p : Int32} (hW : WOk W) (hR : MR I W) : Cx LM yX6_order mX6_order 8 [.ref 0, .int i, .int p] I (xRi (fun r J => r = spOrder i p W ∧ MR J W)) := by
  obtain ⟨⟨n, h, a, L⟩, im⟩ := W
  have h1 : 1 ≤ n := hW.1.1
  have hn : n ≤ 8 := hW.1.2.1
  have hh : ∀ g, h g < 1024 := hW.1.2.2.1
  have ha : ∀ g, a g < 256 := hW.1.2.2.2.1
  have hL : ∀ p, p < n → L p < n := hW.1.2.2.2.2.1
  have hinj : ∀ p q, p < n → q < n → L p = L q → p = q := hW.1.2.2.2.2.2.1
  have hL8 : ∀ p, p < 8 → L p < 8 := hW.1.2.2.2.2.2.2
  have hM : MSt I n h a L := hR.1
  have hF : I 0 4 = nI 0 ∨ (I 0 4 = nI 1 ∧ I 0 5 = oI (fewB n h a)) := hR.2.1
  refine Cx.of [.ref 0, .int i, .int p] (by decide) rfl rfl (Nat.le_of_ble_eq_true rfl) rfl ?_
  refine x_iload_n dX6_order_0 rfl ?_
  refine x_if_lt (tgt := 20) dX6_order_1 rfl (fun c => ?_) (fun c => ?_)
  ·
    refine x_bipush dX6_order_20 bp_m2 ?_
    refine x_ireti dX6_order_22 rfl ⟨by rw [spOrder, if_neg (fun e => e.1 c)], hR⟩
  ·
    refine x_iload_n dX6_order_4 rfl ?_
    refine x_iconst dX6_order_5 ic_0 ?_
    refine x_aload_n dX6_order_6 rfl ?_
    refine x_getR 5 0 rfl (by decide) fl_X6_7 dX6_order_7 rfl rfl rfl ?_
    refine x_iconst dX6_order_10 ic_0 ?_
    refine x_iald (p := 0) (v := nI n) dX6_order_11 rfl rfl rfl rfl (by omega) hM.1 ?_
    refine x_iconst dX6_order_12 ic_1 ?_
    refine x_isub (v := nI (n - 1)) dX6_order_13 (pk_sub (by omega)) ?_
    refine x_callSi (as := [.int p, .int (nI 0), .int (nI (n - 1))]) ml_X6_50 st_X6_in ct_X6_in (c_in (d := 0)) dX6_order_14 (by decide) rfl rfl (Nat.le_of_ble_eq_true rfl) (fun r0 J0 h0 => ?_)
    obtain ⟨rfl, hJ0⟩ := h0
    obtain rfl := hJ0.symm
    rw [inB_R h1 (by omega)]
    refine x_ifb_ne (b := inR p n) (tgt := 23) dX6_order_17 rfl (fun c2 => ?_) (fun c2 => ?_)
    ·
      obtain ⟨q, hq, rfl⟩ := inR_of c2
      obtain ⟨k, hk, rfl⟩ := nI_of c
      have hlen : (bests n h a).length ≤ 16777216 := Nat.le_trans (List.length_filter_le _ _) (perms_len hn)
      refine x_aload_n dX6_order_23 rfl ?_
      refine x_iload_n dX6_order_24 rfl ?_
      refine x_callVv 5 ml_X6_132 in_X6_lookAtAll se_X6_lookAtAll ct_X6_lookAtAll rfl (c_lookAtAll (d := 4) (x := nI k) (by decide) h1 hn hh ha hL hM hF) dX6_order_25 (by decide) rfl rfl rfl rfl (Nat.le_of_ble_eq_true rfl) (fun J0 h0 => ?_)
      obtain ⟨q1, q2⟩ := h0
      refine x_iload_n dX6_order_28 rfl ?_
      refine x_aload_n dX6_order_29 rfl ?_
      refine x_getI 5 6 (v := nI ((bests n h a).length)) rfl (by decide) fl_X6_107 dX6_order_30 rfl rfl rfl q1.1 ?_
      refine x_icmpn_ge (a := k) (b := (bests n h a).length) (by omega) (by omega) (tgt := 45) dX6_order_33 rfl (fun c3 => ?_) (fun c3 => ?_)
      ·
        refine x_bipush dX6_order_45 bp_m6 ?_
        refine x_ireti dX6_order_47 rfl ⟨?_, hR.base q2⟩
        rw [spOrder, if_pos ⟨c, c2⟩, tN_nI hk, bst]
        dsimp only
        rw [List.getElem?_eq_none c3]
      ·
        have hg := List.getElem?_eq_getElem c3
        refine x_aload_n dX6_order_36 rfl ?_
        refine x_getR 5 8 rfl (by decide) fl_X6_23 dX6_order_37 rfl rfl rfl ?_
        refine x_iload_n dX6_order_40 rfl ?_
        refine x_iald (p := q) (v := nI (((bests n h a)[k]).getD q 0)) dX6_order_41 rfl rfl rfl rfl (by omega) (q1.2.2.2.2.1 k _ hg rfl q hq) ?_
        refine x_goto (tgt := 47) dX6_order_42 rfl ?_
        refine x_ireti dX6_order_47 rfl ⟨?_, hR.base q2⟩
        rw [spOrder, if_pos ⟨c, c2⟩, tN_nI hk, tN_nI (by omega), bst]
        dsimp only
        rw [hg]
    ·
      refine x_bipush dX6_order_20 bp_m2 ?_
      refine x_ireti dX6_order_22 rfl ⟨by rw [spOrder, if_neg (fun e => by have := e.2; dsimp only at this; rw [c2] at this; cases this)], hR⟩
theorem m_beside {g what : Int32} (hW : WOk W) (hR : MR I W) : Cx LM yX6_beside mX6_beside 8 [.ref 0, .int g, .int what] I (xRi (fun r J => r = spBeside g what W ∧ MR J W)) := by
  obtain ⟨⟨n, h, a, L⟩, im⟩ := W
  have h1 : 1 ≤ n := hW.1.1
  have hn : n ≤ 8 := hW.1.2.1
  have hh : ∀ g, h g < 1024 := hW.1.2.2.1
  have ha : ∀ g, a g < 256 := hW.1.2.2.2.1
  have hL : ∀ p, p < n → L p < n := hW.1.2.2.2.2.1
  have hinj : ∀ p q, p < n → q < n → L p = L q → p = q := hW.1.2.2.2.2.2.1
  have hL8 : ∀ p, p < 8 → L p < 8 := hW.1.2.2.2.2.2.2
  have hM : MSt I n h a L := hR.1
  have hF : I 0 4 = nI 0 ∨ (I 0 4 = nI 1 ∧ I 0 5 = oI (fewB n h a)) := hR.2.1
  refine Cx.of [.ref 0, .int g, .int what] (by decide) rfl rfl (Nat.le_of_ble_eq_true rfl) rfl ?_
  refine x_aload_n dX6_beside_0 rfl ?_
  refine x_iload_n dX6_beside_1 rfl ?_
  refine x_callVi 5 ml_X6_58 in_X6_isGrave se_X6_isGrave ct_X6_isGrave rfl (cm_isGrave (d := 1) (by decide) h1 hn hM.1) dX6_beside_2 (by decide) rfl rfl rfl rfl (Nat.le_of_ble_eq_true rfl) (fun r0 J0 h0 => ?_)
  obtain ⟨rfl, hJ0⟩ := h0
  obtain rfl := hJ0.symm
  refine x_ifb_ne (b := inR g n) (tgt := 10) dX6_beside_5 rfl (fun c => ?_) (fun c => ?_)
  ·
    obtain ⟨j, hj, rfl⟩ := inR_of c
    refine x_iload_n dX6_beside_10 rfl ?_
    refine x_iconst dX6_beside_11 ic_0 ?_
    refine x_iconst dX6_beside_12 ic_1 ?_
    refine x_callSi (as := [.int what, .int (nI 0), .int (nI 1)]) ml_X6_50 st_X6_in ct_X6_in (c_in (d := 0)) dX6_beside_13 (by decide) rfl rfl (Nat.le_of_ble_eq_true rfl) (fun r0 J0 h0 => ?_)
    obtain ⟨rfl, hJ0⟩ := h0
    obtain rfl := hJ0.symm
    rw [inB_2]
    refine x_ifb_ne (b := inR what 2) (tgt := 22) dX6_beside_16 rfl (fun c2 => ?_) (fun c2 => ?_)
    ·
      obtain ⟨q, hq, rfl⟩ := inR_of c2
      refine x_aload_n dX6_beside_22 rfl ?_
      refine x_iconst dX6_beside_23 ic_0 ?_
      refine x_callVv 5 ml_X6_132 in_X6_lookAtAll se_X6_lookAtAll ct_X6_lookAtAll rfl (c_lookAtAll (d := 4) (x := nI 0) (by decide) h1 hn hh ha hL hM hF) dX6_beside_24 (by decide) rfl rfl rfl rfl (Nat.le_of_ble_eq_true rfl) (fun J0 h0 => ?_)
      obtain ⟨q1, q2⟩ := h0
      refine x_iload_n dX6_beside_27 rfl ?_
      refine x_ifn_ne (a := q) (by omega) (tgt := 40) dX6_beside_28 rfl (fun c3 => ?_) (fun c3 => ?_)
      ·
        refine x_aload_n dX6_beside_40 rfl ?_
        refine x_getR 5 12 rfl (by decide) fl_X6_35 dX6_beside_41 rfl rfl rfl ?_
        refine x_iload_n dX6_beside_44 rfl ?_
        refine x_iald (p := j) (v := nI (bAn n (bests n h a) j)) dX6_beside_45 rfl rfl rfl rfl (by omega) (q1.2.2.2.2.2.2.2.2.1 j hj) ?_
        refine x_ireti dX6_beside_46 rfl ⟨by rw [spBeside]; dsimp only; rw [c, if_pos rfl, if_neg (nIe (by omega) (by omega) c3), show q = 1 by omega, if_pos rfl, tN_nI (by omega)]; rfl, hR.base q2⟩
      ·
        refine x_aload_n dX6_beside_31 rfl ?_
        refine x_getR 5 11 rfl (by decide) fl_X6_32 dX6_beside_32 rfl rfl rfl ?_
        refine x_iload_n dX6_beside_35 rfl ?_
        refine x_iald (p := j) (v := nI (bAl n (bests n h a) j)) dX6_beside_36 rfl rfl rfl rfl (by omega) (q1.2.2.2.2.2.2.2.1 j hj) ?_
        refine x_goto (tgt := 46) dX6_beside_37 rfl ?_
        refine x_ireti dX6_beside_46 rfl ⟨by rw [spBeside]; dsimp only; rw [c, if_pos rfl, c3, if_pos rfl, tN_nI (by omega)]; rfl, hR.base q2⟩
    ·
      refine x_bipush dX6_beside_19 bp_m2 ?_
      refine x_ireti dX6_beside_21 rfl ⟨by rw [spBeside]; dsimp only; rw [c, if_pos rfl, if_neg (out_ne c2 (by decide) (by decide)), if_neg (out_ne c2 (by decide) (by decide))], hR⟩
  ·
    refine x_iconst dX6_beside_8 ic_m1 ?_
    refine x_ireti dX6_beside_9 rfl ⟨by rw [spBeside]; dsimp only; rw [c]; rfl, hR⟩
theorem m_before {x y : Int32} (hW : WOk W) (hR : MR I W) : Cx LM yX6_before mX6_before 8 [.ref 0, .int x, .int y] I (xRi (fun r J => r = spBefore x y W ∧ MR J W)) := by
  obtain ⟨⟨n, h, a, L⟩, im⟩ := W
  have h1 : 1 ≤ n := hW.1.1
  have hn : n ≤ 8 := hW.1.2.1
  have hh : ∀ g, h g < 1024 := hW.1.2.2.1
  have ha : ∀ g, a g < 256 := hW.1.2.2.2.1
  have hL : ∀ p, p < n → L p < n := hW.1.2.2.2.2.1
  have hinj : ∀ p q, p < n → q < n → L p = L q → p = q := hW.1.2.2.2.2.2.1
  have hL8 : ∀ p, p < 8 → L p < 8 := hW.1.2.2.2.2.2.2
  have hM : MSt I n h a L := hR.1
  have hF : I 0 4 = nI 0 ∨ (I 0 4 = nI 1 ∧ I 0 5 = oI (fewB n h a)) := hR.2.1
  refine Cx.of [.ref 0, .int x, .int y] (by decide) rfl rfl (Nat.le_of_ble_eq_true rfl) rfl ?_
  refine x_aload_n dX6_before_0 rfl ?_
  refine x_iload_n dX6_before_1 rfl ?_
  refine x_callVi 5 ml_X6_58 in_X6_isGrave se_X6_isGrave ct_X6_isGrave rfl (cm_isGrave (d := 1) (by decide) h1 hn hM.1) dX6_before_2 (by decide) rfl rfl rfl rfl (Nat.le_of_ble_eq_true rfl) (fun r0 J0 h0 => ?_)
  obtain ⟨rfl, hJ0⟩ := h0
  obtain rfl := hJ0.symm
  refine x_ifb_eq (b := inR x n) (tgt := 16) dX6_before_5 rfl (fun c => ?_) (fun c => ?_)
  ·
    refine x_iconst dX6_before_16 ic_m1 ?_
    refine x_ireti dX6_before_17 rfl ⟨by rw [spBefore]; dsimp only; rw [c]; rfl, hR⟩
  ·
    obtain ⟨j, hj, rfl⟩ := inR_of c
    refine x_aload_n dX6_before_8 rfl ?_
    refine x_iload_n dX6_before_9 rfl ?_
    refine x_callVi 5 ml_X6_58 in_X6_isGrave se_X6_isGrave ct_X6_isGrave rfl (cm_isGrave (d := 1) (by decide) h1 hn hM.1) dX6_before_10 (by decide) rfl rfl rfl rfl (Nat.le_of_ble_eq_true rfl) (fun r0 J0 h0 => ?_)
    obtain ⟨rfl, hJ0⟩ := h0
    obtain rfl := hJ0.symm
    refine x_ifb_ne (b := inR y n) (tgt := 18) dX6_before_13 rfl (fun c2 => ?_) (fun c2 => ?_)
    ·
      obtain ⟨k, hk, rfl⟩ := inR_of c2
      refine x_iload_n dX6_before_18 rfl ?_
      refine x_iload_n dX6_before_19 rfl ?_
      refine x_icmpn_ne (a := j) (b := k) (by omega) (by omega) (tgt := 26) dX6_before_20 rfl (fun c3 => ?_) (fun c3 => ?_)
      ·
        refine x_aload_n dX6_before_26 rfl ?_
        refine x_iconst dX6_before_27 ic_0 ?_
        refine x_callVv 5 ml_X6_132 in_X6_lookAtAll se_X6_lookAtAll ct_X6_lookAtAll rfl (c_lookAtAll (d := 4) (x := nI 0) (by decide) h1 hn hh ha hL hM hF) dX6_before_28 (by decide) rfl rfl rfl rfl (Nat.le_of_ble_eq_true rfl) (fun J0 h0 => ?_)
        obtain ⟨q1, q2⟩ := h0
        refine x_aload_n dX6_before_31 rfl ?_
        refine x_getR 5 10 rfl (by decide) fl_X6_29 dX6_before_32 rfl rfl rfl ?_
        refine x_bipush dX6_before_35 bp_8 ?_
        refine x_iload_n dX6_before_37 rfl ?_
        refine x_imul (v := nI (8 * j)) dX6_before_38 (pk_mul _ _) ?_
        refine x_iload_n dX6_before_39 rfl ?_
        refine x_iadd (v := nI ((8 * j) + k)) dX6_before_40 (nI_add _ _) ?_
        refine x_iald (p := (8 * j) + k) (v := nI (cBf (bests n h a) j k)) dX6_before_41 rfl rfl rfl rfl (by omega) (q1.2.2.2.2.2.2.1 j k hj hk) ?_
        refine x_ireti dX6_before_42 rfl ⟨by rw [spBefore]; dsimp only; rw [c, c2, Bool.and_self, if_pos rfl, if_neg (nIe (by omega) (by omega) c3), tN_nI (by omega), tN_nI (by omega)]; rfl, hR.base q2⟩
      ·
        refine x_bipush dX6_before_23 bp_m2 ?_
        refine x_ireti dX6_before_25 rfl ⟨by rw [spBefore]; dsimp only; rw [c, c2, Bool.and_self, if_pos rfl, c3, if_pos rfl], hR⟩
    ·
      refine x_iconst dX6_before_16 ic_m1 ?_
      refine x_ireti dX6_before_17 rfl ⟨by rw [spBefore]; dsimp only; rw [c, c2]; rfl, hR⟩
theorem cAt_ge {V : List (List Nat)} {n g x : Nat} (hV : ∀ w ∈ V, w ∈ perms n) (hg : g < n) (hx : n ≤ x) : cAt V g x = 0 := by
  rw [cAt, List.countP_eq_zero]
  intro w hw
  have := ((perms_pos (hV w hw)).1 g hg).1
  simp; omega
theorem cAt_le (V : List (List Nat)) (g x : Nat) : cAt V g x ≤ V.length := List.countP_le_length
theorem bests_perms {n : Nat} {h a : Nat → Nat} : ∀ w ∈ bests n h a, w ∈ perms n := fun w hw => (List.mem_filter.mp hw).1
theorem bests_len {n : Nat} {h a : Nat → Nat} (hn : n ≤ 8) : (bests n h a).length ≤ 16777216 := Nat.le_trans (List.length_filter_le _ _) (perms_len hn)
/-- the loop of place: the least, the greatest so far -/
def plK (c : Nat → Nat) : Nat → Option Nat × Option Nat
  | 0 => (none, none)
  | k + 1 => if 0 < c k then ((match (plK c k).1 with | none => some k | some m => some m), some k) else plK c k
theorem plK_1 (c : Nat → Nat) (k : Nat) : (plK c k).1 = (List.range k).find? (fun j => decide (0 < c j)) := by
  induction k with
  | zero => rfl
  | succ k ih =>
    rw [List.range_succ, List.find?_append]
    simp only [plK]
    by_cases h : 0 < c k
    · rw [if_pos h]
      dsimp only
      rw [ih]
      cases (List.range k).find? (fun j => decide (0 < c j)) <;> simp [h]
    · rw [if_neg h, ih]; simp [h]
theorem plK_2 (c : Nat → Nat) (k : Nat) : (plK c k).2 = (List.range k).reverse.find? (fun j => decide (0 < c j)) := by
  induction k with
  | zero => rfl
  | succ k ih =>
    rw [List.range_succ, List.reverse_append]
    simp only [plK, List.reverse_cons, List.reverse_nil, List.nil_append, List.singleton_append, List.cons_append]
    by_cases h : 0 < c k
    · rw [if_pos h, List.find?_cons_of_pos (by simpa using h)]
    · rw [if_neg h, List.find?_cons_of_neg (by simpa using h), ih]
theorem plK_stop {c : Nat → Nat} {n : Nat} (hc : ∀ x, n ≤ x → c x = 0) : ∀ k, plK c (n + k) = plK c n
  | 0 => rfl
  | k + 1 => by rw [← Nat.add_assoc]; simp only [plK]; rw [if_neg (by rw [hc _ (by omega)]; omega), plK_stop hc k]
theorem plK_lt (c : Nat → Nat) : ∀ (k m : Nat), (plK c k).1 = some m ∨ (plK c k).2 = some m → m < k
  | 0, m, h => by simp [plK] at h
  | k + 1, m, h => by
    simp only [plK] at h
    by_cases e : 0 < c k
    · rw [if_pos e] at h
      rcases h with h | h
      · cases hp : (plK c k).1 with
        | none => rw [hp] at h; simp at h; omega
        | some q => rw [hp] at h; simp at h; have := plK_lt c k q (Or.inl hp); omega
      · simp at h; omega
    · rw [if_neg e] at h; have := plK_lt c k m h; omega
theorem m_place {g what : Int32} (hW : WOk W) (hR : MR I W) : Cx LM yX6_place mX6_place 8 [.ref 0, .int g, .int what] I (xRi (fun r J => r = spPlace g what W ∧ MR J W)) := by
  obtain ⟨⟨n, h, a, L⟩, im⟩ := W
  have h1 : 1 ≤ n := hW.1.1
  have hn : n ≤ 8 := hW.1.2.1
  have hh : ∀ g, h g < 1024 := hW.1.2.2.1
  have ha : ∀ g, a g < 256 := hW.1.2.2.2.1
  have hL : ∀ p, p < n → L p < n := hW.1.2.2.2.2.1
  have hinj : ∀ p q, p < n → q < n → L p = L q → p = q := hW.1.2.2.2.2.2.1
  have hL8 : ∀ p, p < 8 → L p < 8 := hW.1.2.2.2.2.2.2
  have hM : MSt I n h a L := hR.1
  have hF : I 0 4 = nI 0 ∨ (I 0 4 = nI 1 ∧ I 0 5 = oI (fewB n h a)) := hR.2.1
  refine Cx.of [.ref 0, .int g, .int what, .null, .null, .null] (by decide) rfl rfl (Nat.le_of_ble_eq_true rfl) rfl ?_
  refine x_aload_n dX6_place_0 rfl ?_
  refine x_iload_n dX6_place_1 rfl ?_
  refine x_callVi 5 ml_X6_58 in_X6_isGrave se_X6_isGrave ct_X6_isGrave rfl (cm_isGrave (d := 1) (by decide) h1 hn hM.1) dX6_place_2 (by decide) rfl rfl rfl rfl (Nat.le_of_ble_eq_true rfl) (fun r0 J0 h0 => ?_)
  obtain ⟨rfl, hJ0⟩ := h0
  obtain rfl := hJ0.symm
  refine x_ifb_ne (b := inR g n) (tgt := 10) dX6_place_5 rfl (fun c => ?_) (fun c => ?_)
  ·
    obtain ⟨j, hj, rfl⟩ := inR_of c
    have hbl := bests_len (n := n) (h := h) (a := a) hn
    have hcz : ∀ x, n ≤ x → cAt (bests n h a) j x = 0 := fun x hx => cAt_ge bests_perms hj hx
    have e8 : plK (cAt (bests n h a) j) 8 = plK (cAt (bests n h a) j) n := by
      have := plK_stop hcz (8 - n); rwa [show n + (8 - n) = 8 by omega] at this
    refine x_iload_n dX6_place_10 rfl ?_
    refine x_iconst dX6_place_11 ic_0 ?_
    refine x_iconst dX6_place_12 ic_1 ?_
    refine x_callSi (as := [.int what, .int (nI 0), .int (nI 1)]) ml_X6_50 st_X6_in ct_X6_in (c_in (d := 0)) dX6_place_13 (by decide) rfl rfl (Nat.le_of_ble_eq_true rfl) (fun r0 J0 h0 => ?_)
    obtain ⟨rfl, hJ0⟩ := h0
    obtain rfl := hJ0.symm
    rw [inB_2]
    refine x_ifb_ne (b := inR what 2) (tgt := 40) dX6_place_16 rfl (fun c2 => ?_) (fun c2 => ?_)
    ·
      obtain ⟨q, hq, rfl⟩ := inR_of c2
      have lp : ∀ (t k : Nat) (J : xMem), k + t = 8 → Acc J n h L (nI 0) (bests n h a) → Base I n h a J → Wx LM mX6_place 8 (xRi (fun r J => r = spPlace (nI j) (nI q) ((n, h, a, L), im) ∧ MR J ((n, h, a, L), im))) 76 [.ref 0, .int (nI j), .int (nI q), .int (oI (plK (cAt (bests n h a) j) k).1), .int (oI (plK (cAt (bests n h a) j) k).2), .int (nI k)] [] J := by
        intro t
        induction t with
        | zero =>
          intro k J hk q1 q2
          have e : k = 8 := by omega
          subst e
          refine x_iload dX6_place_76 rfl ?_
          refine x_bipush dX6_place_78 bp_8 ?_
          refine x_icmpn_ge (a := 8) (b := 8) (by omega) (by omega) (tgt := 119) dX6_place_80 rfl (fun e1 => ?_) (fun e1 => ?_)
          ·
            refine x_iload_n dX6_place_119 rfl ?_
            refine x_ifn_ne (a := q) (by omega) (tgt := 127) dX6_place_120 rfl (fun e2 => ?_) (fun e2 => ?_)
            ·
              refine x_iload dX6_place_127 rfl ?_
              refine x_ireti dX6_place_129 rfl ⟨by rw [spPlace]; dsimp only; rw [c, if_pos rfl, if_neg (nIe (by omega) (by omega) e2), show q = 1 by omega, if_pos rfl, tN_nI (by omega), e8, plK_2]; rfl, hR.base q2⟩
            ·
              refine x_iload_n dX6_place_123 rfl ?_
              refine x_goto (tgt := 129) dX6_place_124 rfl ?_
              refine x_ireti dX6_place_129 rfl ⟨by rw [spPlace]; dsimp only; rw [c, if_pos rfl, e2, if_pos rfl, tN_nI (by omega), e8, plK_1]; rfl, hR.base q2⟩
          ·
            omega
        | succ t ih =>
          intro k J hk q1 q2
          have hc1 := cAt_le (bests n h a) j k
          have key : plK (cAt (bests n h a) j) (k + 1) = if 0 < cAt (bests n h a) j k then ((match (plK (cAt (bests n h a) j) k).1 with | none => some k | some m => some m), some k) else plK (cAt (bests n h a) j) k := rfl
          have := ih (k + 1) J (by omega) q1 q2
          rw [key] at this
          refine x_iload dX6_place_76 rfl ?_
          refine x_bipush dX6_place_78 bp_8 ?_
          refine x_icmpn_ge (a := k) (b := 8) (by omega) (by omega) (tgt := 119) dX6_place_80 rfl (fun e1 => ?_) (fun e1 => ?_)
          ·
            omega
          ·
            refine x_aload_n dX6_place_83 rfl ?_
            refine x_getR 5 9 rfl (by decide) fl_X6_26 dX6_place_84 rfl rfl rfl ?_
            refine x_bipush dX6_place_87 bp_8 ?_
            refine x_iload_n dX6_place_89 rfl ?_
            refine x_imul (v := nI (8 * j)) dX6_place_90 (pk_mul _ _) ?_
            refine x_iload dX6_place_91 rfl ?_
            refine x_iadd (v := nI ((8 * j) + k)) dX6_place_93 (nI_add _ _) ?_
            refine x_iald (p := (8 * j) + k) (v := nI (cAt (bests n h a) j k)) dX6_place_94 rfl rfl rfl rfl (by omega) (q1.2.2.2.2.2.1 j k hj (by omega)) ?_
            refine x_ifn_le (a := cAt (bests n h a) j k) (by omega) (tgt := 113) dX6_place_95 rfl (fun e2 => ?_) (fun e2 => ?_)
            ·
              refine x_iinc (v := nI (k + 1)) (ls' := [.ref 0, .int (nI j), .int (nI q), .int (oI (plK (cAt (bests n h a) j) k).1), .int (oI (plK (cAt (bests n h a) j) k).2), .int (nI (k + 1))]) dX6_place_113 rfl (inc_1 _) rfl rfl ?_
              refine x_goto (tgt := 76) dX6_place_116 rfl ?_
              rw [if_neg (by omega)] at this
              exact this
            ·
              rw [if_pos e2] at this
              refine x_iload_n dX6_place_98 rfl ?_
              cases hp : (plK (cAt (bests n h a) j) k).1 with
              | none =>
                rw [hp] at this
                refine x_if_ge (tgt := 107) dX6_place_99 rfl (fun e3 => ?_) (fun e3 => ?_)
                ·
                  exact absurd e3 (by decide +kernel)
                ·
                  refine x_iload dX6_place_102 rfl ?_
                  refine x_goto (tgt := 108) dX6_place_104 rfl ?_
                  refine x_istore_n (ls' := [.ref 0, .int (nI j), .int (nI q), .int (nI k), .int (oI (plK (cAt (bests n h a) j) k).2), .int (nI k)]) dX6_place_108 rfl rfl ?_
                  refine x_iload dX6_place_109 rfl ?_
                  refine x_istore (ls' := [.ref 0, .int (nI j), .int (nI q), .int (nI k), .int (nI k), .int (nI k)]) dX6_place_111 rfl rfl ?_
                  refine x_iinc (v := nI (k + 1)) (ls' := [.ref 0, .int (nI j), .int (nI q), .int (nI k), .int (nI k), .int (nI (k + 1))]) dX6_place_113 rfl (inc_1 _) rfl rfl ?_
                  refine x_goto (tgt := 76) dX6_place_116 rfl ?_
                  exact this
              | some m =>
                rw [hp] at this
                have hm := plK_lt _ k m (Or.inl hp)
                refine x_if_ge (tgt := 107) dX6_place_99 rfl (fun e3 => ?_) (fun e3 => ?_)
                ·
                  refine x_iload_n dX6_place_107 rfl ?_
                  refine x_istore_n (ls' := [.ref 0, .int (nI j), .int (nI q), .int (nI m), .int (oI (plK (cAt (bests n h a) j) k).2), .int (nI k)]) dX6_place_108 rfl rfl ?_
                  refine x_iload dX6_place_109 rfl ?_
                  refine x_istore (ls' := [.ref 0, .int (nI j), .int (nI q), .int (nI m), .int (nI k), .int (nI k)]) dX6_place_111 rfl rfl ?_
                  refine x_iinc (v := nI (k + 1)) (ls' := [.ref 0, .int (nI j), .int (nI q), .int (nI m), .int (nI k), .int (nI (k + 1))]) dX6_place_113 rfl (inc_1 _) rfl rfl ?_
                  refine x_goto (tgt := 76) dX6_place_116 rfl ?_
                  exact this
                ·
                  exact absurd (nI_pos' (by omega)) e3
      refine x_aload_n dX6_place_40 rfl ?_
      refine x_iconst dX6_place_41 ic_0 ?_
      refine x_callVv 5 ml_X6_132 in_X6_lookAtAll se_X6_lookAtAll ct_X6_lookAtAll rfl (c_lookAtAll (d := 4) (x := nI 0) (by decide) h1 hn hh ha hL hM hF) dX6_place_42 (by decide) rfl rfl rfl rfl (Nat.le_of_ble_eq_true rfl) (fun J0 h0 => ?_)
      obtain ⟨q1, q2⟩ := h0
      refine x_iload_n dX6_place_45 rfl ?_
      refine x_bipush dX6_place_46 bp_9 ?_
      refine x_icmpn_le (a := q) (b := 9) (by omega) (by omega) (tgt := 66) dX6_place_48 rfl (fun e0 => ?_) (fun e0 => ?_)
      ·
        refine x_bipush dX6_place_66 bp_m6 ?_
        refine x_istore_n (ls' := [.ref 0, .int (nI j), .int (nI q), .int (-6), .null, .null]) dX6_place_68 rfl rfl ?_
        refine x_bipush dX6_place_69 bp_m6 ?_
        refine x_istore (ls' := [.ref 0, .int (nI j), .int (nI q), .int (-6), .int (-6), .null]) dX6_place_71 rfl rfl ?_
        refine x_iconst dX6_place_73 ic_0 ?_
        refine x_istore (ls' := [.ref 0, .int (nI j), .int (nI q), .int (-6), .int (-6), .int (nI 0)]) dX6_place_74 rfl rfl ?_
        exact lp 8 0 J0 rfl q1 q2
      ·
        omega
    ·
      refine x_iload_n dX6_place_19 rfl ?_
      refine x_bipush dX6_place_20 bp_10 ?_
      refine x_bipush dX6_place_22 bp_9 ?_
      refine x_aload_n dX6_place_24 rfl ?_
      refine x_getR 5 0 rfl (by decide) fl_X6_7 dX6_place_25 rfl rfl rfl ?_
      refine x_iconst dX6_place_28 ic_0 ?_
      refine x_iald (p := 0) (v := nI n) dX6_place_29 rfl rfl rfl rfl (by omega) hM.1 ?_
      refine x_iadd (v := nI (9 + n)) dX6_place_30 (nI_add _ _) ?_
      refine x_callSi (as := [.int what, .int (nI 10), .int (nI (9 + n))]) ml_X6_50 st_X6_in ct_X6_in (c_in (d := 0)) dX6_place_31 (by decide) rfl rfl (Nat.le_of_ble_eq_true rfl) (fun r0 J0 h0 => ?_)
      obtain ⟨rfl, hJ0⟩ := h0
      obtain rfl := hJ0.symm
      have e10 : inB what (nI 10) (nI (9 + n)) = inR (what - nI 10) n := by
        rcases Bool.eq_false_or_eq_true (inB what (nI 10) (nI (9 + n))) with e | e
        · have := of_decide_eq_true e
          rw [nI_toInt (by decide), nI_toInt (by omega)] at this
          obtain ⟨w, hw, rfl⟩ : ∃ w : Nat, w < 9 + n + 1 ∧ what = nI w := ⟨what.toInt.toNat, by omega, Int32.toInt_inj.mp (by rw [nI_toInt (by omega)]; omega)⟩
          rw [nI_toInt (by omega)] at this
          rw [e, pk_sub (by omega), inR_nI (by omega) (by omega)]
        · rw [e]
          cases e2 : inR (what - nI 10) n with
          | false => rfl
          | true =>
            obtain ⟨w, hw, ew⟩ := inR_of e2
            have : what = nI (w + 10) := by
              rw [← nI_add, ← ew]
              simp
            rw [this] at e
            have := of_decide_eq_false e
            rw [nI_toInt (by decide), nI_toInt (by omega), nI_toInt (by omega)] at this
            omega
      rw [e10]
      refine x_ifb_ne (b := inR (what - nI 10) n) (tgt := 40) dX6_place_34 rfl (fun c3 => ?_) (fun c3 => ?_)
      ·
        obtain ⟨w, hw, ew⟩ := inR_of c3
        have ew2 : what = nI (w + 10) := by rw [← nI_add, ← ew]; simp
        subst ew2
        refine x_aload_n dX6_place_40 rfl ?_
        refine x_iconst dX6_place_41 ic_0 ?_
        refine x_callVv 5 ml_X6_132 in_X6_lookAtAll se_X6_lookAtAll ct_X6_lookAtAll rfl (c_lookAtAll (d := 4) (x := nI 0) (by decide) h1 hn hh ha hL hM hF) dX6_place_42 (by decide) rfl rfl rfl rfl (Nat.le_of_ble_eq_true rfl) (fun J0 h0 => ?_)
        obtain ⟨q1, q2⟩ := h0
        refine x_iload_n dX6_place_45 rfl ?_
        refine x_bipush dX6_place_46 bp_9 ?_
        refine x_icmpn_le (a := w + 10) (b := 9) (by omega) (by omega) (tgt := 66) dX6_place_48 rfl (fun e0 => ?_) (fun e0 => ?_)
        ·
          omega
        ·
          refine x_aload_n dX6_place_51 rfl ?_
          refine x_getR 5 9 rfl (by decide) fl_X6_26 dX6_place_52 rfl rfl rfl ?_
          refine x_bipush dX6_place_55 bp_8 ?_
          refine x_iload_n dX6_place_57 rfl ?_
          refine x_imul (v := nI (8 * j)) dX6_place_58 (pk_mul _ _) ?_
          refine x_iload_n dX6_place_59 rfl ?_
          refine x_iadd (v := nI ((8 * j) + (w + 10))) dX6_place_60 (nI_add _ _) ?_
          refine x_bipush dX6_place_61 bp_10 ?_
          refine x_isub (v := nI (((8 * j) + (w + 10)) - 10)) dX6_place_63 (pk_sub (by omega)) ?_
          refine x_iald (p := 8 * j + w) (v := nI (cAt (bests n h a) j w)) dX6_place_64 rfl rfl rfl (by congr 1) (by omega) (q1.2.2.2.2.2.1 j w hj (by omega)) ?_
          refine x_ireti dX6_place_65 rfl ⟨by rw [spPlace]; dsimp only; rw [c, if_pos rfl, if_neg (nIe (by omega) (by omega) (by omega)), if_neg (nIe (by omega) (by omega) (by omega)), c3, if_pos rfl, ew, tN_nI (by omega), tN_nI (by omega)]; rfl, hR.base q2⟩
      ·
        refine x_bipush dX6_place_37 bp_m2 ?_
        refine x_ireti dX6_place_39 rfl ⟨by rw [spPlace]; dsimp only; rw [c, if_pos rfl, if_neg (out_ne c2 (by decide) (by decide)), if_neg (out_ne c2 (by decide) (by decide)), c3]; rfl, hR⟩
  ·
    refine x_iconst dX6_place_8 ic_m1 ?_
    refine x_ireti dX6_place_9 rfl ⟨by rw [spPlace]; dsimp only; rw [c]; rfl, hR⟩
end MP
