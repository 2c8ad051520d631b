/-! the class: its calls -/
section KP
variable {I : xMem} {W : WS}
theorem k_least (hW : WOk W) (hR : CR I W) : Cx LX yX5_least mX5_least 8 [.ref 0] I (xRi (fun r J => r = spLeast W ∧ CR J W)) := by
  obtain ⟨⟨n, h, a, L⟩, im⟩ := W
  have h1 : 1 ≤ n := hW.1.1
  have hn : n ≤ 8 := hW.1.2.1
  have hh : ∀ g, h g < 1024 := hW.1.2.2.1
  have ha : ∀ g, a g < 256 := hW.1.2.2.2.1
  have hL : ∀ p, p < n → L p < n := hW.1.2.2.2.2.1
  have hinj : ∀ p q, p < n → q < n → L p = L q → p = q := hW.1.2.2.2.2.2.1
  have hL8 : ∀ p, p < 8 → L p < 8 := hW.1.2.2.2.2.2.2
  have htl := tot_lt (n := n) (h := h) (a := a) hn
  refine Cx.of [.ref 0, .null] (by decide) rfl rfl (Nat.le_of_ble_eq_true rfl) rfl ?_
  refine x_aload_n dX5_least_0 rfl ?_
  refine x_callVr 4 ml_X5_91 in_X5_knownBest se_X5_knownBest ct_X5_knownBest rfl (c_knownBest hW hR) dX5_least_1 (by decide) rfl rfl rfl rfl (Nat.le_of_ble_eq_true rfl) (fun r0 J0 h0 => ?_)
  obtain ⟨rfl, r1, r4⟩ := h0
  refine x_astore_n (ls' := [.ref 0, .ref 14]) dX5_least_4 rfl rfl ?_
  refine x_aload_n dX5_least_5 rfl ?_
  refine x_callVi 0 ml_X5_99 in_X0_total se_X0_total ct_X0_total rfl (c_total (d := 0) (tot_at h1 (r1.bok r4).1)) dX5_least_6 (by decide) rfl rfl rfl rfl (Nat.le_of_ble_eq_true rfl) (fun r0 J0 h0 => ?_)
  obtain ⟨rfl, hJ0⟩ := h0
  obtain rfl := hJ0.symm
  have hB : BOk J0 n h a := (r1.bok r4).1
  refine x_ifn_ne (a := tot n h a) (by omega) (tgt := 17) dX5_least_9 rfl (fun c => ?_) (fun c => ?_)
  ·
    obtain ⟨m, m1, m2, m3⟩ := few_at hn hh hB c
    refine x_aload_n dX5_least_17 rfl ?_
    refine x_getI 0 2 (v := nI m) rfl (by decide) fl_X5_103 dX5_least_18 rfl rfl rfl m2 ?_
    refine x_ireti dX5_least_21 rfl ⟨by rw [spLeast]; dsimp only; rw [m1]; rfl, r1⟩
  ·
    refine x_bipush dX5_least_12 bp_m6 ?_
    refine x_goto (tgt := 21) dX5_least_14 rfl ?_
    refine x_ireti dX5_least_21 rfl ⟨by rw [spLeast]; dsimp only; rw [(tot_0 hn).mp c]; rfl, r1⟩
theorem k_best (hW : WOk W) (hR : CR I W) : Cx LX yX5_best mX5_best 8 [.ref 0] I (xRi (fun r J => r = spBest W ∧ CR J W)) := by
  obtain ⟨⟨n, h, a, L⟩, im⟩ := W
  have h1 : 1 ≤ n := hW.1.1
  have hn : n ≤ 8 := hW.1.2.1
  have hh : ∀ g, h g < 1024 := hW.1.2.2.1
  have ha : ∀ g, a g < 256 := hW.1.2.2.2.1
  have hL : ∀ p, p < n → L p < n := hW.1.2.2.2.2.1
  have hinj : ∀ p q, p < n → q < n → L p = L q → p = q := hW.1.2.2.2.2.2.1
  have hL8 : ∀ p, p < 8 → L p < 8 := hW.1.2.2.2.2.2.2
  refine Cx.of [.ref 0] (by decide) rfl rfl (Nat.le_of_ble_eq_true rfl) rfl ?_
  refine x_aload_n dX5_best_0 rfl ?_
  refine x_callVr 4 ml_X5_91 in_X5_knownBest se_X5_knownBest ct_X5_knownBest rfl (c_knownBest hW hR) dX5_best_1 (by decide) rfl rfl rfl rfl (Nat.le_of_ble_eq_true rfl) (fun r0 J0 h0 => ?_)
  obtain ⟨rfl, r1, r4⟩ := h0
  refine x_callVi 0 ml_X5_99 in_X0_total se_X0_total ct_X0_total rfl (c_total (d := 0) (tot_at h1 (r1.bok r4).1)) dX5_best_4 (by decide) rfl rfl rfl rfl (Nat.le_of_ble_eq_true rfl) (fun r0 J0 h0 => ?_)
  obtain ⟨rfl, hJ0⟩ := h0
  obtain rfl := hJ0.symm
  refine x_ireti dX5_best_7 rfl ⟨by rw [spBest, tot_len hn]; rfl, r1⟩
theorem k_row {p : Int32} (hW : WOk W) (hR : CR I W) : Cx LX yX5_row mX5_row 8 [.ref 0, .int p] I (xRi (fun r J => r = spRow p W ∧ CR J W)) := by
  obtain ⟨⟨n, h, a, L⟩, im⟩ := W
  have h1 : 1 ≤ n := hW.1.1
  have hn : n ≤ 8 := hW.1.2.1
  have hh : ∀ g, h g < 1024 := hW.1.2.2.1
  have ha : ∀ g, a g < 256 := hW.1.2.2.2.1
  have hL : ∀ p, p < n → L p < n := hW.1.2.2.2.2.1
  have hinj : ∀ p q, p < n → q < n → L p = L q → p = q := hW.1.2.2.2.2.2.1
  have hL8 : ∀ p, p < 8 → L p < 8 := hW.1.2.2.2.2.2.2
  have hD : DigAt I 1 n h a L := hR.1
  refine Cx.of [.ref 0, .int p] (by decide) rfl rfl (Nat.le_of_ble_eq_true rfl) rfl ?_
  refine x_aload_n dX5_row_0 rfl ?_
  refine x_iload_n dX5_row_1 rfl ?_
  refine x_callVi 4 ml_X5_106 in_X5_isPlace se_X5_isPlace ct_X5_isPlace rfl (c_isPlace (d := 0) hD.1 hn) dX5_row_2 (by decide) rfl rfl rfl rfl (Nat.le_of_ble_eq_true rfl) (fun r0 J0 h0 => ?_)
  obtain ⟨rfl, hJ0⟩ := h0
  obtain rfl := hJ0.symm
  refine x_ifb_eq (b := inR p n) (tgt := 20) dX5_row_5 rfl (fun c => ?_) (fun c => ?_)
  ·
    refine x_bipush dX5_row_20 bp_m2 ?_
    refine x_ireti dX5_row_22 rfl ⟨by rw [spRow]; dsimp only; rw [c]; rfl, hR⟩
  ·
    obtain ⟨j, hj, rfl⟩ := inR_of c
    refine x_aload_n dX5_row_8 rfl ?_
    refine x_getR 4 0 rfl (by decide) fl_X5_12 dX5_row_9 rfl rfl rfl ?_
    refine x_getR 1 3 rfl (by decide) fl_X5_140 dX5_row_12 rfl rfl rfl ?_
    refine x_iload_n dX5_row_15 rfl ?_
    refine x_iald (p := j) (v := nI (L j)) dX5_row_16 rfl rfl rfl rfl (by omega) (hD.2.2.2 j (by omega)) ?_
    refine x_goto (tgt := 22) dX5_row_17 rfl ?_
    refine x_ireti dX5_row_22 rfl ⟨by rw [spRow]; dsimp only; rw [if_pos c, tN_nI (by omega)], hR⟩
theorem k_alike {x y : Int32} (hW : WOk W) (hR : CR I W) : Cx LX yX5_alike mX5_alike 8 [.ref 0, .int x, .int y] I (xRi (fun r J => r = spAlike x y W ∧ CR J W)) := by
  obtain ⟨⟨n, h, a, L⟩, im⟩ := W
  have h1 : 1 ≤ n := hW.1.1
  have hn : n ≤ 8 := hW.1.2.1
  have hh : ∀ g, h g < 1024 := hW.1.2.2.1
  have ha : ∀ g, a g < 256 := hW.1.2.2.2.1
  have hL : ∀ p, p < n → L p < n := hW.1.2.2.2.2.1
  have hinj : ∀ p q, p < n → q < n → L p = L q → p = q := hW.1.2.2.2.2.2.1
  have hL8 : ∀ p, p < 8 → L p < 8 := hW.1.2.2.2.2.2.2
  have hD : DigAt I 1 n h a L := hR.1
  refine Cx.of [.ref 0, .int x, .int y] (by decide) rfl rfl (Nat.le_of_ble_eq_true rfl) rfl ?_
  refine x_aload_n dX5_alike_0 rfl ?_
  refine x_iload_n dX5_alike_1 rfl ?_
  refine x_callVi 4 ml_X5_48 in_X5_isGrave se_X5_isGrave ct_X5_isGrave rfl (c_isGrave (d := 0) hD.1 hn) dX5_alike_2 (by decide) rfl rfl rfl rfl (Nat.le_of_ble_eq_true rfl) (fun r0 J0 h0 => ?_)
  obtain ⟨rfl, hJ0⟩ := h0
  obtain rfl := hJ0.symm
  refine x_ifb_eq (b := inR x n) (tgt := 16) dX5_alike_5 rfl (fun c => ?_) (fun c => ?_)
  ·
    refine x_iconst dX5_alike_16 ic_m1 ?_
    refine x_ireti dX5_alike_17 rfl ⟨by rw [spAlike]; dsimp only; rw [c]; rfl, hR⟩
  ·
    obtain ⟨j, hj, rfl⟩ := inR_of c
    refine x_aload_n dX5_alike_8 rfl ?_
    refine x_iload_n dX5_alike_9 rfl ?_
    refine x_callVi 4 ml_X5_48 in_X5_isGrave se_X5_isGrave ct_X5_isGrave rfl (c_isGrave (d := 0) hD.1 hn) dX5_alike_10 (by decide) rfl rfl rfl rfl (Nat.le_of_ble_eq_true rfl) (fun r0 J0 h0 => ?_)
    obtain ⟨rfl, hJ0⟩ := h0
    obtain rfl := hJ0.symm
    refine x_ifb_ne (b := inR y n) (tgt := 18) dX5_alike_13 rfl (fun c2 => ?_) (fun c2 => ?_)
    ·
      obtain ⟨k, hk, rfl⟩ := inR_of c2
      refine x_aload_n dX5_alike_18 rfl ?_
      refine x_getR 4 0 rfl (by decide) fl_X5_12 dX5_alike_19 rfl rfl rfl ?_
      refine x_getR 1 1 rfl (by decide) fl_X5_58 dX5_alike_22 rfl rfl rfl ?_
      refine x_iload_n dX5_alike_25 rfl ?_
      refine x_iald (p := j) (v := nI (h j)) dX5_alike_26 rfl rfl rfl rfl (by omega) (hD.2.1 j (by omega)) ?_
      refine x_aload_n dX5_alike_27 rfl ?_
      refine x_getR 4 0 rfl (by decide) fl_X5_12 dX5_alike_28 rfl rfl rfl ?_
      refine x_getR 1 1 rfl (by decide) fl_X5_58 dX5_alike_31 rfl rfl rfl ?_
      refine x_iload_n dX5_alike_34 rfl ?_
      refine x_iald (p := k) (v := nI (h k)) dX5_alike_35 rfl rfl rfl rfl (by omega) (hD.2.1 k (by omega)) ?_
      refine x_iand (v := nI ((h j) &&& (h k))) dX5_alike_36 (nI_and _ _) ?_
      refine x_callSi (as := [.int (nI ((h j) &&& (h k)))]) ml_X5_66 st_J6_bitCount_0f7a4 ct_J6_bitCount_0f7a4 (c_bitCount (d := 0) (and_lt1024 (s := h k) (hh j))) dX5_alike_37 (by decide) rfl rfl (Nat.le_of_ble_eq_true rfl) (fun r0 J0 h0 => ?_)
      obtain ⟨rfl, hJ0⟩ := h0
      obtain rfl := hJ0.symm
      refine x_ireti dX5_alike_40 rfl ⟨by rw [spAlike]; dsimp only; rw [c, c2, tN_nI (by omega), tN_nI (by omega)]; rfl, hR⟩
    ·
      refine x_iconst dX5_alike_16 ic_m1 ?_
      refine x_ireti dX5_alike_17 rfl ⟨by rw [spAlike]; dsimp only; rw [c, c2]; rfl, hR⟩
theorem sw_no {what : Int32} {m : Nat} (hm : m < 100) (o1 : what.toInt < 0 ∨ (m : Int) < what.toInt) : ∀ j : Nat, j ≤ m → ¬ what = nI j := fun j hj e => by
  rw [e, nI_toInt (by omega)] at o1; omega
theorem k_grave {g what : Int32} (hW : WOk W) (hR : CR I W) : Cx LX yX5_grave mX5_grave 8 [.ref 0, .int g, .int what] I (xRi (fun r J => r = spGrave g what W ∧ CR J W)) := by
  obtain ⟨⟨n, h, a, L⟩, im⟩ := W
  have h1 : 1 ≤ n := hW.1.1
  have hn : n ≤ 8 := hW.1.2.1
  have hh : ∀ g, h g < 1024 := hW.1.2.2.1
  have ha : ∀ g, a g < 256 := hW.1.2.2.2.1
  have hL : ∀ p, p < n → L p < n := hW.1.2.2.2.2.1
  have hinj : ∀ p q, p < n → q < n → L p = L q → p = q := hW.1.2.2.2.2.2.1
  have hL8 : ∀ p, p < 8 → L p < 8 := hW.1.2.2.2.2.2.2
  have hD : DigAt I 1 n h a L := hR.1
  refine Cx.of [.ref 0, .int g, .int what] (by decide) rfl rfl (Nat.le_of_ble_eq_true rfl) rfl ?_
  refine x_aload_n dX5_grave_0 rfl ?_
  refine x_iload_n dX5_grave_1 rfl ?_
  refine x_callVi 4 ml_X5_48 in_X5_isGrave se_X5_isGrave ct_X5_isGrave rfl (c_isGrave (d := 0) hD.1 hn) dX5_grave_2 (by decide) rfl rfl rfl rfl (Nat.le_of_ble_eq_true rfl) (fun r0 J0 h0 => ?_)
  obtain ⟨rfl, hJ0⟩ := h0
  obtain rfl := hJ0.symm
  refine x_ifb_ne (b := inR g n) (tgt := 10) dX5_grave_5 rfl (fun c => ?_) (fun c => ?_)
  ·
    obtain ⟨j, hj, rfl⟩ := inR_of c
    refine x_iload_n dX5_grave_10 rfl ?_
    by_cases o1 : what.toInt < 0 ∨ 3 < what.toInt
    ·
      have no := sw_no (m := 3) (by decide) o1
      refine x_tableOut (tgt := 78) dX5_grave_11 (by omega) (by decide) ?_
      refine x_bipush dX5_grave_78 bp_m2 ?_
      refine x_ireti dX5_grave_80 rfl ⟨by rw [spGrave]; dsimp only; rw [if_pos c, if_neg (no 0 (by decide)), if_neg (no 1 (by decide)), if_neg (no 2 (by decide)), if_neg (no 3 (by decide))], hR⟩
    ·
      rcases (show what.toInt = 0 ∨ what.toInt = 1 ∨ what.toInt = 2 ∨ what.toInt = 3 by omega) with e | e | e | e
      ·
        refine x_tableIn (tgt := 40) (off := 29) dX5_grave_11 (by omega) (by omega) (by rw [e]; rfl) (by decide) ?_
        have e' := int_of (k := 0) e (by decide)
        refine x_aload_n dX5_grave_40 rfl ?_
        refine x_getR 4 0 rfl (by decide) fl_X5_12 dX5_grave_41 rfl rfl rfl ?_
        refine x_getR 1 1 rfl (by decide) fl_X5_58 dX5_grave_44 rfl rfl rfl ?_
        refine x_iload_n dX5_grave_47 rfl ?_
        refine x_iald (p := j) (v := nI (h j)) dX5_grave_48 rfl rfl rfl rfl (by omega) (hD.2.1 j (by omega)) ?_
        refine x_ireti dX5_grave_49 rfl ⟨by rw [spGrave]; dsimp only; rw [if_pos c, if_pos e', tN_nI (by omega)], hR⟩
      ·
        refine x_tableIn (tgt := 50) (off := 39) dX5_grave_11 (by omega) (by omega) (by rw [e]; rfl) (by decide) ?_
        have e' := int_of (k := 1) e (by decide)
        refine x_aload_n dX5_grave_50 rfl ?_
        refine x_getR 4 0 rfl (by decide) fl_X5_12 dX5_grave_51 rfl rfl rfl ?_
        refine x_getR 1 2 rfl (by decide) fl_X5_72 dX5_grave_54 rfl rfl rfl ?_
        refine x_iload_n dX5_grave_57 rfl ?_
        refine x_iald (p := j) (v := nI (a j)) dX5_grave_58 rfl rfl rfl rfl (by omega) (hD.2.2.1 j (by omega)) ?_
        refine x_ireti dX5_grave_59 rfl ⟨by rw [spGrave]; dsimp only; rw [if_pos c, e', if_neg (nIe (by decide) (by decide) (by decide)), if_pos rfl, tN_nI (by omega)], hR⟩
      ·
        refine x_tableIn (tgt := 60) (off := 49) dX5_grave_11 (by omega) (by omega) (by rw [e]; rfl) (by decide) ?_
        have e' := int_of (k := 2) e (by decide)
        refine x_aload_n dX5_grave_60 rfl ?_
        refine x_getR 4 0 rfl (by decide) fl_X5_12 dX5_grave_61 rfl rfl rfl ?_
        refine x_iload_n dX5_grave_64 rfl ?_
        refine x_callVi 1 ml_X5_79 in_X2_earlierThan se_X2_earlierThan ct_X2_earlierThan rfl (c_earlierThan (d := 1) (by decide) (by omega) ha hD hn) dX5_grave_65 (by decide) rfl rfl rfl rfl (Nat.le_of_ble_eq_true rfl) (fun r0 J0 h0 => ?_)
        obtain ⟨rfl, hJ0⟩ := h0
        obtain rfl := hJ0.symm
        refine x_ireti dX5_grave_68 rfl ⟨by rw [spGrave]; dsimp only; rw [if_pos c, e', if_neg (nIe (by decide) (by decide) (by decide)), if_neg (nIe (by decide) (by decide) (by decide)), if_pos rfl, tN_nI (by omega)], hR⟩
      ·
        refine x_tableIn (tgt := 69) (off := 58) dX5_grave_11 (by omega) (by omega) (by rw [e]; rfl) (by decide) ?_
        have e' := int_of (k := 3) e (by decide)
        obtain ⟨o1, o2⟩ := plOf_ok hW.1
        have o2j := o2 j hj
        refine x_aload_n dX5_grave_69 rfl ?_
        refine x_getR 4 0 rfl (by decide) fl_X5_12 dX5_grave_70 rfl rfl rfl ?_
        refine x_iload_n dX5_grave_73 rfl ?_
        refine x_callVi 1 ml_X5_82 in_X2_placeInLine se_X2_placeInLine ct_X2_placeInLine rfl (c_placeInLine (d := 0) (x := j) (p0 := plOf (n, h, a, L) j) o2j.1 (by omega) hL8 (fun p hp => ⟨fun e => by rw [← e]; exact ((o1 p hp).2).symm, fun e => by rw [e]; exact o2j.2⟩) hD hn) dX5_grave_74 (by decide) rfl rfl rfl rfl (Nat.le_of_ble_eq_true rfl) (fun r0 J0 h0 => ?_)
        obtain ⟨rfl, hJ0⟩ := h0
        obtain rfl := hJ0.symm
        refine x_ireti dX5_grave_77 rfl ⟨by rw [spGrave]; dsimp only; rw [if_pos c, e', if_neg (nIe (by decide) (by decide) (by decide)), if_neg (nIe (by decide) (by decide) (by decide)), if_neg (nIe (by decide) (by decide) (by decide)), if_pos rfl, tN_nI (by omega)], hR⟩
  ·
    refine x_iconst dX5_grave_8 ic_m1 ?_
    refine x_ireti dX5_grave_9 rfl ⟨by rw [spGrave]; dsimp only; rw [c]; rfl, hR⟩
theorem k_sort {s what : Int32} (hW : WOk W) (hR : CR I W) : Cx LX yX5_sort mX5_sort 8 [.ref 0, .int s, .int what] I (xRi (fun r J => r = spSort s what W ∧ CR J W)) := by
  obtain ⟨⟨n, h, a, L⟩, im⟩ := W
  have h1 : 1 ≤ n := hW.1.1
  have hn : n ≤ 8 := hW.1.2.1
  have hh : ∀ g, h g < 1024 := hW.1.2.2.1
  have ha : ∀ g, a g < 256 := hW.1.2.2.2.1
  have hL : ∀ p, p < n → L p < n := hW.1.2.2.2.2.1
  have hinj : ∀ p q, p < n → q < n → L p = L q → p = q := hW.1.2.2.2.2.2.1
  have hL8 : ∀ p, p < 8 → L p < 8 := hW.1.2.2.2.2.2.2
  have hD : DigAt I 1 n h a L := hR.1
  refine Cx.of [.ref 0, .int s, .int what] (by decide) rfl rfl (Nat.le_of_ble_eq_true rfl) rfl ?_
  refine x_iload_n dX5_sort_0 rfl ?_
  refine x_callSi (as := [.int s]) ml_X5_52 st_X5_isSort ct_X5_isSort (c_isSort (d := 0)) dX5_sort_1 (by decide) rfl rfl (Nat.le_of_ble_eq_true rfl) (fun r0 J0 h0 => ?_)
  obtain ⟨rfl, hJ0⟩ := h0
  obtain rfl := hJ0.symm
  refine x_ifb_ne (b := inR s 10) (tgt := 9) dX5_sort_4 rfl (fun c => ?_) (fun c => ?_)
  ·
    obtain ⟨j, hj, rfl⟩ := inR_of c
    refine x_iload_n dX5_sort_9 rfl ?_
    by_cases o1 : what.toInt < 0 ∨ 2 < what.toInt
    ·
      have no := sw_no (m := 2) (by decide) o1
      refine x_tableOut (tgt := 69) dX5_sort_10 (by omega) (by decide) ?_
      refine x_bipush dX5_sort_69 bp_m2 ?_
      refine x_ireti dX5_sort_71 rfl ⟨by rw [spSort, if_pos c, if_neg (no 0 (by decide)), if_neg (no 1 (by decide)), if_neg (no 2 (by decide))], hR⟩
    ·
      rcases (show what.toInt = 0 ∨ what.toInt = 1 ∨ what.toInt = 2 by omega) with e | e | e
      ·
        refine x_tableIn (tgt := 36) (off := 26) dX5_sort_10 (by omega) (by omega) (by rw [e]; rfl) (by decide) ?_
        have e' := int_of (k := 0) e (by decide)
        refine x_aload_n dX5_sort_36 rfl ?_
        refine x_getR 4 0 rfl (by decide) fl_X5_12 dX5_sort_37 rfl rfl rfl ?_
        refine x_iload_n dX5_sort_40 rfl ?_
        refine x_callVi 1 ml_X5_85 in_X2_gravesWith se_X2_gravesWith ct_X2_gravesWith rfl (c_gravesWith (d := 1) (by decide) (by omega) hh hD hn) dX5_sort_41 (by decide) rfl rfl rfl rfl (Nat.le_of_ble_eq_true rfl) (fun r0 J0 h0 => ?_)
        obtain ⟨rfl, hJ0⟩ := h0
        obtain rfl := hJ0.symm
        refine x_ireti dX5_sort_44 rfl ⟨by rw [spSort, if_pos c, if_pos e', tN_nI (by omega)], hR⟩
      ·
        refine x_tableIn (tgt := 45) (off := 35) dX5_sort_10 (by omega) (by omega) (by rw [e]; rfl) (by decide) ?_
        have e' := int_of (k := 1) e (by decide)
        have hfs := fS_tr (h := h) (n := n) hj (row_cov hW.1)
        refine x_aload_n dX5_sort_45 rfl ?_
        refine x_getR 4 0 rfl (by decide) fl_X5_12 dX5_sort_46 rfl rfl rfl ?_
        refine x_iconst dX5_sort_49 ic_1 ?_
        refine x_iload_n dX5_sort_50 rfl ?_
        refine x_ishl (v := nI (1 <<< j)) dX5_sort_51 (nI_shl _ (by omega)) ?_
        refine x_callVi 1 ml_X5_88 in_X2_lineBreaks se_X2_lineBreaks ct_X2_lineBreaks rfl (c_lineBreaks (d := 1) (by decide) hh (fun p hp => by have := hL p hp; omega) hD hn hfs.2) dX5_sort_52 (by decide) rfl rfl rfl rfl (Nat.le_of_ble_eq_true rfl) (fun r0 J0 h0 => ?_)
        obtain ⟨rfl, hJ0⟩ := h0
        obtain rfl := hJ0.symm
        refine x_ireti dX5_sort_55 rfl ⟨by rw [spSort, if_pos c, e', if_neg (nIe (by decide) (by decide) (by decide)), if_pos rfl, tN_nI (by omega), hfs.1]; rfl, hR⟩
      ·
        refine x_tableIn (tgt := 56) (off := 46) dX5_sort_10 (by omega) (by omega) (by rw [e]; rfl) (by decide) ?_
        have e' := int_of (k := 2) e (by decide)
        refine x_aload_n dX5_sort_56 rfl ?_
        refine x_callVr 4 ml_X5_91 in_X5_knownBest se_X5_knownBest ct_X5_knownBest rfl (c_knownBest hW hR) dX5_sort_57 (by decide) rfl rfl rfl rfl (Nat.le_of_ble_eq_true rfl) (fun r0 J0 h0 => ?_)
        obtain ⟨rfl, r1, r4⟩ := h0
        refine x_iload_n dX5_sort_60 rfl ?_
        refine x_aload_n dX5_sort_61 rfl ?_
        refine x_getR 4 0 rfl (by decide) fl_X5_12 dX5_sort_62 rfl rfl rfl ?_
        have hB : BOk J0 n h a := (r1.bok r4).1
        have hD0 : DigAt J0 1 n h a L := r1.1
        refine x_callVi 0 ml_X5_95 in_X0_fewestBreaksOf se_X0_fewestBreaksOf ct_X0_fewestBreaksOf rfl (c_fewestBreaksOf (d := 4) (by decide) h1 hn hj hh hD0 hB) dX5_sort_65 (by decide) rfl rfl rfl rfl (Nat.le_of_ble_eq_true rfl) (fun r0 J1 h0 => ?_)
        obtain ⟨q1, q2⟩ := h0
        refine x_ireti dX5_sort_68 rfl ⟨by rw [q1, fS_min h1 hn hj, spSort, if_pos c, e', if_neg (nIe (by decide) (by decide) (by decide)), if_neg (nIe (by decide) (by decide) (by decide)), if_pos rfl, tN_nI (by omega)]; rfl, r1.scr (fun c c1 c2 _ => q2 c c1 c2)⟩
  ·
    refine x_iconst dX5_sort_7 ic_m1 ?_
    refine x_ireti dX5_sort_8 rfl ⟨by rw [spSort, c]; rfl, hR⟩
theorem k_order {x p : Int32} (hW : WOk W) (hR : CR I W) : Cx LX yX5_order mX5_order 8 [.ref 0, .int x, .int p] I (xRi (fun r J => r = spOrder x p W ∧ CR J W)) := by
  obtain ⟨⟨n, h, a, L⟩, im⟩ := W
  have h1 : 1 ≤ n := hW.1.1
  have hn : n ≤ 8 := hW.1.2.1
  have hh : ∀ g, h g < 1024 := hW.1.2.2.1
  have ha : ∀ g, a g < 256 := hW.1.2.2.2.1
  have hL : ∀ p, p < n → L p < n := hW.1.2.2.2.2.1
  have hinj : ∀ p q, p < n → q < n → L p = L q → p = q := hW.1.2.2.2.2.2.1
  have hL8 : ∀ p, p < 8 → L p < 8 := hW.1.2.2.2.2.2.2
  have hD : DigAt I 1 n h a L := hR.1
  have htl := tot_lt (n := n) (h := h) (a := a) hn
  refine Cx.of [.ref 0, .int x, .int p, .null] (by decide) rfl rfl (Nat.le_of_ble_eq_true rfl) rfl ?_
  refine x_iload_n dX5_order_0 rfl ?_
  refine x_if_lt (tgt := 12) dX5_order_1 rfl (fun c0 => ?_) (fun c0 => ?_)
  ·
    refine x_bipush dX5_order_12 bp_m2 ?_
    refine x_ireti dX5_order_14 rfl ⟨by rw [spOrder, if_neg (fun hc => hc.1 c0)], hR⟩
  ·
    obtain ⟨i, hi, rfl⟩ := nI_of c0
    refine x_aload_n dX5_order_4 rfl ?_
    refine x_iload_n dX5_order_5 rfl ?_
    refine x_callVi 4 ml_X5_106 in_X5_isPlace se_X5_isPlace ct_X5_isPlace rfl (c_isPlace (d := 0) hD.1 hn) dX5_order_6 (by decide) rfl rfl rfl rfl (Nat.le_of_ble_eq_true rfl) (fun r0 J0 h0 => ?_)
    obtain ⟨rfl, hJ0⟩ := h0
    obtain rfl := hJ0.symm
    refine x_ifb_ne (b := inR p n) (tgt := 15) dX5_order_9 rfl (fun c => ?_) (fun c => ?_)
    ·
      obtain ⟨j, hj, rfl⟩ := inR_of c
      refine x_aload_n dX5_order_15 rfl ?_
      refine x_callVr 4 ml_X5_91 in_X5_knownBest se_X5_knownBest ct_X5_knownBest rfl (c_knownBest hW hR) dX5_order_16 (by decide) rfl rfl rfl rfl (Nat.le_of_ble_eq_true rfl) (fun r0 J0 h0 => ?_)
      obtain ⟨rfl, r1, r4⟩ := h0
      refine x_astore_n (ls' := [.ref 0, .int (nI i), .int (nI j), .ref 14]) dX5_order_19 rfl rfl ?_
      refine x_iload_n dX5_order_20 rfl ?_
      refine x_aload_n dX5_order_21 rfl ?_
      refine x_callVi 0 ml_X5_99 in_X0_total se_X0_total ct_X0_total rfl (c_total (d := 0) (tot_at h1 (r1.bok r4).1)) dX5_order_22 (by decide) rfl rfl rfl rfl (Nat.le_of_ble_eq_true rfl) (fun r0 J0 h0 => ?_)
      obtain ⟨rfl, hJ0⟩ := h0
      obtain rfl := hJ0.symm
      have hB : BOk J0 n h a := (r1.bok r4).1
      refine x_icmpn_lt (a := i) (b := tot n h a) (by omega) (by omega) (tgt := 33) dX5_order_25 rfl (fun d1 => ?_) (fun d1 => ?_)
      ·
        have hlt : i < (bests n h a).length := by rw [← tot_len hn]; exact d1
        have hat : (bests n h a)[i]? = some ((bests n h a)[i]) := List.getElem?_eq_getElem hlt
        have hg := gaF_at h1 hn hat hj
        refine x_aload_n dX5_order_33 rfl ?_
        refine x_iload_n dX5_order_34 rfl ?_
        refine x_iload_n dX5_order_35 rfl ?_
        refine x_callVi 0 ml_X5_109 in_X0_graveAt se_X0_graveAt ct_X0_graveAt rfl (c_graveAt (d := 1) (i := i) (p := j) (by decide) h1 hn hi hj hB) dX5_order_36 (by decide) rfl rfl rfl rfl (Nat.le_of_ble_eq_true rfl) (fun r0 J0 h0 => ?_)
        obtain ⟨rfl, hJ0⟩ := h0
        obtain rfl := hJ0.symm
        refine x_ireti dX5_order_39 rfl ⟨?_, r1⟩
        rw [spOrder, if_pos ⟨c0, c⟩, tN_nI hi, tN_nI (by omega)]
        show _ = (match (bests n h a)[i]? with | none => (-6 : Int32) | some w => nI (w.getD j 0))
        rw [hat, hg]
      ·
        have hno : (bests n h a)[i]? = none := List.getElem?_eq_none (by rw [← tot_len hn]; omega)
        refine x_bipush dX5_order_28 bp_m6 ?_
        refine x_goto (tgt := 39) dX5_order_30 rfl ?_
        refine x_ireti dX5_order_39 rfl ⟨?_, r1⟩
        rw [spOrder, if_pos ⟨c0, c⟩, tN_nI hi]
        show _ = (match (bests n h a)[i]? with | none => (-6 : Int32) | some w => _)
        rw [hno]
    ·
      refine x_bipush dX5_order_12 bp_m2 ?_
      refine x_ireti dX5_order_14 rfl ⟨by rw [spOrder, if_neg (fun hc => by have h2 := hc.2; dsimp only at h2; rw [c] at h2; cases h2)], hR⟩
theorem k_before {x y : Int32} (hW : WOk W) (hR : CR I W) : Cx LX yX5_before mX5_before 8 [.ref 0, .int x, .int y] I (xRi (fun r J => r = spBefore x y W ∧ CR J W)) := by
  obtain ⟨⟨n, h, a, L⟩, im⟩ := W
  have h1 : 1 ≤ n := hW.1.1
  have hn : n ≤ 8 := hW.1.2.1
  have hh : ∀ g, h g < 1024 := hW.1.2.2.1
  have ha : ∀ g, a g < 256 := hW.1.2.2.2.1
  have hL : ∀ p, p < n → L p < n := hW.1.2.2.2.2.1
  have hinj : ∀ p q, p < n → q < n → L p = L q → p = q := hW.1.2.2.2.2.2.1
  have hL8 : ∀ p, p < 8 → L p < 8 := hW.1.2.2.2.2.2.2
  have hD : DigAt I 1 n h a L := hR.1
  refine Cx.of [.ref 0, .int x, .int y] (by decide) rfl rfl (Nat.le_of_ble_eq_true rfl) rfl ?_
  refine x_aload_n dX5_before_0 rfl ?_
  refine x_iload_n dX5_before_1 rfl ?_
  refine x_callVi 4 ml_X5_48 in_X5_isGrave se_X5_isGrave ct_X5_isGrave rfl (c_isGrave (d := 0) hD.1 hn) dX5_before_2 (by decide) rfl rfl rfl rfl (Nat.le_of_ble_eq_true rfl) (fun r0 J0 h0 => ?_)
  obtain ⟨rfl, hJ0⟩ := h0
  obtain rfl := hJ0.symm
  refine x_ifb_eq (b := inR x n) (tgt := 16) dX5_before_5 rfl (fun c => ?_) (fun c => ?_)
  ·
    refine x_iconst dX5_before_16 ic_m1 ?_
    refine x_ireti dX5_before_17 rfl ⟨by rw [spBefore]; dsimp only; rw [c]; rfl, hR⟩
  ·
    obtain ⟨j, hj, rfl⟩ := inR_of c
    refine x_aload_n dX5_before_8 rfl ?_
    refine x_iload_n dX5_before_9 rfl ?_
    refine x_callVi 4 ml_X5_48 in_X5_isGrave se_X5_isGrave ct_X5_isGrave rfl (c_isGrave (d := 0) hD.1 hn) dX5_before_10 (by decide) rfl rfl rfl rfl (Nat.le_of_ble_eq_true rfl) (fun r0 J0 h0 => ?_)
    obtain ⟨rfl, hJ0⟩ := h0
    obtain rfl := hJ0.symm
    refine x_ifb_ne (b := inR y n) (tgt := 18) dX5_before_13 rfl (fun c2 => ?_) (fun c2 => ?_)
    ·
      obtain ⟨k, hk, rfl⟩ := inR_of c2
      refine x_iload_n dX5_before_18 rfl ?_
      refine x_iload_n dX5_before_19 rfl ?_
      refine x_icmpn_ne (a := j) (b := k) (by omega) (by omega) (tgt := 26) dX5_before_20 rfl (fun c3 => ?_) (fun c3 => ?_)
      ·
        refine x_aload_n dX5_before_26 rfl ?_
        refine x_callVr 4 ml_X5_91 in_X5_knownBest se_X5_knownBest ct_X5_knownBest rfl (c_knownBest hW hR) dX5_before_27 (by decide) rfl rfl rfl rfl (Nat.le_of_ble_eq_true rfl) (fun r0 J0 h0 => ?_)
        obtain ⟨rfl, r1, r4⟩ := h0
        refine x_iload_n dX5_before_30 rfl ?_
        refine x_iload_n dX5_before_31 rfl ?_
        have hB : BOk J0 n h a := (r1.bok r4).1
        refine x_callVi 0 ml_X5_125 in_X0_ordersWithFirst se_X0_ordersWithFirst ct_X0_ordersWithFirst rfl (c_ordersWithFirst (d := 2) (by decide) hn hj hk hB) dX5_before_32 (by decide) rfl rfl rfl rfl (Nat.le_of_ble_eq_true rfl) (fun r0 J0 h0 => ?_)
        obtain ⟨rfl, hJ0⟩ := h0
        obtain rfl := hJ0.symm
        refine x_ireti dX5_before_35 rfl ⟨by rw [spBefore]; dsimp only; rw [c, c2, Bool.and_self, if_pos rfl, if_neg (nIe (by omega) (by omega) c3), tN_nI (by omega), tN_nI (by omega), owF_eq hn hj hk c3]; rfl, r1⟩
      ·
        subst c3
        refine x_bipush dX5_before_23 bp_m2 ?_
        refine x_ireti dX5_before_25 rfl ⟨by rw [spBefore]; dsimp only; rw [c, Bool.and_self, if_pos rfl, if_pos rfl], hR⟩
    ·
      refine x_iconst dX5_before_16 ic_m1 ?_
      refine x_ireti dX5_before_17 rfl ⟨by rw [spBefore]; dsimp only; rw [c, c2]; rfl, hR⟩
end KP
