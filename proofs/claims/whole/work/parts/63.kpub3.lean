/-! the class: its calls, the rest -/
section KP
variable {I : xMem} {W : WS}
theorem nrst_0 {n : Nat} {h a L : Nat → Nat} (e : bests n h a = []) : nrst (n, h, a, L) = none := by
  show nrs _ none (bests n h a) = none
  rw [e]; rfl
theorem k_nearest {p : Int32} (hW : WOk W) (hR : CR I W) : Cx LX yX5_nearest mX5_nearest 8 [.ref 0, .int p] I (xRi (fun r J => r = spNearest p W ∧ CR J W)) := by
  obtain ⟨⟨n, h, a, L⟩, im⟩ := W
  have h1 : 1 ≤ n := hW.1.1
  have hn : n ≤ 8 := hW.1.2.1
  have hh : ∀ g, h g < 1024 := hW.1.2.2.1
  have ha : ∀ g, a g < 256 := hW.1.2.2.2.1
  have hL : ∀ p, p < n → L p < n := hW.1.2.2.2.2.1
  have hinj : ∀ p q, p < n → q < n → L p = L q → p = q := hW.1.2.2.2.2.2.1
  have hL8 : ∀ p, p < 8 → L p < 8 := hW.1.2.2.2.2.2.2
  have hD : DigAt I 1 n h a L := hR.1
  have htl := tot_lt (n := n) (h := h) (a := a) hn
  have body : inB p (-1) (nI (n - 1)) = true → (p = (-1) ∨ inR p n = true) → Wx LX mX5_nearest 8 (xRi (fun r J => r = spNearest p ((n, h, a, L), im) ∧ CR J ((n, h, a, L), im))) 16 [.ref 0, .int p, .null] [] I := by
    intro hin hor
    refine x_aload_n dX5_nearest_16 rfl ?_
    refine x_callVr 4 ml_X5_91 in_X5_knownBest se_X5_knownBest ct_X5_knownBest rfl (c_knownBest hW hR) dX5_nearest_17 (by decide) rfl rfl rfl rfl (Nat.le_of_ble_eq_true rfl) (fun r0 J0 h0 => ?_)
    obtain ⟨rfl, r1, r4⟩ := h0
    refine x_astore_n (ls' := [.ref 0, .int p, .ref 14]) dX5_nearest_20 rfl rfl ?_
    refine x_aload_n dX5_nearest_21 rfl ?_
    refine x_callVi 0 ml_X5_99 in_X0_total se_X0_total ct_X0_total rfl (c_total (d := 0) (tot_at h1 (r1.bok r4).1)) dX5_nearest_22 (by decide) rfl rfl rfl rfl (Nat.le_of_ble_eq_true rfl) (fun r0 J0 h0 => ?_)
    obtain ⟨rfl, hJ0⟩ := h0
    obtain rfl := hJ0.symm
    refine x_ifn_ne (a := tot n h a) (by omega) (tgt := 31) dX5_nearest_25 rfl (fun d1 => ?_) (fun d1 => ?_)
    ·
      have hV : bst (n, h, a, L) ≠ [] := fun e => d1 ((bests_0 hn).mpr e)
      refine x_aload_n dX5_nearest_31 rfl ?_
      refine x_aload_n dX5_nearest_32 rfl ?_
      refine x_callVv 4 ml_X5_156 in_X5_knowWay se_X5_knowWay ct_X5_knowWay rfl (c_knowWay hW r1 r4 hV) dX5_nearest_33 (by decide) rfl rfl rfl rfl (Nat.le_of_ble_eq_true rfl) (fun J1 h0 => ?_)
      obtain ⟨s1, s4, w, w1, w2, w3, w4⟩ := h0
      refine x_iload_n dX5_nearest_36 rfl ?_
      refine x_iconst dX5_nearest_37 ic_m1 ?_
      have ea : spNearest p ((n, h, a, L), im) = if p = (-1) then nI (stp n L w) else nI (w.getD (tN p) 0) := by
        rw [spNearest]; dsimp only; rw [hin, if_pos rfl, w1]
      rw [ea]
      refine x_icmp_ne (tgt := 48) dX5_nearest_38 rfl (fun d2 => ?_) (fun d2 => ?_)
      ·
        rcases hor with e | e
        · exact absurd e d2
        · obtain ⟨j, hj, rfl⟩ := inR_of e
          refine x_aload_n dX5_nearest_48 rfl ?_
          refine x_getR 0 11 rfl (by decide) fl_X5_163 dX5_nearest_49 rfl rfl rfl ?_
          refine x_iload_n dX5_nearest_52 rfl ?_
          refine x_iald (p := j) (v := nI (w.getD j 0)) dX5_nearest_53 rfl rfl rfl rfl (by omega) (w4 j hj) ?_
          refine x_ireti dX5_nearest_54 rfl ⟨by rw [if_neg d2, tN_nI (by omega)], s1⟩
      ·
        refine x_aload_n dX5_nearest_41 rfl ?_
        refine x_getI 0 4 (v := nI (stp n L w)) rfl (by decide) fl_X5_160 dX5_nearest_42 rfl rfl rfl w3 ?_
        refine x_goto (tgt := 54) dX5_nearest_45 rfl ?_
        refine x_ireti dX5_nearest_54 rfl ⟨by rw [if_pos d2], s1⟩
    ·
      refine x_bipush dX5_nearest_28 bp_m6 ?_
      refine x_ireti dX5_nearest_30 rfl ⟨by rw [spNearest]; dsimp only; rw [hin, if_pos rfl, nrst_0 ((bests_0 hn).mp d1)], r1⟩
  have m1 : (-1 : Int32).toInt = -1 := by decide
  refine Cx.of [.ref 0, .int p, .null] (by decide) rfl rfl (Nat.le_of_ble_eq_true rfl) rfl ?_
  refine x_iload_n dX5_nearest_0 rfl ?_
  refine x_iconst dX5_nearest_1 ic_m1 ?_
  refine x_icmp_eq (tgt := 16) dX5_nearest_2 rfl (fun c0 => ?_) (fun c0 => ?_)
  ·
    exact body (by subst c0; exact decide_eq_true (by rw [m1, nI_toInt (by omega)]; omega)) (Or.inl c0)
  ·
    refine x_aload_n dX5_nearest_5 rfl ?_
    refine x_iload_n dX5_nearest_6 rfl ?_
    refine x_callVi 4 ml_X5_106 in_X5_isPlace se_X5_isPlace ct_X5_isPlace rfl (c_isPlace (d := 0) hD.1 hn) dX5_nearest_7 (by decide) rfl rfl rfl rfl (Nat.le_of_ble_eq_true rfl) (fun r0 J0 h0 => ?_)
    obtain ⟨rfl, hJ0⟩ := h0
    obtain rfl := hJ0.symm
    refine x_ifb_ne (b := inR p n) (tgt := 16) dX5_nearest_10 rfl (fun c => ?_) (fun c => ?_)
    ·
      have hc := of_decide_eq_true c
      exact body (decide_eq_true (by rw [m1, nI_toInt (by omega)]; omega)) (Or.inr c)
    ·
      refine x_bipush dX5_nearest_13 bp_m2 ?_
      refine x_ireti dX5_nearest_15 rfl ⟨?_, hR⟩
      rw [spNearest]; dsimp only
      rw [if_neg]
      intro hin
      have hx := of_decide_eq_true hin
      rw [m1, nI_toInt (by omega)] at hx
      have hc := of_decide_eq_false c
      apply c0
      apply Int32.toInt_inj.mp
      rw [m1]; omega
theorem cp_n {I : xMem} {k0 k1 m j : Nat} : va_up I k1 (va_cpy (I k0) (I k1) 0 0 m) k1 j = if j < m then I k0 j else I k1 j := by
  simp only [va_up, if_pos, va_cpy]
  by_cases e : j < m
  · rw [if_pos ⟨Nat.zero_le _, by omega⟩, if_pos e]; simp
  · rw [if_neg (by omega), if_neg e]
theorem k_settle (hW : WOk W) (hR : CR I W) : Cx LX yX5_settle mX5_settle 8 [.ref 0] I (xRi (fun r J => r = (spSettle W).1 ∧ CR J (spSettle W).2)) := by
  obtain ⟨⟨n, h, a, L⟩, im⟩ := W
  have h1 : 1 ≤ n := hW.1.1
  have hn : n ≤ 8 := hW.1.2.1
  have hh : ∀ g, h g < 1024 := hW.1.2.2.1
  have ha : ∀ g, a g < 256 := hW.1.2.2.2.1
  have hL : ∀ p, p < n → L p < n := hW.1.2.2.2.2.1
  have hinj : ∀ p q, p < n → q < n → L p = L q → p = q := hW.1.2.2.2.2.2.1
  have hL8 : ∀ p, p < 8 → L p < 8 := hW.1.2.2.2.2.2.2
  have htl := tot_lt (n := n) (h := h) (a := a) hn
  refine Cx.of [.ref 0, .null, .null] (by decide) rfl rfl (Nat.le_of_ble_eq_true rfl) rfl ?_
  refine x_aload_n dX5_settle_0 rfl ?_
  refine x_callVr 4 ml_X5_91 in_X5_knownBest se_X5_knownBest ct_X5_knownBest rfl (c_knownBest hW hR) dX5_settle_1 (by decide) rfl rfl rfl rfl (Nat.le_of_ble_eq_true rfl) (fun r0 J0 h0 => ?_)
  obtain ⟨rfl, r1, r4⟩ := h0
  refine x_astore_n (ls' := [.ref 0, .ref 14, .null]) dX5_settle_4 rfl rfl ?_
  refine x_aload_n dX5_settle_5 rfl ?_
  refine x_callVi 0 ml_X5_99 in_X0_total se_X0_total ct_X0_total rfl (c_total (d := 0) (tot_at h1 (r1.bok r4).1)) dX5_settle_6 (by decide) rfl rfl rfl rfl (Nat.le_of_ble_eq_true rfl) (fun r0 J0 h0 => ?_)
  obtain ⟨rfl, hJ0⟩ := h0
  obtain rfl := hJ0.symm
  refine x_ifn_ne (a := tot n h a) (by omega) (tgt := 15) dX5_settle_9 rfl (fun d1 => ?_) (fun d1 => ?_)
  ·
    have hV : bst (n, h, a, L) ≠ [] := fun e => d1 ((bests_0 hn).mpr e)
    refine x_aload_n dX5_settle_15 rfl ?_
    refine x_aload_n dX5_settle_16 rfl ?_
    refine x_callVv 4 ml_X5_156 in_X5_knowWay se_X5_knowWay ct_X5_knowWay rfl (c_knowWay hW r1 r4 hV) dX5_settle_17 (by decide) rfl rfl rfl rfl (Nat.le_of_ble_eq_true rfl) (fun J1 h0 => ?_)
    obtain ⟨s1, s4, w, w1, w2, w3, w4⟩ := h0
    have e0 : spSettle ((n, h, a, L), im) = (nI (stp n L w), setL ((n, h, a, L), im) (fun p => if p < n then w.getD p 0 else L p)) := by
      rw [spSettle]; dsimp only; rw [w1]
    have hD1 : DigAt J1 1 n h a L := s1.1
    rw [e0]
    refine x_aload_n dX5_settle_20 rfl ?_
    refine x_getI 0 4 (v := nI (stp n L w)) rfl (by decide) fl_X5_160 dX5_settle_21 rfl rfl rfl w3 ?_
    refine x_istore_n (ls' := [.ref 0, .ref 14, .int (nI (stp n L w))]) dX5_settle_24 rfl rfl ?_
    refine x_aload_n dX5_settle_25 rfl ?_
    refine x_getR 0 11 rfl (by decide) fl_X5_163 dX5_settle_26 rfl rfl rfl ?_
    refine x_iconst dX5_settle_29 ic_0 ?_
    refine x_aload_n dX5_settle_30 rfl ?_
    refine x_getR 4 0 rfl (by decide) fl_X5_12 dX5_settle_31 rfl rfl rfl ?_
    refine x_getR 1 3 rfl (by decide) fl_X5_140 dX5_settle_34 rfl rfl rfl ?_
    refine x_iconst dX5_settle_37 ic_0 ?_
    refine x_aload_n dX5_settle_38 rfl ?_
    refine x_getR 4 0 rfl (by decide) fl_X5_12 dX5_settle_39 rfl rfl rfl ?_
    refine x_getI 1 0 (v := nI n) rfl (by decide) fl_X5_38 dX5_settle_42 rfl rfl rfl hD1.1 ?_
    refine x_copy ml_X5_166 nat_copy stat_copy ini_J10 dX5_settle_45 (by decide) rfl rfl rfl rfl (Nat.le_of_ble_eq_true rfl) rfl rfl rfl (by omega) (by omega) rfl rfl ?_
    refine x_aload_n dX5_settle_48 rfl ?_
    refine x_iconst dX5_settle_49 ic_0 ?_
    refine x_put 4 5 rfl (by decide) fl_X5_35 rfl rfl (narZ (by decide)) (fitZ (by decide)) dX5_settle_50 rfl rfl rfl ?_
    refine x_iload_n dX5_settle_53 rfl ?_
    refine x_ireti dX5_settle_54 rfl ⟨rfl, ?_⟩
    refine s1.row ⟨?_, fun g hg => ?_, fun g hg => ?_, fun g hg => ?_⟩ (fun q hq => ?_) ?_ (fun c hc => ?_)
    · rw [xup_ne (by decide), cp_ne (by decide)]; exact hD1.1
    · rw [xup_ne (by decide), cp_ne (by decide)]; exact hD1.2.1 g hg
    · rw [xup_ne (by decide), cp_ne (by decide)]; exact hD1.2.2.1 g hg
    · rw [xup_ne (by decide)]
      show va_up J1 4 (va_cpy (J1 21) (J1 4) 0 0 n) 4 g = _
      rw [cp_n]
      dsimp only
      by_cases e : g < n
      · rw [if_pos e, if_pos e, w4 g e]
      · rw [if_neg e, if_neg e]; exact hD1.2.2.2 g hg
    · rw [xup_eq, if_neg hq, cp_ne (by decide)]
    · rw [xup_eq, if_pos rfl]
    · rw [xup_ne (by omega), cp_ne (by omega)]
  ·
    have e0 : spSettle ((n, h, a, L), im) = (-3, ((n, h, a, L), im)) := by
      rw [spSettle]; dsimp only; rw [nrst_0 ((bests_0 hn).mp d1)]
    refine x_bipush dX5_settle_12 bp_m3 ?_
    refine x_ireti dX5_settle_14 rfl ⟨by rw [e0], by rw [e0]; exact r1⟩
theorem k_count {what : Int32} (hW : WOk W) (hR : CR I W) : Cx LX yX5_count mX5_count 8 [.ref 0, .int what] I (xRi (fun r J => r = spCount what W ∧ CR J W)) := by
  obtain ⟨⟨n, h, a, L⟩, im⟩ := W
  have h1 : 1 ≤ n := hW.1.1
  have hn : n ≤ 8 := hW.1.2.1
  have hh : ∀ g, h g < 1024 := hW.1.2.2.1
  have ha : ∀ g, a g < 256 := hW.1.2.2.2.1
  have hL : ∀ p, p < n → L p < n := hW.1.2.2.2.2.1
  have hinj : ∀ p q, p < n → q < n → L p = L q → p = q := hW.1.2.2.2.2.2.1
  have hL8 : ∀ p, p < 8 → L p < 8 := hW.1.2.2.2.2.2.2
  have hD : DigAt I 1 n h a L := hR.1
  refine Cx.of [.ref 0, .int what] (by decide) rfl rfl (Nat.le_of_ble_eq_true rfl) rfl ?_
  refine x_iload_n dX5_count_0 rfl ?_
  by_cases o1 : what.toInt < 0 ∨ 3 < what.toInt
  ·
    have no := sw_no (m := 3) (by decide) o1
    refine x_tableOut (tgt := 67) dX5_count_1 (by omega) (by decide) ?_
    refine x_bipush dX5_count_67 bp_m2 ?_
    refine x_ireti dX5_count_69 rfl ⟨by rw [spCount, if_neg (no 0 (by decide)), if_neg (no 1 (by decide)), if_neg (no 2 (by decide)), if_neg (no 3 (by decide))], hR⟩
  ·
    rcases (show what.toInt = 0 ∨ what.toInt = 1 ∨ what.toInt = 2 ∨ what.toInt = 3 by omega) with e | e | e | e
    ·
      refine x_tableIn (tgt := 32) (off := 31) dX5_count_1 (by omega) (by omega) (by rw [e]; rfl) (by decide) ?_
      have e' := int_of (k := 0) e (by decide)
      refine x_aload_n dX5_count_32 rfl ?_
      refine x_getR 4 0 rfl (by decide) fl_X5_12 dX5_count_33 rfl rfl rfl ?_
      refine x_getI 1 0 (v := nI n) rfl (by decide) fl_X5_38 dX5_count_36 rfl rfl rfl hD.1 ?_
      refine x_ireti dX5_count_39 rfl ⟨by rw [spCount, if_pos e'], hR⟩
    ·
      refine x_tableIn (tgt := 40) (off := 39) dX5_count_1 (by omega) (by omega) (by rw [e]; rfl) (by decide) ?_
      have e' := int_of (k := 1) e (by decide)
      refine x_aload_n dX5_count_40 rfl ?_
      refine x_getR 4 0 rfl (by decide) fl_X5_12 dX5_count_41 rfl rfl rfl ?_
      refine x_getR 1 1 rfl (by decide) fl_X5_58 dX5_count_44 rfl rfl rfl ?_
      refine x_callSi (as := [.ref 2]) ml_X5_75 st_X5_membersOfAll ct_X5_membersOfAll (c_members_2 (d := 1) (f := h) (by decide) hh hD.2.1) dX5_count_47 (by decide) rfl rfl (Nat.le_of_ble_eq_true rfl) (fun r0 J0 h0 => ?_)
      obtain ⟨rfl, hJ0⟩ := h0
      obtain rfl := hJ0.symm
      refine x_ireti dX5_count_50 rfl ⟨by rw [spCount, e', if_neg (nIe (by decide) (by decide) (by decide)), if_pos rfl], hR⟩
    ·
      refine x_tableIn (tgt := 51) (off := 50) dX5_count_1 (by omega) (by omega) (by rw [e]; rfl) (by decide) ?_
      have e' := int_of (k := 2) e (by decide)
      refine x_aload_n dX5_count_51 rfl ?_
      refine x_getR 4 0 rfl (by decide) fl_X5_12 dX5_count_52 rfl rfl rfl ?_
      refine x_getR 1 2 rfl (by decide) fl_X5_72 dX5_count_55 rfl rfl rfl ?_
      refine x_callSi (as := [.ref 3]) ml_X5_75 st_X5_membersOfAll ct_X5_membersOfAll (c_members_3 (d := 1) (f := a) (by decide) (fun g => by have := ha g; omega) hD.2.2.1) dX5_count_58 (by decide) rfl rfl (Nat.le_of_ble_eq_true rfl) (fun r0 J0 h0 => ?_)
      obtain ⟨rfl, hJ0⟩ := h0
      obtain rfl := hJ0.symm
      refine x_ireti dX5_count_61 rfl ⟨by rw [spCount, e', if_neg (nIe (by decide) (by decide) (by decide)), if_neg (nIe (by decide) (by decide) (by decide)), if_pos rfl], hR⟩
    ·
      refine x_tableIn (tgt := 62) (off := 61) dX5_count_1 (by omega) (by omega) (by rw [e]; rfl) (by decide) ?_
      have e' := int_of (k := 3) e (by decide)
      refine x_aload_n dX5_count_62 rfl ?_
      refine x_getI 4 2 (v := nI (im.1.1.toNat + 2 * im.2.1.toNat)) rfl (by decide) fl_X5_20 dX5_count_63 rfl rfl rfl hR.2.1 ?_
      refine x_ireti dX5_count_66 rfl ⟨by rw [spCount, e', if_neg (nIe (by decide) (by decide) (by decide)), if_neg (nIe (by decide) (by decide) (by decide)), if_neg (nIe (by decide) (by decide) (by decide)), if_pos rfl], hR⟩
theorem km_0 (x y : Bool) : wmem (x.toNat + 2 * y.toNat) 0 1 = true.toNat + 2 * y.toNat := by cases x <;> cases y <;> decide
theorem km_1 (x y : Bool) : wmem (x.toNat + 2 * y.toNat) 1 1 = x.toNat + 2 * true.toNat := by cases x <;> cases y <;> decide
theorem kb_0 (x y : Bool) : (x.toNat + 2 * y.toNat).testBit 0 = x := by cases x <;> cases y <;> decide
theorem kb_1 (x y : Bool) : (x.toNat + 2 * y.toNat).testBit 1 = y := by cases x <;> cases y <;> decide
theorem kb_lt (x y : Bool) : x.toNat + 2 * y.toNat < 2 ^ 31 := by cases x <;> cases y <;> decide
theorem kept_fr {I J : xMem} {W : WS} {x y : Bool × ST} (hR : CR I W) (h0 : ∀ j, j ≠ 2 → J 0 j = I 0 j) (hf : ∀ c, c ≠ 0 → c < 6 ∨ 14 ≤ c → J c = I c) (h2 : J 0 2 = nI (x.1.toNat + 2 * y.1.toNat)) (hx : x.1 = true → DgT J 6 x.2) (hy : y.1 = true → DgT J 10 y.2) : CR J (W.1, x, y) := by
  refine ⟨hR.1.fr (hf 1 (by decide) (by decide)) (hf 2 (by decide) (by decide)) (hf 3 (by decide) (by decide)) (hf 4 (by decide) (by decide)), h2, hx, hy, ?_, ?_⟩
  · rw [h0 4 (by decide)]
    exact hR.2.2.2.2.1.imp id (fun e => ⟨e.1, e.2.fr (fun j _ => by rw [hf 14 (by decide) (by decide)]) (hf 15 (by decide) (by decide)) (hf 16 (by decide) (by decide)) (hf 17 (by decide) (by decide)) (hf 19 (by decide) (by decide)) (hf 20 (by decide) (by decide))⟩)
  · rw [h0 4 (by decide), h0 5 (by decide)]
    exact hR.2.2.2.2.2.imp id (fun e => ⟨e.1, e.2.1, e.2.2.fr (by rw [hf 14 (by decide) (by decide)]) (hf 21 (by decide) (by decide))⟩)
theorem k_image {k : Int32} (hW : WOk W) (hR : CR I W) : Cx LX yX5_image mX5_image 8 [.ref 0, .int k] I (xRi (fun r J => r = (spImage k W).1 ∧ CR J (spImage k W).2)) := by
  obtain ⟨⟨n, h, a, L⟩, im⟩ := W
  have h1 : 1 ≤ n := hW.1.1
  have hn : n ≤ 8 := hW.1.2.1
  have hh : ∀ g, h g < 1024 := hW.1.2.2.1
  have ha : ∀ g, a g < 256 := hW.1.2.2.2.1
  have hL : ∀ p, p < n → L p < n := hW.1.2.2.2.2.1
  have hinj : ∀ p q, p < n → q < n → L p = L q → p = q := hW.1.2.2.2.2.2.1
  have hL8 : ∀ p, p < 8 → L p < 8 := hW.1.2.2.2.2.2.2
  have hD : DigAt I 1 n h a L := hR.1
  obtain ⟨⟨x, X⟩, ⟨y, Y⟩⟩ := im
  have hk0 : I 0 2 = nI (x.toNat + 2 * y.toNat) := hR.2.1
  refine Cx.of [.ref 0, .int k] (by decide) rfl rfl (Nat.le_of_ble_eq_true rfl) rfl ?_
  refine x_iload_n dX5_image_0 rfl ?_
  refine x_callSi (as := [.int k]) ml_X5_172 st_X5_isImage ct_X5_isImage (c_isImage (d := 0)) dX5_image_1 (by decide) rfl rfl (Nat.le_of_ble_eq_true rfl) (fun r0 J0 h0 => ?_)
  obtain ⟨rfl, hJ0⟩ := h0
  obtain rfl := hJ0.symm
  refine x_ifb_ne (b := inR k 2) (tgt := 10) dX5_image_4 rfl (fun c => ?_) (fun c => ?_)
  ·
    obtain ⟨j, hj, rfl⟩ := inR_of c
    rcases (show j = 0 ∨ j = 1 by omega) with rfl | rfl
    ·
      have e0 : spImage (nI 0) ((n, h, a, L), (x, X), (y, Y)) = (nI 1, ((n, h, a, L), (true, (n, h, a, L)), (y, Y))) := by
        rw [spImage, if_pos rfl]
      rw [e0]
      refine x_aload_n dX5_image_10 rfl ?_
      refine x_getR 4 1 rfl (by decide) fl_X5_16 dX5_image_11 rfl rfl rfl ?_
      refine x_iload_n dX5_image_14 rfl ?_
      refine x_aald (p := 0) (r := 6) dX5_image_15 rfl rfl rfl rfl (by omega) rfl ?_
      refine x_aload_n dX5_image_16 rfl ?_
      refine x_getR 4 0 rfl (by decide) fl_X5_12 dX5_image_17 rfl rfl rfl ?_
      refine x_callVv 1 ml_X5_175 in_X2_become se_X2_become ct_X2_become rfl (c_become_6_1 (d := 1) (by decide) hD) dX5_image_20 (by decide) rfl rfl rfl rfl (Nat.le_of_ble_eq_true rfl) (fun J0 h0 => ?_)
      obtain ⟨b1, bf⟩ := h0
      refine x_aload_n dX5_image_23 rfl ?_
      refine x_aload_n dX5_image_24 rfl ?_
      refine x_getI 4 2 (v := nI (x.toNat + 2 * y.toNat)) rfl (by decide) fl_X5_20 dX5_image_25 rfl rfl rfl (by rw [bf 0 (by decide) (by decide) (by decide) (by decide)]; exact hk0) ?_
      refine x_iload_n dX5_image_28 rfl ?_
      refine x_iconst dX5_image_29 ic_1 ?_
      refine x_callSi (as := [.int (nI (x.toNat + 2 * y.toNat)), .int (nI 0), .int (nI 1)]) ml_X5_62 st_X5_withMember ct_X5_withMember (c_withMember (d := 0) (by decide)) dX5_image_30 (by decide) rfl rfl (Nat.le_of_ble_eq_true rfl) (fun r0 J0 h0 => ?_)
      obtain ⟨rfl, hJ0⟩ := h0
      obtain rfl := hJ0.symm
      refine x_put 4 2 rfl (by decide) fl_X5_20 rfl rfl rfl rfl dX5_image_33 rfl rfl rfl ?_
      refine x_iconst dX5_image_36 ic_1 ?_
      refine x_ireti dX5_image_37 rfl ⟨rfl, ?_⟩
      rw [km_0]
      refine kept_fr (W := ((n, h, a, L), (x, X), (y, Y))) hR (fun q hq => ?_) (fun c c1 c2 => ?_) ?_ (fun _ => ?_) (fun ky => ?_)
      · rw [xup_eq, if_neg hq, bf 0 (by decide) (by decide) (by decide) (by decide)]
      · rw [xup_ne c1, bf c (by omega) (by omega) (by omega) (by omega)]
      · rw [xup_eq, if_pos rfl]
      · exact DgT.fr (T := (n, h, a, L)) b1 (xup_ne (by decide)) (xup_ne (by decide)) (xup_ne (by decide)) (xup_ne (by decide))
      · refine (hR.2.2.2.1 ky).fr ?_ ?_ ?_ ?_
        · rw [xup_ne (by decide)]; exact bf 10 (by decide) (by decide) (by decide) (by decide)
        · rw [xup_ne (by decide)]; exact bf 11 (by decide) (by decide) (by decide) (by decide)
        · rw [xup_ne (by decide)]; exact bf 12 (by decide) (by decide) (by decide) (by decide)
        · rw [xup_ne (by decide)]; exact bf 13 (by decide) (by decide) (by decide) (by decide)
    ·
      have e0 : spImage (nI 1) ((n, h, a, L), (x, X), (y, Y)) = (nI 1, ((n, h, a, L), (x, X), (true, (n, h, a, L)))) := by
        rw [spImage, if_neg (nIe (by decide) (by decide) (by decide)), if_pos rfl]
      rw [e0]
      refine x_aload_n dX5_image_10 rfl ?_
      refine x_getR 4 1 rfl (by decide) fl_X5_16 dX5_image_11 rfl rfl rfl ?_
      refine x_iload_n dX5_image_14 rfl ?_
      refine x_aald (p := 1) (r := 10) dX5_image_15 rfl rfl rfl rfl (by omega) rfl ?_
      refine x_aload_n dX5_image_16 rfl ?_
      refine x_getR 4 0 rfl (by decide) fl_X5_12 dX5_image_17 rfl rfl rfl ?_
      refine x_callVv 1 ml_X5_175 in_X2_become se_X2_become ct_X2_become rfl (c_become_10_1 (d := 1) (by decide) hD) dX5_image_20 (by decide) rfl rfl rfl rfl (Nat.le_of_ble_eq_true rfl) (fun J0 h0 => ?_)
      obtain ⟨b1, bf⟩ := h0
      refine x_aload_n dX5_image_23 rfl ?_
      refine x_aload_n dX5_image_24 rfl ?_
      refine x_getI 4 2 (v := nI (x.toNat + 2 * y.toNat)) rfl (by decide) fl_X5_20 dX5_image_25 rfl rfl rfl (by rw [bf 0 (by decide) (by decide) (by decide) (by decide)]; exact hk0) ?_
      refine x_iload_n dX5_image_28 rfl ?_
      refine x_iconst dX5_image_29 ic_1 ?_
      refine x_callSi (as := [.int (nI (x.toNat + 2 * y.toNat)), .int (nI 1), .int (nI 1)]) ml_X5_62 st_X5_withMember ct_X5_withMember (c_withMember (d := 0) (by decide)) dX5_image_30 (by decide) rfl rfl (Nat.le_of_ble_eq_true rfl) (fun r0 J0 h0 => ?_)
      obtain ⟨rfl, hJ0⟩ := h0
      obtain rfl := hJ0.symm
      refine x_put 4 2 rfl (by decide) fl_X5_20 rfl rfl rfl rfl dX5_image_33 rfl rfl rfl ?_
      refine x_iconst dX5_image_36 ic_1 ?_
      refine x_ireti dX5_image_37 rfl ⟨rfl, ?_⟩
      rw [km_1]
      refine kept_fr (W := ((n, h, a, L), (x, X), (y, Y))) hR (fun q hq => ?_) (fun c c1 c2 => ?_) ?_ (fun kx => ?_) (fun _ => ?_)
      · rw [xup_eq, if_neg hq, bf 0 (by decide) (by decide) (by decide) (by decide)]
      · rw [xup_ne c1, bf c (by omega) (by omega) (by omega) (by omega)]
      · rw [xup_eq, if_pos rfl]
      · refine (hR.2.2.1 kx).fr ?_ ?_ ?_ ?_
        · rw [xup_ne (by decide)]; exact bf 6 (by decide) (by decide) (by decide) (by decide)
        · rw [xup_ne (by decide)]; exact bf 7 (by decide) (by decide) (by decide) (by decide)
        · rw [xup_ne (by decide)]; exact bf 8 (by decide) (by decide) (by decide) (by decide)
        · rw [xup_ne (by decide)]; exact bf 9 (by decide) (by decide) (by decide) (by decide)
      · exact DgT.fr (T := (n, h, a, L)) b1 (xup_ne (by decide)) (xup_ne (by decide)) (xup_ne (by decide)) (xup_ne (by decide))
  ·
    have e0 : spImage k ((n, h, a, L), (x, X), (y, Y)) = (-2, ((n, h, a, L), (x, X), (y, Y))) := by
      rw [spImage, if_neg (out_ne c (by decide) (by decide)), if_neg (out_ne c (by decide) (by decide))]
    refine x_bipush dX5_image_7 bp_m2 ?_
    refine x_ireti dX5_image_9 rfl ⟨by rw [e0], by rw [e0]; exact hR⟩
theorem k_restore {k : Int32} (hW : WOk W) (hR : CR I W) : Cx LX yX5_restore mX5_restore 8 [.ref 0, .int k] I (xRi (fun r J => r = (spRestore k W).1 ∧ CR J (spRestore k W).2)) := by
  obtain ⟨⟨n, h, a, L⟩, im⟩ := W
  have h1 : 1 ≤ n := hW.1.1
  have hn : n ≤ 8 := hW.1.2.1
  have hh : ∀ g, h g < 1024 := hW.1.2.2.1
  have ha : ∀ g, a g < 256 := hW.1.2.2.2.1
  have hL : ∀ p, p < n → L p < n := hW.1.2.2.2.2.1
  have hinj : ∀ p q, p < n → q < n → L p = L q → p = q := hW.1.2.2.2.2.2.1
  have hL8 : ∀ p, p < 8 → L p < 8 := hW.1.2.2.2.2.2.2
  obtain ⟨⟨x, X⟩, ⟨y, Y⟩⟩ := im
  have hk0 : I 0 2 = nI (x.toNat + 2 * y.toNat) := hR.2.1
  have hkl := kb_lt x y
  refine Cx.of [.ref 0, .int k] (by decide) rfl rfl (Nat.le_of_ble_eq_true rfl) rfl ?_
  refine x_iload_n dX5_restore_0 rfl ?_
  refine x_callSi (as := [.int k]) ml_X5_172 st_X5_isImage ct_X5_isImage (c_isImage (d := 0)) dX5_restore_1 (by decide) rfl rfl (Nat.le_of_ble_eq_true rfl) (fun r0 J0 h0 => ?_)
  obtain ⟨rfl, hJ0⟩ := h0
  obtain rfl := hJ0.symm
  refine x_ifb_ne (b := inR k 2) (tgt := 10) dX5_restore_4 rfl (fun c => ?_) (fun c => ?_)
  ·
    obtain ⟨j, hj, rfl⟩ := inR_of c
    rcases (show j = 0 ∨ j = 1 by omega) with rfl | rfl
    ·
      have ea : spRestore (nI 0) ((n, h, a, L), (x, X), (y, Y)) = if x then (nI 1, (X, (x, X), (y, Y))) else (-3, ((n, h, a, L), (x, X), (y, Y))) := by
        rw [spRestore, if_pos rfl]
      rw [ea]
      refine x_aload_n dX5_restore_10 rfl ?_
      refine x_getI 4 2 (v := nI (x.toNat + 2 * y.toNat)) rfl (by decide) fl_X5_20 dX5_restore_11 rfl rfl rfl hk0 ?_
      refine x_iload_n dX5_restore_14 rfl ?_
      refine x_callSi (as := [.int (nI (x.toNat + 2 * y.toNat)), .int (nI 0)]) ml_X5_179 st_X5_isMember ct_X5_isMember (c_isMember (d := 0) hkl (by decide)) dX5_restore_15 (by decide) rfl rfl (Nat.le_of_ble_eq_true rfl) (fun r0 J0 h0 => ?_)
      obtain ⟨rfl, hJ0⟩ := h0
      obtain rfl := hJ0.symm
      rw [kb_0]
      refine x_ifb_ne (b := x) (tgt := 24) dX5_restore_18 rfl (fun d1 => ?_) (fun d1 => ?_)
      ·
        have hX : DigAt I 6 X.1 X.2.1 X.2.2.1 X.2.2.2 := hR.2.2.1 d1
        rw [if_pos d1]
        refine x_aload_n dX5_restore_24 rfl ?_
        refine x_getR 4 0 rfl (by decide) fl_X5_12 dX5_restore_25 rfl rfl rfl ?_
        refine x_aload_n dX5_restore_28 rfl ?_
        refine x_getR 4 1 rfl (by decide) fl_X5_16 dX5_restore_29 rfl rfl rfl ?_
        refine x_iload_n dX5_restore_32 rfl ?_
        refine x_aald (p := 0) (r := 6) dX5_restore_33 rfl rfl rfl rfl (by omega) rfl ?_
        refine x_callVv 1 ml_X5_175 in_X2_become se_X2_become ct_X2_become rfl (c_become_1_6 (d := 1) (by decide) hX) dX5_restore_34 (by decide) rfl rfl rfl rfl (Nat.le_of_ble_eq_true rfl) (fun J0 h0 => ?_)
        obtain ⟨b1, bf⟩ := h0
        refine x_aload_n dX5_restore_37 rfl ?_
        refine x_callVv 4 ml_X5_45 in_X5_forgetBest se_X5_forgetBest ct_X5_forgetBest rfl (c_forgetBest (d := 0)) dX5_restore_38 (by decide) rfl rfl rfl rfl (Nat.le_of_ble_eq_true rfl) (fun J1 h0 => ?_)
        have e1 := h0
        refine x_iconst dX5_restore_41 ic_1 ?_
        refine x_ireti dX5_restore_42 rfl ⟨rfl, ?_⟩
        rw [e1]
        refine hR.st (T := X) (DgT.fr (T := X) b1 (fg_c (by decide)) (fg_c (by decide)) (fg_c (by decide)) (fg_c (by decide))) ?_ fg_0.1 fg_0.2.1 (fun c c1 c2 => ?_)
        · rw [fg_0.2.2, bf 0 (by decide) (by decide) (by decide) (by decide)]
        · rw [fg_c (by omega), bf c (by omega) (by omega) (by omega) (by omega)]
      ·
        rw [if_neg (by rw [d1]; decide)]
        refine x_bipush dX5_restore_21 bp_m3 ?_
        refine x_ireti dX5_restore_23 rfl ⟨rfl, hR⟩
    ·
      have ea : spRestore (nI 1) ((n, h, a, L), (x, X), (y, Y)) = if y then (nI 1, (Y, (x, X), (y, Y))) else (-3, ((n, h, a, L), (x, X), (y, Y))) := by
        rw [spRestore, if_neg (nIe (by decide) (by decide) (by decide)), if_pos rfl]
      rw [ea]
      refine x_aload_n dX5_restore_10 rfl ?_
      refine x_getI 4 2 (v := nI (x.toNat + 2 * y.toNat)) rfl (by decide) fl_X5_20 dX5_restore_11 rfl rfl rfl hk0 ?_
      refine x_iload_n dX5_restore_14 rfl ?_
      refine x_callSi (as := [.int (nI (x.toNat + 2 * y.toNat)), .int (nI 1)]) ml_X5_179 st_X5_isMember ct_X5_isMember (c_isMember (d := 0) hkl (by decide)) dX5_restore_15 (by decide) rfl rfl (Nat.le_of_ble_eq_true rfl) (fun r0 J0 h0 => ?_)
      obtain ⟨rfl, hJ0⟩ := h0
      obtain rfl := hJ0.symm
      rw [kb_1]
      refine x_ifb_ne (b := y) (tgt := 24) dX5_restore_18 rfl (fun d1 => ?_) (fun d1 => ?_)
      ·
        have hX : DigAt I 10 Y.1 Y.2.1 Y.2.2.1 Y.2.2.2 := hR.2.2.2.1 d1
        rw [if_pos d1]
        refine x_aload_n dX5_restore_24 rfl ?_
        refine x_getR 4 0 rfl (by decide) fl_X5_12 dX5_restore_25 rfl rfl rfl ?_
        refine x_aload_n dX5_restore_28 rfl ?_
        refine x_getR 4 1 rfl (by decide) fl_X5_16 dX5_restore_29 rfl rfl rfl ?_
        refine x_iload_n dX5_restore_32 rfl ?_
        refine x_aald (p := 1) (r := 10) dX5_restore_33 rfl rfl rfl rfl (by omega) rfl ?_
        refine x_callVv 1 ml_X5_175 in_X2_become se_X2_become ct_X2_become rfl (c_become_1_10 (d := 1) (by decide) hX) dX5_restore_34 (by decide) rfl rfl rfl rfl (Nat.le_of_ble_eq_true rfl) (fun J0 h0 => ?_)
        obtain ⟨b1, bf⟩ := h0
        refine x_aload_n dX5_restore_37 rfl ?_
        refine x_callVv 4 ml_X5_45 in_X5_forgetBest se_X5_forgetBest ct_X5_forgetBest rfl (c_forgetBest (d := 0)) dX5_restore_38 (by decide) rfl rfl rfl rfl (Nat.le_of_ble_eq_true rfl) (fun J1 h0 => ?_)
        have e1 := h0
        refine x_iconst dX5_restore_41 ic_1 ?_
        refine x_ireti dX5_restore_42 rfl ⟨rfl, ?_⟩
        rw [e1]
        refine hR.st (T := Y) (DgT.fr (T := Y) b1 (fg_c (by decide)) (fg_c (by decide)) (fg_c (by decide)) (fg_c (by decide))) ?_ fg_0.1 fg_0.2.1 (fun c c1 c2 => ?_)
        · rw [fg_0.2.2, bf 0 (by decide) (by decide) (by decide) (by decide)]
        · rw [fg_c (by omega), bf c (by omega) (by omega) (by omega) (by omega)]
      ·
        rw [if_neg (by rw [d1]; decide)]
        refine x_bipush dX5_restore_21 bp_m3 ?_
        refine x_ireti dX5_restore_23 rfl ⟨rfl, hR⟩
  ·
    have e0 : spRestore k ((n, h, a, L), (x, X), (y, Y)) = (-2, ((n, h, a, L), (x, X), (y, Y))) := by
      rw [spRestore, if_neg (out_ne c (by decide) (by decide)), if_neg (out_ne c (by decide) (by decide))]
    refine x_bipush dX5_restore_7 bp_m2 ?_
    refine x_ireti dX5_restore_9 rfl ⟨by rw [e0], by rw [e0]; exact hR⟩
theorem k_many {x : Int32} (hW : WOk W) (hR : CR I W) : Cx LX yX5_many mX5_many 8 [.ref 0, .int x] I (xRi (fun r J => r = (spMany x W).1 ∧ CR J (spMany x W).2)) := by
  obtain ⟨⟨n, h, a, L⟩, im⟩ := W
  have h1 : 1 ≤ n := hW.1.1
  have hn : n ≤ 8 := hW.1.2.1
  have hh : ∀ g, h g < 1024 := hW.1.2.2.1
  have ha : ∀ g, a g < 256 := hW.1.2.2.2.1
  have hL : ∀ p, p < n → L p < n := hW.1.2.2.2.2.1
  have hinj : ∀ p q, p < n → q < n → L p = L q → p = q := hW.1.2.2.2.2.2.1
  have hL8 : ∀ p, p < 8 → L p < 8 := hW.1.2.2.2.2.2.2
  have hD : DigAt I 1 n h a L := hR.1
  have ez : inB x (nI 1) (nI 8) = false → spMany x ((n, h, a, L), im) = (-2, ((n, h, a, L), im)) := fun e => by
    rw [spMany, e]; rfl
  refine Cx.of [.ref 0, .int x, .null] (by decide) rfl rfl (Nat.le_of_ble_eq_true rfl) rfl ?_
  refine x_iload_n dX5_many_0 rfl ?_
  refine x_iconst dX5_many_1 ic_1 ?_
  refine x_icmp_lt (tgt := 11) dX5_many_2 rfl (fun c1 => ?_) (fun c1 => ?_)
  ·
    rw [Int32.lt_iff_toInt_lt] at c1
    have e0 := ez (decide_eq_false (by omega))
    refine x_bipush dX5_many_11 bp_m2 ?_
    refine x_ireti dX5_many_13 rfl ⟨by rw [e0], by rw [e0]; exact hR⟩
  ·
    refine x_iload_n dX5_many_5 rfl ?_
    refine x_bipush dX5_many_6 bp_8 ?_
    refine x_icmp_le (tgt := 14) dX5_many_8 rfl (fun c2 => ?_) (fun c2 => ?_)
    ·
      rw [Int32.lt_iff_toInt_lt, nI_toInt (by decide)] at c1
      rw [Int32.le_iff_toInt_le, nI_toInt (by decide)] at c2
      obtain ⟨m, ⟨hm, hm8⟩, rfl⟩ : ∃ m : Nat, (1 ≤ m ∧ m ≤ 8) ∧ x = nI m := ⟨x.toInt.toNat, ⟨by omega, by omega⟩, Int32.toInt_inj.mp (by rw [nI_toInt (by omega)]; omega)⟩
      have e0 : spMany (nI m) ((n, h, a, L), im) = (nI n, ((m, szH m h, szA m a, id), im)) := by
        rw [spMany, if_pos (show inB (nI m) (nI 1) (nI 8) = true from decide_eq_true (by rw [nI_toInt (n := m) (by omega), nI_toInt (n := 1) (by decide), nI_toInt (n := 8) (by decide)]; omega)), tN_nI (by omega)]
      rw [e0]
      refine x_aload_n dX5_many_14 rfl ?_
      refine x_getR 4 0 rfl (by decide) fl_X5_12 dX5_many_15 rfl rfl rfl ?_
      refine x_getI 1 0 (v := nI n) rfl (by decide) fl_X5_38 dX5_many_18 rfl rfl rfl hD.1 ?_
      refine x_istore_n (ls' := [.ref 0, .int (nI m), .int (nI n)]) dX5_many_21 rfl rfl ?_
      refine x_aload_n dX5_many_22 rfl ?_
      refine x_getR 4 0 rfl (by decide) fl_X5_12 dX5_many_23 rfl rfl rfl ?_
      refine x_iload_n dX5_many_26 rfl ?_
      refine x_callVv 1 ml_X5_41 in_X2_resize se_X2_resize ct_X2_resize rfl (c_resize (d := 0) (m := m) hm8 hD) dX5_many_27 (by decide) rfl rfl rfl rfl (Nat.le_of_ble_eq_true rfl) (fun J0 h0 => ?_)
      obtain ⟨b1, bf⟩ := h0
      refine x_aload_n dX5_many_30 rfl ?_
      refine x_callVv 4 ml_X5_45 in_X5_forgetBest se_X5_forgetBest ct_X5_forgetBest rfl (c_forgetBest (d := 0)) dX5_many_31 (by decide) rfl rfl rfl rfl (Nat.le_of_ble_eq_true rfl) (fun J1 h0 => ?_)
      have e1 := h0
      refine x_iload_n dX5_many_34 rfl ?_
      refine x_ireti dX5_many_35 rfl ⟨rfl, ?_⟩
      rw [e1]
      refine hR.st (T := (m, szH m h, szA m a, id)) (DgT.fr (T := (m, szH m h, szA m a, id)) b1 (fg_c (by decide)) (fg_c (by decide)) (fg_c (by decide)) (fg_c (by decide))) ?_ fg_0.1 fg_0.2.1 (fun c c1 c2 => ?_)
      · rw [fg_0.2.2, bf 0 (by decide) (by decide) (by decide) (by decide)]
      · rw [fg_c (by omega), bf c (by omega) (by omega) (by omega) (by omega)]
    ·
      rw [Int32.le_iff_toInt_le] at c2
      have e0 := ez (decide_eq_false (by omega))
      refine x_bipush dX5_many_11 bp_m2 ?_
      refine x_ireti dX5_many_13 rfl ⟨by rw [e0], by rw [e0]; exact hR⟩
theorem k_find {x y z : Int32} (hW : WOk W) (hR : CR I W) : Cx LX yX5_find mX5_find 8 [.ref 0, .int x, .int y, .int z] I (xRi (fun r J => r = (spFind x y z W).1 ∧ CR J (spFind x y z W).2)) := by
  obtain ⟨⟨n, h, a, L⟩, im⟩ := W
  have h1 : 1 ≤ n := hW.1.1
  have hn : n ≤ 8 := hW.1.2.1
  have hh : ∀ g, h g < 1024 := hW.1.2.2.1
  have ha : ∀ g, a g < 256 := hW.1.2.2.2.1
  have hL : ∀ p, p < n → L p < n := hW.1.2.2.2.2.1
  have hinj : ∀ p q, p < n → q < n → L p = L q → p = q := hW.1.2.2.2.2.2.1
  have hL8 : ∀ p, p < 8 → L p < 8 := hW.1.2.2.2.2.2.2
  have hD : DigAt I 1 n h a L := hR.1
  refine Cx.of [.ref 0, .int x, .int y, .int z] (by decide) rfl rfl (Nat.le_of_ble_eq_true rfl) rfl ?_
  refine x_aload_n dX5_find_0 rfl ?_
  refine x_iload_n dX5_find_1 rfl ?_
  refine x_callVi 4 ml_X5_48 in_X5_isGrave se_X5_isGrave ct_X5_isGrave rfl (c_isGrave (d := 0) hD.1 hn) dX5_find_2 (by decide) rfl rfl rfl rfl (Nat.le_of_ble_eq_true rfl) (fun r0 J0 h0 => ?_)
  obtain ⟨rfl, hJ0⟩ := h0
  obtain rfl := hJ0.symm
  refine x_ifb_eq (b := inR x n) (tgt := 15) dX5_find_5 rfl (fun c => ?_) (fun c => ?_)
  ·
    refine x_iconst dX5_find_15 ic_m1 ?_
    have e0 : spFind x y z ((n, h, a, L), im) = (-1, ((n, h, a, L), im)) := by rw [spFind]; dsimp only; rw [c]; rfl
    refine x_ireti dX5_find_16 rfl ⟨by rw [e0], by rw [e0]; exact hR⟩
  ·
    obtain ⟨j, hj, rfl⟩ := inR_of c
    refine x_iload_n dX5_find_8 rfl ?_
    refine x_callSi (as := [.int y]) ml_X5_52 st_X5_isSort ct_X5_isSort (c_isSort (d := 0)) dX5_find_9 (by decide) rfl rfl (Nat.le_of_ble_eq_true rfl) (fun r0 J0 h0 => ?_)
    obtain ⟨rfl, hJ0⟩ := h0
    obtain rfl := hJ0.symm
    refine x_ifb_ne (b := inR y 10) (tgt := 17) dX5_find_12 rfl (fun c2 => ?_) (fun c2 => ?_)
    ·
      obtain ⟨s, hs, rfl⟩ := inR_of c2
      refine x_iload_n dX5_find_17 rfl ?_
      refine x_callSi (as := [.int z]) ml_X5_55 st_X5_isOnOrOff ct_X5_isOnOrOff (c_isOnOrOff (d := 0)) dX5_find_18 (by decide) rfl rfl (Nat.le_of_ble_eq_true rfl) (fun r0 J0 h0 => ?_)
      obtain ⟨rfl, hJ0⟩ := h0
      obtain rfl := hJ0.symm
      refine x_ifb_ne (b := inR z 2) (tgt := 27) dX5_find_21 rfl (fun c3 => ?_) (fun c3 => ?_)
      ·
        obtain ⟨q, hq, rfl⟩ := inR_of c3
        have e0 : spFind (nI j) (nI s) (nI q) ((n, h, a, L), im) = (nI (pop (wmem (h j) s q)), ((n, fup h j (wmem (h j) s q), a, L), im)) := by
          rw [spFind]; dsimp only; rw [c, c2, Bool.and_self, if_pos rfl, c3, if_pos rfl, tN_nI (by omega), tN_nI (by omega), tN_nI (by omega)]
        have hwl : wmem (h j) s q < 2 ^ 10 := wmem_lt (hh j) hs hq
        rw [e0]
        refine x_aload_n dX5_find_27 rfl ?_
        refine x_getR 4 0 rfl (by decide) fl_X5_12 dX5_find_28 rfl rfl rfl ?_
        refine x_getR 1 1 rfl (by decide) fl_X5_58 dX5_find_31 rfl rfl rfl ?_
        refine x_iload_n dX5_find_34 rfl ?_
        refine x_aload_n dX5_find_35 rfl ?_
        refine x_getR 4 0 rfl (by decide) fl_X5_12 dX5_find_36 rfl rfl rfl ?_
        refine x_getR 1 1 rfl (by decide) fl_X5_58 dX5_find_39 rfl rfl rfl ?_
        refine x_iload_n dX5_find_42 rfl ?_
        refine x_iald (p := j) (v := nI (h j)) dX5_find_43 rfl rfl rfl rfl (by omega) (hD.2.1 j (by omega)) ?_
        refine x_iload_n dX5_find_44 rfl ?_
        refine x_iload_n dX5_find_45 rfl ?_
        refine x_callSi (as := [.int (nI (h j)), .int (nI s), .int (nI q)]) ml_X5_62 st_X5_withMember ct_X5_withMember (c_withMember (d := 0) (by omega)) dX5_find_46 (by decide) rfl rfl (Nat.le_of_ble_eq_true rfl) (fun r0 J0 h0 => ?_)
        obtain ⟨rfl, hJ0⟩ := h0
        obtain rfl := hJ0.symm
        refine x_iast (p := j) dX5_find_49 rfl rfl rfl rfl (by omega) ?_
        generalize hK1 : xup I 2 j (nI (wmem (h j) s q)) = K1
        refine x_aload_n dX5_find_50 rfl ?_
        refine x_callVv 4 ml_X5_45 in_X5_forgetBest se_X5_forgetBest ct_X5_forgetBest rfl (c_forgetBest (d := 0)) dX5_find_51 (by decide) rfl rfl rfl rfl (Nat.le_of_ble_eq_true rfl) (fun J1 h0 => ?_)
        have e1 := h0
        refine x_aload_n dX5_find_54 rfl ?_
        refine x_getR 4 0 rfl (by decide) fl_X5_12 dX5_find_55 rfl rfl rfl ?_
        refine x_getR 1 1 rfl (by decide) fl_X5_58 dX5_find_58 rfl rfl rfl ?_
        refine x_iload_n dX5_find_61 rfl ?_
        refine x_iald (p := j) (v := nI (wmem (h j) s q)) dX5_find_62 rfl rfl rfl rfl (by omega) (by rw [e1, fg_c (by decide), ← hK1, xup_eq, if_pos rfl]) ?_
        refine x_callSi (as := [.int (nI (wmem (h j) s q))]) ml_X5_66 st_J6_bitCount_0f7a4 ct_J6_bitCount_0f7a4 (c_bitCount (d := 0) hwl) dX5_find_63 (by decide) rfl rfl (Nat.le_of_ble_eq_true rfl) (fun r0 J0 h0 => ?_)
        obtain ⟨rfl, hJ0⟩ := h0
        obtain rfl := hJ0.symm
        refine x_ireti dX5_find_66 rfl ⟨rfl, ?_⟩
        rw [e1]
        refine hR.st (T := (n, fup h j (wmem (h j) s q), a, L)) ⟨?_, fun g hg => ?_, fun g hg => ?_, fun g hg => ?_⟩ ?_ fg_0.1 fg_0.2.1 (fun c c1 c2 => ?_)
        · rw [fg_c (by decide), ← hK1, xup_ne (by decide)]; exact hD.1
        · rw [fg_c (by decide), ← hK1]
          show xup I 2 j (nI (wmem (h j) s q)) 2 g = nI (fup h j (wmem (h j) s q) g)
          rw [xup_eq]
          unfold fup
          by_cases e : g = j
          · rw [if_pos e, if_pos e]
          · rw [if_neg e, if_neg e]; exact hD.2.1 g hg
        · rw [fg_c (by decide), ← hK1, xup_ne (by decide)]; exact hD.2.2.1 g hg
        · rw [fg_c (by decide), ← hK1, xup_ne (by decide)]; exact hD.2.2.2 g hg
        · rw [fg_0.2.2, ← hK1, xup_ne (by decide)]
        · rw [fg_c (by omega), ← hK1, xup_ne (by omega)]
      ·
        refine x_bipush dX5_find_24 bp_m2 ?_
        have e0 : spFind (nI j) (nI s) z ((n, h, a, L), im) = (-2, ((n, h, a, L), im)) := by rw [spFind]; dsimp only; rw [c, c2, Bool.and_self, if_pos rfl, c3]; rfl
        refine x_ireti dX5_find_26 rfl ⟨by rw [e0], by rw [e0]; exact hR⟩
    ·
      refine x_iconst dX5_find_15 ic_m1 ?_
      have e0 : spFind (nI j) y z ((n, h, a, L), im) = (-1, ((n, h, a, L), im)) := by rw [spFind]; dsimp only; rw [c, c2]; rfl
      refine x_ireti dX5_find_16 rfl ⟨by rw [e0], by rw [e0]; exact hR⟩
theorem k_ahead {x y z : Int32} (hW : WOk W) (hR : CR I W) : Cx LX yX5_ahead mX5_ahead 8 [.ref 0, .int x, .int y, .int z] I (xRi (fun r J => r = (spAhead x y z W).1 ∧ CR J (spAhead x y z W).2)) := by
  obtain ⟨⟨n, h, a, L⟩, im⟩ := W
  have h1 : 1 ≤ n := hW.1.1
  have hn : n ≤ 8 := hW.1.2.1
  have hh : ∀ g, h g < 1024 := hW.1.2.2.1
  have ha : ∀ g, a g < 256 := hW.1.2.2.2.1
  have hL : ∀ p, p < n → L p < n := hW.1.2.2.2.2.1
  have hinj : ∀ p q, p < n → q < n → L p = L q → p = q := hW.1.2.2.2.2.2.1
  have hL8 : ∀ p, p < 8 → L p < 8 := hW.1.2.2.2.2.2.2
  have hD : DigAt I 1 n h a L := hR.1
  refine Cx.of [.ref 0, .int x, .int y, .int z] (by decide) rfl rfl (Nat.le_of_ble_eq_true rfl) rfl ?_
  refine x_aload_n dX5_ahead_0 rfl ?_
  refine x_iload_n dX5_ahead_1 rfl ?_
  refine x_callVi 4 ml_X5_48 in_X5_isGrave se_X5_isGrave ct_X5_isGrave rfl (c_isGrave (d := 0) hD.1 hn) dX5_ahead_2 (by decide) rfl rfl rfl rfl (Nat.le_of_ble_eq_true rfl) (fun r0 J0 h0 => ?_)
  obtain ⟨rfl, hJ0⟩ := h0
  obtain rfl := hJ0.symm
  refine x_ifb_eq (b := inR x n) (tgt := 16) dX5_ahead_5 rfl (fun c => ?_) (fun c => ?_)
  ·
    refine x_iconst dX5_ahead_16 ic_m1 ?_
    have e0 : spAhead x y z ((n, h, a, L), im) = (-1, ((n, h, a, L), im)) := by rw [spAhead]; dsimp only; rw [c]; rfl
    refine x_ireti dX5_ahead_17 rfl ⟨by rw [e0], by rw [e0]; exact hR⟩
  ·
    obtain ⟨j, hj, rfl⟩ := inR_of c
    refine x_aload_n dX5_ahead_8 rfl ?_
    refine x_iload_n dX5_ahead_9 rfl ?_
    refine x_callVi 4 ml_X5_48 in_X5_isGrave se_X5_isGrave ct_X5_isGrave rfl (c_isGrave (d := 0) hD.1 hn) dX5_ahead_10 (by decide) rfl rfl rfl rfl (Nat.le_of_ble_eq_true rfl) (fun r0 J0 h0 => ?_)
    obtain ⟨rfl, hJ0⟩ := h0
    obtain rfl := hJ0.symm
    refine x_ifb_ne (b := inR y n) (tgt := 18) dX5_ahead_13 rfl (fun c2 => ?_) (fun c2 => ?_)
    ·
      obtain ⟨s, hs, rfl⟩ := inR_of c2
      refine x_iload_n dX5_ahead_18 rfl ?_
      refine x_callSi (as := [.int z]) ml_X5_55 st_X5_isOnOrOff ct_X5_isOnOrOff (c_isOnOrOff (d := 0)) dX5_ahead_19 (by decide) rfl rfl (Nat.le_of_ble_eq_true rfl) (fun r0 J0 h0 => ?_)
      obtain ⟨rfl, hJ0⟩ := h0
      obtain rfl := hJ0.symm
      refine x_ifb_eq (b := inR z 2) (tgt := 30) dX5_ahead_22 rfl (fun c3 => ?_) (fun c3 => ?_)
      ·
        refine x_bipush dX5_ahead_30 bp_m2 ?_
        have e0 : spAhead (nI j) (nI s) z ((n, h, a, L), im) = (-2, ((n, h, a, L), im)) := by rw [spAhead]; dsimp only; rw [c, c2, Bool.and_self, if_pos rfl, c3]; rfl
        refine x_ireti dX5_ahead_32 rfl ⟨by rw [e0], by rw [e0]; exact hR⟩
      ·
        obtain ⟨q, hq, rfl⟩ := inR_of c3
        refine x_iload_n dX5_ahead_25 rfl ?_
        refine x_iload_n dX5_ahead_26 rfl ?_
        refine x_icmpn_ne (a := j) (b := s) (by omega) (by omega) (tgt := 33) dX5_ahead_27 rfl (fun c4 => ?_) (fun c4 => ?_)
        ·
          have e0 : spAhead (nI j) (nI s) (nI q) ((n, h, a, L), im) = (nI (rf (fun t g => t + pop (fup a j (wmem (a j) s q) g)) 0 8), ((n, h, fup a j (wmem (a j) s q), L), im)) := by
            rw [spAhead]; dsimp only; rw [c, c2, Bool.and_self, if_pos rfl, c3, Bool.true_and, decide_eq_true (nIe (by omega) (by omega) c4), if_pos rfl, tN_nI (by omega), tN_nI (by omega), tN_nI (by omega)]
          have hwl : wmem (a j) s q < 2 ^ 8 := wmem_lt (ha j) (by omega) hq
          have hfl : ∀ g, fup a j (wmem (a j) s q) g < 1024 := fun g => by
            unfold fup; have := ha g; split <;> omega
          have hrow : ∀ g, g < 8 → xup I 3 j (nI (wmem (a j) s q)) 3 g = nI (fup a j (wmem (a j) s q) g) := fun g hg => by
            rw [xup_eq]
            unfold fup
            by_cases e : g = j
            · rw [if_pos e, if_pos e]
            · rw [if_neg e, if_neg e]; exact hD.2.2.1 g hg
          rw [e0]
          refine x_aload_n dX5_ahead_33 rfl ?_
          refine x_getR 4 0 rfl (by decide) fl_X5_12 dX5_ahead_34 rfl rfl rfl ?_
          refine x_getR 1 2 rfl (by decide) fl_X5_72 dX5_ahead_37 rfl rfl rfl ?_
          refine x_iload_n dX5_ahead_40 rfl ?_
          refine x_aload_n dX5_ahead_41 rfl ?_
          refine x_getR 4 0 rfl (by decide) fl_X5_12 dX5_ahead_42 rfl rfl rfl ?_
          refine x_getR 1 2 rfl (by decide) fl_X5_72 dX5_ahead_45 rfl rfl rfl ?_
          refine x_iload_n dX5_ahead_48 rfl ?_
          refine x_iald (p := j) (v := nI (a j)) dX5_ahead_49 rfl rfl rfl rfl (by omega) (hD.2.2.1 j (by omega)) ?_
          refine x_iload_n dX5_ahead_50 rfl ?_
          refine x_iload_n dX5_ahead_51 rfl ?_
          refine x_callSi (as := [.int (nI (a j)), .int (nI s), .int (nI q)]) ml_X5_62 st_X5_withMember ct_X5_withMember (c_withMember (d := 0) (by omega)) dX5_ahead_52 (by decide) rfl rfl (Nat.le_of_ble_eq_true rfl) (fun r0 J0 h0 => ?_)
          obtain ⟨rfl, hJ0⟩ := h0
          obtain rfl := hJ0.symm
          refine x_iast (p := j) dX5_ahead_55 rfl rfl rfl rfl (by omega) ?_
          generalize hK1 : xup I 3 j (nI (wmem (a j) s q)) = K1
          refine x_aload_n dX5_ahead_56 rfl ?_
          refine x_callVv 4 ml_X5_45 in_X5_forgetBest se_X5_forgetBest ct_X5_forgetBest rfl (c_forgetBest (d := 0)) dX5_ahead_57 (by decide) rfl rfl rfl rfl (Nat.le_of_ble_eq_true rfl) (fun J1 h0 => ?_)
          have e1 := h0
          refine x_aload_n dX5_ahead_60 rfl ?_
          refine x_getR 4 0 rfl (by decide) fl_X5_12 dX5_ahead_61 rfl rfl rfl ?_
          refine x_getR 1 2 rfl (by decide) fl_X5_72 dX5_ahead_64 rfl rfl rfl ?_
          refine x_callSi (as := [.ref 3]) ml_X5_75 st_X5_membersOfAll ct_X5_membersOfAll (c_members_3 (d := 1) (f := fup a j (wmem (a j) s q)) (by decide) hfl (fun g hg => by rw [e1, fg_c (by decide), ← hK1]; exact hrow g hg)) dX5_ahead_67 (by decide) rfl rfl (Nat.le_of_ble_eq_true rfl) (fun r0 J0 h0 => ?_)
          obtain ⟨rfl, hJ0⟩ := h0
          obtain rfl := hJ0.symm
          refine x_ireti dX5_ahead_70 rfl ⟨rfl, ?_⟩
          rw [e1]
          refine hR.st (T := (n, h, fup a j (wmem (a j) s q), L)) ⟨?_, fun g hg => ?_, fun g hg => ?_, fun g hg => ?_⟩ ?_ fg_0.1 fg_0.2.1 (fun c c1 c2 => ?_)
          · rw [fg_c (by decide), ← hK1, xup_ne (by decide)]; exact hD.1
          · rw [fg_c (by decide), ← hK1, xup_ne (by decide)]; exact hD.2.1 g hg
          · rw [fg_c (by decide), ← hK1]; exact hrow g hg
          · rw [fg_c (by decide), ← hK1, xup_ne (by decide)]; exact hD.2.2.2 g hg
          · rw [fg_0.2.2, ← hK1, xup_ne (by decide)]
          · rw [fg_c (by omega), ← hK1, xup_ne (by omega)]
        ·
          subst c4
          refine x_bipush dX5_ahead_30 bp_m2 ?_
          have e0 : spAhead (nI j) (nI j) (nI q) ((n, h, a, L), im) = (-2, ((n, h, a, L), im)) := by rw [spAhead]; dsimp only; rw [c, Bool.and_self, if_pos rfl, c3, Bool.true_and, decide_eq_false (fun hc => hc rfl)]; rfl
          refine x_ireti dX5_ahead_32 rfl ⟨by rw [e0], by rw [e0]; exact hR⟩
    ·
      refine x_iconst dX5_ahead_16 ic_m1 ?_
      have e0 : spAhead (nI j) y z ((n, h, a, L), im) = (-1, ((n, h, a, L), im)) := by rw [spAhead]; dsimp only; rw [c, c2]; rfl
      refine x_ireti dX5_ahead_17 rfl ⟨by rw [e0], by rw [e0]; exact hR⟩
end KP
