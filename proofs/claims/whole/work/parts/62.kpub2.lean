/-! the class: its calls, on -/
section KP
variable {I : xMem} {W : WS}
theorem bests_0 {n : Nat} {h a : Nat → Nat} (hn : n ≤ 8) : tot n h a = 0 ↔ bests n h a = [] := by
  rw [tot_len hn, List.length_eq_zero_iff]
theorem k_beside {g what : Int32} (hW : WOk W) (hR : CR I W) : Cx LX yX5_beside mX5_beside 8 [.ref 0, .int g, .int what] I (xRi (fun r J => r = spBeside g what W ∧ CR J W)) := by
  obtain ⟨⟨n, h, a, L⟩, im⟩ := W
  have h1 : 1 ≤ n := hW.1.1
  have hn : n ≤ 8 := hW.1.2.1
  have hh : ∀ g, h g < 1024 := hW.1.2.2.1
  have ha : ∀ g, a g < 256 := hW.1.2.2.2.1
  have hL : ∀ p, p < n → L p < n := hW.1.2.2.2.2.1
  have hinj : ∀ p q, p < n → q < n → L p = L q → p = q := hW.1.2.2.2.2.2.1
  have hL8 : ∀ p, p < 8 → L p < 8 := hW.1.2.2.2.2.2.2
  have hD : DigAt I 1 n h a L := hR.1
  have htl := tot_lt (n := n) (h := h) (a := a) hn
  refine Cx.of [.ref 0, .int g, .int what, .null] (by decide) rfl rfl (Nat.le_of_ble_eq_true rfl) rfl ?_
  refine x_aload_n dX5_beside_0 rfl ?_
  refine x_iload_n dX5_beside_1 rfl ?_
  refine x_callVi 4 ml_X5_48 in_X5_isGrave se_X5_isGrave ct_X5_isGrave rfl (c_isGrave (d := 0) hD.1 hn) dX5_beside_2 (by decide) rfl rfl rfl rfl (Nat.le_of_ble_eq_true rfl) (fun r0 J0 h0 => ?_)
  obtain ⟨rfl, hJ0⟩ := h0
  obtain rfl := hJ0.symm
  refine x_ifb_ne (b := inR g n) (tgt := 10) dX5_beside_5 rfl (fun c => ?_) (fun c => ?_)
  ·
    obtain ⟨j, hj, rfl⟩ := inR_of c
    have body : ∀ q, q < 2 → Wx LX mX5_beside 8 (xRi (fun r J => r = spBeside (nI j) (nI q) ((n, h, a, L), im) ∧ CR J ((n, h, a, L), im))) 22 [.ref 0, .int (nI j), .int (nI q), .null] [] I := by
      intro q hq
      have hb : ∀ x, x < n → owN n h a j x (2 ^ n) + owN n h a x j (2 ^ n) < 2 ^ 31 := by
        intro x hx
        rw [owN_eq hn hj hx, owN_eq hn hx hj]
        have c1 := List.countP_le_length (p := nxw j x) (l := bests n h a)
        have c2 := List.countP_le_length (p := nxw x j) (l := bests n h a)
        rw [tot_len hn] at htl
        omega
      have ea : spBeside (nI j) (nI q) ((n, h, a, L), im) = nI (if q = 0 then bAl n (bests n h a) j else bAn n (bests n h a) j) := by
        rw [spBeside]; dsimp only; rw [if_pos c, tN_nI (by omega)]
        by_cases e : q = 0
        · subst e; rw [if_pos rfl, if_pos rfl]; rfl
        · have e1 : q = 1 := by omega
          subst e1
          rw [if_neg (nIe (by decide) (by decide) (by decide)), if_pos rfl, if_neg (by decide)]; rfl
      rw [ea]
      refine x_aload_n dX5_beside_22 rfl ?_
      refine x_callVr 4 ml_X5_91 in_X5_knownBest se_X5_knownBest ct_X5_knownBest rfl (c_knownBest hW hR) dX5_beside_23 (by decide) rfl rfl rfl rfl (Nat.le_of_ble_eq_true rfl) (fun r0 J0 h0 => ?_)
      obtain ⟨rfl, r1, r4⟩ := h0
      refine x_astore_n (ls' := [.ref 0, .int (nI j), .int (nI q), .ref 14]) dX5_beside_26 rfl rfl ?_
      refine x_aload_n dX5_beside_27 rfl ?_
      refine x_callVi 0 ml_X5_99 in_X0_total se_X0_total ct_X0_total rfl (c_total (d := 0) (tot_at h1 (r1.bok r4).1)) dX5_beside_28 (by decide) rfl rfl rfl rfl (Nat.le_of_ble_eq_true rfl) (fun r0 J0 h0 => ?_)
      obtain ⟨rfl, hJ0⟩ := h0
      obtain rfl := hJ0.symm
      have hB : BOk J0 n h a := (r1.bok r4).1
      refine x_ifn_ne (a := tot n h a) (by omega) (tgt := 36) dX5_beside_31 rfl (fun d1 => ?_) (fun d1 => ?_)
      ·
        have hV : bests n h a ≠ [] := fun e => d1 ((bests_0 hn).mpr e)
        refine x_aload_n dX5_beside_36 rfl ?_
        refine x_iload_n dX5_beside_37 rfl ?_
        refine x_iload_n dX5_beside_38 rfl ?_
        refine x_ifn_ne (a := q) (by omega) (tgt := 49) dX5_beside_39 rfl (fun d2 => ?_) (fun d2 => ?_)
        ·
          refine x_iconst dX5_beside_49 ic_1 ?_
          refine x_callVi 0 ml_X5_113 in_X0_neighboursOf se_X0_neighboursOf ct_X0_neighboursOf rfl (c_neighboursOf (d := 2) (g := j) (t := 1) (by decide) hn hj (by decide) hb hB) dX5_beside_50 (by decide) rfl rfl rfl rfl (Nat.le_of_ble_eq_true rfl) (fun r0 J0 h0 => ?_)
          obtain ⟨rfl, hJ0⟩ := h0
          obtain rfl := hJ0.symm
          refine x_ireti dX5_beside_53 rfl ⟨by rw [if_neg d2, nbF_any hn hj], r1⟩
        ·
          refine x_aload_n dX5_beside_42 rfl ?_
          refine x_callVi 0 ml_X5_99 in_X0_total se_X0_total ct_X0_total rfl (c_total (d := 0) (tot_at h1 (r1.bok r4).1)) dX5_beside_43 (by decide) rfl rfl rfl rfl (Nat.le_of_ble_eq_true rfl) (fun r0 J0 h0 => ?_)
          obtain ⟨rfl, hJ0⟩ := h0
          obtain rfl := hJ0.symm
          refine x_goto (tgt := 50) dX5_beside_46 rfl ?_
          refine x_callVi 0 ml_X5_113 in_X0_neighboursOf se_X0_neighboursOf ct_X0_neighboursOf rfl (c_neighboursOf (d := 2) (g := j) (t := tot n h a) (by decide) hn hj (by omega) hb hB) dX5_beside_50 (by decide) rfl rfl rfl rfl (Nat.le_of_ble_eq_true rfl) (fun r0 J0 h0 => ?_)
          obtain ⟨rfl, hJ0⟩ := h0
          obtain rfl := hJ0.symm
          refine x_ireti dX5_beside_53 rfl ⟨by rw [if_pos d2, tot_len hn, nbF_all hn hj hV], r1⟩
      ·
        refine x_iconst dX5_beside_34 ic_0 ?_
        refine x_ireti dX5_beside_35 rfl ⟨by rw [(bests_0 hn).mp d1]; split <;> rfl, r1⟩
    refine x_iload_n dX5_beside_10 rfl ?_
    refine x_if_eq (tgt := 22) dX5_beside_11 rfl (fun d1 => ?_) (fun d1 => ?_)
    ·
      have e0 : what = nI 0 := by rw [d1, nI_0]
      subst e0
      exact body 0 (by decide)
    ·
      refine x_iload_n dX5_beside_14 rfl ?_
      refine x_iconst dX5_beside_15 ic_1 ?_
      refine x_icmp_eq (tgt := 22) dX5_beside_16 rfl (fun d2 => ?_) (fun d2 => ?_)
      ·
        subst d2
        exact body 1 (by decide)
      ·
        refine x_bipush dX5_beside_19 bp_m2 ?_
        refine x_ireti dX5_beside_21 rfl ⟨by rw [spBeside]; dsimp only; rw [if_pos c, if_neg (by rw [nI_0]; exact d1), if_neg d2], hR⟩
  ·
    refine x_iconst dX5_beside_8 ic_m1 ?_
    refine x_ireti dX5_beside_9 rfl ⟨by rw [spBeside]; dsimp only; rw [c]; rfl, hR⟩
theorem k_place {g what : Int32} (hW : WOk W) (hR : CR I W) : Cx LX yX5_place mX5_place 8 [.ref 0, .int g, .int what] I (xRi (fun r J => r = spPlace g what W ∧ CR J W)) := by
  obtain ⟨⟨n, h, a, L⟩, im⟩ := W
  have h1 : 1 ≤ n := hW.1.1
  have hn : n ≤ 8 := hW.1.2.1
  have hh : ∀ g, h g < 1024 := hW.1.2.2.1
  have ha : ∀ g, a g < 256 := hW.1.2.2.2.1
  have hL : ∀ p, p < n → L p < n := hW.1.2.2.2.2.1
  have hinj : ∀ p q, p < n → q < n → L p = L q → p = q := hW.1.2.2.2.2.2.1
  have hL8 : ∀ p, p < 8 → L p < 8 := hW.1.2.2.2.2.2.2
  have hD : DigAt I 1 n h a L := hR.1
  have htl := tot_lt (n := n) (h := h) (a := a) hn
  refine Cx.of [.ref 0, .int g, .int what] (by decide) rfl rfl (Nat.le_of_ble_eq_true rfl) rfl ?_
  refine x_aload_n dX5_place_0 rfl ?_
  refine x_iload_n dX5_place_1 rfl ?_
  refine x_callVi 4 ml_X5_48 in_X5_isGrave se_X5_isGrave ct_X5_isGrave rfl (c_isGrave (d := 0) hD.1 hn) dX5_place_2 (by decide) rfl rfl rfl rfl (Nat.le_of_ble_eq_true rfl) (fun r0 J0 h0 => ?_)
  obtain ⟨rfl, hJ0⟩ := h0
  obtain rfl := hJ0.symm
  refine x_ifb_ne (b := inR g n) (tgt := 10) dX5_place_5 rfl (fun c => ?_) (fun c => ?_)
  ·
    obtain ⟨j, hj, rfl⟩ := inR_of c
    have eA : ∀ p, owA n h a j p (2 ^ n) = cAt (bests n h a) j p := fun p => owA_eq hn hj
    have hA : ∀ p, p < n → owA n h a j p (2 ^ n) < 2 ^ 31 := by
      intro p _
      rw [eA, cAt]
      have c1 := List.countP_le_length (p := fun w : List Nat => decide (w.idxOf j = p)) (l := bests n h a)
      rw [tot_len hn] at htl
      omega
    refine x_iload_n dX5_place_10 rfl ?_
    refine x_if_ne (tgt := 23) dX5_place_11 rfl (fun d1 => ?_) (fun d1 => ?_)
    ·
      refine x_iload_n dX5_place_23 rfl ?_
      refine x_iconst dX5_place_24 ic_1 ?_
      refine x_icmp_ne (tgt := 37) dX5_place_25 rfl (fun d2 => ?_) (fun d2 => ?_)
      ·
        have hgo : Wx LX mX5_place 8 (xRi (fun r J => r = spPlace (nI j) what ((n, h, a, L), im) ∧ CR J ((n, h, a, L), im))) 54 [.ref 0, .int (nI j), .int what] [] I ∨ inR (what - nI 10) n = true := by
          cases e : inR (what - nI 10) n with
          | true => exact Or.inr rfl
          | false =>
            refine Or.inl ?_
            refine x_bipush dX5_place_54 bp_m2 ?_
            refine x_ireti dX5_place_56 rfl ⟨by rw [spPlace]; dsimp only; rw [if_pos c, if_neg (by rw [nI_0]; exact d1), if_neg d2, e]; rfl, hR⟩
        refine x_iload_n dX5_place_37 rfl ?_
        refine x_bipush dX5_place_38 bp_10 ?_
        refine x_icmp_lt (tgt := 54) dX5_place_40 rfl (fun d3 => ?_) (fun d3 => ?_)
        ·
          rcases hgo with hg | hg
          · exact hg
          · obtain ⟨k, hk, ek⟩ := inR_of hg
            have : what = nI (k + 10) := by rw [← nI_add, ← ek, Int32.sub_add_cancel]
            rw [this, nI_ltI (by omega) (by decide)] at d3
            omega
        ·
          refine x_aload_n dX5_place_43 rfl ?_
          refine x_iload_n dX5_place_44 rfl ?_
          refine x_bipush dX5_place_45 bp_10 ?_
          refine x_isub (v := (what - nI 10)) dX5_place_47 rfl ?_
          refine x_callVi 4 ml_X5_106 in_X5_isPlace se_X5_isPlace ct_X5_isPlace rfl (c_isPlace (d := 0) hD.1 hn) dX5_place_48 (by decide) rfl rfl rfl rfl (Nat.le_of_ble_eq_true rfl) (fun r0 J0 h0 => ?_)
          obtain ⟨rfl, hJ0⟩ := h0
          obtain rfl := hJ0.symm
          refine x_ifb_ne (b := (inR (what - nI 10) n)) (tgt := 57) dX5_place_51 rfl (fun d4 => ?_) (fun d4 => ?_)
          ·
            obtain ⟨k, hk, ek⟩ := inR_of d4
            refine x_aload_n dX5_place_57 rfl ?_
            refine x_callVr 4 ml_X5_91 in_X5_knownBest se_X5_knownBest ct_X5_knownBest rfl (c_knownBest hW hR) dX5_place_58 (by decide) rfl rfl rfl rfl (Nat.le_of_ble_eq_true rfl) (fun r0 J0 h0 => ?_)
            obtain ⟨rfl, r1, r4⟩ := h0
            refine x_iload_n dX5_place_61 rfl ?_
            refine x_iload_n dX5_place_62 rfl ?_
            refine x_bipush dX5_place_63 bp_10 ?_
            refine x_isub (v := nI k) dX5_place_65 ek ?_
            have hB : BOk J0 n h a := (r1.bok r4).1
            refine x_callVi 0 ml_X5_122 in_X0_ordersWithAt se_X0_ordersWithAt ct_X0_ordersWithAt rfl (c_ordersWithAt (d := 2) (by decide) hn hj (by omega) hB) dX5_place_66 (by decide) rfl rfl rfl rfl (Nat.le_of_ble_eq_true rfl) (fun r0 J0 h0 => ?_)
            obtain ⟨rfl, hJ0⟩ := h0
            obtain rfl := hJ0.symm
            refine x_ireti dX5_place_69 rfl ⟨by rw [spPlace]; dsimp only; rw [if_pos c, if_neg (by rw [nI_0]; exact d1), if_neg d2, if_pos d4, ek, tN_nI (by omega), tN_nI (by omega), eA]; rfl, r1⟩
          ·
            rcases hgo with hg | hg
            · exact hg
            · rw [d4] at hg; cases hg
      ·
        refine x_aload_n dX5_place_28 rfl ?_
        refine x_callVr 4 ml_X5_91 in_X5_knownBest se_X5_knownBest ct_X5_knownBest rfl (c_knownBest hW hR) dX5_place_29 (by decide) rfl rfl rfl rfl (Nat.le_of_ble_eq_true rfl) (fun r0 J0 h0 => ?_)
        obtain ⟨rfl, r1, r4⟩ := h0
        refine x_iload_n dX5_place_32 rfl ?_
        have hB : BOk J0 n h a := (r1.bok r4).1
        refine x_callVi 0 ml_X5_119 in_X0_greatestPlaceOf se_X0_greatestPlaceOf ct_X0_greatestPlaceOf rfl (c_greatestPlaceOf (d := 3) (by decide) hn hj hA hB) dX5_place_33 (by decide) rfl rfl rfl rfl (Nat.le_of_ble_eq_true rfl) (fun r0 J0 h0 => ?_)
        obtain ⟨rfl, hJ0⟩ := h0
        obtain rfl := hJ0.symm
        refine x_ireti dX5_place_36 rfl ⟨by rw [spPlace]; dsimp only; rw [if_pos c, d2, if_neg (nIe (by decide) (by decide) (by decide)), if_pos rfl, tN_nI (by omega)]; simp only [eA]; rfl, r1⟩
    ·
      refine x_aload_n dX5_place_14 rfl ?_
      refine x_callVr 4 ml_X5_91 in_X5_knownBest se_X5_knownBest ct_X5_knownBest rfl (c_knownBest hW hR) dX5_place_15 (by decide) rfl rfl rfl rfl (Nat.le_of_ble_eq_true rfl) (fun r0 J0 h0 => ?_)
      obtain ⟨rfl, r1, r4⟩ := h0
      refine x_iload_n dX5_place_18 rfl ?_
      have hB : BOk J0 n h a := (r1.bok r4).1
      refine x_callVi 0 ml_X5_116 in_X0_leastPlaceOf se_X0_leastPlaceOf ct_X0_leastPlaceOf rfl (c_leastPlaceOf (d := 3) (by decide) hn hj hA hB) dX5_place_19 (by decide) rfl rfl rfl rfl (Nat.le_of_ble_eq_true rfl) (fun r0 J0 h0 => ?_)
      obtain ⟨rfl, hJ0⟩ := h0
      obtain rfl := hJ0.symm
      refine x_ireti dX5_place_22 rfl ⟨by rw [spPlace]; dsimp only; rw [if_pos c, if_pos (by rw [nI_0]; exact d1), tN_nI (by omega)]; simp only [eA]; rfl, r1⟩
  ·
    refine x_iconst dX5_place_8 ic_m1 ?_
    refine x_ireti dX5_place_9 rfl ⟨by rw [spPlace]; dsimp only; rw [c]; rfl, hR⟩
theorem k_together {x : Int32} (hW : WOk W) (hR : CR I W) : Cx LX yX5_together mX5_together 8 [.ref 0, .int x] I (xRi (fun r J => r = spTogether x W ∧ CR J W)) := by
  obtain ⟨⟨n, h, a, L⟩, im⟩ := W
  have h1 : 1 ≤ n := hW.1.1
  have hn : n ≤ 8 := hW.1.2.1
  have hh : ∀ g, h g < 1024 := hW.1.2.2.1
  have ha : ∀ g, a g < 256 := hW.1.2.2.2.1
  have hL : ∀ p, p < n → L p < n := hW.1.2.2.2.2.1
  have hinj : ∀ p q, p < n → q < n → L p = L q → p = q := hW.1.2.2.2.2.2.1
  have hL8 : ∀ p, p < 8 → L p < 8 := hW.1.2.2.2.2.2.2
  have hD : DigAt I 1 n h a L := hR.1
  obtain ⟨p1, p2⟩ := shl_le hn
  refine Cx.of [.ref 0, .int x] (by decide) rfl rfl (Nat.le_of_ble_eq_true rfl) rfl ?_
  refine x_iload_n dX5_together_0 rfl ?_
  refine x_iconst dX5_together_1 ic_1 ?_
  refine x_icmp_lt (tgt := 18) dX5_together_2 rfl (fun c1 => ?_) (fun c1 => ?_)
  ·
    refine x_bipush dX5_together_18 bp_m2 ?_
    refine x_ireti dX5_together_20 rfl ⟨by
      rw [spTogether, if_neg]
      intro hc
      have hx := of_decide_eq_true hc
      rw [Int32.lt_iff_toInt_lt] at c1
      omega, hR⟩
  ·
    refine x_iload_n dX5_together_5 rfl ?_
    refine x_iconst dX5_together_6 ic_1 ?_
    refine x_aload_n dX5_together_7 rfl ?_
    refine x_getR 4 0 rfl (by decide) fl_X5_12 dX5_together_8 rfl rfl rfl ?_
    refine x_getI 1 0 (v := nI n) rfl (by decide) fl_X5_38 dX5_together_11 rfl rfl rfl hD.1 ?_
    refine x_ishl (v := nI (1 <<< n)) dX5_together_14 (nI_shl _ (by omega)) ?_
    refine x_icmp_lt (tgt := 21) dX5_together_15 rfl (fun c2 => ?_) (fun c2 => ?_)
    ·
      rw [Int32.lt_iff_toInt_lt, nI_toInt (by decide)] at c1
      rw [Int32.lt_iff_toInt_lt, nI_toInt (by omega)] at c2
      obtain ⟨S, hS, rfl⟩ : ∃ S : Nat, S < 1 <<< n ∧ x = nI S := ⟨x.toInt.toNat, by omega, Int32.toInt_inj.mp (by rw [nI_toInt (by omega)]; omega)⟩
      rw [nI_toInt (by omega)] at c1
      have hSn : S < 2 ^ n := by rw [← Nat.one_shiftLeft]; exact hS
      refine x_aload_n dX5_together_21 rfl ?_
      refine x_callVr 4 ml_X5_91 in_X5_knownBest se_X5_knownBest ct_X5_knownBest rfl (c_knownBest hW hR) dX5_together_22 (by decide) rfl rfl rfl rfl (Nat.le_of_ble_eq_true rfl) (fun r0 J0 h0 => ?_)
      obtain ⟨rfl, r1, r4⟩ := h0
      refine x_iload_n dX5_together_25 rfl ?_
      have hB : BOk J0 n h a := (r1.bok r4).1
      refine x_callVi 0 ml_X5_128 in_X0_ordersWithTogether se_X0_ordersWithTogether ct_X0_ordersWithTogether rfl (c_ordersWithTogether (d := 2) (by decide) h1 hn (by omega) hB) dX5_together_26 (by decide) rfl rfl rfl rfl (Nat.le_of_ble_eq_true rfl) (fun r0 J1 h0 => ?_)
      obtain ⟨q1, q2⟩ := h0
      refine x_ireti dX5_together_29 rfl ⟨?_, r1.scr (fun c c1 _ _ => q2 c c1)⟩
      have hin : inB (nI S) (nI 1) (nI (1 <<< n - 1)) = true := decide_eq_true (by rw [nI_toInt (n := S) (by omega), nI_toInt (n := 1) (by decide), nI_toInt (n := 1 <<< n - 1) (by omega)]; omega)
      rw [q1, tog_eq h1 hn (by omega) hSn, spTogether]
      dsimp only
      rw [hin, if_pos rfl, tN_nI (by omega)]; rfl
    ·
      refine x_bipush dX5_together_18 bp_m2 ?_
      refine x_ireti dX5_together_20 rfl ⟨by
        rw [spTogether, if_neg]
        intro hc
        have hx := of_decide_eq_true hc
        rw [Int32.lt_iff_toInt_lt, nI_toInt (by omega)] at c2
        dsimp only at hx
        rw [nI_toInt (n := 1 <<< n - 1) (by omega)] at hx
        omega, hR⟩
theorem k_clump {x : Int32} (hW : WOk W) (hR : CR I W) : Cx LX yX5_clump mX5_clump 8 [.ref 0, .int x] I (xRi (fun r J => r = spClump x W ∧ CR J W)) := by
  obtain ⟨⟨n, h, a, L⟩, im⟩ := W
  have h1 : 1 ≤ n := hW.1.1
  have hn : n ≤ 8 := hW.1.2.1
  have hh : ∀ g, h g < 1024 := hW.1.2.2.1
  have ha : ∀ g, a g < 256 := hW.1.2.2.2.1
  have hL : ∀ p, p < n → L p < n := hW.1.2.2.2.2.1
  have hinj : ∀ p q, p < n → q < n → L p = L q → p = q := hW.1.2.2.2.2.2.1
  have hL8 : ∀ p, p < 8 → L p < 8 := hW.1.2.2.2.2.2.2
  have ecl : clL n h a = clmp (n, h, a, L) := clmp_eq hW.1
  have hcl : (clL n h a).length ≤ 256 := by
    have := List.length_filter_le (clC n h a) (List.range (2 ^ n))
    rw [List.length_range] at this
    have := p2_le hn
    unfold clL; omega
  refine Cx.of [.ref 0, .int x, .null] (by decide) rfl rfl (Nat.le_of_ble_eq_true rfl) rfl ?_
  refine x_iload_n dX5_clump_0 rfl ?_
  refine x_iconst dX5_clump_1 ic_m1 ?_
  refine x_icmp_ge (tgt := 8) dX5_clump_2 rfl (fun c1 => ?_) (fun c1 => ?_)
  ·
    have c1' : ¬ x < (-1) := fun hc => by rw [Int32.lt_iff_toInt_lt] at hc; rw [Int32.le_iff_toInt_le] at c1; omega
    refine x_aload_n dX5_clump_8 rfl ?_
    refine x_callVr 4 ml_X5_91 in_X5_knownBest se_X5_knownBest ct_X5_knownBest rfl (c_knownBest hW hR) dX5_clump_9 (by decide) rfl rfl rfl rfl (Nat.le_of_ble_eq_true rfl) (fun r0 J0 h0 => ?_)
    obtain ⟨rfl, r1, r4⟩ := h0
    refine x_astore_n (ls' := [.ref 0, .int x, .ref 14]) dX5_clump_12 rfl rfl ?_
    refine x_aload_n dX5_clump_13 rfl ?_
    have hB := r1.bok r4
    refine x_callVv 0 ml_X5_131 in_X0_gatherClumps se_X0_gatherClumps ct_X0_gatherClumps rfl (c_gatherClumps (d := 2) (by decide) h1 hn hB.1 hB.2) dX5_clump_14 (by decide) rfl rfl rfl rfl (Nat.le_of_ble_eq_true rfl) (fun J1 h0 => ?_)
    obtain ⟨g1, g2, g3⟩ := h0
    refine x_iload_n dX5_clump_17 rfl ?_
    refine x_iconst dX5_clump_18 ic_m1 ?_
    have hR1 : CR J1 ((n, h, a, L), im) := by
      have f : ∀ c, c ≤ 13 → J1 c = J0 c := fun c hc => g3 c (by omega) (by omega)
      have hb1 : BKn J1 (n, h, a, L) := ⟨hB.1.kept (fun j hj _ => g2 j hj) (g3 15 (by decide) (by decide)) (g3 16 (by decide) (by decide)) (g3 17 (by decide) (by decide)) (g3 19 (by decide) (by decide)), Or.inr g1⟩
      refine r1.im (T := (n, h, a, L)) (r1.1.fr (f 1 (by decide)) (f 2 (by decide)) (f 3 (by decide)) (f 4 (by decide))) (by rw [f 0 (by decide)]) (fun c _ hc => f c (by omega)) (Or.inr ⟨by rw [f 0 (by decide)]; exact r4, hb1⟩) ?_
      rw [f 0 (by decide)]
      exact r1.2.2.2.2.2.imp id (fun e => ⟨e.1, e.2.1, e.2.2.fr (g2 4 (by decide)) (g3 21 (by decide) (by decide))⟩)
    refine x_icmp_ne (tgt := 27) dX5_clump_19 rfl (fun d1 => ?_) (fun d1 => ?_)
    ·
      have hx0 : ¬ x < 0 := fun hc => by
        apply d1
        apply Int32.toInt_inj.mp
        rw [Int32.lt_iff_toInt_lt] at hc c1'
        have h3 : (-1 : Int32).toInt = -1 := by decide
        have h4 : (0 : Int32).toInt = 0 := by decide
        omega
      obtain ⟨i, hi, rfl⟩ := nI_of hx0
      have ea : spClump (nI i) ((n, h, a, L), im) = (match (clL n h a)[i]? with | none => (-6 : Int32) | some S => nI S) := by
        rw [spClump, if_neg c1', if_neg d1, tN_nI hi, ecl]; rfl
      rw [ea]
      refine x_iload_n dX5_clump_27 rfl ?_
      refine x_aload_n dX5_clump_28 rfl ?_
      refine x_getI 0 3 (v := nI ((clL n h a).length)) rfl (by decide) fl_X5_134 dX5_clump_29 rfl rfl rfl g1.1 ?_
      refine x_icmpn_ge (a := i) (b := (clL n h a).length) (by omega) (by omega) (tgt := 44) dX5_clump_32 rfl (fun d2 => ?_) (fun d2 => ?_)
      ·
        refine x_bipush dX5_clump_44 bp_m6 ?_
        refine x_ireti dX5_clump_46 rfl ⟨?_, hR1⟩
        rw [List.getElem?_eq_none d2]
      ·
        have hat : (clL n h a)[i]? = some ((clL n h a)[i]) := List.getElem?_eq_getElem d2
        refine x_aload_n dX5_clump_35 rfl ?_
        refine x_getR 0 10 rfl (by decide) fl_X5_137 dX5_clump_36 rfl rfl rfl ?_
        refine x_iload_n dX5_clump_39 rfl ?_
        refine x_iald (p := i) (v := nI ((clL n h a)[i])) dX5_clump_40 rfl rfl rfl rfl (by omega) (g1.2 i _ hat) ?_
        refine x_goto (tgt := 46) dX5_clump_41 rfl ?_
        refine x_ireti dX5_clump_46 rfl ⟨?_, hR1⟩
        rw [hat]
    ·
      refine x_aload_n dX5_clump_22 rfl ?_
      refine x_getI 0 3 (v := nI ((clL n h a).length)) rfl (by decide) fl_X5_134 dX5_clump_23 rfl rfl rfl g1.1 ?_
      refine x_ireti dX5_clump_26 rfl ⟨by rw [spClump, if_neg c1', if_pos d1, ecl], hR1⟩
  ·
    refine x_bipush dX5_clump_5 bp_m2 ?_
    refine x_ireti dX5_clump_7 rfl ⟨by
      rw [spClump, if_pos]
      rw [Int32.lt_iff_toInt_lt]; rw [Int32.le_iff_toInt_le] at c1; omega, hR⟩
theorem k_breaks {what : Int32} (hW : WOk W) (hR : CR I W) : Cx LX yX5_breaks mX5_breaks 8 [.ref 0, .int what] I (xRi (fun r J => r = spBreaks what W ∧ CR J W)) := by
  obtain ⟨⟨n, h, a, L⟩, im⟩ := W
  have h1 : 1 ≤ n := hW.1.1
  have hn : n ≤ 8 := hW.1.2.1
  have hh : ∀ g, h g < 1024 := hW.1.2.2.1
  have ha : ∀ g, a g < 256 := hW.1.2.2.2.1
  have hL : ∀ p, p < n → L p < n := hW.1.2.2.2.2.1
  have hinj : ∀ p q, p < n → q < n → L p = L q → p = q := hW.1.2.2.2.2.2.1
  have hL8 : ∀ p, p < 8 → L p < 8 := hW.1.2.2.2.2.2.2
  have hD : DigAt I 1 n h a L := hR.1
  have hl8 : ∀ p, p < n → L p < 8 := fun p hp => by have := hL p hp; omega
  have hrw : brk h (seg L 0 n) = tr h 1023 0 (seg L 0 n) - pop (fnd h n &&& 1023) ∧ pop (fnd h n &&& 1023) ≤ tr h 1023 0 (seg L 0 n) := brk_tr (h := h) (n := n) (row_cov hW.1)
  refine Cx.of [.ref 0, .int what] (by decide) rfl rfl (Nat.le_of_ble_eq_true rfl) rfl ?_
  refine x_iload_n dX5_breaks_0 rfl ?_
  by_cases o1 : what.toInt < 0 ∨ 2 < what.toInt
  ·
    have no := sw_no (m := 2) (by decide) o1
    refine x_tableOut (tgt := 68) dX5_breaks_1 (by omega) (by decide) ?_
    refine x_bipush dX5_breaks_68 bp_m2 ?_
    refine x_ireti dX5_breaks_70 rfl ⟨by rw [spBreaks, if_neg (no 0 (by decide)), if_neg (no 1 (by decide)), if_neg (no 2 (by decide))], hR⟩
  ·
    rcases (show what.toInt = 0 ∨ what.toInt = 1 ∨ what.toInt = 2 by omega) with e | e | e
    ·
      refine x_tableIn (tgt := 28) (off := 27) dX5_breaks_1 (by omega) (by omega) (by rw [e]; rfl) (by decide) ?_
      have e' := int_of (k := 0) e (by decide)
      refine x_aload_n dX5_breaks_28 rfl ?_
      refine x_getR 4 0 rfl (by decide) fl_X5_12 dX5_breaks_29 rfl rfl rfl ?_
      refine x_sipush dX5_breaks_32 sp_1023 ?_
      refine x_callVi 1 ml_X5_88 in_X2_lineBreaks se_X2_lineBreaks ct_X2_lineBreaks rfl (c_lineBreaks (d := 1) (by decide) hh hl8 hD hn hrw.2) dX5_breaks_35 (by decide) rfl rfl rfl rfl (Nat.le_of_ble_eq_true rfl) (fun r0 J0 h0 => ?_)
      obtain ⟨rfl, hJ0⟩ := h0
      obtain rfl := hJ0.symm
      refine x_ireti dX5_breaks_38 rfl ⟨by rw [spBreaks, if_pos e', ← hrw.1]; rfl, hR⟩
    ·
      refine x_tableIn (tgt := 39) (off := 38) dX5_breaks_1 (by omega) (by omega) (by rw [e]; rfl) (by decide) ?_
      have e' := int_of (k := 1) e (by decide)
      have ea : spBreaks what ((n, h, a, L), im) = nI (al a 0 (seg L 0 n)).toNat := by
        rw [spBreaks, e', if_neg (nIe (by decide) (by decide) (by decide)), if_pos rfl]; rfl
      rw [ea]
      refine x_aload_n dX5_breaks_39 rfl ?_
      refine x_getR 4 0 rfl (by decide) fl_X5_12 dX5_breaks_40 rfl rfl rfl ?_
      refine x_callVi 1 ml_X5_143 in_X2_lineIsAllowed se_X2_lineIsAllowed ct_X2_lineIsAllowed rfl (c_lineIsAllowed (d := 0) ha hl8 hD hn) dX5_breaks_43 (by decide) rfl rfl rfl rfl (Nat.le_of_ble_eq_true rfl) (fun r0 J0 h0 => ?_)
      obtain ⟨rfl, hJ0⟩ := h0
      obtain rfl := hJ0.symm
      refine x_ifb_eq (b := (al a 0 (seg L 0 n))) (tgt := 53) dX5_breaks_46 rfl (fun d1 => ?_) (fun d1 => ?_)
      ·
        refine x_iconst dX5_breaks_53 ic_0 ?_
        refine x_ireti dX5_breaks_54 rfl ⟨by rw [d1]; rfl, hR⟩
      ·
        refine x_iconst dX5_breaks_49 ic_1 ?_
        refine x_goto (tgt := 54) dX5_breaks_50 rfl ?_
        refine x_ireti dX5_breaks_54 rfl ⟨by rw [d1]; rfl, hR⟩
    ·
      refine x_tableIn (tgt := 55) (off := 54) dX5_breaks_1 (by omega) (by omega) (by rw [e]; rfl) (by decide) ?_
      have e' := int_of (k := 2) e (by decide)
      have ea : spBreaks what ((n, h, a, L), im) = nI (isB n h a (rw0 (n, h, a, L))).toNat := by
        rw [spBreaks, e', if_neg (nIe (by decide) (by decide) (by decide)), if_neg (nIe (by decide) (by decide) (by decide)), if_pos rfl]
      rw [ea]
      refine x_aload_n dX5_breaks_55 rfl ?_
      refine x_callVi 4 ml_X5_147 in_X5_lineIsBest se_X5_lineIsBest ct_X5_lineIsBest rfl (c_lineIsBest hW hR) dX5_breaks_56 (by decide) rfl rfl rfl rfl (Nat.le_of_ble_eq_true rfl) (fun r0 J0 h0 => ?_)
      obtain ⟨rfl, r1⟩ := h0
      refine x_ifb_eq (b := (isB n h a (rw0 (n, h, a, L)))) (tgt := 66) dX5_breaks_59 rfl (fun d1 => ?_) (fun d1 => ?_)
      ·
        refine x_iconst dX5_breaks_66 ic_0 ?_
        refine x_ireti dX5_breaks_67 rfl ⟨by rw [d1]; rfl, r1⟩
      ·
        refine x_iconst dX5_breaks_62 ic_1 ?_
        refine x_goto (tgt := 67) dX5_breaks_63 rfl ?_
        refine x_ireti dX5_breaks_67 rfl ⟨by rw [d1]; rfl, r1⟩
theorem k_swap {x : Int32} (hW : WOk W) (hR : CR I W) : Cx LX yX5_swap mX5_swap 8 [.ref 0, .int x] I (xRi (fun r J => r = (spSwap x W).1 ∧ CR J (spSwap x W).2)) := by
  obtain ⟨⟨n, h, a, L⟩, im⟩ := W
  have h1 : 1 ≤ n := hW.1.1
  have hn : n ≤ 8 := hW.1.2.1
  have hh : ∀ g, h g < 1024 := hW.1.2.2.1
  have ha : ∀ g, a g < 256 := hW.1.2.2.2.1
  have hL : ∀ p, p < n → L p < n := hW.1.2.2.2.2.1
  have hinj : ∀ p q, p < n → q < n → L p = L q → p = q := hW.1.2.2.2.2.2.1
  have hL8 : ∀ p, p < 8 → L p < 8 := hW.1.2.2.2.2.2.2
  have hD : DigAt I 1 n h a L := hR.1
  have ez : inR x (n - 1) = false → spSwap x ((n, h, a, L), im) = (-2, ((n, h, a, L), im)) := fun e => by
    rw [spSwap]; dsimp only; rw [e]; rfl
  refine Cx.of [.ref 0, .int x] (by decide) rfl rfl (Nat.le_of_ble_eq_true rfl) rfl ?_
  refine x_iload_n dX5_swap_0 rfl ?_
  refine x_if_lt (tgt := 17) dX5_swap_1 rfl (fun c0 => ?_) (fun c0 => ?_)
  ·
    have e0 := ez (inR_lt c0)
    refine x_bipush dX5_swap_17 bp_m2 ?_
    refine x_ireti dX5_swap_19 rfl ⟨by rw [e0], by rw [e0]; exact hR⟩
  ·
    obtain ⟨k, hk, rfl⟩ := nI_of c0
    refine x_iload_n dX5_swap_4 rfl ?_
    refine x_aload_n dX5_swap_5 rfl ?_
    refine x_getR 4 0 rfl (by decide) fl_X5_12 dX5_swap_6 rfl rfl rfl ?_
    refine x_getI 1 0 (v := nI n) rfl (by decide) fl_X5_38 dX5_swap_9 rfl rfl rfl hD.1 ?_
    refine x_iconst dX5_swap_12 ic_1 ?_
    refine x_isub (v := nI (n - 1)) dX5_swap_13 (pk_sub (by omega)) ?_
    refine x_icmpn_lt (a := k) (b := n - 1) (by omega) (by omega) (tgt := 20) dX5_swap_14 rfl (fun c1 => ?_) (fun c1 => ?_)
    ·
      have e0 : spSwap (nI k) ((n, h, a, L), im) = (nI (brk h (seg (swp L k) 0 n)), setL ((n, h, a, L), im) (swp L k)) := by
        rw [spSwap]; dsimp only; rw [inR_nI (by omega) c1, if_pos rfl, tN_nI hk]
      have hT2 := TOk_swp hW.1 (j := k) (by omega)
      have hrw : brk h (seg (swp L k) 0 n) = tr h 1023 0 (seg (swp L k) 0 n) - pop (fnd h n &&& 1023) ∧ pop (fnd h n &&& 1023) ≤ tr h 1023 0 (seg (swp L k) 0 n) := brk_tr (h := h) (n := n) (row_cov hT2)
      have hD2 : DigAt (xup (exI I 4 k) 0 5 (nI 0)) 1 n h a (swp L k) := DgT.fr (T := (n, h, a, swp L k)) (hD.ex (k := k) (by omega)) (xup_ne (by decide)) (xup_ne (by decide)) (xup_ne (by decide)) (xup_ne (by decide))
      rw [e0]
      refine x_aload_n dX5_swap_20 rfl ?_
      refine x_getR 4 0 rfl (by decide) fl_X5_12 dX5_swap_21 rfl rfl rfl ?_
      refine x_iload_n dX5_swap_24 rfl ?_
      refine x_callVv 1 ml_X5_150 in_X2_exchange se_X2_exchange ct_X2_exchange rfl (c_exchange (d := 0) (k := k) (by omega)) dX5_swap_25 (by decide) rfl rfl rfl rfl (Nat.le_of_ble_eq_true rfl) (fun J0 h0 => ?_)
      obtain rfl := h0.symm
      refine x_aload_n dX5_swap_28 rfl ?_
      refine x_iconst dX5_swap_29 ic_0 ?_
      refine x_put 4 5 rfl (by decide) fl_X5_35 rfl rfl (narZ (by decide)) (fitZ (by decide)) dX5_swap_30 rfl rfl rfl ?_
      refine x_aload_n dX5_swap_33 rfl ?_
      refine x_getR 4 0 rfl (by decide) fl_X5_12 dX5_swap_34 rfl rfl rfl ?_
      refine x_sipush dX5_swap_37 sp_1023 ?_
      refine x_callVi 1 ml_X5_88 in_X2_lineBreaks se_X2_lineBreaks ct_X2_lineBreaks rfl (c_lineBreaks (d := 1) (L := swp L k) (by decide) hh (fun p hp => by have h5 : swp L k p < n := hT2.2.2.2.2.1 p hp; omega) hD2 hn hrw.2) dX5_swap_40 (by decide) rfl rfl rfl rfl (Nat.le_of_ble_eq_true rfl) (fun r0 J0 h0 => ?_)
      obtain ⟨rfl, hJ0⟩ := h0
      obtain rfl := hJ0.symm
      refine x_ireti dX5_swap_43 rfl ⟨by rw [← hrw.1], ?_⟩
      refine hR.row (L' := swp L k) hD2 (fun q hq => ?_) ?_ (fun c hc => ?_)
      · rw [xup_eq, if_neg hq, exI_ne _ (by decide)]
      · rw [xup_eq, if_pos rfl]
      · rw [xup_ne (by omega), exI_ne _ (by omega)]
    ·
      have e0 := ez (inR_nI' hk (by omega))
      refine x_bipush dX5_swap_17 bp_m2 ?_
      refine x_ireti dX5_swap_19 rfl ⟨by rw [e0], by rw [e0]; exact hR⟩
theorem k_better (hW : WOk W) (hR : CR I W) : Cx LX yX5_better mX5_better 8 [.ref 0] I (xRi (fun r J => r = (spBetter W).1 ∧ CR J (spBetter W).2)) := by
  refine Cx.of [.ref 0] (by decide) rfl rfl (Nat.le_of_ble_eq_true rfl) rfl ?_
  refine x_aload_n dX5_better_0 rfl ?_
  refine x_callVi 4 ml_X5_153 in_X5_makeBestSwap se_X5_makeBestSwap ct_X5_makeBestSwap rfl (c_makeBestSwap hW hR) dX5_better_1 (by decide) rfl rfl rfl rfl (Nat.le_of_ble_eq_true rfl) (fun r0 J0 h0 => ?_)
  obtain ⟨rfl, q1⟩ := h0
  refine x_ireti dX5_better_4 rfl ⟨rfl, q1⟩
theorem bsw_neg {T : ST} (hT : TOk T) : bsw T = (-6) ∨ ¬ bsw T < 0 := by
  rcases beL_or (fun k => brk T.2.1 (seg (swp T.2.2.2 k) 0 T.1)) (T.1 - 1) 0 (brk T.2.1 (rw0 T)) (-6) with e | ⟨j, -, hj, e, -⟩
  · exact Or.inl e
  · right
    have : bsw T = nI j := e
    rw [this]
    have := hT.2.1
    exact nI_pos (by omega)
theorem k_climb (hW : WOk W) (hR : CR I W) : Cx LX yX5_climb mX5_climb 8 [.ref 0] I (xRi (fun r J => r = (spClimb W).1 ∧ CR J (spClimb W).2)) := by
  have lp : ∀ (f c : Nat) (V : WS) (J : xMem), c + f = 1000 → WOk V → CR J V → c + (clF f V).1 = (clF 1000 W).1 → (clF f V).2 = (clF 1000 W).2 → Wx LX mX5_climb 8 (xRi (fun r J => r = (spClimb W).1 ∧ CR J (spClimb W).2)) 2 [.ref 0, .int (nI c)] [] J := by
    intro f
    induction f with
    | zero =>
      intro c V J hc hV hRV e1 e2
      refine x_iload_n dX5_climb_2 rfl ?_
      refine x_sipush dX5_climb_3 sp_1000 ?_
      refine x_icmpn_ge (a := c) (b := 1000) (by omega) (by omega) (tgt := 24) dX5_climb_6 rfl (fun c1 => ?_) (fun c1 => ?_)
      ·
        refine x_iload_n dX5_climb_24 rfl ?_
        refine x_ireti dX5_climb_25 rfl ⟨by rw [spClimb, ← e1]; rfl, by
          have : V = (spClimb W).2 := e2
          rw [← this]; exact hRV⟩
      ·
        omega
    | succ f ih =>
      intro c V J hc hV hRV e1 e2
      rw [clF_s] at e1 e2
      refine x_iload_n dX5_climb_2 rfl ?_
      refine x_sipush dX5_climb_3 sp_1000 ?_
      refine x_icmpn_ge (a := c) (b := 1000) (by omega) (by omega) (tgt := 24) dX5_climb_6 rfl (fun c0 => ?_) (fun c0 => ?_)
      ·
        omega
      ·
        refine x_aload_n dX5_climb_9 rfl ?_
        refine x_callVi 4 ml_X5_153 in_X5_makeBestSwap se_X5_makeBestSwap ct_X5_makeBestSwap rfl (c_makeBestSwap hV hRV) dX5_climb_10 (by decide) rfl rfl rfl rfl (Nat.le_of_ble_eq_true rfl) (fun r0 J0 h0 => ?_)
        obtain ⟨rfl, q1⟩ := h0
        refine x_bipush dX5_climb_13 bp_m6 ?_
        refine x_icmp_eq (tgt := 24) dX5_climb_15 rfl (fun c1 => ?_) (fun c1 => ?_)
        ·
          have hneg : (spBetter V).1 < 0 := by rw [c1]; decide
          rw [if_pos hneg] at e1 e2
          dsimp only at e1 e2
          refine x_iload_n dX5_climb_24 rfl ?_
          refine x_ireti dX5_climb_25 rfl ⟨by rw [spClimb, ← e1]; rfl, by
            have : V = (spClimb W).2 := e2
            rw [← this]
            have : (spBetter V).2 = V := by
              obtain ⟨⟨n, h, a, L⟩, im⟩ := V
              show ((n, h, a, swI L (bsw (n, h, a, L))), im) = _
              unfold swI
              rw [if_pos (show bsw (n, h, a, L) < 0 from hneg)]
            rw [this] at q1; exact q1⟩
        ·
          have hneg : ¬ (spBetter V).1 < 0 := by
            rcases bsw_neg hV.1 with e | e
            · exact absurd e c1
            · exact e
          rw [if_neg hneg] at e1 e2
          dsimp only at e1 e2
          refine x_iinc (v := nI (c + 1)) (ls' := [.ref 0, .int (nI (c + 1))]) dX5_climb_18 rfl (inc_1 _) rfl rfl ?_
          refine x_goto (tgt := 2) dX5_climb_21 rfl ?_
          exact ih (c + 1) _ J0 (by omega) (WOk_better hV) q1 (by omega) e2
  refine Cx.of [.ref 0, .null] (by decide) rfl rfl (Nat.le_of_ble_eq_true rfl) rfl ?_
  refine x_iconst dX5_climb_0 ic_0 ?_
  refine x_istore_n (ls' := [.ref 0, .int (nI 0)]) dX5_climb_1 rfl rfl ?_
  exact lp 1000 0 W I (by omega) hW hR (by omega) rfl
end KP
