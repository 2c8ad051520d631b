/-! the reference: count, images, changes -/
section MP
variable {I : xMem} {W : WS}
theorem int_of {x : Int32} {k : Nat} (h : x.toInt = k) (hk : k < 2 ^ 31) : x = nI k := Int32.toInt_inj.mp (by rw [nI_toInt hk]; exact h)
theorem m_count {what : Int32} (hW : WOk W) (hR : MR I W) : Cx LM yX6_count mX6_count 8 [.ref 0, .int what] I (xRi (fun r J => r = spCount what W ∧ MR J W)) := by
  obtain ⟨⟨n, h, a, L⟩, im⟩ := W
  have h1 : 1 ≤ n := hW.1.1
  have hn : n ≤ 8 := hW.1.2.1
  have hh : ∀ g, h g < 1024 := hW.1.2.2.1
  have ha : ∀ g, a g < 256 := hW.1.2.2.2.1
  have hL : ∀ p, p < n → L p < n := hW.1.2.2.2.2.1
  have hinj : ∀ p q, p < n → q < n → L p = L q → p = q := hW.1.2.2.2.2.2.1
  have hL8 : ∀ p, p < 8 → L p < 8 := hW.1.2.2.2.2.2.2
  have hM : MSt I n h a L := hR.1
  have hF : I 0 4 = nI 0 ∨ (I 0 4 = nI 1 ∧ I 0 5 = oI (fewB n h a)) := hR.2.1
  have fin : Wx LM mX6_count 8 (xRi (fun r J => r = spCount what ((n, h, a, L), im) ∧ MR J ((n, h, a, L), im))) 30 [.ref 0, .int what, .int (nI (rf (fun s g => s + pop (h g)) 0 8)), .int (nI 8)] [] I := by
    have k0 : I 3 0 = nI im.1.1.toNat := hR.2.2.1
    have k1 : I 3 1 = nI im.2.1.toNat := hR.2.2.2.1
    have hsm : rf (fun s g => s + pop (h g)) 0 8 = rf (fun s g => s + pop (h g)) 0 8 := rfl
    refine x_iload_n dX6_count_30 rfl ?_
    by_cases o1 : what.toInt < 0 ∨ 3 < what.toInt
    · refine x_tableOut (tgt := 104) dX6_count_31 (by omega) (by decide) ?_
      have no : ∀ j : Nat, j < 4 → ¬ what = nI j := fun j hj e => by rw [e, nI_toInt (by omega)] at o1; omega
      refine x_bipush dX6_count_104 bp_m2 ?_
      refine x_ireti dX6_count_106 rfl ⟨by rw [spCount, if_neg (no 0 (by decide)), if_neg (no 1 (by decide)), if_neg (no 2 (by decide)), if_neg (no 3 (by decide))], hR⟩
    · rcases (show what.toInt = 0 ∨ what.toInt = 1 ∨ what.toInt = 2 ∨ what.toInt = 3 by omega) with e | e | e | e
      · refine x_tableIn (tgt := 60) (off := 29) dX6_count_31 (by omega) (by omega) (by rw [e]; rfl) (by decide) ?_
        have e' := int_of (k := 0) e (by decide)
        refine x_aload_n dX6_count_60 rfl ?_
        refine x_getR 5 0 rfl (by decide) fl_X6_7 dX6_count_61 rfl rfl rfl ?_
        refine x_iconst dX6_count_64 ic_0 ?_
        refine x_iald (p := 0) (v := nI n) dX6_count_65 rfl rfl rfl rfl (by omega) hM.1 ?_
        refine x_ireti dX6_count_66 rfl ⟨by rw [spCount, if_pos e'], hR⟩
      · refine x_tableIn (tgt := 67) (off := 36) dX6_count_31 (by omega) (by omega) (by rw [e]; rfl) (by decide) ?_
        have e' := int_of (k := 1) e (by decide)
        refine x_iload_n dX6_count_67 rfl ?_
        refine x_ireti dX6_count_68 rfl ⟨by rw [spCount, e', if_neg (nIe (by decide) (by decide) (by decide)), if_pos rfl], hR⟩
      · refine x_tableIn (tgt := 69) (off := 38) dX6_count_31 (by omega) (by omega) (by rw [e]; rfl) (by decide) ?_
        have e' := int_of (k := 2) e (by decide)
        refine x_aload_n dX6_count_69 rfl ?_
        refine x_callVi 5 ml_X6_69 in_X6_knownPairs se_X6_knownPairs ct_X6_knownPairs rfl (c_knownPairs (d := 1) (by decide) (fun g => by have := ha g; omega) hM.2.2.1) dX6_count_70 (by decide) rfl rfl rfl rfl (Nat.le_of_ble_eq_true rfl) (fun r0 J0 h0 => ?_)
        obtain ⟨rfl, hJ0⟩ := h0
        obtain rfl := hJ0.symm
        refine x_ireti dX6_count_73 rfl ⟨by rw [spCount, e', if_neg (nIe (by decide) (by decide) (by decide)), if_neg (nIe (by decide) (by decide) (by decide)), if_pos rfl], hR⟩
      · refine x_tableIn (tgt := 74) (off := 43) dX6_count_31 (by omega) (by omega) (by rw [e]; rfl) (by decide) ?_
        have e' := int_of (k := 3) e (by decide)
        have ea : spCount what ((n, h, a, L), im) = nI (im.1.1.toNat + 2 * im.2.1.toNat) := by rw [spCount, e', if_neg (nIe (by decide) (by decide) (by decide)), if_neg (nIe (by decide) (by decide) (by decide)), if_neg (nIe (by decide) (by decide) (by decide)), if_pos rfl]
        refine x_aload_n dX6_count_74 rfl ?_
        refine x_getR 5 2 rfl (by decide) fl_X6_16 dX6_count_75 rfl rfl rfl ?_
        refine x_iconst dX6_count_78 ic_0 ?_
        refine x_zald (p := 0) (v := nI im.1.1.toNat) dX6_count_79 rfl rfl rfl rfl (by omega) k0 ?_
        refine x_ifb_eq (b := im.1.1) (tgt := 87) dX6_count_80 rfl (fun d1 => ?_) (fun d1 => ?_)
        ·
          refine x_iconst dX6_count_87 ic_0 ?_
          refine x_aload_n dX6_count_88 rfl ?_
          refine x_getR 5 2 rfl (by decide) fl_X6_16 dX6_count_89 rfl rfl rfl ?_
          refine x_iconst dX6_count_92 ic_1 ?_
          refine x_zald (p := 1) (v := nI im.2.1.toNat) dX6_count_93 rfl rfl rfl rfl (by omega) k1 ?_
          refine x_ifb_eq (b := im.2.1) (tgt := 101) dX6_count_94 rfl (fun d2 => ?_) (fun d2 => ?_)
          ·
            refine x_iconst dX6_count_101 ic_0 ?_
            refine x_iadd (v := nI (0 + 0)) dX6_count_102 (nI_add _ _) ?_
            refine x_ireti dX6_count_103 rfl ⟨by rw [ea, d1, d2]; rfl, hR⟩
          ·
            refine x_iconst dX6_count_97 ic_2 ?_
            refine x_goto (tgt := 102) dX6_count_98 rfl ?_
            refine x_iadd (v := nI (0 + 2)) dX6_count_102 (nI_add _ _) ?_
            refine x_ireti dX6_count_103 rfl ⟨by rw [ea, d1, d2]; rfl, hR⟩
        ·
          refine x_iconst dX6_count_83 ic_1 ?_
          refine x_goto (tgt := 88) dX6_count_84 rfl ?_
          refine x_aload_n dX6_count_88 rfl ?_
          refine x_getR 5 2 rfl (by decide) fl_X6_16 dX6_count_89 rfl rfl rfl ?_
          refine x_iconst dX6_count_92 ic_1 ?_
          refine x_zald (p := 1) (v := nI im.2.1.toNat) dX6_count_93 rfl rfl rfl rfl (by omega) k1 ?_
          refine x_ifb_eq (b := im.2.1) (tgt := 101) dX6_count_94 rfl (fun d2 => ?_) (fun d2 => ?_)
          ·
            refine x_iconst dX6_count_101 ic_0 ?_
            refine x_iadd (v := nI (1 + 0)) dX6_count_102 (nI_add _ _) ?_
            refine x_ireti dX6_count_103 rfl ⟨by rw [ea, d1, d2]; rfl, hR⟩
          ·
            refine x_iconst dX6_count_97 ic_2 ?_
            refine x_goto (tgt := 102) dX6_count_98 rfl ?_
            refine x_iadd (v := nI (1 + 2)) dX6_count_102 (nI_add _ _) ?_
            refine x_ireti dX6_count_103 rfl ⟨by rw [ea, d1, d2]; rfl, hR⟩
  have lp : ∀ (k g : Nat), g + k = 8 → Wx LM mX6_count 8 (xRi (fun r J => r = spCount what ((n, h, a, L), im) ∧ MR J ((n, h, a, L), im))) 4 [.ref 0, .int what, .int (nI (rf (fun s g => s + pop (h g)) 0 g)), .int (nI g)] [] I := by
    intro k
    induction k with
    | zero =>
      intro g hg
      have e : g = 8 := by omega
      subst e
      refine x_iload_n dX6_count_4 rfl ?_
      refine x_bipush dX6_count_5 bp_8 ?_
      refine x_icmpn_ge (a := 8) (b := 8) (by omega) (by omega) (tgt := 30) dX6_count_7 rfl (fun c => ?_) (fun c => ?_)
      ·
        exact fin
      ·
        omega
    | succ k ih =>
      intro g hg
      have hb := hh g
      refine x_iload_n dX6_count_4 rfl ?_
      refine x_bipush dX6_count_5 bp_8 ?_
      refine x_icmpn_ge (a := g) (b := 8) (by omega) (by omega) (tgt := 30) dX6_count_7 rfl (fun c => ?_) (fun c => ?_)
      ·
        omega
      ·
        refine x_iload_n dX6_count_10 rfl ?_
        refine x_aload_n dX6_count_11 rfl ?_
        refine x_getR 5 0 rfl (by decide) fl_X6_7 dX6_count_12 rfl rfl rfl ?_
        refine x_iconst dX6_count_15 ic_1 ?_
        refine x_iload_n dX6_count_16 rfl ?_
        refine x_iadd (v := nI (1 + g)) dX6_count_17 (nI_add _ _) ?_
        refine x_iald (p := 1 + g) (v := nI (h g)) dX6_count_18 rfl rfl rfl rfl (by omega) (hM.2.1 g (by omega)) ?_
        refine x_callSi (as := [.int (nI (h g))]) ml_X6_65 st_X6_bits ct_X6_bits (c_bits (d := 0) (by omega)) dX6_count_19 (by decide) rfl rfl (Nat.le_of_ble_eq_true rfl) (fun r0 J0 h0 => ?_)
        obtain ⟨rfl, hJ0⟩ := h0
        obtain rfl := hJ0.symm
        refine x_iadd (v := nI ((rf (fun s g => s + pop (h g)) 0 g) + (pop (h g)))) dX6_count_22 (nI_add _ _) ?_
        refine x_istore_n (ls' := [.ref 0, .int what, .int (nI ((rf (fun s g => s + pop (h g)) 0 g) + (pop (h g)))), .int (nI g)]) dX6_count_23 rfl rfl ?_
        refine x_iinc (v := nI (g + 1)) (ls' := [.ref 0, .int what, .int (nI ((rf (fun s g => s + pop (h g)) 0 g) + (pop (h g)))), .int (nI (g + 1))]) dX6_count_24 rfl (inc_1 _) rfl rfl ?_
        refine x_goto (tgt := 4) dX6_count_27 rfl ?_
        have := ih (g + 1) (by omega)
        rw [rf_s _ _ g] at this
        exact this
  refine Cx.of [.ref 0, .int what, .null, .null] (by decide) rfl rfl (Nat.le_of_ble_eq_true rfl) rfl ?_
  refine x_iconst dX6_count_0 ic_0 ?_
  refine x_istore_n (ls' := [.ref 0, .int what, .int (nI 0), .null]) dX6_count_1 rfl rfl ?_
  refine x_iconst dX6_count_2 ic_0 ?_
  refine x_istore_n (ls' := [.ref 0, .int what, .int (nI 0), .int (nI 0)]) dX6_count_3 rfl rfl ?_
  exact lp 8 0 rfl
theorem m_image {x : Int32} (hW : WOk W) (hR : MR I W) : Cx LM yX6_image mX6_image 8 [.ref 0, .int x] I (xRi (fun r J => r = (spImage x W).1 ∧ MR J (spImage x W).2)) := by
  obtain ⟨⟨n, h, a, L⟩, im⟩ := W
  have h1 : 1 ≤ n := hW.1.1
  have hn : n ≤ 8 := hW.1.2.1
  have hh : ∀ g, h g < 1024 := hW.1.2.2.1
  have ha : ∀ g, a g < 256 := hW.1.2.2.2.1
  have hL : ∀ p, p < n → L p < n := hW.1.2.2.2.2.1
  have hinj : ∀ p q, p < n → q < n → L p = L q → p = q := hW.1.2.2.2.2.2.1
  have hL8 : ∀ p, p < 8 → L p < 8 := hW.1.2.2.2.2.2.2
  have hM : MSt I n h a L := hR.1
  have hF : I 0 4 = nI 0 ∨ (I 0 4 = nI 1 ∧ I 0 5 = oI (fewB n h a)) := hR.2.1
  refine Cx.of [.ref 0, .int x, .null] (by decide) rfl rfl (Nat.le_of_ble_eq_true rfl) rfl ?_
  refine x_iload_n dX6_image_0 rfl ?_
  refine x_iconst dX6_image_1 ic_0 ?_
  refine x_iconst dX6_image_2 ic_1 ?_
  refine x_callSi (as := [.int x, .int (nI 0), .int (nI 1)]) ml_X6_50 st_X6_in ct_X6_in (c_in (d := 0)) dX6_image_3 (by decide) rfl rfl (Nat.le_of_ble_eq_true rfl) (fun r0 J0 h0 => ?_)
  obtain ⟨rfl, hJ0⟩ := h0
  obtain rfl := hJ0.symm
  rw [inB_2]
  refine x_ifb_ne (b := inR x 2) (tgt := 12) dX6_image_6 rfl (fun c => ?_) (fun c => ?_)
  ·
    obtain ⟨q, hq, rfl⟩ := inR_of c
    have sx := MSt.idx (T := (n, h, a, L)).mp hM
    have lp : ∀ (t i : Nat) (J : xMem), i + t = 25 → (∀ j, j < i → J 2 (25 * q + j) = nI (stA (n, h, a, L) j)) → (∀ j, (j < 25 * q ∨ 25 * q + 25 ≤ j) → J 2 j = I 2 j) → (∀ c, c ≠ 2 → J c = I c) → Wx LM mX6_image 8 (xRi (fun r J => r = (spImage (nI q) ((n, h, a, L), im)).1 ∧ MR J (spImage (nI q) ((n, h, a, L), im)).2)) 14 [.ref 0, .int (nI q), .int (nI i)] [] J := by
      intro t
      induction t with
      | zero =>
        intro i J hi j2 jo jf
        have e : i = 25 := by omega
        subst e
        refine x_iload_n dX6_image_14 rfl ?_
        refine x_bipush dX6_image_15 bp_25 ?_
        refine x_icmpn_ge (a := 25) (b := 25) (by omega) (by omega) (tgt := 43) dX6_image_17 rfl (fun c1 => ?_) (fun c1 => ?_)
        ·
          refine x_aload_n dX6_image_43 rfl ?_
          refine x_getR 5 2 rfl (by decide) fl_X6_16 dX6_image_44 rfl rfl rfl ?_
          refine x_iload_n dX6_image_47 rfl ?_
          refine x_iconst dX6_image_48 ic_1 ?_
          refine x_zast (p := q) dX6_image_49 rfl rfl rfl rfl (by omega) (Or.inr (by decide +kernel)) ?_
          generalize hK : xup J 3 q (nI 1) = K
          refine x_iconst dX6_image_50 ic_1 ?_
          have kne : ∀ c, c ≠ 3 → K c = J c := fun c hc => by rw [← hK, xup_ne hc]
          have hMK : MSt K n h a L := hM.kept (by rw [kne 1 (by decide)]; exact jf 1 (by decide))
          have hFK : K 0 4 = nI 0 ∨ (K 0 4 = nI 1 ∧ K 0 5 = oI (fewB n h a)) := by rw [kne 0 (by decide), jf 0 (by decide)]; exact hF
          rcases (show q = 0 ∨ q = 1 by omega) with rfl | rfl
          · have e0 : spImage (nI 0) ((n, h, a, L), im) = (nI 1, ((n, h, a, L), (true, (n, h, a, L)), im.2)) := by rw [spImage, if_pos rfl]
            refine x_ireti dX6_image_51 rfl ⟨by rw [e0], ?_⟩
            rw [e0]
            refine ⟨hMK, hFK, ?_, ?_, fun _ i hi => ?_, fun hk i hi => ?_⟩
            · rw [← hK, xup_eq, if_pos rfl]; rfl
            · rw [← hK, xup_eq, if_neg (by decide), jf 3 (by decide)]; exact hR.2.2.2.1
            · rw [kne 2 (by decide)]; have := j2 i hi; rwa [show 25 * 0 + i = i by omega] at this
            · rw [kne 2 (by decide), jo _ (Or.inr (by omega))]; exact hR.2.2.2.2.2 hk i hi
          · have e0 : spImage (nI 1) ((n, h, a, L), im) = (nI 1, ((n, h, a, L), im.1, (true, (n, h, a, L)))) := by rw [spImage, if_neg (nIe (by decide) (by decide) (by decide)), if_pos rfl]
            refine x_ireti dX6_image_51 rfl ⟨by rw [e0], ?_⟩
            rw [e0]
            refine ⟨hMK, hFK, ?_, ?_, fun hk i hi => ?_, fun _ i hi => ?_⟩
            · rw [← hK, xup_eq, if_neg (by decide), jf 3 (by decide)]; exact hR.2.2.1
            · rw [← hK, xup_eq, if_pos rfl]; rfl
            · rw [kne 2 (by decide), jo _ (Or.inl (by omega))]; exact hR.2.2.2.2.1 hk i hi
            · rw [kne 2 (by decide)]; have := j2 i hi; rwa [show 25 * 1 + i = 25 + i by omega] at this
        ·
          omega
      | succ t ih =>
        intro i J hi j2 jo jf
        refine x_iload_n dX6_image_14 rfl ?_
        refine x_bipush dX6_image_15 bp_25 ?_
        refine x_icmpn_ge (a := i) (b := 25) (by omega) (by omega) (tgt := 43) dX6_image_17 rfl (fun c1 => ?_) (fun c1 => ?_)
        ·
          omega
        ·
          refine x_aload_n dX6_image_20 rfl ?_
          refine x_getR 5 1 rfl (by decide) fl_X6_13 dX6_image_21 rfl rfl rfl ?_
          refine x_bipush dX6_image_24 bp_25 ?_
          refine x_iload_n dX6_image_26 rfl ?_
          refine x_imul (v := nI (25 * q)) dX6_image_27 (pk_mul _ _) ?_
          refine x_iload_n dX6_image_28 rfl ?_
          refine x_iadd (v := nI ((25 * q) + i)) dX6_image_29 (nI_add _ _) ?_
          refine x_aload_n dX6_image_30 rfl ?_
          refine x_getR 5 0 rfl (by decide) fl_X6_7 dX6_image_31 rfl rfl rfl ?_
          refine x_iload_n dX6_image_34 rfl ?_
          refine x_iald (p := i) (v := nI (stA (n, h, a, L) i)) dX6_image_35 rfl rfl rfl rfl (by omega) (by rw [jf 1 (by decide)]; exact sx i (by omega)) ?_
          refine x_iast (p := (25 * q) + i) dX6_image_36 rfl rfl rfl rfl (by omega) ?_
          generalize hK : xup J 2 ((25 * q) + i) (nI (stA (n, h, a, L) i)) = K
          refine x_iinc (v := nI (i + 1)) (ls' := [.ref 0, .int (nI q), .int (nI (i + 1))]) dX6_image_37 rfl (inc_1 _) rfl rfl ?_
          refine x_goto (tgt := 14) dX6_image_40 rfl ?_
          refine ih (i + 1) K (by omega) (fun j hj => ?_) (fun j hj => ?_) (fun c hc => by rw [← hK, xup_ne hc]; exact jf c hc)
          · rw [← hK, xup_eq]
            by_cases e : j = i
            · subst e; rw [if_pos rfl]
            · rw [if_neg (by omega)]; exact j2 j (by omega)
          · rw [← hK, xup_eq, if_neg (by omega)]; exact jo j hj
    refine x_iconst dX6_image_12 ic_0 ?_
    refine x_istore_n (ls' := [.ref 0, .int (nI q), .int (nI 0)]) dX6_image_13 rfl rfl ?_
    exact lp 25 0 I rfl (fun j hj => by omega) (fun _ _ => rfl) (fun _ _ => rfl)
  ·
    refine x_bipush dX6_image_9 bp_m2 ?_
    have e0 : spImage x ((n, h, a, L), im) = (-2, ((n, h, a, L), im)) := by rw [spImage, if_neg (out_ne c (by decide) (by decide)), if_neg (out_ne c (by decide) (by decide))]
    refine x_ireti dX6_image_11 rfl ⟨by rw [e0], by rw [e0]; exact hR⟩
theorem m_restore {x : Int32} (hW : WOk W) (hR : MR I W) : Cx LM yX6_restore mX6_restore 8 [.ref 0, .int x] I (xRi (fun r J => r = (spRestore x W).1 ∧ MR J (spRestore x W).2)) := by
  obtain ⟨⟨n, h, a, L⟩, im⟩ := W
  have h1 : 1 ≤ n := hW.1.1
  have hn : n ≤ 8 := hW.1.2.1
  have hh : ∀ g, h g < 1024 := hW.1.2.2.1
  have ha : ∀ g, a g < 256 := hW.1.2.2.2.1
  have hL : ∀ p, p < n → L p < n := hW.1.2.2.2.2.1
  have hinj : ∀ p q, p < n → q < n → L p = L q → p = q := hW.1.2.2.2.2.2.1
  have hL8 : ∀ p, p < 8 → L p < 8 := hW.1.2.2.2.2.2.2
  have hM : MSt I n h a L := hR.1
  have hF : I 0 4 = nI 0 ∨ (I 0 4 = nI 1 ∧ I 0 5 = oI (fewB n h a)) := hR.2.1
  refine Cx.of [.ref 0, .int x, .null] (by decide) rfl rfl (Nat.le_of_ble_eq_true rfl) rfl ?_
  refine x_iload_n dX6_restore_0 rfl ?_
  refine x_iconst dX6_restore_1 ic_0 ?_
  refine x_iconst dX6_restore_2 ic_1 ?_
  refine x_callSi (as := [.int x, .int (nI 0), .int (nI 1)]) ml_X6_50 st_X6_in ct_X6_in (c_in (d := 0)) dX6_restore_3 (by decide) rfl rfl (Nat.le_of_ble_eq_true rfl) (fun r0 J0 h0 => ?_)
  obtain ⟨rfl, hJ0⟩ := h0
  obtain rfl := hJ0.symm
  rw [inB_2]
  refine x_ifb_ne (b := inR x 2) (tgt := 12) dX6_restore_6 rfl (fun c => ?_) (fun c => ?_)
  ·
    obtain ⟨q, hq, rfl⟩ := inR_of c
    -- the image, by its number
    obtain ⟨kb, T, hkb, hT, hsp⟩ : ∃ (kb : Bool) (T : ST), I 3 q = nI kb.toNat ∧ (kb = true → ∀ i, i < 25 → I 2 (25 * q + i) = nI (stA T i)) ∧ spRestore (nI q) ((n, h, a, L), im) = (if kb then (nI 1, (T, im)) else (-3, ((n, h, a, L), im))) := by
      rcases (show q = 0 ∨ q = 1 by omega) with rfl | rfl
      · exact ⟨im.1.1, im.1.2, hR.2.2.1, fun hk i hi => by rw [show 25 * 0 + i = i by omega]; exact hR.2.2.2.2.1 hk i hi, by rw [spRestore, if_pos rfl]⟩
      · exact ⟨im.2.1, im.2.2, hR.2.2.2.1, fun hk i hi => by rw [show 25 * 1 + i = 25 + i by omega]; exact hR.2.2.2.2.2 hk i hi, by rw [spRestore, if_neg (nIe (by decide) (by decide) (by decide)), if_pos rfl]⟩
    refine x_aload_n dX6_restore_12 rfl ?_
    refine x_getR 5 2 rfl (by decide) fl_X6_16 dX6_restore_13 rfl rfl rfl ?_
    refine x_iload_n dX6_restore_16 rfl ?_
    refine x_zald (p := q) (v := nI kb.toNat) dX6_restore_17 rfl rfl rfl rfl (by omega) hkb ?_
    refine x_ifb_ne (b := kb) (tgt := 24) dX6_restore_18 rfl (fun c1 => ?_) (fun c1 => ?_)
    ·
      rw [c1, if_pos rfl] at hsp
      have lp : ∀ (t i : Nat) (J : xMem), i + t = 25 → (∀ j, j < i → J 1 j = nI (stA T j)) → (∀ c, c ≠ 1 → J c = I c) → Wx LM mX6_restore 8 (xRi (fun r J => r = (spRestore (nI q) ((n, h, a, L), im)).1 ∧ MR J (spRestore (nI q) ((n, h, a, L), im)).2)) 26 [.ref 0, .int (nI q), .int (nI i)] [] J := by
        intro t
        induction t with
        | zero =>
          intro i J hi j1 jf
          refine x_iload_n dX6_restore_26 rfl ?_
          refine x_bipush dX6_restore_27 bp_25 ?_
          refine x_icmpn_ge (a := i) (b := 25) (by omega) (by omega) (tgt := 55) dX6_restore_29 rfl (fun d1 => ?_) (fun d1 => ?_)
          ·
            refine x_aload_n dX6_restore_55 rfl ?_
            refine x_iconst dX6_restore_56 ic_0 ?_
            refine x_put 5 4 rfl (by decide) fl_X6_54 rfl rfl (narZ (Or.inl rfl)) (fitZ (Or.inl rfl)) dX6_restore_57 rfl rfl rfl ?_
            generalize hK : xup J 0 4 (nI 0) = K
            refine x_iconst dX6_restore_60 ic_1 ?_
            refine x_ireti dX6_restore_61 rfl ⟨by rw [hsp], ?_⟩
            rw [hsp]
            refine MR.st (W := ((n, h, a, L), im)) (T := T) hR (MSt.idx.mpr (fun j hj => ?_)) (Or.inl ?_) ?_ ?_
            · rw [← hK, xup_ne (by decide)]; exact j1 j (by omega)
            · rw [← hK, xup_eq, if_pos rfl]
            · rw [← hK, xup_ne (by decide)]; exact jf 2 (by decide)
            · rw [← hK, xup_ne (by decide)]; exact jf 3 (by decide)
          ·
            omega
        | succ t ih =>
          intro i J hi j1 jf
          refine x_iload_n dX6_restore_26 rfl ?_
          refine x_bipush dX6_restore_27 bp_25 ?_
          refine x_icmpn_ge (a := i) (b := 25) (by omega) (by omega) (tgt := 55) dX6_restore_29 rfl (fun d1 => ?_) (fun d1 => ?_)
          ·
            omega
          ·
            refine x_aload_n dX6_restore_32 rfl ?_
            refine x_getR 5 0 rfl (by decide) fl_X6_7 dX6_restore_33 rfl rfl rfl ?_
            refine x_iload_n dX6_restore_36 rfl ?_
            refine x_aload_n dX6_restore_37 rfl ?_
            refine x_getR 5 1 rfl (by decide) fl_X6_13 dX6_restore_38 rfl rfl rfl ?_
            refine x_bipush dX6_restore_41 bp_25 ?_
            refine x_iload_n dX6_restore_43 rfl ?_
            refine x_imul (v := nI (25 * q)) dX6_restore_44 (pk_mul _ _) ?_
            refine x_iload_n dX6_restore_45 rfl ?_
            refine x_iadd (v := nI ((25 * q) + i)) dX6_restore_46 (nI_add _ _) ?_
            refine x_iald (p := (25 * q) + i) (v := nI (stA T i)) dX6_restore_47 rfl rfl rfl rfl (by omega) (by rw [jf 2 (by decide)]; exact hT c1 i (by omega)) ?_
            refine x_iast (p := i) dX6_restore_48 rfl rfl rfl rfl (by omega) ?_
            generalize hK : xup J 1 i (nI (stA T i)) = K
            refine x_iinc (v := nI (i + 1)) (ls' := [.ref 0, .int (nI q), .int (nI (i + 1))]) dX6_restore_49 rfl (inc_1 _) rfl rfl ?_
            refine x_goto (tgt := 26) dX6_restore_52 rfl ?_
            refine ih (i + 1) K (by omega) (fun j hj => ?_) (fun c hc => by rw [← hK, xup_ne hc]; exact jf c hc)
            rw [← hK, xup_eq]
            by_cases e : j = i
            · subst e; rw [if_pos rfl]
            · rw [if_neg e]; exact j1 j (by omega)
      refine x_iconst dX6_restore_24 ic_0 ?_
      refine x_istore_n (ls' := [.ref 0, .int (nI q), .int (nI 0)]) dX6_restore_25 rfl rfl ?_
      exact lp 25 0 I rfl (fun j hj => by omega) (fun _ _ => rfl)
    ·
      rw [c1, if_neg (by decide)] at hsp
      refine x_bipush dX6_restore_21 bp_m3 ?_
      refine x_ireti dX6_restore_23 rfl ⟨by rw [hsp], by rw [hsp]; exact hR⟩
  ·
    refine x_bipush dX6_restore_9 bp_m2 ?_
    have e0 : spRestore x ((n, h, a, L), im) = (-2, ((n, h, a, L), im)) := by rw [spRestore, if_neg (out_ne c (by decide) (by decide)), if_neg (out_ne c (by decide) (by decide))]
    refine x_ireti dX6_restore_11 rfl ⟨by rw [e0], by rw [e0]; exact hR⟩
theorem in18 {x : Int32} (h : inB x (nI 1) (nI 8) = true) : ∃ m : Nat, 1 ≤ m ∧ m ≤ 8 ∧ x = nI m := by
  have := of_decide_eq_true h
  rw [nI_toInt (by decide), nI_toInt (by decide)] at this
  exact ⟨x.toInt.toNat, by omega, by omega, Int32.toInt_inj.mp (by rw [nI_toInt (by omega)]; omega)⟩
theorem m_many {x : Int32} (hW : WOk W) (hR : MR I W) : Cx LM yX6_many mX6_many 8 [.ref 0, .int x] I (xRi (fun r J => r = (spMany x W).1 ∧ MR J (spMany x W).2)) := by
  obtain ⟨⟨n, h, a, L⟩, im⟩ := W
  have h1 : 1 ≤ n := hW.1.1
  have hn : n ≤ 8 := hW.1.2.1
  have hh : ∀ g, h g < 1024 := hW.1.2.2.1
  have ha : ∀ g, a g < 256 := hW.1.2.2.2.1
  have hL : ∀ p, p < n → L p < n := hW.1.2.2.2.2.1
  have hinj : ∀ p q, p < n → q < n → L p = L q → p = q := hW.1.2.2.2.2.2.1
  have hL8 : ∀ p, p < 8 → L p < 8 := hW.1.2.2.2.2.2.2
  have hM : MSt I n h a L := hR.1
  have hF : I 0 4 = nI 0 ∨ (I 0 4 = nI 1 ∧ I 0 5 = oI (fewB n h a)) := hR.2.1
  refine Cx.of [.ref 0, .int x, .null, .null] (by decide) rfl rfl (Nat.le_of_ble_eq_true rfl) rfl ?_
  refine x_iload_n dX6_many_0 rfl ?_
  refine x_iconst dX6_many_1 ic_1 ?_
  refine x_bipush dX6_many_2 bp_8 ?_
  refine x_callSi (as := [.int x, .int (nI 1), .int (nI 8)]) ml_X6_50 st_X6_in ct_X6_in (c_in (d := 0)) dX6_many_4 (by decide) rfl rfl (Nat.le_of_ble_eq_true rfl) (fun r0 J0 h0 => ?_)
  obtain ⟨rfl, hJ0⟩ := h0
  obtain rfl := hJ0.symm
  refine x_ifb_ne (b := inB x (nI 1) (nI 8)) (tgt := 13) dX6_many_7 rfl (fun c => ?_) (fun c => ?_)
  ·
    obtain ⟨m, hm1, hm, rfl⟩ := in18 c
    have e0 : spMany (nI m) ((n, h, a, L), im) = (nI n, ((m, szH m h, szA m a, id), im)) := by rw [spMany, c, if_pos rfl, tN_nI (by omega)]
    have hmx := shl_le hm
    have lp : ∀ (t g : Nat) (J : xMem), g + t = 8 → J 1 0 = nI m → (∀ j, j < 8 → J 1 (1 + j) = nI (mixF g (szH m h) h j)) → (∀ j, j < 8 → J 1 (9 + j) = nI (mixF g (szA m a) a j)) → (∀ c, c ≠ 1 → J c = I c) → Wx LM mX6_many 8 (xRi (fun r J => r = (spMany (nI m) ((n, h, a, L), im)).1 ∧ MR J (spMany (nI m) ((n, h, a, L), im)).2)) 29 [.ref 0, .int (nI m), .int (nI n), .int (nI g)] [] J := by
      intro t
      induction t with
      | zero =>
        intro g J hg j0 j1 j9 jf
        have e : g = 8 := by omega
        subst e
        refine x_iload_n dX6_many_29 rfl ?_
        refine x_bipush dX6_many_30 bp_8 ?_
        refine x_icmpn_ge (a := 8) (b := 8) (by omega) (by omega) (tgt := 99) dX6_many_32 rfl (fun d1 => ?_) (fun d1 => ?_)
        ·
          refine x_aload_n dX6_many_99 rfl ?_
          refine x_callVv 5 ml_X6_47 in_X6_resetRow se_X6_resetRow ct_X6_resetRow rfl (c_resetRow (d := 0)) dX6_many_100 (by decide) rfl rfl rfl rfl (Nat.le_of_ble_eq_true rfl) (fun J0 h0 => ?_)
          obtain ⟨r1, r2, r3⟩ := h0
          refine x_aload_n dX6_many_103 rfl ?_
          refine x_iconst dX6_many_104 ic_0 ?_
          refine x_put 5 4 rfl (by decide) fl_X6_54 rfl rfl (narZ (Or.inl rfl)) (fitZ (Or.inl rfl)) dX6_many_105 rfl rfl rfl ?_
          generalize hK : xup J0 0 4 (nI 0) = K
          refine x_iload_n dX6_many_108 rfl ?_
          refine x_ireti dX6_many_109 rfl ⟨by rw [e0], ?_⟩
          rw [e0]
          have kne : ∀ c, c ≠ 0 → K c = J0 c := fun c hc => by rw [← hK, xup_ne hc]
          have mx : ∀ (f f' : Nat → Nat) (j : Nat), j < 8 → mixF 8 f f' j = f j := fun f f' j hj => if_pos hj
          refine MR.st (W := ((n, h, a, L), im)) (T := (m, szH m h, szA m a, id)) hR ⟨?_, fun g hg => ?_, fun g hg => ?_, fun g hg => ?_⟩ (Or.inl ?_) ?_ ?_
          · rw [kne 1 (by decide), r2 0 (by decide)]; exact j0
          · rw [kne 1 (by decide), r2 _ (by omega), j1 g hg, mx _ _ g hg]
          · rw [kne 1 (by decide), r2 _ (by omega), j9 g hg, mx _ _ g hg]
          · rw [kne 1 (by decide), r1 g hg]; rfl
          · rw [← hK, xup_eq, if_pos rfl]
          · rw [kne 2 (by decide), r3 2 (by decide)]; exact jf 2 (by decide)
          · rw [kne 3 (by decide), r3 3 (by decide)]; exact jf 3 (by decide)
        ·
          omega
      | succ t ih =>
        intro g J hg j0 j1 j9 jf
        have e1 : J 1 (1 + g) = nI (h g) := by rw [j1 g (by omega), mixF, if_neg (by omega)]
        have e9 : J 1 (9 + g) = nI (a g) := by rw [j9 g (by omega), mixF, if_neg (by omega)]
        have st2 : ∀ (x y : Nat) (K1 K2 : xMem), xup J 1 (1 + g) (nI x) = K1 → xup K1 1 (9 + g) (nI y) = K2 → x = szH m h g → y = szA m a g → Wx LM mX6_many 8 (xRi (fun r J => r = (spMany (nI m) ((n, h, a, L), im)).1 ∧ MR J (spMany (nI m) ((n, h, a, L), im)).2)) 29 [.ref 0, .int (nI m), .int (nI n), .int (nI (g + 1))] [] K2 := by
          intro x y K1 K2 hK1 hK2 ex ey
          refine ih (g + 1) K2 (by omega) ?_ (fun j hj => ?_) (fun j hj => ?_) (fun c hc => by rw [← hK2, xup_ne hc, ← hK1, xup_ne hc]; exact jf c hc)
          · rw [← hK2, xup_eq, if_neg (by omega), ← hK1, xup_eq, if_neg (by omega)]; exact j0
          · rw [← hK2, xup_eq, if_neg (by omega), ← hK1, xup_eq, mix_s]
            by_cases e : j = g
            · subst e; rw [if_pos rfl, if_pos rfl, ex]
            · rw [if_neg (by omega), if_neg e]; exact j1 j hj
          · rw [← hK2, xup_eq, mix_s]
            by_cases e : j = g
            · subst e; rw [if_pos rfl, if_pos rfl, ey]
            · rw [if_neg (by omega), if_neg e, ← hK1, xup_eq, if_neg (by omega)]; exact j9 j hj
        refine x_iload_n dX6_many_29 rfl ?_
        refine x_bipush dX6_many_30 bp_8 ?_
        refine x_icmpn_ge (a := g) (b := 8) (by omega) (by omega) (tgt := 99) dX6_many_32 rfl (fun d1 => ?_) (fun d1 => ?_)
        ·
          omega
        ·
          refine x_aload_n dX6_many_35 rfl ?_
          refine x_getR 5 0 rfl (by decide) fl_X6_7 dX6_many_36 rfl rfl rfl ?_
          refine x_iconst dX6_many_39 ic_1 ?_
          refine x_iload_n dX6_many_40 rfl ?_
          refine x_iadd (v := nI (1 + g)) dX6_many_41 (nI_add _ _) ?_
          refine x_iload_n dX6_many_42 rfl ?_
          refine x_iload_n dX6_many_43 rfl ?_
          refine x_icmpn_ge (a := g) (b := m) (by omega) (by omega) (tgt := 58) dX6_many_44 rfl (fun d2 => ?_) (fun d2 => ?_)
          ·
            refine x_iconst dX6_many_58 ic_0 ?_
            refine x_iast (p := 1 + g) dX6_many_59 rfl rfl rfl rfl (by omega) ?_
            generalize hK1 : xup J 1 (1 + g) (nI 0) = K1
            refine x_aload_n dX6_many_60 rfl ?_
            refine x_getR 5 0 rfl (by decide) fl_X6_7 dX6_many_61 rfl rfl rfl ?_
            refine x_bipush dX6_many_64 bp_9 ?_
            refine x_iload_n dX6_many_66 rfl ?_
            refine x_iadd (v := nI (9 + g)) dX6_many_67 (nI_add _ _) ?_
            refine x_iload_n dX6_many_68 rfl ?_
            refine x_iload_n dX6_many_69 rfl ?_
            refine x_icmpn_ge (a := g) (b := m) (by omega) (by omega) (tgt := 91) dX6_many_70 rfl (fun d3 => ?_) (fun d3 => ?_)
            ·
              refine x_iconst dX6_many_91 ic_0 ?_
              refine x_iast (p := 9 + g) dX6_many_92 rfl rfl rfl rfl (by omega) ?_
              generalize hK2 : xup K1 1 (9 + g) (nI 0) = K2
              refine x_iinc (v := nI (g + 1)) (ls' := [.ref 0, .int (nI m), .int (nI n), .int (nI (g + 1))]) dX6_many_93 rfl (inc_1 _) rfl rfl ?_
              refine x_goto (tgt := 29) dX6_many_96 rfl ?_
              exact st2 0 0 K1 K2 hK1 hK2 (by simp [szH, Nat.not_lt.mpr d2]) (by simp [szA, Nat.not_lt.mpr d2])
            ·
              omega
          ·
            refine x_aload_n dX6_many_47 rfl ?_
            refine x_getR 5 0 rfl (by decide) fl_X6_7 dX6_many_48 rfl rfl rfl ?_
            refine x_iconst dX6_many_51 ic_1 ?_
            refine x_iload_n dX6_many_52 rfl ?_
            refine x_iadd (v := nI (1 + g)) dX6_many_53 (nI_add _ _) ?_
            refine x_iald (p := 1 + g) (v := nI (h g)) dX6_many_54 rfl rfl rfl rfl (by omega) e1 ?_
            refine x_goto (tgt := 59) dX6_many_55 rfl ?_
            refine x_iast (p := 1 + g) dX6_many_59 rfl rfl rfl rfl (by omega) ?_
            generalize hK1 : xup J 1 (1 + g) (nI (h g)) = K1
            refine x_aload_n dX6_many_60 rfl ?_
            refine x_getR 5 0 rfl (by decide) fl_X6_7 dX6_many_61 rfl rfl rfl ?_
            refine x_bipush dX6_many_64 bp_9 ?_
            refine x_iload_n dX6_many_66 rfl ?_
            refine x_iadd (v := nI (9 + g)) dX6_many_67 (nI_add _ _) ?_
            refine x_iload_n dX6_many_68 rfl ?_
            refine x_iload_n dX6_many_69 rfl ?_
            refine x_icmpn_ge (a := g) (b := m) (by omega) (by omega) (tgt := 91) dX6_many_70 rfl (fun d3 => ?_) (fun d3 => ?_)
            ·
              omega
            ·
              refine x_aload_n dX6_many_73 rfl ?_
              refine x_getR 5 0 rfl (by decide) fl_X6_7 dX6_many_74 rfl rfl rfl ?_
              refine x_bipush dX6_many_77 bp_9 ?_
              refine x_iload_n dX6_many_79 rfl ?_
              refine x_iadd (v := nI (9 + g)) dX6_many_80 (nI_add _ _) ?_
              refine x_iald (p := 9 + g) (v := nI (a g)) dX6_many_81 rfl rfl rfl rfl (by omega) (by rw [← hK1, xup_eq, if_neg (by omega)]; exact e9) ?_
              refine x_iconst dX6_many_82 ic_1 ?_
              refine x_iload_n dX6_many_83 rfl ?_
              refine x_ishl (v := nI (1 <<< m)) dX6_many_84 (nI_shl _ (by omega)) ?_
              refine x_iconst dX6_many_85 ic_1 ?_
              refine x_isub (v := nI ((1 <<< m) - 1)) dX6_many_86 (pk_sub (by omega)) ?_
              refine x_iand (v := nI ((a g) &&& ((1 <<< m) - 1))) dX6_many_87 (nI_and _ _) ?_
              refine x_goto (tgt := 92) dX6_many_88 rfl ?_
              refine x_iast (p := 9 + g) dX6_many_92 rfl rfl rfl rfl (by omega) ?_
              generalize hK2 : xup K1 1 (9 + g) (nI ((a g) &&& ((1 <<< m) - 1))) = K2
              refine x_iinc (v := nI (g + 1)) (ls' := [.ref 0, .int (nI m), .int (nI n), .int (nI (g + 1))]) dX6_many_93 rfl (inc_1 _) rfl rfl ?_
              refine x_goto (tgt := 29) dX6_many_96 rfl ?_
              exact st2 _ _ K1 K2 hK1 hK2 (by simp [szH, d2]) (by simp [szA, d2])
    refine x_aload_n dX6_many_13 rfl ?_
    refine x_getR 5 0 rfl (by decide) fl_X6_7 dX6_many_14 rfl rfl rfl ?_
    refine x_iconst dX6_many_17 ic_0 ?_
    refine x_iald (p := 0) (v := nI n) dX6_many_18 rfl rfl rfl rfl (by omega) hM.1 ?_
    refine x_istore_n (ls' := [.ref 0, .int (nI m), .int (nI n), .null]) dX6_many_19 rfl rfl ?_
    refine x_aload_n dX6_many_20 rfl ?_
    refine x_getR 5 0 rfl (by decide) fl_X6_7 dX6_many_21 rfl rfl rfl ?_
    refine x_iconst dX6_many_24 ic_0 ?_
    refine x_iload_n dX6_many_25 rfl ?_
    refine x_iast (p := 0) dX6_many_26 rfl rfl rfl rfl (by omega) ?_
    generalize hK : xup I 1 0 (nI m) = K
    refine x_iconst dX6_many_27 ic_0 ?_
    refine x_istore_n (ls' := [.ref 0, .int (nI m), .int (nI n), .int (nI 0)]) dX6_many_28 rfl rfl ?_
    refine lp 8 0 K rfl ?_ (fun j hj => ?_) (fun j hj => ?_) (fun c hc => by rw [← hK, xup_ne hc])
    · rw [← hK, xup_eq, if_pos rfl]
    · rw [← hK, xup_eq, if_neg (by omega)]; exact hM.2.1 j hj
    · rw [← hK, xup_eq, if_neg (by omega)]; exact hM.2.2.1 j hj
  ·
    refine x_bipush dX6_many_10 bp_m2 ?_
    have e0 : spMany x ((n, h, a, L), im) = (-2, ((n, h, a, L), im)) := by rw [spMany, c]; rfl
    refine x_ireti dX6_many_12 rfl ⟨by rw [e0], by rw [e0]; exact hR⟩
theorem wmem_1 (x s : Nat) : wmem x s 1 = x ||| 1 <<< s := by
  unfold wmem
  apply Nat.eq_of_testBit_eq
  intro i
  rw [Nat.testBit_or, Nat.testBit_or, nd_bit]
  cases x.testBit i <;> cases (1 <<< s).testBit i <;> rfl
theorem wmem_0 (x s : Nat) : wmem x s 0 = nd x (1 <<< s) := by simp [wmem]
theorem wmem_lt {x s on k : Nat} (hx : x < 2 ^ k) (hs : s < k) (hon : on < 2) : wmem x s on < 2 ^ k := by
  refine Nat.or_lt_two_pow (Nat.lt_of_le_of_lt (nd_le _ _) hx) ?_
  rw [Nat.shiftLeft_eq]
  have h1 : on * 2 ^ s ≤ 1 * 2 ^ s := Nat.mul_le_mul_right _ (by omega)
  have h2 : 2 ^ s < 2 ^ k := Nat.pow_lt_pow_right (by decide) hs
  omega
theorem m_find {x y z : Int32} (hW : WOk W) (hR : MR I W) : Cx LM yX6_find mX6_find 8 [.ref 0, .int x, .int y, .int z] I (xRi (fun r J => r = (spFind x y z W).1 ∧ MR J (spFind x y z W).2)) := by
  obtain ⟨⟨n, h, a, L⟩, im⟩ := W
  have h1 : 1 ≤ n := hW.1.1
  have hn : n ≤ 8 := hW.1.2.1
  have hh : ∀ g, h g < 1024 := hW.1.2.2.1
  have ha : ∀ g, a g < 256 := hW.1.2.2.2.1
  have hL : ∀ p, p < n → L p < n := hW.1.2.2.2.2.1
  have hinj : ∀ p q, p < n → q < n → L p = L q → p = q := hW.1.2.2.2.2.2.1
  have hL8 : ∀ p, p < 8 → L p < 8 := hW.1.2.2.2.2.2.2
  have hM : MSt I n h a L := hR.1
  have hF : I 0 4 = nI 0 ∨ (I 0 4 = nI 1 ∧ I 0 5 = oI (fewB n h a)) := hR.2.1
  refine Cx.of [.ref 0, .int x, .int y, .int z] (by decide) rfl rfl (Nat.le_of_ble_eq_true rfl) rfl ?_
  refine x_aload_n dX6_find_0 rfl ?_
  refine x_iload_n dX6_find_1 rfl ?_
  refine x_callVi 5 ml_X6_58 in_X6_isGrave se_X6_isGrave ct_X6_isGrave rfl (cm_isGrave (d := 1) (by decide) h1 hn hM.1) dX6_find_2 (by decide) rfl rfl rfl rfl (Nat.le_of_ble_eq_true rfl) (fun r0 J0 h0 => ?_)
  obtain ⟨rfl, hJ0⟩ := h0
  obtain rfl := hJ0.symm
  refine x_ifb_eq (b := inR x n) (tgt := 15) dX6_find_5 rfl (fun c => ?_) (fun c => ?_)
  ·
    refine x_iconst dX6_find_15 ic_m1 ?_
    have e0 : spFind x y z ((n, h, a, L), im) = (-1, ((n, h, a, L), im)) := by rw [spFind]; dsimp only; rw [c]; rfl
    refine x_ireti dX6_find_16 rfl ⟨by rw [e0], by rw [e0]; exact hR⟩
  ·
    obtain ⟨j, hj, rfl⟩ := inR_of c
    refine x_iload_n dX6_find_8 rfl ?_
    refine x_callSi (as := [.int y]) ml_X6_62 st_X6_isSort ct_X6_isSort (cm_isSort (d := 1) (by decide)) dX6_find_9 (by decide) rfl rfl (Nat.le_of_ble_eq_true rfl) (fun r0 J0 h0 => ?_)
    obtain ⟨rfl, hJ0⟩ := h0
    obtain rfl := hJ0.symm
    refine x_ifb_ne (b := inR y 10) (tgt := 17) dX6_find_12 rfl (fun c2 => ?_) (fun c2 => ?_)
    ·
      obtain ⟨s, hs, rfl⟩ := inR_of c2
      refine x_iload_n dX6_find_17 rfl ?_
      refine x_iconst dX6_find_18 ic_0 ?_
      refine x_iconst dX6_find_19 ic_1 ?_
      refine x_callSi (as := [.int z, .int (nI 0), .int (nI 1)]) ml_X6_50 st_X6_in ct_X6_in (c_in (d := 0)) dX6_find_20 (by decide) rfl rfl (Nat.le_of_ble_eq_true rfl) (fun r0 J0 h0 => ?_)
      obtain ⟨rfl, hJ0⟩ := h0
      obtain rfl := hJ0.symm
      rw [inB_2]
      refine x_ifb_ne (b := inR z 2) (tgt := 29) dX6_find_23 rfl (fun c3 => ?_) (fun c3 => ?_)
      ·
        obtain ⟨q, hq, rfl⟩ := inR_of c3
        have e0 : spFind (nI j) (nI s) (nI q) ((n, h, a, L), im) = (nI (pop (wmem (h j) s q)), ((n, fup h j (wmem (h j) s q), a, L), im)) := by
          rw [spFind]; dsimp only; rw [c, c2, Bool.and_self, if_pos rfl, c3, if_pos rfl, tN_nI (by omega), tN_nI (by omega), tN_nI (by omega)]
        have hwl : wmem (h j) s q < 2 ^ 10 := wmem_lt (hh j) hs hq
        have fin : ∀ (x : Nat), x = wmem (h j) s q → Wx LM mX6_find 8 (xRi (fun r J => r = (spFind (nI j) (nI s) (nI q) ((n, h, a, L), im)).1 ∧ MR J (spFind (nI j) (nI s) (nI q) ((n, h, a, L), im)).2)) 70 [.ref 0, .int (nI j), .int (nI s), .int (nI q)] [.int (nI x), .int (nI (1 + j)), .ref 1] I := by
          intro x ex
          refine x_iast (p := 1 + j) dX6_find_70 rfl rfl rfl rfl (by omega) ?_
          generalize hK1 : xup I 1 (1 + j) (nI x) = K1
          refine x_aload_n dX6_find_71 rfl ?_
          refine x_iconst dX6_find_72 ic_0 ?_
          refine x_put 5 4 rfl (by decide) fl_X6_54 rfl rfl (narZ (Or.inl rfl)) (fitZ (Or.inl rfl)) dX6_find_73 rfl rfl rfl ?_
          generalize hK2 : xup K1 0 4 (nI 0) = K2
          refine x_aload_n dX6_find_76 rfl ?_
          refine x_getR 5 0 rfl (by decide) fl_X6_7 dX6_find_77 rfl rfl rfl ?_
          refine x_iconst dX6_find_80 ic_1 ?_
          refine x_iload_n dX6_find_81 rfl ?_
          refine x_iadd (v := nI (1 + j)) dX6_find_82 (nI_add _ _) ?_
          refine x_iald (p := 1 + j) (v := nI x) dX6_find_83 rfl rfl rfl rfl (by omega) (by rw [← hK2, xup_ne (by decide), ← hK1, xup_eq, if_pos rfl]) ?_
          refine x_callSi (as := [.int (nI x)]) ml_X6_65 st_X6_bits ct_X6_bits (c_bits (d := 0) (by omega)) dX6_find_84 (by decide) rfl rfl (Nat.le_of_ble_eq_true rfl) (fun r0 J0 h0 => ?_)
          obtain ⟨rfl, hJ0⟩ := h0
          obtain rfl := hJ0.symm
          refine x_ireti dX6_find_87 rfl ⟨by rw [e0, ex], ?_⟩
          rw [e0]
          refine MR.st (W := ((n, h, a, L), im)) (T := (n, fup h j (wmem (h j) s q), a, L)) hR ⟨?_, fun g hg => ?_, fun g hg => ?_, fun g hg => ?_⟩ (Or.inl ?_) ?_ ?_
          · rw [← hK2, xup_ne (by decide), ← hK1, xup_eq, if_neg (by omega)]; exact hM.1
          · rw [← hK2, xup_ne (by decide), ← hK1, xup_eq]
            dsimp only [fup]
            by_cases e : g = j
            · subst e; rw [if_pos rfl, if_pos rfl, ex]
            · rw [if_neg (by omega), if_neg e]; exact hM.2.1 g hg
          · rw [← hK2, xup_ne (by decide), ← hK1, xup_eq, if_neg (by omega)]; exact hM.2.2.1 g hg
          · rw [← hK2, xup_ne (by decide), ← hK1, xup_eq, if_neg (by omega)]; exact hM.2.2.2 g hg
          · rw [← hK2, xup_eq, if_pos rfl]
          · rw [← hK2, xup_ne (by decide), ← hK1, xup_ne (by decide)]
          · rw [← hK2, xup_ne (by decide), ← hK1, xup_ne (by decide)]
        refine x_aload_n dX6_find_29 rfl ?_
        refine x_getR 5 0 rfl (by decide) fl_X6_7 dX6_find_30 rfl rfl rfl ?_
        refine x_iconst dX6_find_33 ic_1 ?_
        refine x_iload_n dX6_find_34 rfl ?_
        refine x_iadd (v := nI (1 + j)) dX6_find_35 (nI_add _ _) ?_
        refine x_iload_n dX6_find_36 rfl ?_
        refine x_iconst dX6_find_37 ic_1 ?_
        refine x_icmpn_ne (a := q) (b := 1) (by omega) (by omega) (tgt := 56) dX6_find_38 rfl (fun d1 => ?_) (fun d1 => ?_)
        ·
          refine x_aload_n dX6_find_56 rfl ?_
          refine x_getR 5 0 rfl (by decide) fl_X6_7 dX6_find_57 rfl rfl rfl ?_
          refine x_iconst dX6_find_60 ic_1 ?_
          refine x_iload_n dX6_find_61 rfl ?_
          refine x_iadd (v := nI (1 + j)) dX6_find_62 (nI_add _ _) ?_
          refine x_iald (p := 1 + j) (v := nI (h j)) dX6_find_63 rfl rfl rfl rfl (by omega) (hM.2.1 j (by omega)) ?_
          refine x_iconst dX6_find_64 ic_1 ?_
          refine x_iload_n dX6_find_65 rfl ?_
          refine x_ishl (v := nI (1 <<< s)) dX6_find_66 (nI_shl _ (by omega)) ?_
          refine x_iconst dX6_find_67 ic_m1 ?_
          refine x_ixor dX6_find_68 rfl ?_
          refine x_iand (v := nI (nd (h j) (1 <<< s))) dX6_find_69 (nI_nd _ _) ?_
          exact fin _ (by rw [show q = 0 by omega, wmem_0])
        ·
          refine x_aload_n dX6_find_41 rfl ?_
          refine x_getR 5 0 rfl (by decide) fl_X6_7 dX6_find_42 rfl rfl rfl ?_
          refine x_iconst dX6_find_45 ic_1 ?_
          refine x_iload_n dX6_find_46 rfl ?_
          refine x_iadd (v := nI (1 + j)) dX6_find_47 (nI_add _ _) ?_
          refine x_iald (p := 1 + j) (v := nI (h j)) dX6_find_48 rfl rfl rfl rfl (by omega) (hM.2.1 j (by omega)) ?_
          refine x_iconst dX6_find_49 ic_1 ?_
          refine x_iload_n dX6_find_50 rfl ?_
          refine x_ishl (v := nI (1 <<< s)) dX6_find_51 (nI_shl _ (by omega)) ?_
          refine x_ior (v := nI ((h j) ||| (1 <<< s))) dX6_find_52 (nI_or _ _) ?_
          refine x_goto (tgt := 70) dX6_find_53 rfl ?_
          exact fin _ (by rw [d1, wmem_1])
      ·
        refine x_bipush dX6_find_26 bp_m2 ?_
        have e0 : spFind (nI j) (nI s) z ((n, h, a, L), im) = (-2, ((n, h, a, L), im)) := by rw [spFind]; dsimp only; rw [c, c2, Bool.and_self, if_pos rfl, c3]; rfl
        refine x_ireti dX6_find_28 rfl ⟨by rw [e0], by rw [e0]; exact hR⟩
    ·
      refine x_iconst dX6_find_15 ic_m1 ?_
      have e0 : spFind (nI j) y z ((n, h, a, L), im) = (-1, ((n, h, a, L), im)) := by rw [spFind]; dsimp only; rw [c, c2]; rfl
      refine x_ireti dX6_find_16 rfl ⟨by rw [e0], by rw [e0]; exact hR⟩
theorem m_ahead {x y z : Int32} (hW : WOk W) (hR : MR I W) : Cx LM yX6_ahead mX6_ahead 8 [.ref 0, .int x, .int y, .int z] I (xRi (fun r J => r = (spAhead x y z W).1 ∧ MR J (spAhead x y z W).2)) := by
  obtain ⟨⟨n, h, a, L⟩, im⟩ := W
  have h1 : 1 ≤ n := hW.1.1
  have hn : n ≤ 8 := hW.1.2.1
  have hh : ∀ g, h g < 1024 := hW.1.2.2.1
  have ha : ∀ g, a g < 256 := hW.1.2.2.2.1
  have hL : ∀ p, p < n → L p < n := hW.1.2.2.2.2.1
  have hinj : ∀ p q, p < n → q < n → L p = L q → p = q := hW.1.2.2.2.2.2.1
  have hL8 : ∀ p, p < 8 → L p < 8 := hW.1.2.2.2.2.2.2
  have hM : MSt I n h a L := hR.1
  have hF : I 0 4 = nI 0 ∨ (I 0 4 = nI 1 ∧ I 0 5 = oI (fewB n h a)) := hR.2.1
  refine Cx.of [.ref 0, .int x, .int y, .int z] (by decide) rfl rfl (Nat.le_of_ble_eq_true rfl) rfl ?_
  refine x_aload_n dX6_ahead_0 rfl ?_
  refine x_iload_n dX6_ahead_1 rfl ?_
  refine x_callVi 5 ml_X6_58 in_X6_isGrave se_X6_isGrave ct_X6_isGrave rfl (cm_isGrave (d := 1) (by decide) h1 hn hM.1) dX6_ahead_2 (by decide) rfl rfl rfl rfl (Nat.le_of_ble_eq_true rfl) (fun r0 J0 h0 => ?_)
  obtain ⟨rfl, hJ0⟩ := h0
  obtain rfl := hJ0.symm
  refine x_ifb_eq (b := inR x n) (tgt := 16) dX6_ahead_5 rfl (fun c => ?_) (fun c => ?_)
  ·
    refine x_iconst dX6_ahead_16 ic_m1 ?_
    have e0 : spAhead x y z ((n, h, a, L), im) = (-1, ((n, h, a, L), im)) := by rw [spAhead]; dsimp only; rw [c]; rfl
    refine x_ireti dX6_ahead_17 rfl ⟨by rw [e0], by rw [e0]; exact hR⟩
  ·
    obtain ⟨j, hj, rfl⟩ := inR_of c
    refine x_aload_n dX6_ahead_8 rfl ?_
    refine x_iload_n dX6_ahead_9 rfl ?_
    refine x_callVi 5 ml_X6_58 in_X6_isGrave se_X6_isGrave ct_X6_isGrave rfl (cm_isGrave (d := 1) (by decide) h1 hn hM.1) dX6_ahead_10 (by decide) rfl rfl rfl rfl (Nat.le_of_ble_eq_true rfl) (fun r0 J0 h0 => ?_)
    obtain ⟨rfl, hJ0⟩ := h0
    obtain rfl := hJ0.symm
    refine x_ifb_ne (b := inR y n) (tgt := 18) dX6_ahead_13 rfl (fun c2 => ?_) (fun c2 => ?_)
    ·
      obtain ⟨s, hs, rfl⟩ := inR_of c2
      refine x_iload_n dX6_ahead_18 rfl ?_
      refine x_iconst dX6_ahead_19 ic_0 ?_
      refine x_iconst dX6_ahead_20 ic_1 ?_
      refine x_callSi (as := [.int z, .int (nI 0), .int (nI 1)]) ml_X6_50 st_X6_in ct_X6_in (c_in (d := 0)) dX6_ahead_21 (by decide) rfl rfl (Nat.le_of_ble_eq_true rfl) (fun r0 J0 h0 => ?_)
      obtain ⟨rfl, hJ0⟩ := h0
      obtain rfl := hJ0.symm
      rw [inB_2]
      refine x_ifb_eq (b := inR z 2) (tgt := 32) dX6_ahead_24 rfl (fun c3 => ?_) (fun c3 => ?_)
      ·
        refine x_bipush dX6_ahead_32 bp_m2 ?_
        have e0 : spAhead (nI j) (nI s) z ((n, h, a, L), im) = (-2, ((n, h, a, L), im)) := by rw [spAhead]; dsimp only; rw [c, c2, Bool.and_self, if_pos rfl, c3]; rfl
        refine x_ireti dX6_ahead_34 rfl ⟨by rw [e0], by rw [e0]; exact hR⟩
      ·
        obtain ⟨q, hq, rfl⟩ := inR_of c3
        refine x_iload_n dX6_ahead_27 rfl ?_
        refine x_iload_n dX6_ahead_28 rfl ?_
        refine x_icmpn_ne (a := j) (b := s) (by omega) (by omega) (tgt := 35) dX6_ahead_29 rfl (fun c4 => ?_) (fun c4 => ?_)
        ·
          have hne : ¬ nI j = nI s := nIe (by omega) (by omega) c4
          have e0 : spAhead (nI j) (nI s) (nI q) ((n, h, a, L), im) = (nI (rf (fun t g => t + pop (fup a j (wmem (a j) s q) g)) 0 8), ((n, h, fup a j (wmem (a j) s q), L), im)) := by
            rw [spAhead]; dsimp only; rw [c, c2, Bool.and_self, if_pos rfl, c3, decide_eq_true hne, Bool.and_self, if_pos rfl, tN_nI (by omega), tN_nI (by omega), tN_nI (by omega)]
          have hwl : wmem (a j) s q < 2 ^ 8 := wmem_lt (ha j) (by omega) hq
          have fin : ∀ (x : Nat), x = wmem (a j) s q → Wx LM mX6_ahead 8 (xRi (fun r J => r = (spAhead (nI j) (nI s) (nI q) ((n, h, a, L), im)).1 ∧ MR J (spAhead (nI j) (nI s) (nI q) ((n, h, a, L), im)).2)) 79 [.ref 0, .int (nI j), .int (nI s), .int (nI q)] [.int (nI x), .int (nI (9 + j)), .ref 1] I := by
            intro x ex
            have hrow : ∀ (K1 K2 : xMem), xup I 1 (9 + j) (nI x) = K1 → xup K1 0 4 (nI 0) = K2 → ∀ g, g < 8 → K2 1 (9 + g) = nI (fup a j (wmem (a j) s q) g) := by
              intro K1 K2 hK1 hK2 g hg
              rw [← hK2, xup_ne (by decide), ← hK1, xup_eq]
              dsimp only [fup]
              by_cases e : g = j
              · subst e; rw [if_pos rfl, if_pos rfl, ex]
              · rw [if_neg (by omega), if_neg e]; exact hM.2.2.1 g hg
            refine x_iast (p := 9 + j) dX6_ahead_79 rfl rfl rfl rfl (by omega) ?_
            generalize hK1 : xup I 1 (9 + j) (nI x) = K1
            refine x_aload_n dX6_ahead_80 rfl ?_
            refine x_iconst dX6_ahead_81 ic_0 ?_
            refine x_put 5 4 rfl (by decide) fl_X6_54 rfl rfl (narZ (Or.inl rfl)) (fitZ (Or.inl rfl)) dX6_ahead_82 rfl rfl rfl ?_
            generalize hK2 : xup K1 0 4 (nI 0) = K2
            refine x_aload_n dX6_ahead_85 rfl ?_
            refine x_callVi 5 ml_X6_69 in_X6_knownPairs se_X6_knownPairs ct_X6_knownPairs rfl (c_knownPairs (d := 1) (a := fup a j (wmem (a j) s q)) (by decide) (fun g => by dsimp only [fup]; split; omega; have := ha g; omega) (hrow K1 K2 hK1 hK2)) dX6_ahead_86 (by decide) rfl rfl rfl rfl (Nat.le_of_ble_eq_true rfl) (fun r0 J0 h0 => ?_)
            obtain ⟨rfl, hJ0⟩ := h0
            obtain rfl := hJ0.symm
            refine x_ireti dX6_ahead_89 rfl ⟨by rw [e0], ?_⟩
            rw [e0]
            refine MR.st (W := ((n, h, a, L), im)) (T := (n, h, fup a j (wmem (a j) s q), L)) hR ⟨?_, fun g hg => ?_, hrow K1 K2 hK1 hK2, fun g hg => ?_⟩ (Or.inl ?_) ?_ ?_
            · rw [← hK2, xup_ne (by decide), ← hK1, xup_eq, if_neg (by omega)]; exact hM.1
            · rw [← hK2, xup_ne (by decide), ← hK1, xup_eq, if_neg (by omega)]; exact hM.2.1 g hg
            · rw [← hK2, xup_ne (by decide), ← hK1, xup_eq, if_neg (by omega)]; exact hM.2.2.2 g hg
            · rw [← hK2, xup_eq, if_pos rfl]
            · rw [← hK2, xup_ne (by decide), ← hK1, xup_ne (by decide)]
            · rw [← hK2, xup_ne (by decide), ← hK1, xup_ne (by decide)]
          refine x_aload_n dX6_ahead_35 rfl ?_
          refine x_getR 5 0 rfl (by decide) fl_X6_7 dX6_ahead_36 rfl rfl rfl ?_
          refine x_bipush dX6_ahead_39 bp_9 ?_
          refine x_iload_n dX6_ahead_41 rfl ?_
          refine x_iadd (v := nI (9 + j)) dX6_ahead_42 (nI_add _ _) ?_
          refine x_iload_n dX6_ahead_43 rfl ?_
          refine x_iconst dX6_ahead_44 ic_1 ?_
          refine x_icmpn_ne (a := q) (b := 1) (by omega) (by omega) (tgt := 64) dX6_ahead_45 rfl (fun d1 => ?_) (fun d1 => ?_)
          ·
            refine x_aload_n dX6_ahead_64 rfl ?_
            refine x_getR 5 0 rfl (by decide) fl_X6_7 dX6_ahead_65 rfl rfl rfl ?_
            refine x_bipush dX6_ahead_68 bp_9 ?_
            refine x_iload_n dX6_ahead_70 rfl ?_
            refine x_iadd (v := nI (9 + j)) dX6_ahead_71 (nI_add _ _) ?_
            refine x_iald (p := 9 + j) (v := nI (a j)) dX6_ahead_72 rfl rfl rfl rfl (by omega) (hM.2.2.1 j (by omega)) ?_
            refine x_iconst dX6_ahead_73 ic_1 ?_
            refine x_iload_n dX6_ahead_74 rfl ?_
            refine x_ishl (v := nI (1 <<< s)) dX6_ahead_75 (nI_shl _ (by omega)) ?_
            refine x_iconst dX6_ahead_76 ic_m1 ?_
            refine x_ixor dX6_ahead_77 rfl ?_
            refine x_iand (v := nI (nd (a j) (1 <<< s))) dX6_ahead_78 (nI_nd _ _) ?_
            exact fin _ (by rw [show q = 0 by omega, wmem_0])
          ·
            refine x_aload_n dX6_ahead_48 rfl ?_
            refine x_getR 5 0 rfl (by decide) fl_X6_7 dX6_ahead_49 rfl rfl rfl ?_
            refine x_bipush dX6_ahead_52 bp_9 ?_
            refine x_iload_n dX6_ahead_54 rfl ?_
            refine x_iadd (v := nI (9 + j)) dX6_ahead_55 (nI_add _ _) ?_
            refine x_iald (p := 9 + j) (v := nI (a j)) dX6_ahead_56 rfl rfl rfl rfl (by omega) (hM.2.2.1 j (by omega)) ?_
            refine x_iconst dX6_ahead_57 ic_1 ?_
            refine x_iload_n dX6_ahead_58 rfl ?_
            refine x_ishl (v := nI (1 <<< s)) dX6_ahead_59 (nI_shl _ (by omega)) ?_
            refine x_ior (v := nI ((a j) ||| (1 <<< s))) dX6_ahead_60 (nI_or _ _) ?_
            refine x_goto (tgt := 79) dX6_ahead_61 rfl ?_
            exact fin _ (by rw [d1, wmem_1])
        ·
          refine x_bipush dX6_ahead_32 bp_m2 ?_
          have e0 : spAhead (nI j) (nI s) (nI q) ((n, h, a, L), im) = (-2, ((n, h, a, L), im)) := by rw [spAhead]; dsimp only; rw [c, c2, Bool.and_self, if_pos rfl, c3, c4, decide_eq_false (by simp)]; rfl
          refine x_ireti dX6_ahead_34 rfl ⟨by rw [e0], by rw [e0]; exact hR⟩
    ·
      refine x_iconst dX6_ahead_16 ic_m1 ?_
      have e0 : spAhead (nI j) y z ((n, h, a, L), im) = (-1, ((n, h, a, L), im)) := by rw [spAhead]; dsimp only; rw [c, c2]; rfl
      refine x_ireti dX6_ahead_17 rfl ⟨by rw [e0], by rw [e0]; exact hR⟩
end MP
