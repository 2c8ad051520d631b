/-! the reference: its calls, on -/
section MP
variable {I : xMem} {W : WS} {n d : Nat} {h a L : Nat → Nat}
/-- counting through a list of those that hold -/
theorem filt_at (p : Nat → Bool) : ∀ (k N : Nat), p N = true → N < k → ((List.range k).filter p)[((List.range N).filter p).length]? = some N := by
  intro k
  induction k with
  | zero => intro N _ h; omega
  | succ k ih =>
    intro N hp hN
    rw [List.range_succ, List.filter_append]
    by_cases e : N = k
    · subst e
      rw [List.getElem?_append_right (Nat.le_refl _), Nat.sub_self]; simp [hp]
    · have := ih N hp (by omega)
      rw [List.getElem?_append_left (List.getElem?_eq_some_iff.mp this).1]; exact this
theorem m_clump {x : Int32} (hW : WOk W) (hR : MR I W) : Cx LM yX6_clump mX6_clump 8 [.ref 0, .int x] I (xRi (fun r J => r = spClump x W ∧ MR J W)) := by
  obtain ⟨⟨n, h, a, L⟩, im⟩ := W
  have h1 : 1 ≤ n := hW.1.1
  have hn : n ≤ 8 := hW.1.2.1
  have hh : ∀ g, h g < 1024 := hW.1.2.2.1
  have ha : ∀ g, a g < 256 := hW.1.2.2.2.1
  have hL : ∀ p, p < n → L p < n := hW.1.2.2.2.2.1
  have hinj : ∀ p q, p < n → q < n → L p = L q → p = q := hW.1.2.2.2.2.2.1
  have hL8 : ∀ p, p < 8 → L p < 8 := hW.1.2.2.2.2.2.2
  have hM : MSt I n h a L := hR.1
  have hF : I 0 4 = nI 0 ∨ (I 0 4 = nI 1 ∧ I 0 5 = oI (fewB n h a)) := hR.2.1
  refine Cx.of [.ref 0, .int x, .null, .null] (by decide) rfl rfl (Nat.le_of_ble_eq_true rfl) rfl ?_
  refine x_iload_n dX6_clump_0 rfl ?_
  refine x_iconst dX6_clump_1 ic_m1 ?_
  refine x_icmp_ge (tgt := 8) dX6_clump_2 rfl (fun c => ?_) (fun c => ?_)
  ·
    have cge : ¬ x < (-1) := Int32.not_lt.mpr c
    have ecl : ∀ S, clB (n, h, a, L) S = clV n h a (bests n h a) S := fun S => rfl
    have hbl : ∀ k, ((List.range k).filter (clB (n, h, a, L))).length ≤ k := fun k => by have := List.length_filter_le (clB (n, h, a, L)) (List.range k); rw [List.length_range] at this; exact this
    have lp : ∀ (t S : Nat) (J : xMem), S + t = 256 → Base I n h a J → (∀ q, q < 256 → J 11 q = nI (clB (n, h, a, L) q).toNat) → (∀ k, k < ((List.range S).filter (clB (n, h, a, L))).length → ¬ x = nI k) → Wx LM mX6_clump 8 (xRi (fun r J => r = spClump x ((n, h, a, L), im) ∧ MR J ((n, h, a, L), im))) 16 [.ref 0, .int x, .int (nI ((List.range S).filter (clB (n, h, a, L))).length), .int (nI S)] [] J := by
      intro t
      induction t with
      | zero =>
        intro S J hS hB h11 hno
        have e : S = 256 := by omega
        subst e
        refine x_iload_n dX6_clump_16 rfl ?_
        refine x_sipush dX6_clump_17 sp_256 ?_
        refine x_icmpn_ge (a := 256) (b := 256) (by omega) (by omega) (tgt := 48) dX6_clump_20 rfl (fun c1 => ?_) (fun c1 => ?_)
        ·
          refine x_iload_n dX6_clump_48 rfl ?_
          refine x_iconst dX6_clump_49 ic_m1 ?_
          refine x_icmp_ne (tgt := 57) dX6_clump_50 rfl (fun c2 => ?_) (fun c2 => ?_)
          ·
            refine x_bipush dX6_clump_57 bp_m6 ?_
            refine x_ireti dX6_clump_59 rfl ⟨?_, hR.base hB⟩
            rw [spClump, if_neg cge, if_neg c2]
            have hx0 : ¬ x < 0 := by
              intro hl
              rw [Int32.lt_iff_toInt_lt] at hl
              rw [Int32.le_iff_toInt_le] at c
              have e0 : (0 : Int32).toInt = 0 := rfl
              have e1 : (-1 : Int32).toInt = -1 := by decide +kernel
              exact c2 (Int32.toInt_inj.mp (by omega))
            obtain ⟨k, hk, rfl⟩ := nI_of hx0
            rw [tN_nI hk, clmp]
            dsimp only
            rw [List.getElem?_eq_none]
            rcases Nat.lt_or_ge k ((List.range 256).filter (clB (n, h, a, L))).length with e | e
            · exact absurd rfl (hno k e)
            · exact e
          ·
            refine x_iload_n dX6_clump_53 rfl ?_
            refine x_goto (tgt := 59) dX6_clump_54 rfl ?_
            refine x_ireti dX6_clump_59 rfl ⟨by rw [spClump, if_neg cge, if_pos c2]; rfl, hR.base hB⟩
        ·
          omega
      | succ t ih =>
        intro S J hS hB h11 hno
        have h0 := hbl S
        have es : ((List.range (S + 1)).filter (clB (n, h, a, L))) = (List.range S).filter (clB (n, h, a, L)) ++ [S].filter (clB (n, h, a, L)) := by rw [List.range_succ, List.filter_append]
        have ih := ih (S + 1) J (by omega) hB h11
        rw [es] at ih
        refine x_iload_n dX6_clump_16 rfl ?_
        refine x_sipush dX6_clump_17 sp_256 ?_
        refine x_icmpn_ge (a := S) (b := 256) (by omega) (by omega) (tgt := 48) dX6_clump_20 rfl (fun c1 => ?_) (fun c1 => ?_)
        ·
          omega
        ·
          refine x_aload_n dX6_clump_23 rfl ?_
          refine x_getR 5 14 rfl (by decide) fl_X6_41 dX6_clump_24 rfl rfl rfl ?_
          refine x_iload_n dX6_clump_27 rfl ?_
          refine x_zald (p := S) (v := nI ((clB (n, h, a, L) S).toNat)) dX6_clump_28 rfl rfl rfl rfl (by omega) (h11 S (by omega)) ?_
          refine x_ifb_eq (b := clB (n, h, a, L) S) (tgt := 42) dX6_clump_29 rfl (fun c2 => ?_) (fun c2 => ?_)
          ·
            refine x_iinc (v := nI (S + 1)) (ls' := [.ref 0, .int x, .int (nI (((List.range S).filter (clB (n, h, a, L))).length)), .int (nI (S + 1))]) dX6_clump_42 rfl (inc_1 _) rfl rfl ?_
            refine x_goto (tgt := 16) dX6_clump_45 rfl ?_
            simp [c2] at ih
            exact ih (fun k hk => hno k hk)
          ·
            refine x_iload_n dX6_clump_32 rfl ?_
            refine x_iload_n dX6_clump_33 rfl ?_
            refine x_icmp_ne (tgt := 39) dX6_clump_34 rfl (fun c3 => ?_) (fun c3 => ?_)
            ·
              refine x_iinc (v := nI ((((List.range S).filter (clB (n, h, a, L))).length) + 1)) (ls' := [.ref 0, .int x, .int (nI ((((List.range S).filter (clB (n, h, a, L))).length) + 1)), .int (nI S)]) dX6_clump_39 rfl (inc_1 _) rfl rfl ?_
              refine x_iinc (v := nI (S + 1)) (ls' := [.ref 0, .int x, .int (nI ((((List.range S).filter (clB (n, h, a, L))).length) + 1)), .int (nI (S + 1))]) dX6_clump_42 rfl (inc_1 _) rfl rfl ?_
              refine x_goto (tgt := 16) dX6_clump_45 rfl ?_
              simp [c2] at ih
              refine ih (fun k hk e => ?_)
              by_cases e2 : k = ((List.range S).filter (clB (n, h, a, L))).length
              · subst e2; exact c3 e.symm
              · exact hno k (by omega) e
            ·
              refine x_iload_n dX6_clump_37 rfl ?_
              refine x_ireti dX6_clump_38 rfl ⟨?_, hR.base hB⟩
              have hx0 : ¬ x = (-1) := by
                rw [← c3]; intro e
                have := congrArg Int32.toInt e
                rw [nI_toInt (by omega)] at this
                have e1 : (-1 : Int32).toInt = -1 := by decide +kernel
                omega
              rw [spClump, if_neg cge, if_neg hx0, ← c3, tN_nI (by omega), clmp]
              dsimp only
              rw [filt_at _ 256 S c2 (by omega)]
    refine x_aload_n dX6_clump_8 rfl ?_
    refine x_callVv 5 ml_X6_139 in_X6_layClumps se_X6_layClumps ct_X6_layClumps rfl (c_layClumps (d := 4) (by decide) h1 hn hh ha hM hF) dX6_clump_9 (by decide) rfl rfl rfl rfl (Nat.le_of_ble_eq_true rfl) (fun J0 h0 => ?_)
    obtain ⟨hB, h11⟩ := h0
    refine x_iconst dX6_clump_12 ic_0 ?_
    refine x_istore_n (ls' := [.ref 0, .int x, .int (nI 0), .null]) dX6_clump_13 rfl rfl ?_
    refine x_iconst dX6_clump_14 ic_0 ?_
    refine x_istore_n (ls' := [.ref 0, .int x, .int (nI 0), .int (nI 0)]) dX6_clump_15 rfl rfl ?_
    exact lp 256 0 J0 rfl hB (fun q hq => by rw [ecl]; exact h11 q hq) (fun k hk => by simp at hk)
  ·
    refine x_bipush dX6_clump_5 bp_m2 ?_
    refine x_ireti dX6_clump_7 rfl ⟨by rw [spClump, if_pos (Int32.not_le.mp c)], hR⟩
theorem m_sort {s what : Int32} (hW : WOk W) (hR : MR I W) : Cx LM yX6_sort mX6_sort 8 [.ref 0, .int s, .int what] I (xRi (fun r J => r = spSort s what W ∧ MR J W)) := by
  obtain ⟨⟨n, h, a, L⟩, im⟩ := W
  have h1 : 1 ≤ n := hW.1.1
  have hn : n ≤ 8 := hW.1.2.1
  have hh : ∀ g, h g < 1024 := hW.1.2.2.1
  have ha : ∀ g, a g < 256 := hW.1.2.2.2.1
  have hL : ∀ p, p < n → L p < n := hW.1.2.2.2.2.1
  have hinj : ∀ p q, p < n → q < n → L p = L q → p = q := hW.1.2.2.2.2.2.1
  have hL8 : ∀ p, p < 8 → L p < 8 := hW.1.2.2.2.2.2.2
  have hM : MSt I n h a L := hR.1
  have hF : I 0 4 = nI 0 ∨ (I 0 4 = nI 1 ∧ I 0 5 = oI (fewB n h a)) := hR.2.1
  refine Cx.of [.ref 0, .int s, .int what, .null, .null] (by decide) rfl rfl (Nat.le_of_ble_eq_true rfl) rfl ?_
  refine x_iload_n dX6_sort_0 rfl ?_
  refine x_callSi (as := [.int s]) ml_X6_62 st_X6_isSort ct_X6_isSort (cm_isSort (d := 1) (by decide)) dX6_sort_1 (by decide) rfl rfl (Nat.le_of_ble_eq_true rfl) (fun r0 J0 h0 => ?_)
  obtain ⟨rfl, hJ0⟩ := h0
  obtain rfl := hJ0.symm
  refine x_ifb_ne (b := inR s 10) (tgt := 9) dX6_sort_4 rfl (fun c => ?_) (fun c => ?_)
  ·
    obtain ⟨j, hj, rfl⟩ := inR_of c
    refine x_iload_n dX6_sort_9 rfl ?_
    refine x_iconst dX6_sort_10 ic_0 ?_
    refine x_iconst dX6_sort_11 ic_2 ?_
    refine x_callSi (as := [.int what, .int (nI 0), .int (nI 2)]) ml_X6_50 st_X6_in ct_X6_in (c_in (d := 0)) dX6_sort_12 (by decide) rfl rfl (Nat.le_of_ble_eq_true rfl) (fun r0 J0 h0 => ?_)
    obtain ⟨rfl, hJ0⟩ := h0
    obtain rfl := hJ0.symm
    rw [inB_3]
    refine x_ifb_ne (b := inR what 3) (tgt := 21) dX6_sort_15 rfl (fun c2 => ?_) (fun c2 => ?_)
    ·
      obtain ⟨q, hq, rfl⟩ := inR_of c2
      have lp : ∀ (k g : Nat), g + k = n → Wx LM mX6_sort 8 (xRi (fun r J => r = spSort (nI j) (nI q) ((n, h, a, L), im) ∧ MR J ((n, h, a, L), im))) 26 [.ref 0, .int (nI j), .int (nI q), .int (nI (cwi h j g)), .int (nI g)] [] I := by
        intro k
        induction k with
        | zero =>
          intro g hg
          have e : g = n := by omega
          subst e
          refine x_iload dX6_sort_26 rfl ?_
          refine x_aload_n dX6_sort_28 rfl ?_
          refine x_getR 5 0 rfl (by decide) fl_X6_7 dX6_sort_29 rfl rfl rfl ?_
          refine x_iconst dX6_sort_32 ic_0 ?_
          refine x_iald (p := 0) (v := nI g) dX6_sort_33 rfl rfl rfl rfl (by omega) hM.1 ?_
          refine x_icmpn_ge (a := g) (b := g) (by omega) (by omega) (tgt := 67) dX6_sort_34 rfl (fun e1 => ?_) (fun e1 => ?_)
          ·
            refine x_iload_n dX6_sort_67 rfl ?_
            refine x_ifn_ne (a := q) (by omega) (tgt := 73) dX6_sort_68 rfl (fun d1 => ?_) (fun d1 => ?_)
            ·
              refine x_iload_n dX6_sort_73 rfl ?_
              refine x_iconst dX6_sort_74 ic_1 ?_
              refine x_icmpn_ne (a := q) (b := 1) (by omega) (by omega) (tgt := 88) dX6_sort_75 rfl (fun d2 => ?_) (fun d2 => ?_)
              ·
                refine x_aload_n dX6_sort_88 rfl ?_
                refine x_iconst dX6_sort_89 ic_0 ?_
                refine x_callVv 5 ml_X6_132 in_X6_lookAtAll se_X6_lookAtAll ct_X6_lookAtAll rfl (c_lookAtAll (d := 4) (x := nI 0) (by decide) h1 hn hh ha hL hM hF) dX6_sort_90 (by decide) rfl rfl rfl rfl (Nat.le_of_ble_eq_true rfl) (fun J0 h0 => ?_)
                obtain ⟨q1, q2⟩ := h0
                refine x_aload_n dX6_sort_93 rfl ?_
                refine x_getR 5 13 rfl (by decide) fl_X6_38 dX6_sort_94 rfl rfl rfl ?_
                refine x_iload_n dX6_sort_97 rfl ?_
                refine x_iald (p := j) (v := oI (fwm (fS h j) none (bests g h a))) dX6_sort_98 rfl rfl rfl rfl (by omega) (q1.2.2.2.2.2.2.2.2.2 j hj) ?_
                refine x_ireti dX6_sort_99 rfl ⟨by rw [spSort]; dsimp only; rw [c, if_pos rfl, if_neg (nIe (by omega) (by omega) d1), if_neg (nIe (by omega) (by omega) d2), show q = 2 by omega, if_pos rfl, tN_nI (by omega)]; rfl, hR.base q2⟩
              ·
                refine x_aload_n dX6_sort_78 rfl ?_
                refine x_callVv 5 ml_X6_142 in_X6_takeRow se_X6_takeRow ct_X6_takeRow rfl (c_takeRow (d := 0) hM.2.2.2) dX6_sort_79 (by decide) rfl rfl rfl rfl (Nat.le_of_ble_eq_true rfl) (fun J0 h0 => ?_)
                obtain ⟨t1, t2⟩ := h0
                refine x_aload_n dX6_sort_82 rfl ?_
                refine x_iload_n dX6_sort_83 rfl ?_
                refine x_callVi 5 ml_X6_80 in_X6_breaksOf se_X6_breaksOf ct_X6_breaksOf rfl (c_breaksOf (d := 1) (o := L) (by decide) (by omega) hh (fun p hp => hL8 p (by omega)) (fun p hp => t1 p (by omega)) (hM.kept (t2 1 (by decide))) hn) dX6_sort_84 (by decide) rfl rfl rfl rfl (Nat.le_of_ble_eq_true rfl) (fun r0 J0 h0 => ?_)
                obtain ⟨rfl, hJ0⟩ := h0
                obtain rfl := hJ0.symm
                refine x_ireti dX6_sort_87 rfl ⟨by rw [spSort]; dsimp only; rw [c, if_pos rfl, if_neg (nIe (by omega) (by omega) d1), d2, if_pos rfl, tN_nI (by omega)]; rfl, hR.ord t2⟩
            ·
              refine x_iload_n dX6_sort_71 rfl ?_
              refine x_ireti dX6_sort_72 rfl ⟨by rw [spSort]; dsimp only; rw [c, if_pos rfl, d1, if_pos rfl, tN_nI (by omega)], hR⟩
          ·
            omega
        | succ k ih =>
          intro g hg
          have hb := hh g
          refine x_iload dX6_sort_26 rfl ?_
          refine x_aload_n dX6_sort_28 rfl ?_
          refine x_getR 5 0 rfl (by decide) fl_X6_7 dX6_sort_29 rfl rfl rfl ?_
          refine x_iconst dX6_sort_32 ic_0 ?_
          refine x_iald (p := 0) (v := nI n) dX6_sort_33 rfl rfl rfl rfl (by omega) hM.1 ?_
          refine x_icmpn_ge (a := g) (b := n) (by omega) (by omega) (tgt := 67) dX6_sort_34 rfl (fun e1 => ?_) (fun e1 => ?_)
          ·
            omega
          ·
            refine x_iload_n dX6_sort_37 rfl ?_
            refine x_aload_n dX6_sort_38 rfl ?_
            refine x_getR 5 0 rfl (by decide) fl_X6_7 dX6_sort_39 rfl rfl rfl ?_
            refine x_iconst dX6_sort_42 ic_1 ?_
            refine x_iload dX6_sort_43 rfl ?_
            refine x_iadd (v := nI (1 + g)) dX6_sort_45 (nI_add _ _) ?_
            refine x_iald (p := 1 + g) (v := nI (h g)) dX6_sort_46 rfl rfl rfl rfl (by omega) (hM.2.1 g (by omega)) ?_
            refine x_iload_n dX6_sort_47 rfl ?_
            refine x_callSi (as := [.int (nI (h g)), .int (nI j)]) ml_X6_73 st_X6_has ct_X6_has (c_has (d := 0) (by omega) (by omega)) dX6_sort_48 (by decide) rfl rfl (Nat.le_of_ble_eq_true rfl) (fun r0 J0 h0 => ?_)
            obtain ⟨rfl, hJ0⟩ := h0
            obtain rfl := hJ0.symm
            refine x_ifb_eq (b := (h g).testBit j) (tgt := 58) dX6_sort_51 rfl (fun e2 => ?_) (fun e2 => ?_)
            ·
              refine x_iconst dX6_sort_58 ic_0 ?_
              refine x_iadd (v := nI ((cwi h j g) + 0)) dX6_sort_59 (nI_add _ _) ?_
              refine x_istore_n (ls' := [.ref 0, .int (nI j), .int (nI q), .int (nI ((cwi h j g) + 0)), .int (nI g)]) dX6_sort_60 rfl rfl ?_
              refine x_iinc (v := nI (g + 1)) (ls' := [.ref 0, .int (nI j), .int (nI q), .int (nI ((cwi h j g) + 0)), .int (nI (g + 1))]) dX6_sort_61 rfl (inc_1 _) rfl rfl ?_
              refine x_goto (tgt := 26) dX6_sort_64 rfl ?_
              have e : cwi h j (g + 1) = cwi h j g + 0 := by simp [cwi, e2]
              rw [← e]
              exact ih (g + 1) (by omega)
            ·
              refine x_iconst dX6_sort_54 ic_1 ?_
              refine x_goto (tgt := 59) dX6_sort_55 rfl ?_
              refine x_iadd (v := nI ((cwi h j g) + 1)) dX6_sort_59 (nI_add _ _) ?_
              refine x_istore_n (ls' := [.ref 0, .int (nI j), .int (nI q), .int (nI ((cwi h j g) + 1)), .int (nI g)]) dX6_sort_60 rfl rfl ?_
              refine x_iinc (v := nI (g + 1)) (ls' := [.ref 0, .int (nI j), .int (nI q), .int (nI ((cwi h j g) + 1)), .int (nI (g + 1))]) dX6_sort_61 rfl (inc_1 _) rfl rfl ?_
              refine x_goto (tgt := 26) dX6_sort_64 rfl ?_
              have e : cwi h j (g + 1) = cwi h j g + 1 := by simp [cwi, e2]
              rw [← e]
              exact ih (g + 1) (by omega)
      refine x_iconst dX6_sort_21 ic_0 ?_
      refine x_istore_n (ls' := [.ref 0, .int (nI j), .int (nI q), .int (nI 0), .null]) dX6_sort_22 rfl rfl ?_
      refine x_iconst dX6_sort_23 ic_0 ?_
      refine x_istore (ls' := [.ref 0, .int (nI j), .int (nI q), .int (nI 0), .int (nI 0)]) dX6_sort_24 rfl rfl ?_
      exact lp n 0 (by omega)
    ·
      refine x_bipush dX6_sort_18 bp_m2 ?_
      refine x_ireti dX6_sort_20 rfl ⟨by rw [spSort]; dsimp only; rw [c, if_pos rfl, if_neg (out_ne c2 (by decide) (by decide)), if_neg (out_ne c2 (by decide) (by decide)), if_neg (out_ne c2 (by decide) (by decide))], hR⟩
  ·
    refine x_iconst dX6_sort_7 ic_m1 ?_
    refine x_ireti dX6_sort_8 rfl ⟨by rw [spSort]; dsimp only; rw [c]; rfl, hR⟩
theorem m_breaks {what : Int32} (hW : WOk W) (hR : MR I W) : Cx LM yX6_breaks mX6_breaks 8 [.ref 0, .int what] I (xRi (fun r J => r = spBreaks what W ∧ MR J W)) := by
  obtain ⟨⟨n, h, a, L⟩, im⟩ := W
  have h1 : 1 ≤ n := hW.1.1
  have hn : n ≤ 8 := hW.1.2.1
  have hh : ∀ g, h g < 1024 := hW.1.2.2.1
  have ha : ∀ g, a g < 256 := hW.1.2.2.2.1
  have hL : ∀ p, p < n → L p < n := hW.1.2.2.2.2.1
  have hinj : ∀ p q, p < n → q < n → L p = L q → p = q := hW.1.2.2.2.2.2.1
  have hL8 : ∀ p, p < 8 → L p < 8 := hW.1.2.2.2.2.2.2
  have hM : MSt I n h a L := hR.1
  have hF : I 0 4 = nI 0 ∨ (I 0 4 = nI 1 ∧ I 0 5 = oI (fewB n h a)) := hR.2.1
  refine Cx.of [.ref 0, .int what] (by decide) rfl rfl (Nat.le_of_ble_eq_true rfl) rfl ?_
  refine x_iload_n dX6_breaks_0 rfl ?_
  refine x_iconst dX6_breaks_1 ic_0 ?_
  refine x_iconst dX6_breaks_2 ic_2 ?_
  refine x_callSi (as := [.int what, .int (nI 0), .int (nI 2)]) ml_X6_50 st_X6_in ct_X6_in (c_in (d := 0)) dX6_breaks_3 (by decide) rfl rfl (Nat.le_of_ble_eq_true rfl) (fun r0 J0 h0 => ?_)
  obtain ⟨rfl, hJ0⟩ := h0
  obtain rfl := hJ0.symm
  rw [inB_3]
  refine x_ifb_ne (b := inR what 3) (tgt := 12) dX6_breaks_6 rfl (fun c2 => ?_) (fun c2 => ?_)
  ·
    obtain ⟨q, hq, rfl⟩ := inR_of c2
    refine x_aload_n dX6_breaks_12 rfl ?_
    refine x_callVv 5 ml_X6_104 in_X6_layFewest se_X6_layFewest ct_X6_layFewest rfl (c_layFewest (d := 3) (by decide) h1 hn hh ha hM hF) dX6_breaks_13 (by decide) rfl rfl rfl rfl (Nat.le_of_ble_eq_true rfl) (fun J0 h0 => ?_)
    obtain ⟨f4, f5, f0, ff⟩ := h0
    refine x_aload_n dX6_breaks_16 rfl ?_
    refine x_callVv 5 ml_X6_142 in_X6_takeRow se_X6_takeRow ct_X6_takeRow rfl (c_takeRow (d := 0) (L := L) (by rw [ff 1 (by decide) (by decide)]; exact hM.2.2.2)) dX6_breaks_17 (by decide) rfl rfl rfl rfl (Nat.le_of_ble_eq_true rfl) (fun J0 h0 => ?_)
    obtain ⟨t1, t2⟩ := h0
    refine x_iload_n dX6_breaks_20 rfl ?_
    have hMJ : MSt J0 n h a L := hM.kept (by rw [t2 1 (by decide)]; exact ff 1 (by decide) (by decide))
    have hRJ : MR J0 ((n, h, a, L), im) := hR.base (by
      unfold Base; rw [t2 0 (by decide), t2 1 (by decide), t2 2 (by decide), t2 3 (by decide)]
      exact ⟨f4, f5, ff 1 (by decide) (by decide), ff 2 (by decide) (by decide), ff 3 (by decide) (by decide)⟩)
    have tO : ∀ p, p < n → J0 4 p = nI (L p) := fun p hp => t1 p (by omega)
    have t8 : ∀ p, p < n → L p < 8 := fun p hp => hL8 p (by omega)
    refine x_ifn_ne (a := q) (by omega) (tgt := 31) dX6_breaks_21 rfl (fun d1 => ?_) (fun d1 => ?_)
    ·
      refine x_iload_n dX6_breaks_31 rfl ?_
      refine x_iconst dX6_breaks_32 ic_1 ?_
      refine x_icmpn_ne (a := q) (b := 1) (by omega) (by omega) (tgt := 51) dX6_breaks_33 rfl (fun d2 => ?_) (fun d2 => ?_)
      ·
        refine x_aload_n dX6_breaks_51 rfl ?_
        refine x_callVi 5 ml_X6_126 in_X6_isBest se_X6_isBest ct_X6_isBest rfl (c_isBest (d := 3) (w := seg L 0 n) (by decide) hn hh ha (fewB_lt hn) hMJ (by rw [t2 0 (by decide)]; exact f5) (c_isAllowed ha t8 tO hMJ hn) (c_breaksNow (by decide) hh t8 tO hMJ hn) (by rw [seg_len]; exact hn)) dX6_breaks_52 (by decide) rfl rfl rfl rfl (Nat.le_of_ble_eq_true rfl) (fun r0 J0 h0 => ?_)
        obtain ⟨rfl, hJ0⟩ := h0
        obtain rfl := hJ0.symm
        refine x_ifb_eq (b := (isB n h a (seg L 0 n))) (tgt := 62) dX6_breaks_55 rfl (fun d3 => ?_) (fun d3 => ?_)
        ·
          refine x_iconst dX6_breaks_62 ic_0 ?_
          refine x_ireti dX6_breaks_63 rfl ⟨by rw [spBreaks]; rw [if_neg (nIe (by omega) (by omega) d1), if_neg (nIe (by omega) (by omega) d2), show q = 2 by omega, if_pos rfl]; dsimp only [rw0]; rw [d3]; rfl, hRJ⟩
        ·
          refine x_iconst dX6_breaks_58 ic_1 ?_
          refine x_goto (tgt := 63) dX6_breaks_59 rfl ?_
          refine x_ireti dX6_breaks_63 rfl ⟨by rw [spBreaks]; rw [if_neg (nIe (by omega) (by omega) d1), if_neg (nIe (by omega) (by omega) d2), show q = 2 by omega, if_pos rfl]; dsimp only [rw0]; rw [d3]; rfl, hRJ⟩
      ·
        refine x_aload_n dX6_breaks_36 rfl ?_
        refine x_callVi 5 ml_X6_94 in_X6_isAllowed se_X6_isAllowed ct_X6_isAllowed rfl (c_isAllowed (d := 3) ha t8 tO hMJ hn) dX6_breaks_37 (by decide) rfl rfl rfl rfl (Nat.le_of_ble_eq_true rfl) (fun r0 J0 h0 => ?_)
        obtain ⟨rfl, hJ0⟩ := h0
        obtain rfl := hJ0.symm
        refine x_ifb_eq (b := (al a 0 (seg L 0 n))) (tgt := 47) dX6_breaks_40 rfl (fun d3 => ?_) (fun d3 => ?_)
        ·
          refine x_iconst dX6_breaks_47 ic_0 ?_
          refine x_goto (tgt := 63) dX6_breaks_48 rfl ?_
          refine x_ireti dX6_breaks_63 rfl ⟨by rw [spBreaks]; rw [if_neg (nIe (by omega) (by omega) d1), d2, if_pos rfl]; dsimp only [rw0]; rw [d3]; rfl, hRJ⟩
        ·
          refine x_iconst dX6_breaks_43 ic_1 ?_
          refine x_goto (tgt := 63) dX6_breaks_44 rfl ?_
          refine x_ireti dX6_breaks_63 rfl ⟨by rw [spBreaks]; rw [if_neg (nIe (by omega) (by omega) d1), d2, if_pos rfl]; dsimp only [rw0]; rw [d3]; rfl, hRJ⟩
    ·
      refine x_aload_n dX6_breaks_24 rfl ?_
      refine x_callVi 5 ml_X6_98 in_X6_breaksNow se_X6_breaksNow ct_X6_breaksNow rfl (c_breaksNow (d := 3) (by decide) hh t8 tO hMJ hn) dX6_breaks_25 (by decide) rfl rfl rfl rfl (Nat.le_of_ble_eq_true rfl) (fun r0 J0 h0 => ?_)
      obtain ⟨rfl, hJ0⟩ := h0
      obtain rfl := hJ0.symm
      refine x_goto (tgt := 63) dX6_breaks_28 rfl ?_
      refine x_ireti dX6_breaks_63 rfl ⟨by rw [spBreaks]; rw [d1, if_pos rfl]; rfl, hRJ⟩
  ·
    refine x_bipush dX6_breaks_9 bp_m2 ?_
    refine x_ireti dX6_breaks_11 rfl ⟨by rw [spBreaks, if_neg (out_ne c2 (by decide) (by decide)), if_neg (out_ne c2 (by decide) (by decide)), if_neg (out_ne c2 (by decide) (by decide))], hR⟩
theorem inB_R0 {x : Int32} {n : Nat} (h1 : 1 ≤ n) (hn : n < 2 ^ 31) : inB x (nI 0) (nI n - nI 2) = inR x (n - 1) := by
  rcases Nat.lt_or_ge n 2 with e | e
  · have en : n = 1 := by omega
    subst en
    have e1 : nI 1 - nI 2 = (-1) := by decide +kernel
    have e2 : (-1 : Int32).toInt = -1 := by decide +kernel
    rw [e1]
    unfold inB inR
    rw [nI_toInt (by omega), e2]
    exact decide_eq_decide.mpr (by omega)
  · rw [pk_sub e, ← inB_R (by omega) (by omega)]; rfl
theorem m_swap {k : Int32} (hW : WOk W) (hR : MR I W) : Cx LM yX6_swap mX6_swap 8 [.ref 0, .int k] I (xRi (fun r J => r = (spSwap k W).1 ∧ MR J (spSwap k W).2)) := by
  obtain ⟨⟨n, h, a, L⟩, im⟩ := W
  have h1 : 1 ≤ n := hW.1.1
  have hn : n ≤ 8 := hW.1.2.1
  have hh : ∀ g, h g < 1024 := hW.1.2.2.1
  have ha : ∀ g, a g < 256 := hW.1.2.2.2.1
  have hL : ∀ p, p < n → L p < n := hW.1.2.2.2.2.1
  have hinj : ∀ p q, p < n → q < n → L p = L q → p = q := hW.1.2.2.2.2.2.1
  have hL8 : ∀ p, p < 8 → L p < 8 := hW.1.2.2.2.2.2.2
  have hM : MSt I n h a L := hR.1
  have hF : I 0 4 = nI 0 ∨ (I 0 4 = nI 1 ∧ I 0 5 = oI (fewB n h a)) := hR.2.1
  refine Cx.of [.ref 0, .int k] (by decide) rfl rfl (Nat.le_of_ble_eq_true rfl) rfl ?_
  refine x_iload_n dX6_swap_0 rfl ?_
  refine x_iconst dX6_swap_1 ic_0 ?_
  refine x_aload_n dX6_swap_2 rfl ?_
  refine x_getR 5 0 rfl (by decide) fl_X6_7 dX6_swap_3 rfl rfl rfl ?_
  refine x_iconst dX6_swap_6 ic_0 ?_
  refine x_iald (p := 0) (v := nI n) dX6_swap_7 rfl rfl rfl rfl (by omega) hM.1 ?_
  refine x_iconst dX6_swap_8 ic_2 ?_
  refine x_isub (v := nI n - nI 2) dX6_swap_9 rfl ?_
  refine x_callSi (as := [.int k, .int (nI 0), .int (nI n - nI 2)]) ml_X6_50 st_X6_in ct_X6_in (c_in (d := 0)) dX6_swap_10 (by decide) rfl rfl (Nat.le_of_ble_eq_true rfl) (fun r0 J0 h0 => ?_)
  obtain ⟨rfl, hJ0⟩ := h0
  obtain rfl := hJ0.symm
  rw [inB_R0 h1 (by omega)]
  refine x_ifb_ne (b := inR k (n - 1)) (tgt := 19) dX6_swap_13 rfl (fun c => ?_) (fun c => ?_)
  ·
    obtain ⟨j, hj, rfl⟩ := inR_of c
    have e0 : spSwap (nI j) ((n, h, a, L), im) = (nI (brk h (seg (swp L j) 0 n)), ((n, h, a, swp L j), im)) := by
      rw [spSwap]; dsimp only; rw [c, if_pos rfl, tN_nI (by omega)]; rfl
    refine x_aload_n dX6_swap_19 rfl ?_
    refine x_iload_n dX6_swap_20 rfl ?_
    refine x_callVv 5 ml_X6_145 in_X6_swapRow se_X6_swapRow ct_X6_swapRow rfl (c_swapRow (d := 0) (by omega)) dX6_swap_21 (by decide) rfl rfl rfl rfl (Nat.le_of_ble_eq_true rfl) (fun J0 h0 => ?_)
    obtain rfl := h0.symm
    refine x_aload_n dX6_swap_24 rfl ?_
    refine x_callVi 5 ml_X6_148 in_X6_rowBreaks se_X6_rowBreaks ct_X6_rowBreaks rfl (c_rowBreaks (d := 3) (L := swp L j) (by decide) hh (fun p hp => by unfold swp; split; exact hL8 _ (by omega); split; exact hL8 _ (by omega); exact hL8 _ (by omega)) (hM.ex (by omega)) hn) dX6_swap_25 (by decide) rfl rfl rfl rfl (Nat.le_of_ble_eq_true rfl) (fun r0 J0 h0 => ?_)
    obtain ⟨rfl, t2⟩ := h0
    refine x_ireti dX6_swap_28 rfl ⟨by rw [e0], ?_⟩
    rw [e0]
    have hMx := hM.ex (k := j) (by omega)
    refine MR.st (W := ((n, h, a, L), im)) (T := (n, h, a, swp L j)) hR (hMx.kept (t2 1 (by decide))) ?_ ?_ ?_
    · rw [t2 0 (by decide), exI_ne _ (by decide)]; exact hF
    · rw [t2 2 (by decide), exI_ne _ (by decide)]
    · rw [t2 3 (by decide), exI_ne _ (by decide)]
  ·
    refine x_bipush dX6_swap_16 bp_m2 ?_
    have e0 : spSwap k ((n, h, a, L), im) = (-2, ((n, h, a, L), im)) := by rw [spSwap]; dsimp only; rw [c]; rfl
    refine x_ireti dX6_swap_18 rfl ⟨by rw [e0], by rw [e0]; exact hR⟩
end MP
