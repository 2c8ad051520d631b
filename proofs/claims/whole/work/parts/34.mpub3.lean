/-! the reference: its calls, on -/
section MP
variable {I : xMem} {W : WS} {n d : Nat} {h a L : Nat → Nat}
theorem g_isTogether {w : List Nat} {S : Nat} (hd : 1 ≤ d) (hS : S < 1024) (hw : w ∈ perms n) (hO : OrdL I n w) (h0 : I 1 0 = nI n) (hn : n ≤ 8) : Cx LM yX6_isTogether mX6_isTogether d [.ref 0, .int (nI S)] I (xRi (fun r J => r = nI (togM S w).toNat ∧ J = I)) := by
  have hm := perms_mem hw
  have := c_isTogether (I := I) (d := d) (o := fun p => w.getD p 0) hd hS (fun p hp => by have := getD_lt hm.2.2 hm.1 hp; omega) hO h0 hn
  rw [seg_getD hm.1] at this
  exact this
theorem shl_le {n : Nat} (hn : n ≤ 8) : 1 <<< n ≤ 256 ∧ 1 ≤ 1 <<< n := by
  rw [Nat.one_shiftLeft]
  exact ⟨Nat.le_trans (Nat.pow_le_pow_right (by decide) hn) (by decide), Nat.one_le_two_pow⟩
theorem m_together {x : Int32} (hW : WOk W) (hR : MR I W) : Cx LM yX6_together mX6_together 8 [.ref 0, .int x] I (xRi (fun r J => r = spTogether x W ∧ MR J W)) := by
  obtain ⟨⟨n, h, a, L⟩, im⟩ := W
  have h1 : 1 ≤ n := hW.1.1
  have hn : n ≤ 8 := hW.1.2.1
  have hh : ∀ g, h g < 1024 := hW.1.2.2.1
  have ha : ∀ g, a g < 256 := hW.1.2.2.2.1
  have hL : ∀ p, p < n → L p < n := hW.1.2.2.2.2.1
  have hinj : ∀ p q, p < n → q < n → L p = L q → p = q := hW.1.2.2.2.2.2.1
  have hL8 : ∀ p, p < 8 → L p < 8 := hW.1.2.2.2.2.2.2
  have hM : MSt I n h a L := hR.1
  have hF : I 0 4 = nI 0 ∨ (I 0 4 = nI 1 ∧ I 0 5 = oI (fewB n h a)) := hR.2.1
  obtain ⟨p1, p2⟩ := shl_le hn
  refine Cx.of [.ref 0, .int x, .null, .null] (by decide) rfl rfl (Nat.le_of_ble_eq_true rfl) rfl ?_
  refine x_iload_n dX6_together_0 rfl ?_
  refine x_iconst dX6_together_1 ic_1 ?_
  refine x_iconst dX6_together_2 ic_1 ?_
  refine x_aload_n dX6_together_3 rfl ?_
  refine x_getR 5 0 rfl (by decide) fl_X6_7 dX6_together_4 rfl rfl rfl ?_
  refine x_iconst dX6_together_7 ic_0 ?_
  refine x_iald (p := 0) (v := nI n) dX6_together_8 rfl rfl rfl rfl (by omega) hM.1 ?_
  refine x_ishl (v := nI (1 <<< n)) dX6_together_9 (nI_shl _ (by omega)) ?_
  refine x_iconst dX6_together_10 ic_1 ?_
  refine x_isub (v := nI ((1 <<< n) - 1)) dX6_together_11 (pk_sub (by omega)) ?_
  refine x_callSi (as := [.int x, .int (nI 1), .int (nI ((1 <<< n) - 1))]) ml_X6_50 st_X6_in ct_X6_in (c_in (d := 0)) dX6_together_12 (by decide) rfl rfl (Nat.le_of_ble_eq_true rfl) (fun r0 J0 h0 => ?_)
  obtain ⟨rfl, hJ0⟩ := h0
  obtain rfl := hJ0.symm
  refine x_ifb_ne (b := (inB x (nI 1) (nI (1 <<< n - 1)))) (tgt := 21) dX6_together_15 rfl (fun c => ?_) (fun c => ?_)
  ·
    have hx := of_decide_eq_true c
    rw [nI_toInt (by decide), nI_toInt (by omega)] at hx
    obtain ⟨S, hS, rfl⟩ : ∃ S : Nat, S < 1 <<< n ∧ x = nI S := ⟨x.toInt.toNat, by omega, Int32.toInt_inj.mp (by rw [nI_toInt (by omega)]; omega)⟩
    have eans : spTogether (nI S) ((n, h, a, L), im) = nI ((bests n h a).countP (togM S)) := by
      rw [spTogether]; dsimp only; rw [c, if_pos rfl, tN_nI (by omega)]; rfl
    have body : ∀ (u v : List (List Nat)) (w : List Nat) (J : xMem), perms n = u ++ w :: v → OrdL J n w → Base I n h a J → (∀ (J : xMem), OrdL J n w → Base I n h a J → Wx LM mX6_together 8 (xRi (fun r J => r = spTogether (nI S) ((n, h, a, L), im) ∧ MR J ((n, h, a, L), im))) 60 [.ref 0, .int (nI S), .int (nI (((u ++ [w]).filter (isB n h a)).countP (togM S))), .int (nI 1)] [] J) → Wx LM mX6_together 8 (xRi (fun r J => r = spTogether (nI S) ((n, h, a, L), im) ∧ MR J ((n, h, a, L), im))) 33 [.ref 0, .int (nI S), .int (nI ((u.filter (isB n h a)).countP (togM S))), .int (nI 1)] [] J := by
      intro u v w J hP hO hB kk
      have hw : w ∈ perms n := by rw [hP]; simp
      have hMJ : MSt J n h a L := hM.kept hB.2.2.1
      have kk := kk J hO hB
      refine x_iload_n dX6_together_33 rfl ?_
      refine x_ifn_eq (a := 1) (by decide) (tgt := 68) dX6_together_34 rfl (fun d1 => ?_) (fun d1 => ?_)
      ·
        exact absurd d1 (by decide)
      ·
        refine x_iload_n dX6_together_37 rfl ?_
        refine x_aload_n dX6_together_38 rfl ?_
        refine x_callVi 5 ml_X6_126 in_X6_isBest se_X6_isBest ct_X6_isBest rfl (g_isBest (d := 3) (by decide) hn hh ha hw hO hMJ hB.2.1) dX6_together_39 (by decide) rfl rfl rfl rfl (Nat.le_of_ble_eq_true rfl) (fun r0 J0 h0 => ?_)
        obtain ⟨rfl, hJ0⟩ := h0
        obtain rfl := hJ0.symm
        refine x_ifb_eq (b := isB n h a w) (tgt := 57) dX6_together_42 rfl (fun d2 => ?_) (fun d2 => ?_)
        ·
          rw [filt_0 d2] at kk
          refine x_iconst dX6_together_57 ic_0 ?_
          refine x_iadd (v := nI (((u.filter (isB n h a)).countP (togM S)) + 0)) dX6_together_58 (nI_add _ _) ?_
          refine x_istore_n (ls' := [.ref 0, .int (nI S), .int (nI (((u.filter (isB n h a)).countP (togM S)) + 0)), .int (nI 1)]) dX6_together_59 rfl rfl ?_
          exact kk
        ·
          rw [filt_1 d2, List.countP_append] at kk
          refine x_aload_n dX6_together_45 rfl ?_
          refine x_iload_n dX6_together_46 rfl ?_
          refine x_callVi 5 ml_X6_136 in_X6_isTogether se_X6_isTogether ct_X6_isTogether rfl (g_isTogether (d := 1) (by decide) (by omega) hw hO hMJ.1 hn) dX6_together_47 (by decide) rfl rfl rfl rfl (Nat.le_of_ble_eq_true rfl) (fun r0 J0 h0 => ?_)
          obtain ⟨rfl, hJ0⟩ := h0
          obtain rfl := hJ0.symm
          refine x_ifb_eq (b := togM S w) (tgt := 57) dX6_together_50 rfl (fun d3 => ?_) (fun d3 => ?_)
          ·
            refine x_iconst dX6_together_57 ic_0 ?_
            refine x_iadd (v := nI (((u.filter (isB n h a)).countP (togM S)) + 0)) dX6_together_58 (nI_add _ _) ?_
            refine x_istore_n (ls' := [.ref 0, .int (nI S), .int (nI (((u.filter (isB n h a)).countP (togM S)) + 0)), .int (nI 1)]) dX6_together_59 rfl rfl ?_
            simp [d3] at kk
            exact kk
          ·
            refine x_iconst dX6_together_53 ic_1 ?_
            refine x_goto (tgt := 58) dX6_together_54 rfl ?_
            refine x_iadd (v := nI (((u.filter (isB n h a)).countP (togM S)) + 1)) dX6_together_58 (nI_add _ _) ?_
            refine x_istore_n (ls' := [.ref 0, .int (nI S), .int (nI (((u.filter (isB n h a)).countP (togM S)) + 1)), .int (nI 1)]) dX6_together_59 rfl rfl ?_
            simp [d3] at kk
            exact kk
    have lp : ∀ (v u : List (List Nat)) (w : List Nat) (J : xMem), perms n = u ++ w :: v → OrdL J n w → Base I n h a J → Wx LM mX6_together 8 (xRi (fun r J => r = spTogether (nI S) ((n, h, a, L), im) ∧ MR J ((n, h, a, L), im))) 33 [.ref 0, .int (nI S), .int (nI ((u.filter (isB n h a)).countP (togM S))), .int (nI 1)] [] J := by
      intro v
      induction v with
      | nil =>
        intro u w J hP hO hB
        refine body u [] w J hP hO hB ?_
        clear hO hB
        intro J hO hB
        refine x_aload_n dX6_together_60 rfl ?_
        refine x_callVi 5 ml_X6_101 in_X6_goOn se_X6_goOn ct_X6_goOn rfl (g_goOn (d := 1) (by decide) h1 hn (hM.kept hB.2.2.1).1 hP hO) dX6_together_61 (by decide) rfl rfl rfl rfl (Nat.le_of_ble_eq_true rfl) (fun r0 J0 h0 => ?_)
        obtain ⟨_, rfl, rfl⟩ | ⟨y, v', hv, _⟩ := h0
        ·
          refine x_istore_n (ls' := [.ref 0, .int (nI S), .int (nI (((u ++ [w]).filter (isB n h a)).countP (togM S))), .int (nI 0)]) dX6_together_64 rfl rfl ?_
          refine x_goto (tgt := 33) dX6_together_65 rfl ?_
          refine x_iload_n dX6_together_33 rfl ?_
          refine x_ifn_eq (a := 0) (by decide) (tgt := 68) dX6_together_34 rfl (fun c3 => ?_) (fun c3 => ?_)
          ·
            refine x_iload_n dX6_together_68 rfl ?_
            refine x_ireti dX6_together_69 rfl ⟨by rw [eans, bests, hP], hR.base hB⟩
          ·
            exact absurd rfl c3
        · cases hv
      | cons y v ih =>
        intro u w J hP hO hB
        refine body u (y :: v) w J hP hO hB ?_
        clear hO hB
        intro J hO hB
        refine x_aload_n dX6_together_60 rfl ?_
        refine x_callVi 5 ml_X6_101 in_X6_goOn se_X6_goOn ct_X6_goOn rfl (g_goOn (d := 1) (by decide) h1 hn (hM.kept hB.2.2.1).1 hP hO) dX6_together_61 (by decide) rfl rfl rfl rfl (Nat.le_of_ble_eq_true rfl) (fun r0 J0 h0 => ?_)
        obtain ⟨hv, _⟩ | ⟨y', v', hv, rfl, hO', hF'⟩ := h0
        · cases hv
        ·
          refine x_istore_n (ls' := [.ref 0, .int (nI S), .int (nI (((u ++ [w]).filter (isB n h a)).countP (togM S))), .int (nI 1)]) dX6_together_64 rfl rfl ?_
          refine x_goto (tgt := 33) dX6_together_65 rfl ?_
          obtain ⟨rfl, rfl⟩ := List.cons.inj hv
          refine ih (u ++ [w]) y J0 (by rw [hP]; simp) hO' ?_
          unfold Base; rw [hF' 0 (by decide), hF' 1 (by decide), hF' 2 (by decide), hF' 3 (by decide)]; exact hB
    refine x_aload_n dX6_together_21 rfl ?_
    refine x_callVv 5 ml_X6_104 in_X6_layFewest se_X6_layFewest ct_X6_layFewest rfl (c_layFewest (d := 3) (by decide) h1 hn hh ha hM hF) dX6_together_22 (by decide) rfl rfl rfl rfl (Nat.le_of_ble_eq_true rfl) (fun J0 h0 => ?_)
    obtain ⟨f4, f5, f0, ff⟩ := h0
    refine x_aload_n dX6_together_25 rfl ?_
    refine x_callVv 5 ml_X6_91 in_X6_begin se_X6_begin ct_X6_begin rfl (c_begin (d := 0)) dX6_together_26 (by decide) rfl rfl rfl rfl (Nat.le_of_ble_eq_true rfl) (fun J0 h0 => ?_)
    obtain ⟨hJ1, hJ2⟩ := h0
    refine x_iconst dX6_together_29 ic_0 ?_
    refine x_istore_n (ls' := [.ref 0, .int (nI S), .int (nI 0), .null]) dX6_together_30 rfl rfl ?_
    refine x_iconst dX6_together_31 ic_1 ?_
    refine x_istore_n (ls' := [.ref 0, .int (nI S), .int (nI 0), .int (nI 1)]) dX6_together_32 rfl rfl ?_
    obtain ⟨v, hv⟩ := perms_first (n := n) (by omega)
    refine lp v [] (List.range n) _ (by rw [hv]; rfl) (fun p hp => ?_) ?_
    · rw [hJ1 p (by omega), List.getD_eq_getElem?_getD, List.getElem?_range hp]; rfl
    · unfold Base; rw [hJ2 0 (by decide), hJ2 1 (by decide), hJ2 2 (by decide), hJ2 3 (by decide)]
      exact ⟨f4, f5, ff 1 (by decide) (by decide), ff 2 (by decide) (by decide), ff 3 (by decide) (by decide)⟩
  ·
    refine x_bipush dX6_together_18 bp_m2 ?_
    refine x_ireti dX6_together_20 rfl ⟨by rw [spTogether]; dsimp only; rw [c]; rfl, hR⟩
theorem isB_some {w : List Nat} (hb : isB n h a w = true) : (fewB n h a).isSome = true := by
  simp only [isB, Bool.and_eq_true, decide_eq_true_eq] at hb
  rw [hb.2]; rfl
/-- which sets lie together in all of a list -/
def cl0 (n : Nat) (h a : Nat → Nat) (S : Nat) : Bool := (fewB n h a).isSome && decide (S < 1 <<< n) && decide (1 < pop S)
def clV (n : Nat) (h a : Nat → Nat) (V : List (List Nat)) (S : Nat) : Bool := cl0 n h a S && V.all (togM S)
theorem c_layClumps (hd : 4 ≤ d) (h1 : 1 ≤ n) (hn : n ≤ 8) (hh : ∀ g, h g < 1024) (ha : ∀ g, a g < 256) (hM : MSt I n h a L) (hf : I 0 4 = nI 0 ∨ (I 0 4 = nI 1 ∧ I 0 5 = oI (fewB n h a))) : Cx LM yX6_layClumps mX6_layClumps d [.ref 0] I (xRv (fun J => Base I n h a J ∧ ∀ S, S < 256 → J 11 S = nI (clV n h a (bests n h a) S).toNat)) := by
  obtain ⟨p1, p2⟩ := shl_le hn
  have inn : ∀ (t S : Nat) (u : List (List Nat)) (w : List Nat) (J : xMem), S + t = 256 → w ∈ perms n → OrdL J n w → Base I n h a J → (∀ q, q < 256 → J 11 q = nI (if q < S then clV n h a (u ++ [w]) q else clV n h a u q).toNat) → (∀ (v2 : Value) (J : xMem), OrdL J n w → Base I n h a J → (∀ q, q < 256 → J 11 q = nI (clV n h a (u ++ [w]) q).toNat) → Wx LM mX6_layClumps d (xRv (fun J => Base I n h a J ∧ ∀ S, S < 256 → J 11 S = nI (clV n h a (bests n h a) S).toNat)) 117 [.ref 0, .int (nI 1), v2] [] J) → Wx LM mX6_layClumps d (xRv (fun J => Base I n h a J ∧ ∀ S, S < 256 → J 11 S = nI (clV n h a (bests n h a) S).toNat)) 76 [.ref 0, .int (nI 1), .int (nI S)] [] J := by
    intro t
    induction t with
    | zero =>
      intro S u w J hS hw hO hB h11 kk
      refine x_iload_n dX6_layClumps_76 rfl ?_
      refine x_sipush dX6_layClumps_77 sp_256 ?_
      refine x_icmpn_ge (a := S) (b := 256) (by omega) (by omega) (tgt := 117) dX6_layClumps_80 rfl (fun c => ?_) (fun c => ?_)
      ·
        exact kk _ J hO hB (fun q hq => by rw [h11 q hq, if_pos (by omega)])
      ·
        omega
    | succ t ih =>
      intro S u w J hS hw hO hB h11 kk
      have e11 : J 11 S = nI (clV n h a u S).toNat := by rw [h11 S (by omega), if_neg (Nat.lt_irrefl _)]
      have stx : ∀ (b : Bool), b = clV n h a (u ++ [w]) S → Wx LM mX6_layClumps d (xRv (fun J => Base I n h a J ∧ ∀ S, S < 256 → J 11 S = nI (clV n h a (bests n h a) S).toNat)) 110 [.ref 0, .int (nI 1), .int (nI S)] [.int (nI b.toNat), .int (nI S), .ref 11] J := by
        intro b eb
        refine x_zast (p := S) dX6_layClumps_110 rfl rfl rfl rfl (by omega) (bz01 b) ?_
        generalize hK : xup J 11 S (nI b.toNat) = K
        refine x_iinc (v := nI (S + 1)) (ls' := [.ref 0, .int (nI 1), .int (nI (S + 1))]) dX6_layClumps_111 rfl (inc_1 _) rfl rfl ?_
        refine x_goto (tgt := 76) dX6_layClumps_114 rfl ?_
        refine ih (S + 1) u w K (by omega) hw (fun p hp => by rw [← hK, xup_ne (by decide)]; exact hO p hp) ?_ (fun q hq => ?_) kk
        · unfold Base; rw [← hK, xup_ne (by decide), xup_ne (by decide), xup_ne (by decide), xup_ne (by decide)]; exact hB
        · rw [← hK, xup_eq]
          by_cases e : q = S
          · subst e; rw [if_pos rfl, if_pos (Nat.lt_succ_self _), eb]
          · rw [if_neg e, h11 q hq]
            by_cases e2 : q < S
            · rw [if_pos e2, if_pos (by omega)]
            · rw [if_neg e2, if_neg (by omega)]
      have hcl : clV n h a (u ++ [w]) S = (clV n h a u S && togM S w) := by simp [clV, List.all_append, Bool.and_assoc]
      refine x_iload_n dX6_layClumps_76 rfl ?_
      refine x_sipush dX6_layClumps_77 sp_256 ?_
      refine x_icmpn_ge (a := S) (b := 256) (by omega) (by omega) (tgt := 117) dX6_layClumps_80 rfl (fun c => ?_) (fun c => ?_)
      ·
        omega
      ·
        refine x_aload_n dX6_layClumps_83 rfl ?_
        refine x_getR 5 14 rfl (by decide) fl_X6_41 dX6_layClumps_84 rfl rfl rfl ?_
        refine x_iload_n dX6_layClumps_87 rfl ?_
        refine x_aload_n dX6_layClumps_88 rfl ?_
        refine x_getR 5 14 rfl (by decide) fl_X6_41 dX6_layClumps_89 rfl rfl rfl ?_
        refine x_iload_n dX6_layClumps_92 rfl ?_
        refine x_zald (p := S) (v := nI ((clV n h a u S).toNat)) dX6_layClumps_93 rfl rfl rfl rfl (by omega) e11 ?_
        refine x_ifb_eq (b := clV n h a u S) (tgt := 109) dX6_layClumps_94 rfl (fun c2 => ?_) (fun c2 => ?_)
        ·
          refine x_iconst dX6_layClumps_109 ic_0 ?_
          exact stx false (by rw [hcl, c2]; rfl)
        ·
          refine x_aload_n dX6_layClumps_97 rfl ?_
          refine x_iload_n dX6_layClumps_98 rfl ?_
          refine x_callVi 5 ml_X6_136 in_X6_isTogether se_X6_isTogether ct_X6_isTogether rfl (g_isTogether (d := 1) (by decide) (by omega) hw hO (hM.kept hB.2.2.1).1 hn) dX6_layClumps_99 (by omega) rfl rfl rfl rfl (Nat.le_of_ble_eq_true rfl) (fun r0 J0 h0 => ?_)
          obtain ⟨rfl, hJ0⟩ := h0
          obtain rfl := hJ0.symm
          refine x_ifb_eq (b := togM S w) (tgt := 109) dX6_layClumps_102 rfl (fun c3 => ?_) (fun c3 => ?_)
          ·
            refine x_iconst dX6_layClumps_109 ic_0 ?_
            exact stx false (by rw [hcl, c3, Bool.and_false])
          ·
            refine x_iconst dX6_layClumps_105 ic_1 ?_
            refine x_goto (tgt := 110) dX6_layClumps_106 rfl ?_
            exact stx true (by rw [hcl, c2, c3]; rfl)
  have body : ∀ (u v : List (List Nat)) (w : List Nat) (v2 : Value) (J : xMem), perms n = u ++ w :: v → OrdL J n w → Base I n h a J → (∀ q, q < 256 → J 11 q = nI (clV n h a (u.filter (isB n h a)) q).toNat) → (∀ (v2 : Value) (J : xMem), OrdL J n w → Base I n h a J → (∀ q, q < 256 → J 11 q = nI (clV n h a ((u ++ [w]).filter (isB n h a)) q).toNat) → Wx LM mX6_layClumps d (xRv (fun J => Base I n h a J ∧ ∀ S, S < 256 → J 11 S = nI (clV n h a (bests n h a) S).toNat)) 117 [.ref 0, .int (nI 1), v2] [] J) → Wx LM mX6_layClumps d (xRv (fun J => Base I n h a J ∧ ∀ S, S < 256 → J 11 S = nI (clV n h a (bests n h a) S).toNat)) 63 [.ref 0, .int (nI 1), v2] [] J := by
    intro u v w v2 J hP hO hB h11 kk
    have hw : w ∈ perms n := by rw [hP]; simp
    refine x_iload_n dX6_layClumps_63 rfl ?_
    refine x_ifn_eq (a := 1) (by decide) (tgt := 125) dX6_layClumps_64 rfl (fun d1 => ?_) (fun d1 => ?_)
    ·
      exact absurd d1 (by decide)
    ·
      refine x_aload_n dX6_layClumps_67 rfl ?_
      refine x_callVi 5 ml_X6_126 in_X6_isBest se_X6_isBest ct_X6_isBest rfl (g_isBest (d := 3) (by decide) hn hh ha hw hO (hM.kept hB.2.2.1) hB.2.1) dX6_layClumps_68 hd rfl rfl rfl rfl (Nat.le_of_ble_eq_true rfl) (fun r0 J0 h0 => ?_)
      obtain ⟨rfl, hJ0⟩ := h0
      obtain rfl := hJ0.symm
      refine x_ifb_eq (b := isB n h a w) (tgt := 117) dX6_layClumps_71 rfl (fun d2 => ?_) (fun d2 => ?_)
      ·
        rw [filt_0 d2] at kk
        exact kk _ J hO hB h11
      ·
        rw [filt_1 d2] at kk
        refine x_iconst dX6_layClumps_74 ic_0 ?_
        refine x_istore_n (ls' := [.ref 0, .int (nI 1), .int (nI 0)]) dX6_layClumps_75 rfl rfl ?_
        exact inn 256 0 (u.filter (isB n h a)) w J rfl hw hO hB (fun q hq => by rw [if_neg (by omega)]; exact h11 q hq) kk
  have lp : ∀ (v u : List (List Nat)) (w : List Nat) (v2 : Value) (J : xMem), perms n = u ++ w :: v → OrdL J n w → Base I n h a J → (∀ q, q < 256 → J 11 q = nI (clV n h a (u.filter (isB n h a)) q).toNat) → Wx LM mX6_layClumps d (xRv (fun J => Base I n h a J ∧ ∀ S, S < 256 → J 11 S = nI (clV n h a (bests n h a) S).toNat)) 63 [.ref 0, .int (nI 1), v2] [] J := by
    intro v
    induction v with
    | nil =>
      intro u w v2 J hP hO hB h11
      refine body u [] w v2 J hP hO hB h11 ?_
      clear hO hB h11
      intro v2 J hO hB h11
      refine x_aload_n dX6_layClumps_117 rfl ?_
      refine x_callVi 5 ml_X6_101 in_X6_goOn se_X6_goOn ct_X6_goOn rfl (g_goOn (d := 1) (by decide) h1 hn (hM.kept hB.2.2.1).1 hP hO) dX6_layClumps_118 (by omega) rfl rfl rfl rfl (Nat.le_of_ble_eq_true rfl) (fun r0 J0 h0 => ?_)
      obtain ⟨_, rfl, rfl⟩ | ⟨y, v', hv, _⟩ := h0
      ·
        refine x_istore_n (ls' := [.ref 0, .int (nI 0), v2]) dX6_layClumps_121 rfl rfl ?_
        refine x_goto (tgt := 63) dX6_layClumps_122 rfl ?_
        refine x_iload_n dX6_layClumps_63 rfl ?_
        refine x_ifn_eq (a := 0) (by decide) (tgt := 125) dX6_layClumps_64 rfl (fun c3 => ?_) (fun c3 => ?_)
        ·
          refine x_vretv dX6_layClumps_125 rfl ⟨hB, by rw [bests, hP]; exact h11⟩
        ·
          exact absurd rfl c3
      · cases hv
    | cons y v ih =>
      intro u w v2 J hP hO hB h11
      refine body u (y :: v) w v2 J hP hO hB h11 ?_
      clear hO hB h11
      intro v2 J hO hB h11
      refine x_aload_n dX6_layClumps_117 rfl ?_
      refine x_callVi 5 ml_X6_101 in_X6_goOn se_X6_goOn ct_X6_goOn rfl (g_goOn (d := 1) (by decide) h1 hn (hM.kept hB.2.2.1).1 hP hO) dX6_layClumps_118 (by omega) rfl rfl rfl rfl (Nat.le_of_ble_eq_true rfl) (fun r0 J0 h0 => ?_)
      obtain ⟨hv, _⟩ | ⟨y', v', hv, rfl, hO', hF'⟩ := h0
      · cases hv
      ·
        refine x_istore_n (ls' := [.ref 0, .int (nI 1), v2]) dX6_layClumps_121 rfl rfl ?_
        refine x_goto (tgt := 63) dX6_layClumps_122 rfl ?_
        obtain ⟨rfl, rfl⟩ := List.cons.inj hv
        refine ih (u ++ [w]) y _ J0 (by rw [hP]; simp) hO' ?_ (by rw [hF' 11 (by decide)]; exact h11)
        unfold Base; rw [hF' 0 (by decide), hF' 1 (by decide), hF' 2 (by decide), hF' 3 (by decide)]; exact hB
  have ini : ∀ (t S : Nat) (J : xMem), S + t = 256 → Base I n h a J → (∀ q, q < S → J 11 q = nI (clV n h a [] q).toNat) → Wx LM mX6_layClumps d (xRv (fun J => Base I n h a J ∧ ∀ S, S < 256 → J 11 S = nI (clV n h a (bests n h a) S).toNat)) 6 [.ref 0, .int (nI S), .null] [] J := by
    intro t
    induction t with
    | zero =>
      intro S J hS hB h11
      refine x_iload_n dX6_layClumps_6 rfl ?_
      refine x_sipush dX6_layClumps_7 sp_256 ?_
      refine x_icmpn_ge (a := S) (b := 256) (by omega) (by omega) (tgt := 57) dX6_layClumps_10 rfl (fun c => ?_) (fun c => ?_)
      ·
        refine x_aload_n dX6_layClumps_57 rfl ?_
        refine x_callVv 5 ml_X6_91 in_X6_begin se_X6_begin ct_X6_begin rfl (c_begin (d := 0)) dX6_layClumps_58 (by omega) rfl rfl rfl rfl (Nat.le_of_ble_eq_true rfl) (fun J0 h0 => ?_)
        obtain ⟨hJ1, hJ2⟩ := h0
        refine x_iconst dX6_layClumps_61 ic_1 ?_
        refine x_istore_n (ls' := [.ref 0, .int (nI 1), .null]) dX6_layClumps_62 rfl rfl ?_
        obtain ⟨v, hv⟩ := perms_first (n := n) (by omega)
        refine lp v [] (List.range n) _ J0 (by rw [hv]; rfl) (fun p hp => ?_) ?_ (fun q hq => by rw [hJ2 11 (by decide)]; exact h11 q (by omega))
        · rw [hJ1 p (by omega), List.getD_eq_getElem?_getD, List.getElem?_range hp]; rfl
        · unfold Base; rw [hJ2 0 (by decide), hJ2 1 (by decide), hJ2 2 (by decide), hJ2 3 (by decide)]; exact hB
      ·
        omega
    | succ t ih =>
      intro S J hS hB h11
      have stx : ∀ (b : Bool), b = cl0 n h a S → Wx LM mX6_layClumps d (xRv (fun J => Base I n h a J ∧ ∀ S, S < 256 → J 11 S = nI (clV n h a (bests n h a) S).toNat)) 50 [.ref 0, .int (nI S), .null] [.int (nI b.toNat), .int (nI S), .ref 11] J := by
        intro b eb
        refine x_zast (p := S) dX6_layClumps_50 rfl rfl rfl rfl (by omega) (bz01 b) ?_
        generalize hK : xup J 11 S (nI b.toNat) = K
        refine x_iinc (v := nI (S + 1)) (ls' := [.ref 0, .int (nI (S + 1)), .null]) dX6_layClumps_51 rfl (inc_1 _) rfl rfl ?_
        refine x_goto (tgt := 6) dX6_layClumps_54 rfl ?_
        refine ih (S + 1) K (by omega) ?_ (fun q hq => ?_)
        · unfold Base; rw [← hK, xup_ne (by decide), xup_ne (by decide), xup_ne (by decide), xup_ne (by decide)]; exact hB
        · rw [← hK, xup_eq]
          by_cases e : q = S
          · subst e; rw [if_pos rfl, eb]; simp [clV]
          · rw [if_neg e]; exact h11 q (by omega)
      refine x_iload_n dX6_layClumps_6 rfl ?_
      refine x_sipush dX6_layClumps_7 sp_256 ?_
      refine x_icmpn_ge (a := S) (b := 256) (by omega) (by omega) (tgt := 57) dX6_layClumps_10 rfl (fun c => ?_) (fun c => ?_)
      ·
        omega
      ·
        refine x_aload_n dX6_layClumps_13 rfl ?_
        refine x_getR 5 14 rfl (by decide) fl_X6_41 dX6_layClumps_14 rfl rfl rfl ?_
        refine x_iload_n dX6_layClumps_17 rfl ?_
        refine x_aload_n dX6_layClumps_18 rfl ?_
        refine x_getI 5 5 (v := oI (fewB n h a)) rfl (by decide) fl_X6_87 dX6_layClumps_19 rfl rfl rfl hB.2.1 ?_
        cases hf2 : fewB n h a with
        | none =>
          refine x_if_lt (tgt := 49) dX6_layClumps_22 rfl (fun c2 => ?_) (fun c2 => ?_)
          ·
            refine x_iconst dX6_layClumps_49 ic_0 ?_
            exact stx false (by simp [cl0, hf2])
          ·
            exact absurd (show oI none < 0 by decide +kernel) c2
        | some m =>
          have hm := fewB_lt hn m hf2
          refine x_if_lt (tgt := 49) dX6_layClumps_22 rfl (fun c2 => ?_) (fun c2 => ?_)
          ·
            exact absurd c2 (nI_pos hm)
          ·
            refine x_iload_n dX6_layClumps_25 rfl ?_
            refine x_iconst dX6_layClumps_26 ic_1 ?_
            refine x_aload_n dX6_layClumps_27 rfl ?_
            refine x_getR 5 0 rfl (by decide) fl_X6_7 dX6_layClumps_28 rfl rfl rfl ?_
            refine x_iconst dX6_layClumps_31 ic_0 ?_
            refine x_iald (p := 0) (v := nI n) dX6_layClumps_32 rfl rfl rfl rfl (by omega) (hM.kept hB.2.2.1).1 ?_
            refine x_ishl (v := nI (1 <<< n)) dX6_layClumps_33 (nI_shl _ (by omega)) ?_
            refine x_icmpn_ge (a := S) (b := 1 <<< n) (by omega) (by omega) (tgt := 49) dX6_layClumps_34 rfl (fun c3 => ?_) (fun c3 => ?_)
            ·
              refine x_iconst dX6_layClumps_49 ic_0 ?_
              exact stx false (by simp [cl0, Nat.not_lt.mpr c3])
            ·
              have hpl := pop_le S
              refine x_iload_n dX6_layClumps_37 rfl ?_
              refine x_callSi (as := [.int (nI S)]) ml_X6_65 st_X6_bits ct_X6_bits (c_bits (d := 0) (by omega)) dX6_layClumps_38 (by omega) rfl rfl (Nat.le_of_ble_eq_true rfl) (fun r0 J0 h0 => ?_)
              obtain ⟨rfl, hJ0⟩ := h0
              obtain rfl := hJ0.symm
              refine x_iconst dX6_layClumps_41 ic_1 ?_
              refine x_icmpn_le (a := pop S) (b := 1) (by omega) (by omega) (tgt := 49) dX6_layClumps_42 rfl (fun c4 => ?_) (fun c4 => ?_)
              ·
                refine x_iconst dX6_layClumps_49 ic_0 ?_
                exact stx false (by simp [cl0, Nat.not_lt.mpr c4])
              ·
                refine x_iconst dX6_layClumps_45 ic_1 ?_
                refine x_goto (tgt := 50) dX6_layClumps_46 rfl ?_
                exact stx true (by simp [cl0, hf2, c3, c4])
  refine Cx.of [.ref 0, .null, .null] (by decide) rfl rfl (Nat.le_of_ble_eq_true rfl) rfl ?_
  refine x_aload_n dX6_layClumps_0 rfl ?_
  refine x_callVv 5 ml_X6_104 in_X6_layFewest se_X6_layFewest ct_X6_layFewest rfl (c_layFewest (d := 3) (by decide) h1 hn hh ha hM hf) dX6_layClumps_1 hd rfl rfl rfl rfl (Nat.le_of_ble_eq_true rfl) (fun J0 h0 => ?_)
  obtain ⟨f4, f5, f0, ff⟩ := h0
  refine x_iconst dX6_layClumps_4 ic_0 ?_
  refine x_istore_n (ls' := [.ref 0, .int (nI 0), .null]) dX6_layClumps_5 rfl rfl ?_
  exact ini 256 0 J0 rfl ⟨f4, f5, ff 1 (by decide) (by decide), ff 2 (by decide) (by decide), ff 3 (by decide) (by decide)⟩ (fun q hq => by omega)
end MP
