/-! the reference: its leaves -/
def MSt (J : xMem) (n : Nat) (h a L : Nat → Nat) : Prop := J 1 0 = nI n ∧ (∀ g, g < 8 → J 1 (1 + g) = nI (h g)) ∧ (∀ g, g < 8 → J 1 (9 + g) = nI (a g)) ∧ ∀ g, g < 8 → J 1 (17 + g) = nI (L g)
theorem MSt.kept {J K : xMem} {n : Nat} {h a L : Nat → Nat} (hM : MSt J n h a L) (e : K 1 = J 1) : MSt K n h a L := by
  unfold MSt; rw [e]; exact hM
def inB (x lo hi : Int32) : Bool := decide (lo.toInt ≤ x.toInt ∧ x.toInt ≤ hi.toInt)
theorem c_in {I : xMem} {d : Nat} {x lo hi : Int32} : Cx LM yX6_in mX6_in d [.int x, .int lo, .int hi] I (xRi (fun r J => r = nI (inB x lo hi).toNat ∧ J = I)) := by
  refine Cx.of [.int x, .int lo, .int hi] (by decide) rfl rfl (Nat.le_of_ble_eq_true rfl) rfl ?_
  refine x_iload_n dX6_in_0 rfl ?_
  refine x_iload_n dX6_in_1 rfl ?_
  refine x_icmp_lt (tgt := 14) dX6_in_2 rfl (fun c => ?_) (fun c => ?_)
  ·
    refine x_iconst dX6_in_14 ic_0 ?_
    refine x_zretb (b := false) dX6_in_15 rfl ⟨?_, rfl⟩
    have e : inB x lo hi = false := decide_eq_false (by rw [Int32.lt_iff_toInt_lt] at c; omega)
    rw [e]
  ·
    refine x_iload_n dX6_in_5 rfl ?_
    refine x_iload_n dX6_in_6 rfl ?_
    refine x_icmp_gt (tgt := 14) dX6_in_7 rfl (fun c2 => ?_) (fun c2 => ?_)
    ·
      refine x_iconst dX6_in_14 ic_0 ?_
      refine x_zretb (b := false) dX6_in_15 rfl ⟨?_, rfl⟩
      have e : inB x lo hi = false := decide_eq_false (by rw [Int32.lt_iff_toInt_lt] at c2; omega)
      rw [e]
    ·
      refine x_iconst dX6_in_10 ic_1 ?_
      refine x_goto (tgt := 15) dX6_in_11 rfl ?_
      refine x_zretb (b := true) dX6_in_15 rfl ⟨?_, rfl⟩
      have e : inB x lo hi = true := decide_eq_true (by rw [Int32.lt_iff_toInt_lt] at c c2; omega)
      rw [e]
theorem inB_R {x : Int32} {n : Nat} (h1 : 1 ≤ n) (hn : n < 2 ^ 31) : inB x (nI 0) (nI (n - 1)) = inR x n := by
  unfold inB inR
  rw [nI_toInt (by omega), nI_toInt (by omega)]
  exact decide_eq_decide.mpr (by omega)
section MG
variable {I : xMem} {n d : Nat} {h a L : Nat → Nat}
theorem cm_isGrave {x : Int32} (hd : 1 ≤ d) (h1 : 1 ≤ n) (hn : n ≤ 8) (h0 : I 1 0 = nI n) : Cx LM yX6_isGrave mX6_isGrave d [.ref 0, .int x] I (xRi (fun r J => r = nI (inR x n).toNat ∧ J = I)) := by
  refine Cx.of [.ref 0, .int x] (by decide) rfl rfl (Nat.le_of_ble_eq_true rfl) rfl ?_
  refine x_iload_n dX6_isGrave_0 rfl ?_
  refine x_iconst dX6_isGrave_1 ic_0 ?_
  refine x_aload_n dX6_isGrave_2 rfl ?_
  refine x_getR 5 0 rfl (by decide) fl_X6_7 dX6_isGrave_3 rfl rfl rfl ?_
  refine x_iconst dX6_isGrave_6 ic_0 ?_
  refine x_iald (p := 0) (v := nI n) dX6_isGrave_7 rfl rfl rfl rfl (by omega) h0 ?_
  refine x_iconst dX6_isGrave_8 ic_1 ?_
  refine x_isub (v := nI (n - 1)) dX6_isGrave_9 (pk_sub (by omega)) ?_
  refine x_callSi (as := [.int x, .int (nI 0), .int (nI (n - 1))]) ml_X6_50 st_X6_in ct_X6_in (c_in (d := 0)) dX6_isGrave_10 hd rfl rfl (Nat.le_of_ble_eq_true rfl) (fun r0 J0 h0 => ?_)
  obtain ⟨rfl, hJ0⟩ := h0
  obtain rfl := hJ0.symm
  refine x_zretb (b := (inB x (nI 0) (nI (n - 1)))) dX6_isGrave_13 rfl ⟨by rw [inB_R h1 (by omega)], rfl⟩
theorem cm_isSort {x : Int32} (hd : 1 ≤ d) : Cx LM yX6_isSort mX6_isSort d [.int x] I (xRi (fun r J => r = nI (inR x 10).toNat ∧ J = I)) := by
  refine Cx.of [.int x] (by decide) rfl rfl (Nat.le_of_ble_eq_true rfl) rfl ?_
  refine x_iload_n dX6_isSort_0 rfl ?_
  refine x_iconst dX6_isSort_1 ic_0 ?_
  refine x_bipush dX6_isSort_2 bp_9 ?_
  refine x_callSi (as := [.int x, .int (nI 0), .int (nI 9)]) ml_X6_50 st_X6_in ct_X6_in (c_in (d := 0)) dX6_isSort_4 hd rfl rfl (Nat.le_of_ble_eq_true rfl) (fun r0 J0 h0 => ?_)
  obtain ⟨rfl, hJ0⟩ := h0
  obtain rfl := hJ0.symm
  refine x_zretb (b := (inB x (nI 0) (nI 9))) dX6_isSort_7 rfl ⟨by rw [← inB_R (by decide) (by decide)], rfl⟩
theorem bit_and1 (x i : Nat) : (x.testBit i).toNat = x >>> i &&& 1 := by
  have hle : x >>> i &&& 1 ≤ 1 := Nat.and_le_right
  rw [Nat.testBit, Nat.and_comm 1]
  rcases (show x >>> i &&& 1 = 0 ∨ x >>> i &&& 1 = 1 by omega) with e | e <;> rw [e] <;> rfl
theorem c_has {x i : Nat} (hx : x < 2 ^ 31) (hi : i < 32) : Cx LM yX6_has mX6_has d [.int (nI x), .int (nI i)] I (xRi (fun r J => r = nI (x.testBit i).toNat ∧ J = I)) := by
  have hsh : x >>> i < 2 ^ 31 := Nat.lt_of_le_of_lt (Nat.shiftRight_le _ _) hx
  have hle : x >>> i &&& 1 ≤ 1 := Nat.and_le_right
  refine Cx.of [.int (nI x), .int (nI i)] (by decide) rfl rfl (Nat.le_of_ble_eq_true rfl) rfl ?_
  refine x_iload_n dX6_has_0 rfl ?_
  refine x_iload_n dX6_has_1 rfl ?_
  refine x_ishr (v := nI (x >>> i)) dX6_has_2 (nI_shr (by omega) (by omega)) ?_
  refine x_iconst dX6_has_3 ic_1 ?_
  refine x_iand (v := nI ((x >>> i) &&& 1)) dX6_has_4 (nI_and _ _) ?_
  refine x_iconst dX6_has_5 ic_1 ?_
  refine x_icmpn_ne (a := (x >>> i) &&& 1) (b := 1) (by omega) (by omega) (tgt := 13) dX6_has_6 rfl (fun c => ?_) (fun c => ?_)
  ·
    refine x_iconst dX6_has_13 ic_0 ?_
    refine x_zretb (b := false) dX6_has_14 rfl ⟨by rw [bit_and1, show x >>> i &&& 1 = 0 by omega]; rfl, rfl⟩
  ·
    refine x_iconst dX6_has_9 ic_1 ?_
    refine x_goto (tgt := 14) dX6_has_10 rfl ?_
    refine x_zretb (b := true) dX6_has_14 rfl ⟨by rw [bit_and1, c]; rfl, rfl⟩
theorem c_bits {x : Nat} (hx : x < 2 ^ 31) : Cx LM yX6_bits mX6_bits d [.int (nI x)] I (xRi (fun r J => r = nI (pop x) ∧ J = I)) := by
  have lp : ∀ (k i : Nat), i + k = 10 → Wx LM mX6_bits d (xRi (fun r J => r = nI (pop x) ∧ J = I)) 4 [.int (nI x), .int (nI (popN i x)), .int (nI i)] [] I := by
    intro k
    induction k with
    | zero =>
      intro i hi
      refine x_iload_n dX6_bits_4 rfl ?_
      refine x_bipush dX6_bits_5 bp_10 ?_
      refine x_icmpn_ge (a := i) (b := 10) (by omega) (by omega) (tgt := 24) dX6_bits_7 rfl (fun c => ?_) (fun c => ?_)
      ·
        refine x_iload_n dX6_bits_24 rfl ?_
        refine x_ireti dX6_bits_25 rfl ⟨by rw [show i = 10 by omega]; rfl, rfl⟩
      ·
        omega
    | succ k ih =>
      intro i hi
      refine x_iload_n dX6_bits_4 rfl ?_
      refine x_bipush dX6_bits_5 bp_10 ?_
      refine x_icmpn_ge (a := i) (b := 10) (by omega) (by omega) (tgt := 24) dX6_bits_7 rfl (fun c => ?_) (fun c => ?_)
      ·
        omega
      ·
        refine x_iload_n dX6_bits_10 rfl ?_
        refine x_iload_n dX6_bits_11 rfl ?_
        refine x_iload_n dX6_bits_12 rfl ?_
        refine x_ishr (v := nI (x >>> i)) dX6_bits_13 (nI_shr (by omega) (by omega)) ?_
        refine x_iconst dX6_bits_14 ic_1 ?_
        refine x_iand (v := nI ((x >>> i) &&& 1)) dX6_bits_15 (nI_and _ _) ?_
        refine x_iadd (v := nI ((popN i x) + ((x >>> i) &&& 1))) dX6_bits_16 (nI_add _ _) ?_
        refine x_istore_n (ls' := [.int (nI x), .int (nI ((popN i x) + ((x >>> i) &&& 1))), .int (nI i)]) dX6_bits_17 rfl rfl ?_
        refine x_iinc (v := nI (i + 1)) (ls' := [.int (nI x), .int (nI ((popN i x) + ((x >>> i) &&& 1))), .int (nI (i + 1))]) dX6_bits_18 rfl (inc_1 _) rfl rfl ?_
        refine x_goto (tgt := 4) dX6_bits_21 rfl ?_
        have := ih (i + 1) (by omega)
        simp only [popN, bit_and1] at this
        exact this
  refine Cx.of [.int (nI x), .null, .null] (by decide) rfl rfl (Nat.le_of_ble_eq_true rfl) rfl ?_
  refine x_iconst dX6_bits_0 ic_0 ?_
  refine x_istore_n (ls' := [.int (nI x), .int (nI 0), .null]) dX6_bits_1 rfl rfl ?_
  refine x_iconst dX6_bits_2 ic_0 ?_
  refine x_istore_n (ls' := [.int (nI x), .int (nI 0), .int (nI 0)]) dX6_bits_3 rfl rfl ?_
  exact lp 10 0 rfl
theorem c_resetRow : Cx LM yX6_resetRow mX6_resetRow d [.ref 0] I (xRv (fun J => (∀ g, g < 8 → J 1 (17 + g) = nI g) ∧ (∀ j, j < 17 → J 1 j = I 1 j) ∧ ∀ c, c ≠ 1 → J c = I c)) := by
  have lp : ∀ (k g : Nat) (J : xMem), g + k = 8 → (∀ j, j < g → J 1 (17 + j) = nI j) → (∀ j, j < 17 → J 1 j = I 1 j) → (∀ c, c ≠ 1 → J c = I c) → Wx LM mX6_resetRow d (xRv (fun J => (∀ g, g < 8 → J 1 (17 + g) = nI g) ∧ (∀ j, j < 17 → J 1 j = I 1 j) ∧ ∀ c, c ≠ 1 → J c = I c)) 2 [.ref 0, .int (nI g)] [] J := by
    intro k
    induction k with
    | zero =>
      intro g J hg j1 j2 j3
      refine x_iload_n dX6_resetRow_2 rfl ?_
      refine x_bipush dX6_resetRow_3 bp_8 ?_
      refine x_icmpn_ge (a := g) (b := 8) (by omega) (by omega) (tgt := 24) dX6_resetRow_5 rfl (fun c => ?_) (fun c => ?_)
      ·
        refine x_vretv dX6_resetRow_24 rfl ⟨fun j hj => j1 j (by omega), j2, j3⟩
      ·
        omega
    | succ k ih =>
      intro g J hg j1 j2 j3
      refine x_iload_n dX6_resetRow_2 rfl ?_
      refine x_bipush dX6_resetRow_3 bp_8 ?_
      refine x_icmpn_ge (a := g) (b := 8) (by omega) (by omega) (tgt := 24) dX6_resetRow_5 rfl (fun c => ?_) (fun c => ?_)
      ·
        omega
      ·
        refine x_aload_n dX6_resetRow_8 rfl ?_
        refine x_getR 5 0 rfl (by decide) fl_X6_7 dX6_resetRow_9 rfl rfl rfl ?_
        refine x_bipush dX6_resetRow_12 bp_17 ?_
        refine x_iload_n dX6_resetRow_14 rfl ?_
        refine x_iadd (v := nI (17 + g)) dX6_resetRow_15 (nI_add _ _) ?_
        refine x_iload_n dX6_resetRow_16 rfl ?_
        refine x_iast (p := 17 + g) dX6_resetRow_17 rfl rfl rfl rfl (by omega) ?_
        generalize hJ1 : xup J 1 (17 + g) (nI g) = J1
        refine x_iinc (v := nI (g + 1)) (ls' := [.ref 0, .int (nI (g + 1))]) dX6_resetRow_18 rfl (inc_1 _) rfl rfl ?_
        refine x_goto (tgt := 2) dX6_resetRow_21 rfl ?_
        refine ih (g + 1) J1 (by omega) (fun j hj => ?_) (fun j hj => ?_) (fun c hc => ?_)
        · rw [← hJ1, xup_eq]
          by_cases e : j = g
          · subst e; rw [if_pos rfl]
          · rw [if_neg (by omega)]; exact j1 j (by omega)
        · rw [← hJ1, xup_eq, if_neg (by omega)]; exact j2 j hj
        · rw [← hJ1, xup_ne hc]; exact j3 c hc
  refine Cx.of [.ref 0, .null] (by decide) rfl rfl (Nat.le_of_ble_eq_true rfl) rfl ?_
  refine x_iconst dX6_resetRow_0 ic_0 ?_
  refine x_istore_n (ls' := [.ref 0, .int (nI 0)]) dX6_resetRow_1 rfl rfl ?_
  exact lp 8 0 I rfl (fun j hj => by omega) (fun _ _ => rfl) (fun _ _ => rfl)
theorem c_knownPairs (hd : 1 ≤ d) (ha : ∀ g, a g < 1024) (hM : ∀ g, g < 8 → I 1 (9 + g) = nI (a g)) : Cx LM yX6_knownPairs mX6_knownPairs d [.ref 0] I (xRi (fun r J => r = nI (rf (fun s g => s + pop (a g)) 0 8) ∧ J = I)) := by
  have lp : ∀ (k g : Nat), g + k = 8 → Wx LM mX6_knownPairs d (xRi (fun r J => r = nI (rf (fun s g => s + pop (a g)) 0 8) ∧ J = I)) 4 [.ref 0, .int (nI (rf (fun s g => s + pop (a g)) 0 g)), .int (nI g)] [] I := by
    intro k
    induction k with
    | zero =>
      intro g hg
      refine x_iload_n dX6_knownPairs_4 rfl ?_
      refine x_bipush dX6_knownPairs_5 bp_8 ?_
      refine x_icmpn_ge (a := g) (b := 8) (by omega) (by omega) (tgt := 31) dX6_knownPairs_7 rfl (fun c => ?_) (fun c => ?_)
      ·
        refine x_iload_n dX6_knownPairs_31 rfl ?_
        refine x_ireti dX6_knownPairs_32 rfl ⟨by rw [show g = 8 by omega], rfl⟩
      ·
        omega
    | succ k ih =>
      intro g hg
      have hb := ha g
      refine x_iload_n dX6_knownPairs_4 rfl ?_
      refine x_bipush dX6_knownPairs_5 bp_8 ?_
      refine x_icmpn_ge (a := g) (b := 8) (by omega) (by omega) (tgt := 31) dX6_knownPairs_7 rfl (fun c => ?_) (fun c => ?_)
      ·
        omega
      ·
        refine x_iload_n dX6_knownPairs_10 rfl ?_
        refine x_aload_n dX6_knownPairs_11 rfl ?_
        refine x_getR 5 0 rfl (by decide) fl_X6_7 dX6_knownPairs_12 rfl rfl rfl ?_
        refine x_bipush dX6_knownPairs_15 bp_9 ?_
        refine x_iload_n dX6_knownPairs_17 rfl ?_
        refine x_iadd (v := nI (9 + g)) dX6_knownPairs_18 (nI_add _ _) ?_
        refine x_iald (p := 9 + g) (v := nI (a g)) dX6_knownPairs_19 rfl rfl rfl rfl (by omega) (hM g (by omega)) ?_
        refine x_callSi (as := [.int (nI (a g))]) ml_X6_65 st_X6_bits ct_X6_bits (c_bits (d := 0) (by omega)) dX6_knownPairs_20 hd rfl rfl (Nat.le_of_ble_eq_true rfl) (fun r0 J0 h0 => ?_)
        obtain ⟨rfl, hJ0⟩ := h0
        obtain rfl := hJ0.symm
        refine x_iadd (v := nI ((rf (fun s g => s + pop (a g)) 0 g) + (pop (a g)))) dX6_knownPairs_23 (nI_add _ _) ?_
        refine x_istore_n (ls' := [.ref 0, .int (nI ((rf (fun s g => s + pop (a g)) 0 g) + (pop (a g)))), .int (nI g)]) dX6_knownPairs_24 rfl rfl ?_
        refine x_iinc (v := nI (g + 1)) (ls' := [.ref 0, .int (nI ((rf (fun s g => s + pop (a g)) 0 g) + (pop (a g)))), .int (nI (g + 1))]) dX6_knownPairs_25 rfl (inc_1 _) rfl rfl ?_
        refine x_goto (tgt := 4) dX6_knownPairs_28 rfl ?_
        have := ih (g + 1) (by omega)
        rw [rf_s _ _ g] at this
        exact this
  refine Cx.of [.ref 0, .null, .null] (by decide) rfl rfl (Nat.le_of_ble_eq_true rfl) rfl ?_
  refine x_iconst dX6_knownPairs_0 ic_0 ?_
  refine x_istore_n (ls' := [.ref 0, .int (nI 0), .null]) dX6_knownPairs_1 rfl rfl ?_
  refine x_iconst dX6_knownPairs_2 ic_0 ?_
  refine x_istore_n (ls' := [.ref 0, .int (nI 0), .int (nI 0)]) dX6_knownPairs_3 rfl rfl ?_
  exact lp 8 0 rfl
theorem c_placeInRow {x p0 : Nat} (hp : p0 < n) (hx : x < 8) (hL8 : ∀ p, p < 8 → L p < 8) (hL : ∀ p, p < n → (L p = x ↔ p = p0)) (hM : MSt I n h a L) (hn : n ≤ 8) : Cx LM yX6_placeInRow mX6_placeInRow d [.ref 0, .int (nI x)] I (xRi (fun r J => r = nI p0 ∧ J = I)) := by
  have lp : ∀ (k g : Nat), g + k = n → Wx LM mX6_placeInRow d (xRi (fun r J => r = nI p0 ∧ J = I)) 5 [.ref 0, .int (nI x), .int (if p0 < g then nI p0 else (-6)), .int (nI g)] [] I := by
    intro k
    induction k with
    | zero =>
      intro g hg
      refine x_iload_n dX6_placeInRow_5 rfl ?_
      refine x_aload_n dX6_placeInRow_6 rfl ?_
      refine x_getR 5 0 rfl (by decide) fl_X6_7 dX6_placeInRow_7 rfl rfl rfl ?_
      refine x_iconst dX6_placeInRow_10 ic_0 ?_
      refine x_iald (p := 0) (v := nI n) dX6_placeInRow_11 rfl rfl rfl rfl (by omega) hM.1 ?_
      refine x_icmpn_ge (a := g) (b := n) (by omega) (by omega) (tgt := 40) dX6_placeInRow_12 rfl (fun c => ?_) (fun c => ?_)
      ·
        refine x_iload_n dX6_placeInRow_40 rfl ?_
        refine x_ireti dX6_placeInRow_41 rfl ⟨by rw [if_pos (by omega)], rfl⟩
      ·
        omega
    | succ k ih =>
      intro g hg
      have hb := hL8 g (by omega)
      have hq := hL g (by omega)
      refine x_iload_n dX6_placeInRow_5 rfl ?_
      refine x_aload_n dX6_placeInRow_6 rfl ?_
      refine x_getR 5 0 rfl (by decide) fl_X6_7 dX6_placeInRow_7 rfl rfl rfl ?_
      refine x_iconst dX6_placeInRow_10 ic_0 ?_
      refine x_iald (p := 0) (v := nI n) dX6_placeInRow_11 rfl rfl rfl rfl (by omega) hM.1 ?_
      refine x_icmpn_ge (a := g) (b := n) (by omega) (by omega) (tgt := 40) dX6_placeInRow_12 rfl (fun c => ?_) (fun c => ?_)
      ·
        omega
      ·
        refine x_aload_n dX6_placeInRow_15 rfl ?_
        refine x_getR 5 0 rfl (by decide) fl_X6_7 dX6_placeInRow_16 rfl rfl rfl ?_
        refine x_bipush dX6_placeInRow_19 bp_17 ?_
        refine x_iload_n dX6_placeInRow_21 rfl ?_
        refine x_iadd (v := nI (17 + g)) dX6_placeInRow_22 (nI_add _ _) ?_
        refine x_iald (p := 17 + g) (v := nI (L g)) dX6_placeInRow_23 rfl rfl rfl rfl (by omega) (hM.2.2.2 g (by omega)) ?_
        refine x_iload_n dX6_placeInRow_24 rfl ?_
        refine x_icmpn_ne (a := L g) (b := x) (by omega) (by omega) (tgt := 32) dX6_placeInRow_25 rfl (fun c2 => ?_) (fun c2 => ?_)
        ·
          refine x_iload_n dX6_placeInRow_32 rfl ?_
          refine x_istore_n (ls' := [.ref 0, .int (nI x), .int (if p0 < g then nI p0 else (-6)), .int (nI g)]) dX6_placeInRow_33 rfl rfl ?_
          refine x_iinc (v := nI (g + 1)) (ls' := [.ref 0, .int (nI x), .int (if p0 < g then nI p0 else (-6)), .int (nI (g + 1))]) dX6_placeInRow_34 rfl (inc_1 _) rfl rfl ?_
          refine x_goto (tgt := 5) dX6_placeInRow_37 rfl ?_
          have e : (if p0 < g + 1 then nI p0 else (-6)) = (if p0 < g then nI p0 else (-6)) := by
            by_cases hc : p0 < g
            · rw [if_pos hc, if_pos (by omega)]
            · rw [if_neg hc, if_neg (by have := mt hq.mpr c2; omega)]
          rw [← e]
          exact ih (g + 1) (by omega)
        ·
          refine x_iload_n dX6_placeInRow_28 rfl ?_
          refine x_goto (tgt := 33) dX6_placeInRow_29 rfl ?_
          refine x_istore_n (ls' := [.ref 0, .int (nI x), .int (nI g), .int (nI g)]) dX6_placeInRow_33 rfl rfl ?_
          refine x_iinc (v := nI (g + 1)) (ls' := [.ref 0, .int (nI x), .int (nI g), .int (nI (g + 1))]) dX6_placeInRow_34 rfl (inc_1 _) rfl rfl ?_
          refine x_goto (tgt := 5) dX6_placeInRow_37 rfl ?_
          have e0 := hq.mp c2
          have e : (if p0 < g + 1 then nI p0 else (-6)) = nI g := by rw [if_pos (by omega), e0]
          have := ih (g + 1) (by omega)
          rw [e] at this
          exact this
  refine Cx.of [.ref 0, .int (nI x), .null, .null] (by decide) rfl rfl (Nat.le_of_ble_eq_true rfl) rfl ?_
  refine x_bipush dX6_placeInRow_0 bp_m6 ?_
  refine x_istore_n (ls' := [.ref 0, .int (nI x), .int (-6), .null]) dX6_placeInRow_2 rfl rfl ?_
  refine x_iconst dX6_placeInRow_3 ic_0 ?_
  refine x_istore_n (ls' := [.ref 0, .int (nI x), .int (-6), .int (nI 0)]) dX6_placeInRow_4 rfl rfl ?_
  exact lp n 0 (by omega)
/-- the runs of a sort, behind a grave that has it or not -/
def rs (h : Nat → Nat) (s : Nat) : Bool → List Nat → Nat
  | _, [] => 0
  | b, g :: w => ((h g).testBit s && !b).toNat + rs h s ((h g).testBit s) w
theorem rs_le (h : Nat → Nat) (s : Nat) : ∀ (w : List Nat) (b : Bool), rs h s b w ≤ w.length
  | [], _ => Nat.zero_le _
  | g :: w, b => by simp only [rs, List.length_cons]; have := Bool.toNat_le ((h g).testBit s && !b); have := rs_le h s w ((h g).testBit s); omega
theorem seg_len (L : Nat → Nat) (p k : Nat) : (seg L p k).length = k := by simp [seg]
theorem c_breaksOf {s : Nat} {o : Nat → Nat} (hd : 1 ≤ d) (hs : s < 32) (hh : ∀ g, h g < 1024) (ho : ∀ p, p < n → o p < 8) (hO : ∀ p, p < n → I 4 p = nI (o p)) (hM : MSt I n h a L) (hn : n ≤ 8) : Cx LM yX6_breaksOf mX6_breaksOf d [.ref 0, .int (nI s)] I (xRi (fun r J => r = nI (rs h s false (seg o 0 n) - 1) ∧ J = I)) := by
  have lp : ∀ (k p rn : Nat) (b : Bool) (v5 : Value), p + k = n → rn ≤ p → rn + rs h s b (seg o p k) = rs h s false (seg o 0 n) → Wx LM mX6_breaksOf d (xRi (fun r J => r = nI (rs h s false (seg o 0 n) - 1) ∧ J = I)) 7 [.ref 0, .int (nI s), .int (nI rn), .int (nI b.toNat), .int (nI p), v5] [] I := by
    intro k
    induction k with
    | zero =>
      intro p rn b v5 hp hrp hrn
      rw [seg_0] at hrn
      simp only [rs, Nat.add_zero] at hrn
      refine x_iload dX6_breaksOf_7 rfl ?_
      refine x_aload_n dX6_breaksOf_9 rfl ?_
      refine x_getR 5 0 rfl (by decide) fl_X6_7 dX6_breaksOf_10 rfl rfl rfl ?_
      refine x_iconst dX6_breaksOf_13 ic_0 ?_
      refine x_iald (p := 0) (v := nI n) dX6_breaksOf_14 rfl rfl rfl rfl (by omega) hM.1 ?_
      refine x_icmpn_ge (a := p) (b := n) (by omega) (by omega) (tgt := 64) dX6_breaksOf_15 rfl (fun c => ?_) (fun c => ?_)
      ·
        refine x_iload_n dX6_breaksOf_64 rfl ?_
        refine x_ifn_ne (a := rn) (by omega) (tgt := 72) dX6_breaksOf_65 rfl (fun c2 => ?_) (fun c2 => ?_)
        ·
          refine x_iload_n dX6_breaksOf_72 rfl ?_
          refine x_iconst dX6_breaksOf_73 ic_1 ?_
          refine x_isub (v := nI (rn - 1)) dX6_breaksOf_74 (pk_sub (by omega)) ?_
          refine x_ireti dX6_breaksOf_75 rfl ⟨by rw [hrn], rfl⟩
        ·
          refine x_iconst dX6_breaksOf_68 ic_0 ?_
          refine x_goto (tgt := 75) dX6_breaksOf_69 rfl ?_
          refine x_ireti dX6_breaksOf_75 rfl ⟨by rw [← hrn, c2], rfl⟩
      ·
        omega
    | succ k ih =>
      intro p rn b v5 hp hrp hrn
      rw [seg_s] at hrn
      simp only [rs] at hrn
      have hb := ho p (by omega)
      have hb2 := hh (o p)
      refine x_iload dX6_breaksOf_7 rfl ?_
      refine x_aload_n dX6_breaksOf_9 rfl ?_
      refine x_getR 5 0 rfl (by decide) fl_X6_7 dX6_breaksOf_10 rfl rfl rfl ?_
      refine x_iconst dX6_breaksOf_13 ic_0 ?_
      refine x_iald (p := 0) (v := nI n) dX6_breaksOf_14 rfl rfl rfl rfl (by omega) hM.1 ?_
      refine x_icmpn_ge (a := p) (b := n) (by omega) (by omega) (tgt := 64) dX6_breaksOf_15 rfl (fun c => ?_) (fun c => ?_)
      ·
        omega
      ·
        refine x_aload_n dX6_breaksOf_18 rfl ?_
        refine x_getR 5 0 rfl (by decide) fl_X6_7 dX6_breaksOf_19 rfl rfl rfl ?_
        refine x_iconst dX6_breaksOf_22 ic_1 ?_
        refine x_aload_n dX6_breaksOf_23 rfl ?_
        refine x_getR 5 3 rfl (by decide) fl_X6_20 dX6_breaksOf_24 rfl rfl rfl ?_
        refine x_iload dX6_breaksOf_27 rfl ?_
        refine x_iald (p := p) (v := nI (o p)) dX6_breaksOf_29 rfl rfl rfl rfl (by omega) (hO p (by omega)) ?_
        refine x_iadd (v := nI (1 + (o p))) dX6_breaksOf_30 (nI_add _ _) ?_
        refine x_iald (p := 1 + (o p)) (v := nI (h (o p))) dX6_breaksOf_31 rfl rfl rfl rfl (by omega) (hM.2.1 _ hb) ?_
        refine x_iload_n dX6_breaksOf_32 rfl ?_
        refine x_callSi (as := [.int (nI (h (o p))), .int (nI s)]) ml_X6_73 st_X6_has ct_X6_has (c_has (d := 0) (by omega) hs) dX6_breaksOf_33 hd rfl rfl (Nat.le_of_ble_eq_true rfl) (fun r0 J0 h0 => ?_)
        obtain ⟨rfl, hJ0⟩ := h0
        obtain rfl := hJ0.symm
        refine x_istore (ls' := [.ref 0, .int (nI s), .int (nI rn), .int (nI b.toNat), .int (nI p), .int (nI (((h (o p)).testBit s).toNat))]) dX6_breaksOf_36 rfl rfl ?_
        refine x_iload_n dX6_breaksOf_38 rfl ?_
        refine x_iload dX6_breaksOf_39 rfl ?_
        refine x_ifb_eq (b := (h (o p)).testBit s) (tgt := 52) dX6_breaksOf_41 rfl (fun c2 => ?_) (fun c2 => ?_)
        ·
          refine x_iconst dX6_breaksOf_52 ic_0 ?_
          refine x_iadd (v := nI (rn + 0)) dX6_breaksOf_53 (nI_add _ _) ?_
          refine x_istore_n (ls' := [.ref 0, .int (nI s), .int (nI (rn + 0)), .int (nI b.toNat), .int (nI p), .int (nI (((h (o p)).testBit s).toNat))]) dX6_breaksOf_54 rfl rfl ?_
          refine x_iload dX6_breaksOf_55 rfl ?_
          refine x_istore_n (ls' := [.ref 0, .int (nI s), .int (nI (rn + 0)), .int (nI (((h (o p)).testBit s).toNat)), .int (nI p), .int (nI (((h (o p)).testBit s).toNat))]) dX6_breaksOf_57 rfl rfl ?_
          refine x_iinc (v := nI (p + 1)) (ls' := [.ref 0, .int (nI s), .int (nI (rn + 0)), .int (nI (((h (o p)).testBit s).toNat)), .int (nI (p + 1)), .int (nI (((h (o p)).testBit s).toNat))]) dX6_breaksOf_58 rfl (inc_1 _) rfl rfl ?_
          refine x_goto (tgt := 7) dX6_breaksOf_61 rfl ?_
          rw [c2] at hrn ⊢
          refine ih (p + 1) _ false _ (by omega) (by omega) ?_
          simpa using hrn
        ·
          refine x_iload_n dX6_breaksOf_44 rfl ?_
          refine x_ifb_ne (b := b) (tgt := 52) dX6_breaksOf_45 rfl (fun c3 => ?_) (fun c3 => ?_)
          ·
            refine x_iconst dX6_breaksOf_52 ic_0 ?_
            refine x_iadd (v := nI (rn + 0)) dX6_breaksOf_53 (nI_add _ _) ?_
            refine x_istore_n (ls' := [.ref 0, .int (nI s), .int (nI (rn + 0)), .int (nI b.toNat), .int (nI p), .int (nI (((h (o p)).testBit s).toNat))]) dX6_breaksOf_54 rfl rfl ?_
            refine x_iload dX6_breaksOf_55 rfl ?_
            refine x_istore_n (ls' := [.ref 0, .int (nI s), .int (nI (rn + 0)), .int (nI (((h (o p)).testBit s).toNat)), .int (nI p), .int (nI (((h (o p)).testBit s).toNat))]) dX6_breaksOf_57 rfl rfl ?_
            refine x_iinc (v := nI (p + 1)) (ls' := [.ref 0, .int (nI s), .int (nI (rn + 0)), .int (nI (((h (o p)).testBit s).toNat)), .int (nI (p + 1)), .int (nI (((h (o p)).testBit s).toNat))]) dX6_breaksOf_58 rfl (inc_1 _) rfl rfl ?_
            refine x_goto (tgt := 7) dX6_breaksOf_61 rfl ?_
            rw [c2] at hrn ⊢
            refine ih (p + 1) _ true _ (by omega) (by omega) ?_
            simpa [c3] using hrn
          ·
            refine x_iconst dX6_breaksOf_48 ic_1 ?_
            refine x_goto (tgt := 53) dX6_breaksOf_49 rfl ?_
            refine x_iadd (v := nI (rn + 1)) dX6_breaksOf_53 (nI_add _ _) ?_
            refine x_istore_n (ls' := [.ref 0, .int (nI s), .int (nI (rn + 1)), .int (nI b.toNat), .int (nI p), .int (nI (((h (o p)).testBit s).toNat))]) dX6_breaksOf_54 rfl rfl ?_
            refine x_iload dX6_breaksOf_55 rfl ?_
            refine x_istore_n (ls' := [.ref 0, .int (nI s), .int (nI (rn + 1)), .int (nI (((h (o p)).testBit s).toNat)), .int (nI p), .int (nI (((h (o p)).testBit s).toNat))]) dX6_breaksOf_57 rfl rfl ?_
            refine x_iinc (v := nI (p + 1)) (ls' := [.ref 0, .int (nI s), .int (nI (rn + 1)), .int (nI (((h (o p)).testBit s).toNat)), .int (nI (p + 1)), .int (nI (((h (o p)).testBit s).toNat))]) dX6_breaksOf_58 rfl (inc_1 _) rfl rfl ?_
            refine x_goto (tgt := 7) dX6_breaksOf_61 rfl ?_
            rw [c2] at hrn ⊢
            refine ih (p + 1) _ true _ (by omega) (by omega) ?_
            simp [c3] at hrn; omega
  refine Cx.of [.ref 0, .int (nI s), .null, .null, .null, .null] (by decide) rfl rfl (Nat.le_of_ble_eq_true rfl) rfl ?_
  refine x_iconst dX6_breaksOf_0 ic_0 ?_
  refine x_istore_n (ls' := [.ref 0, .int (nI s), .int (nI 0), .null, .null, .null]) dX6_breaksOf_1 rfl rfl ?_
  refine x_iconst dX6_breaksOf_2 ic_0 ?_
  refine x_istore_n (ls' := [.ref 0, .int (nI s), .int (nI 0), .int (nI 0), .null, .null]) dX6_breaksOf_3 rfl rfl ?_
  refine x_iconst dX6_breaksOf_4 ic_0 ?_
  refine x_istore (ls' := [.ref 0, .int (nI s), .int (nI 0), .int (nI 0), .int (nI 0), .null]) dX6_breaksOf_5 rfl rfl ?_
  exact lp n 0 0 false _ (by omega) (by omega) (by omega)
/-- breaks of an order -/
def brk (h : Nat → Nat) (w : List Nat) : Nat := rf (fun t s => t + (rs h s false w - 1)) 0 10
theorem c_breaksNow {o : Nat → Nat} (hd : 2 ≤ d) (hh : ∀ g, h g < 1024) (ho : ∀ p, p < n → o p < 8) (hO : ∀ p, p < n → I 4 p = nI (o p)) (hM : MSt I n h a L) (hn : n ≤ 8) : Cx LM yX6_breaksNow mX6_breaksNow d [.ref 0] I (xRi (fun r J => r = nI (brk h (seg o 0 n)) ∧ J = I)) := by
  have lp : ∀ (k s : Nat), s + k = 10 → Wx LM mX6_breaksNow d (xRi (fun r J => r = nI (brk h (seg o 0 n)) ∧ J = I)) 4 [.ref 0, .int (nI (rf (fun t s => t + (rs h s false (seg o 0 n) - 1)) 0 s)), .int (nI s)] [] I := by
    intro k
    induction k with
    | zero =>
      intro s hs
      refine x_iload_n dX6_breaksNow_4 rfl ?_
      refine x_bipush dX6_breaksNow_5 bp_10 ?_
      refine x_icmpn_ge (a := s) (b := 10) (by omega) (by omega) (tgt := 24) dX6_breaksNow_7 rfl (fun c => ?_) (fun c => ?_)
      ·
        refine x_iload_n dX6_breaksNow_24 rfl ?_
        refine x_ireti dX6_breaksNow_25 rfl ⟨by rw [show s = 10 by omega]; rfl, rfl⟩
      ·
        omega
    | succ k ih =>
      intro s hs
      refine x_iload_n dX6_breaksNow_4 rfl ?_
      refine x_bipush dX6_breaksNow_5 bp_10 ?_
      refine x_icmpn_ge (a := s) (b := 10) (by omega) (by omega) (tgt := 24) dX6_breaksNow_7 rfl (fun c => ?_) (fun c => ?_)
      ·
        omega
      ·
        refine x_iload_n dX6_breaksNow_10 rfl ?_
        refine x_aload_n dX6_breaksNow_11 rfl ?_
        refine x_iload_n dX6_breaksNow_12 rfl ?_
        refine x_callVi 5 ml_X6_80 in_X6_breaksOf se_X6_breaksOf ct_X6_breaksOf rfl (c_breaksOf (d := 1) (by decide) (by omega) hh ho hO hM hn) dX6_breaksNow_13 hd rfl rfl rfl rfl (Nat.le_of_ble_eq_true rfl) (fun r0 J0 h0 => ?_)
        obtain ⟨rfl, hJ0⟩ := h0
        obtain rfl := hJ0.symm
        refine x_iadd (v := nI ((rf (fun t s => t + (rs h s false (seg o 0 n) - 1)) 0 s) + (rs h s false (seg o 0 n) - 1))) dX6_breaksNow_16 (nI_add _ _) ?_
        refine x_istore_n (ls' := [.ref 0, .int (nI ((rf (fun t s => t + (rs h s false (seg o 0 n) - 1)) 0 s) + (rs h s false (seg o 0 n) - 1))), .int (nI s)]) dX6_breaksNow_17 rfl rfl ?_
        refine x_iinc (v := nI (s + 1)) (ls' := [.ref 0, .int (nI ((rf (fun t s => t + (rs h s false (seg o 0 n) - 1)) 0 s) + (rs h s false (seg o 0 n) - 1))), .int (nI (s + 1))]) dX6_breaksNow_18 rfl (inc_1 _) rfl rfl ?_
        refine x_goto (tgt := 4) dX6_breaksNow_21 rfl ?_
        have := ih (s + 1) (by omega)
        rw [rf_s _ _ s] at this
        exact this
  refine Cx.of [.ref 0, .null, .null] (by decide) rfl rfl (Nat.le_of_ble_eq_true rfl) rfl ?_
  refine x_iconst dX6_breaksNow_0 ic_0 ?_
  refine x_istore_n (ls' := [.ref 0, .int (nI 0), .null]) dX6_breaksNow_1 rfl rfl ?_
  refine x_iconst dX6_breaksNow_2 ic_0 ?_
  refine x_istore_n (ls' := [.ref 0, .int (nI 0), .int (nI 0)]) dX6_breaksNow_3 rfl rfl ?_
  exact lp 10 0 rfl
theorem c_isAllowed {o : Nat → Nat} (ha : ∀ g, a g < 256) (ho : ∀ p, p < n → o p < 8) (hO : ∀ p, p < n → I 4 p = nI (o p)) (hM : MSt I n h a L) (hn : n ≤ 8) : Cx LM yX6_isAllowed mX6_isAllowed d [.ref 0] I (xRi (fun r J => r = nI (al a 0 (seg o 0 n)).toNat ∧ J = I)) := by
  have lp : ∀ (k p S : Nat), p + k = n → S < 256 → al a S (seg o p k) = al a 0 (seg o 0 n) → Wx LM mX6_isAllowed d (xRi (fun r J => r = nI (al a 0 (seg o 0 n)).toNat ∧ J = I)) 4 [.ref 0, .int (nI S), .int (nI p)] [] I := by
    intro k
    induction k with
    | zero =>
      intro p S hp hS hal
      rw [seg_0] at hal
      simp only [al] at hal
      refine x_iload_n dX6_isAllowed_4 rfl ?_
      refine x_aload_n dX6_isAllowed_5 rfl ?_
      refine x_getR 5 0 rfl (by decide) fl_X6_7 dX6_isAllowed_6 rfl rfl rfl ?_
      refine x_iconst dX6_isAllowed_9 ic_0 ?_
      refine x_iald (p := 0) (v := nI n) dX6_isAllowed_10 rfl rfl rfl rfl (by omega) hM.1 ?_
      refine x_icmpn_ge (a := p) (b := n) (by omega) (by omega) (tgt := 52) dX6_isAllowed_11 rfl (fun c => ?_) (fun c => ?_)
      ·
        refine x_iconst dX6_isAllowed_52 ic_1 ?_
        refine x_zretb (b := true) dX6_isAllowed_53 rfl ⟨by rw [← hal], rfl⟩
      ·
        omega
    | succ k ih =>
      intro p S hp hS hal
      rw [seg_s] at hal
      simp only [al] at hal
      have hb := ho p (by omega)
      have hb2 := ha (o p)
      have hb3 : a (o p) &&& S ≤ a (o p) := Nat.and_le_left
      refine x_iload_n dX6_isAllowed_4 rfl ?_
      refine x_aload_n dX6_isAllowed_5 rfl ?_
      refine x_getR 5 0 rfl (by decide) fl_X6_7 dX6_isAllowed_6 rfl rfl rfl ?_
      refine x_iconst dX6_isAllowed_9 ic_0 ?_
      refine x_iald (p := 0) (v := nI n) dX6_isAllowed_10 rfl rfl rfl rfl (by omega) hM.1 ?_
      refine x_icmpn_ge (a := p) (b := n) (by omega) (by omega) (tgt := 52) dX6_isAllowed_11 rfl (fun c => ?_) (fun c => ?_)
      ·
        omega
      ·
        refine x_aload_n dX6_isAllowed_14 rfl ?_
        refine x_getR 5 0 rfl (by decide) fl_X6_7 dX6_isAllowed_15 rfl rfl rfl ?_
        refine x_bipush dX6_isAllowed_18 bp_9 ?_
        refine x_aload_n dX6_isAllowed_20 rfl ?_
        refine x_getR 5 3 rfl (by decide) fl_X6_20 dX6_isAllowed_21 rfl rfl rfl ?_
        refine x_iload_n dX6_isAllowed_24 rfl ?_
        refine x_iald (p := p) (v := nI (o p)) dX6_isAllowed_25 rfl rfl rfl rfl (by omega) (hO p (by omega)) ?_
        refine x_iadd (v := nI (9 + (o p))) dX6_isAllowed_26 (nI_add _ _) ?_
        refine x_iald (p := 9 + (o p)) (v := nI (a (o p))) dX6_isAllowed_27 rfl rfl rfl rfl (by omega) (hM.2.2.1 _ hb) ?_
        refine x_iload_n dX6_isAllowed_28 rfl ?_
        refine x_iand (v := nI ((a (o p)) &&& S)) dX6_isAllowed_29 (nI_and _ _) ?_
        refine x_ifn_eq (a := (a (o p)) &&& S) (by omega) (tgt := 35) dX6_isAllowed_30 rfl (fun c2 => ?_) (fun c2 => ?_)
        ·
          refine x_iload_n dX6_isAllowed_35 rfl ?_
          refine x_iconst dX6_isAllowed_36 ic_1 ?_
          refine x_aload_n dX6_isAllowed_37 rfl ?_
          refine x_getR 5 3 rfl (by decide) fl_X6_20 dX6_isAllowed_38 rfl rfl rfl ?_
          refine x_iload_n dX6_isAllowed_41 rfl ?_
          refine x_iald (p := p) (v := nI (o p)) dX6_isAllowed_42 rfl rfl rfl rfl (by omega) (hO p (by omega)) ?_
          refine x_ishl (v := nI (1 <<< (o p))) dX6_isAllowed_43 (nI_shl _ (by omega)) ?_
          refine x_ior (v := nI (S ||| (1 <<< (o p)))) dX6_isAllowed_44 (nI_or _ _) ?_
          refine x_istore_n (ls' := [.ref 0, .int (nI (S ||| (1 <<< (o p)))), .int (nI p)]) dX6_isAllowed_45 rfl rfl ?_
          refine x_iinc (v := nI (p + 1)) (ls' := [.ref 0, .int (nI (S ||| (1 <<< (o p)))), .int (nI (p + 1))]) dX6_isAllowed_46 rfl (inc_1 _) rfl rfl ?_
          refine x_goto (tgt := 4) dX6_isAllowed_49 rfl ?_
          refine ih (p + 1) _ (by omega) (Nat.or_lt_two_pow (n := 8) hS ?_) (by rw [← hal, decide_eq_true c2]; rfl)
          rw [Nat.shiftLeft_eq, Nat.one_mul]; exact Nat.pow_lt_pow_right (by decide) hb
        ·
          refine x_iconst dX6_isAllowed_33 ic_0 ?_
          refine x_zretb (b := false) dX6_isAllowed_34 rfl ⟨by rw [← hal, decide_eq_false c2]; rfl, rfl⟩
  refine Cx.of [.ref 0, .null, .null] (by decide) rfl rfl (Nat.le_of_ble_eq_true rfl) rfl ?_
  refine x_iconst dX6_isAllowed_0 ic_0 ?_
  refine x_istore_n (ls' := [.ref 0, .int (nI 0), .null]) dX6_isAllowed_1 rfl rfl ?_
  refine x_iconst dX6_isAllowed_2 ic_0 ?_
  refine x_istore_n (ls' := [.ref 0, .int (nI 0), .int (nI 0)]) dX6_isAllowed_3 rfl rfl ?_
  exact lp n 0 0 (by omega) (by omega) rfl
end MG
