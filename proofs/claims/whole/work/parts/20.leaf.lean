/-! leaves: bits, tests, numbers of states -/
def rf {β : Type} (f : β → Nat → β) (b : β) (k : Nat) : β := (List.range k).foldl f b
theorem rf_0 {β : Type} (f : β → Nat → β) (b : β) : rf f b 0 = b := rfl
theorem rf_s {β : Type} (f : β → Nat → β) (b : β) (k : Nat) : rf f b (k + 1) = f (rf f b k) k := by simp [rf, List.range_succ]
def popN : Nat → Nat → Nat
  | 0, _ => 0
  | k + 1, x => popN k x + (x.testBit k).toNat
/-- how many of ten bits -/
def pop (x : Nat) : Nat := popN 10 x
theorem popN_le (k x : Nat) : popN k x ≤ k := by
  induction k with
  | zero => exact Nat.le_refl _
  | succ k ih => simp only [popN]; have := Bool.toNat_le (x.testBit k); omega
theorem pop_le (x : Nat) : pop x ≤ 10 := popN_le 10 x
def bc1 (x : Int32) : Int32 := x - ((x.toUInt32 >>> ((nI 1).toUInt32 &&& Int32.toUInt32 31)).toInt32 &&& 1431655765)
def bc2 (x : Int32) : Int32 := (x &&& 858993459) + ((x.toUInt32 >>> ((nI 2).toUInt32 &&& Int32.toUInt32 31)).toInt32 &&& 858993459)
def bc3 (x : Int32) : Int32 := (x + (x.toUInt32 >>> ((nI 4).toUInt32 &&& Int32.toUInt32 31)).toInt32) &&& 252645135
def bc4 (x : Int32) : Int32 := x + (x.toUInt32 >>> ((nI 8).toUInt32 &&& Int32.toUInt32 31)).toInt32
def bc5 (x : Int32) : Int32 := x + (x.toUInt32 >>> ((nI 16).toUInt32 &&& Int32.toUInt32 31)).toInt32
theorem bc_ok : ∀ a : Nat, a < 1024 → bc5 (bc4 (bc3 (bc2 (bc1 (nI a))))) &&& nI 63 = nI (pop a) := by decide +kernel
theorem c_bitCount {Λ : xLay} {I : xMem} {d a : Nat} (ha : a < 1024) : Cx Λ yJ6_bitCount_0f7a4 mJ6_bitCount_0f7a4 d [.int (nI a)] I (xRi (fun r J => r = nI (pop a) ∧ J = I)) := by
  refine Cx.of [.int (nI a)] (by decide) rfl rfl (Nat.le_of_ble_eq_true rfl) rfl ?_
  refine x_iload_n dJ6_bitCount_0f7a4_0 rfl ?_
  refine x_iload_n dJ6_bitCount_0f7a4_1 rfl ?_
  refine x_iconst dJ6_bitCount_0f7a4_2 ic_1 ?_
  refine x_iushr (v := ((nI a).toUInt32 >>> ((nI 1).toUInt32 &&& Int32.toUInt32 31)).toInt32) dJ6_bitCount_0f7a4_3 rfl ?_
  refine x_ldcw dJ6_bitCount_0f7a4_4 cn_J6_265 ?_
  refine x_iand (v := (((nI a).toUInt32 >>> ((nI 1).toUInt32 &&& Int32.toUInt32 31)).toInt32) &&& 1431655765) dJ6_bitCount_0f7a4_7 rfl ?_
  refine x_isub (v := bc1 (nI a)) dJ6_bitCount_0f7a4_8 rfl ?_
  refine x_istore_n (ls' := [.int (bc1 (nI a))]) dJ6_bitCount_0f7a4_9 rfl rfl ?_
  refine x_iload_n dJ6_bitCount_0f7a4_10 rfl ?_
  refine x_ldcw dJ6_bitCount_0f7a4_11 cn_J6_266 ?_
  refine x_iand (v := (bc1 (nI a)) &&& 858993459) dJ6_bitCount_0f7a4_14 rfl ?_
  refine x_iload_n dJ6_bitCount_0f7a4_15 rfl ?_
  refine x_iconst dJ6_bitCount_0f7a4_16 ic_2 ?_
  refine x_iushr (v := ((bc1 (nI a)).toUInt32 >>> ((nI 2).toUInt32 &&& Int32.toUInt32 31)).toInt32) dJ6_bitCount_0f7a4_17 rfl ?_
  refine x_ldcw dJ6_bitCount_0f7a4_18 cn_J6_266 ?_
  refine x_iand (v := (((bc1 (nI a)).toUInt32 >>> ((nI 2).toUInt32 &&& Int32.toUInt32 31)).toInt32) &&& 858993459) dJ6_bitCount_0f7a4_21 rfl ?_
  refine x_iadd (v := bc2 (bc1 (nI a))) dJ6_bitCount_0f7a4_22 rfl ?_
  refine x_istore_n (ls' := [.int (bc2 (bc1 (nI a)))]) dJ6_bitCount_0f7a4_23 rfl rfl ?_
  refine x_iload_n dJ6_bitCount_0f7a4_24 rfl ?_
  refine x_iload_n dJ6_bitCount_0f7a4_25 rfl ?_
  refine x_iconst dJ6_bitCount_0f7a4_26 ic_4 ?_
  refine x_iushr (v := ((bc2 (bc1 (nI a))).toUInt32 >>> ((nI 4).toUInt32 &&& Int32.toUInt32 31)).toInt32) dJ6_bitCount_0f7a4_27 rfl ?_
  refine x_iadd (v := (bc2 (bc1 (nI a))) + (((bc2 (bc1 (nI a))).toUInt32 >>> ((nI 4).toUInt32 &&& Int32.toUInt32 31)).toInt32)) dJ6_bitCount_0f7a4_28 rfl ?_
  refine x_ldcw dJ6_bitCount_0f7a4_29 cn_J6_267 ?_
  refine x_iand (v := bc3 (bc2 (bc1 (nI a)))) dJ6_bitCount_0f7a4_32 rfl ?_
  refine x_istore_n (ls' := [.int (bc3 (bc2 (bc1 (nI a))))]) dJ6_bitCount_0f7a4_33 rfl rfl ?_
  refine x_iload_n dJ6_bitCount_0f7a4_34 rfl ?_
  refine x_iload_n dJ6_bitCount_0f7a4_35 rfl ?_
  refine x_bipush dJ6_bitCount_0f7a4_36 bp_8 ?_
  refine x_iushr (v := ((bc3 (bc2 (bc1 (nI a)))).toUInt32 >>> ((nI 8).toUInt32 &&& Int32.toUInt32 31)).toInt32) dJ6_bitCount_0f7a4_38 rfl ?_
  refine x_iadd (v := bc4 (bc3 (bc2 (bc1 (nI a))))) dJ6_bitCount_0f7a4_39 rfl ?_
  refine x_istore_n (ls' := [.int (bc4 (bc3 (bc2 (bc1 (nI a)))))]) dJ6_bitCount_0f7a4_40 rfl rfl ?_
  refine x_iload_n dJ6_bitCount_0f7a4_41 rfl ?_
  refine x_iload_n dJ6_bitCount_0f7a4_42 rfl ?_
  refine x_bipush dJ6_bitCount_0f7a4_43 bp_16 ?_
  refine x_iushr (v := ((bc4 (bc3 (bc2 (bc1 (nI a))))).toUInt32 >>> ((nI 16).toUInt32 &&& Int32.toUInt32 31)).toInt32) dJ6_bitCount_0f7a4_45 rfl ?_
  refine x_iadd (v := bc5 (bc4 (bc3 (bc2 (bc1 (nI a)))))) dJ6_bitCount_0f7a4_46 rfl ?_
  refine x_istore_n (ls' := [.int (bc5 (bc4 (bc3 (bc2 (bc1 (nI a))))))]) dJ6_bitCount_0f7a4_47 rfl rfl ?_
  refine x_iload_n dJ6_bitCount_0f7a4_48 rfl ?_
  refine x_bipush dJ6_bitCount_0f7a4_49 bp_63 ?_
  refine x_iand (v := nI (pop a)) dJ6_bitCount_0f7a4_51 (bc_ok a ha) ?_
  refine x_ireti dJ6_bitCount_0f7a4_52 rfl ⟨rfl, rfl⟩
theorem c_isMember {I : xMem} {d a i : Nat} (ha : a < 2 ^ 31) (hi : i < 32) : Cx LX yX5_isMember mX5_isMember d [.int (nI a), .int (nI i)] I (xRi (fun r J => r = nI (a.testBit i).toNat ∧ J = I)) := by
  have hsh : a >>> i < 2 ^ 31 := Nat.lt_of_le_of_lt (Nat.shiftRight_le _ _) ha
  have hle : a >>> i &&& 1 ≤ 1 := Nat.and_le_right
  have hb : (a.testBit i).toNat = a >>> i &&& 1 := by
    rw [Nat.testBit, Nat.and_comm 1]
    rcases (show a >>> i &&& 1 = 0 ∨ a >>> i &&& 1 = 1 by omega) with e | e <;> rw [e] <;> rfl
  refine Cx.of [.int (nI a), .int (nI i)] (by decide) rfl rfl (Nat.le_of_ble_eq_true rfl) rfl ?_
  refine x_iload_n dX5_isMember_0 rfl ?_
  refine x_iload_n dX5_isMember_1 rfl ?_
  refine x_ishr (v := nI (a >>> i)) dX5_isMember_2 (nI_shr (by omega) (by omega)) ?_
  refine x_iconst dX5_isMember_3 ic_1 ?_
  refine x_iand (v := nI ((a >>> i) &&& 1)) dX5_isMember_4 (nI_and _ _) ?_
  refine x_ifn_eq (a := (a >>> i) &&& 1) (by omega) (tgt := 12) dX5_isMember_5 rfl (fun c => ?_) (fun c => ?_)
  ·
    refine x_iconst dX5_isMember_12 ic_0 ?_
    refine x_zretb (b := false) dX5_isMember_13 rfl ⟨by rw [hb, c]; rfl, rfl⟩
  ·
    refine x_iconst dX5_isMember_8 ic_1 ?_
    refine x_goto (tgt := 13) dX5_isMember_9 rfl ?_
    refine x_zretb (b := true) dX5_isMember_13 rfl ⟨by rw [hb, show a >>> i &&& 1 = 1 by omega]; rfl, rfl⟩
/-- a set with a member put in or taken out -/
def wmem (a i on : Nat) : Nat := nd a (1 <<< i) ||| on <<< i
theorem c_withMember {I : xMem} {d a i on : Nat} (hi : i < 32) : Cx LX yX5_withMember mX5_withMember d [.int (nI a), .int (nI i), .int (nI on)] I (xRi (fun r J => r = nI (wmem a i on) ∧ J = I)) := by
  refine Cx.of [.int (nI a), .int (nI i), .int (nI on)] (by decide) rfl rfl (Nat.le_of_ble_eq_true rfl) rfl ?_
  refine x_iload_n dX5_withMember_0 rfl ?_
  refine x_iconst dX5_withMember_1 ic_1 ?_
  refine x_iload_n dX5_withMember_2 rfl ?_
  refine x_ishl (v := nI (1 <<< i)) dX5_withMember_3 (nI_shl _ (by omega)) ?_
  refine x_iconst dX5_withMember_4 ic_m1 ?_
  refine x_ixor dX5_withMember_5 rfl ?_
  refine x_iand (v := nI (nd a (1 <<< i))) dX5_withMember_6 (nI_nd _ _) ?_
  refine x_iload_n dX5_withMember_7 rfl ?_
  refine x_iload_n dX5_withMember_8 rfl ?_
  refine x_ishl (v := nI (on <<< i)) dX5_withMember_9 (nI_shl _ (by omega)) ?_
  refine x_ior (v := nI ((nd a (1 <<< i)) ||| (on <<< i))) dX5_withMember_10 (nI_or _ _) ?_
  refine x_ireti dX5_withMember_11 rfl ⟨rfl, rfl⟩
/-- a number of 0 .. n - 1 -/
def inR (x : Int32) (n : Nat) : Bool := decide (0 ≤ x.toInt ∧ x.toInt < n)
theorem inR_lt {x : Int32} {n : Nat} (h : x < 0) : inR x n = false := by
  rw [Int32.lt_iff_toInt_lt] at h; simp at h
  exact decide_eq_false (by omega)
theorem inR_ge {x : Int32} {n : Nat} (hn : n < 2 ^ 31) (h : nI n ≤ x) : inR x n = false := by
  rw [Int32.le_iff_toInt_le, nI_toInt hn] at h
  exact decide_eq_false (by omega)
theorem inR_in {x : Int32} {n : Nat} (hn : n < 2 ^ 31) (h : ¬ x < 0) (h2 : ¬ nI n ≤ x) : inR x n = true := by
  rw [Int32.lt_iff_toInt_lt] at h; simp at h
  rw [Int32.le_iff_toInt_le, nI_toInt hn] at h2
  exact decide_eq_true (by omega)
theorem inR_of {x : Int32} {n : Nat} (h : inR x n = true) : ∃ j : Nat, j < n ∧ x = nI j := by
  have h := of_decide_eq_true h
  have hx : x.toInt < 2 ^ 31 := by have := Int32.toInt_lt x; omega
  refine ⟨x.toInt.toNat, by omega, Int32.toInt_inj.mp ?_⟩
  rw [nI_toInt (by omega)]; omega
theorem inR_nI {j n : Nat} (hn : n < 2 ^ 31) (h : j < n) : inR (nI j) n = true := decide_eq_true (by rw [nI_toInt (by omega)]; omega)
theorem inR_nI' {j n : Nat} (hj : j < 2 ^ 31) (h : n ≤ j) : inR (nI j) n = false := decide_eq_false (by rw [nI_toInt hj]; omega)
theorem c_isSort {I : xMem} {d : Nat} {x : Int32}  : Cx LX yX5_isSort mX5_isSort d [.int x] I (xRi (fun r J => r = nI (inR x 10).toNat ∧ J = I)) := by
  refine Cx.of [.int x] (by decide) rfl rfl (Nat.le_of_ble_eq_true rfl) rfl ?_
  refine x_iload_n dX5_isSort_0 rfl ?_
  refine x_if_lt (tgt := 14) dX5_isSort_1 rfl (fun c => ?_) (fun c => ?_)
  ·
    refine x_iconst dX5_isSort_14 ic_0 ?_
    refine x_zretb (b := false) dX5_isSort_15 rfl ⟨by rw [inR_lt c], rfl⟩
  ·
    refine x_iload_n dX5_isSort_4 rfl ?_
    refine x_bipush dX5_isSort_5 bp_10 ?_

    refine x_icmp_ge (tgt := 14) dX5_isSort_7 rfl (fun c2 => ?_) (fun c2 => ?_)
    ·
      refine x_iconst dX5_isSort_14 ic_0 ?_
      refine x_zretb (b := false) dX5_isSort_15 rfl ⟨by rw [inR_ge (by omega) c2], rfl⟩
    ·
      refine x_iconst dX5_isSort_10 ic_1 ?_
      refine x_goto (tgt := 15) dX5_isSort_11 rfl ?_
      refine x_zretb (b := true) dX5_isSort_15 rfl ⟨by rw [inR_in (by omega) c c2], rfl⟩
theorem c_isImage {I : xMem} {d : Nat} {x : Int32}  : Cx LX yX5_isImage mX5_isImage d [.int x] I (xRi (fun r J => r = nI (inR x 2).toNat ∧ J = I)) := by
  refine Cx.of [.int x] (by decide) rfl rfl (Nat.le_of_ble_eq_true rfl) rfl ?_
  refine x_iload_n dX5_isImage_0 rfl ?_
  refine x_if_lt (tgt := 13) dX5_isImage_1 rfl (fun c => ?_) (fun c => ?_)
  ·
    refine x_iconst dX5_isImage_13 ic_0 ?_
    refine x_zretb (b := false) dX5_isImage_14 rfl ⟨by rw [inR_lt c], rfl⟩
  ·
    refine x_iload_n dX5_isImage_4 rfl ?_
    refine x_iconst dX5_isImage_5 ic_2 ?_

    refine x_icmp_ge (tgt := 13) dX5_isImage_6 rfl (fun c2 => ?_) (fun c2 => ?_)
    ·
      refine x_iconst dX5_isImage_13 ic_0 ?_
      refine x_zretb (b := false) dX5_isImage_14 rfl ⟨by rw [inR_ge (by omega) c2], rfl⟩
    ·
      refine x_iconst dX5_isImage_9 ic_1 ?_
      refine x_goto (tgt := 14) dX5_isImage_10 rfl ?_
      refine x_zretb (b := true) dX5_isImage_14 rfl ⟨by rw [inR_in (by omega) c c2], rfl⟩
theorem c_isGrave {I : xMem} {d n : Nat} {x : Int32} (h0 : I 1 0 = nI n) (hn : n ≤ 8) : Cx LX yX5_isGrave mX5_isGrave d [.ref 0, .int x] I (xRi (fun r J => r = nI (inR x n).toNat ∧ J = I)) := by
  refine Cx.of [.ref 0, .int x] (by decide) rfl rfl (Nat.le_of_ble_eq_true rfl) rfl ?_
  refine x_iload_n dX5_isGrave_0 rfl ?_
  refine x_if_lt (tgt := 19) dX5_isGrave_1 rfl (fun c => ?_) (fun c => ?_)
  ·
    refine x_iconst dX5_isGrave_19 ic_0 ?_
    refine x_zretb (b := false) dX5_isGrave_20 rfl ⟨by rw [inR_lt c], rfl⟩
  ·
    refine x_iload_n dX5_isGrave_4 rfl ?_
    refine x_aload_n dX5_isGrave_5 rfl ?_
    refine x_getR 4 0 rfl (by decide) fl_X5_12 dX5_isGrave_6 rfl rfl rfl ?_
    refine x_getI 1 0 (v := nI n) rfl (by decide) fl_X5_38 dX5_isGrave_9 rfl rfl rfl h0 ?_
    refine x_icmp_ge (tgt := 19) dX5_isGrave_12 rfl (fun c2 => ?_) (fun c2 => ?_)
    ·
      refine x_iconst dX5_isGrave_19 ic_0 ?_
      refine x_zretb (b := false) dX5_isGrave_20 rfl ⟨by rw [inR_ge (by omega) c2], rfl⟩
    ·
      refine x_iconst dX5_isGrave_15 ic_1 ?_
      refine x_goto (tgt := 20) dX5_isGrave_16 rfl ?_
      refine x_zretb (b := true) dX5_isGrave_20 rfl ⟨by rw [inR_in (by omega) c c2], rfl⟩
theorem c_isPlace {I : xMem} {d n : Nat} {x : Int32} (h0 : I 1 0 = nI n) (hn : n ≤ 8) : Cx LX yX5_isPlace mX5_isPlace d [.ref 0, .int x] I (xRi (fun r J => r = nI (inR x n).toNat ∧ J = I)) := by
  refine Cx.of [.ref 0, .int x] (by decide) rfl rfl (Nat.le_of_ble_eq_true rfl) rfl ?_
  refine x_iload_n dX5_isPlace_0 rfl ?_
  refine x_if_lt (tgt := 19) dX5_isPlace_1 rfl (fun c => ?_) (fun c => ?_)
  ·
    refine x_iconst dX5_isPlace_19 ic_0 ?_
    refine x_zretb (b := false) dX5_isPlace_20 rfl ⟨by rw [inR_lt c], rfl⟩
  ·
    refine x_iload_n dX5_isPlace_4 rfl ?_
    refine x_aload_n dX5_isPlace_5 rfl ?_
    refine x_getR 4 0 rfl (by decide) fl_X5_12 dX5_isPlace_6 rfl rfl rfl ?_
    refine x_getI 1 0 (v := nI n) rfl (by decide) fl_X5_38 dX5_isPlace_9 rfl rfl rfl h0 ?_
    refine x_icmp_ge (tgt := 19) dX5_isPlace_12 rfl (fun c2 => ?_) (fun c2 => ?_)
    ·
      refine x_iconst dX5_isPlace_19 ic_0 ?_
      refine x_zretb (b := false) dX5_isPlace_20 rfl ⟨by rw [inR_ge (by omega) c2], rfl⟩
    ·
      refine x_iconst dX5_isPlace_15 ic_1 ?_
      refine x_goto (tgt := 20) dX5_isPlace_16 rfl ?_
      refine x_zretb (b := true) dX5_isPlace_20 rfl ⟨by rw [inR_in (by omega) c c2], rfl⟩
theorem inR2_0 {x : Int32} (h : x = 0) : inR x 2 = true := by subst h; decide +kernel
theorem inR2_1 {x : Int32} (h : x = nI 1) : inR x 2 = true := by subst h; decide +kernel
theorem inR2_n {x : Int32} (h : ¬ x = 0) (h1 : ¬ x = nI 1) : inR x 2 = false := by
  cases e : inR x 2 with
  | false => rfl
  | true =>
    obtain ⟨j, hj, rfl⟩ := inR_of e
    rcases (show j = 0 ∨ j = 1 by omega) with rfl | rfl
    · exact absurd nI_0 h
    · exact absurd rfl h1
theorem c_isOnOrOff {I : xMem} {d : Nat} {x : Int32} : Cx LX yX5_isOnOrOff mX5_isOnOrOff d [.int x] I (xRi (fun r J => r = nI (inR x 2).toNat ∧ J = I)) := by
  refine Cx.of [.int x] (by decide) rfl rfl (Nat.le_of_ble_eq_true rfl) rfl ?_
  refine x_iload_n dX5_isOnOrOff_0 rfl ?_
  refine x_if_eq (tgt := 9) dX5_isOnOrOff_1 rfl (fun c => ?_) (fun c => ?_)
  ·
    refine x_iconst dX5_isOnOrOff_9 ic_1 ?_
    refine x_goto (tgt := 14) dX5_isOnOrOff_10 rfl ?_
    refine x_zretb (b := true) dX5_isOnOrOff_14 rfl ⟨by rw [inR2_0 c], rfl⟩
  ·
    refine x_iload_n dX5_isOnOrOff_4 rfl ?_
    refine x_iconst dX5_isOnOrOff_5 ic_1 ?_
    refine x_icmp_ne (tgt := 13) dX5_isOnOrOff_6 rfl (fun c2 => ?_) (fun c2 => ?_)
    ·
      refine x_iconst dX5_isOnOrOff_13 ic_0 ?_
      refine x_zretb (b := false) dX5_isOnOrOff_14 rfl ⟨by rw [inR2_n c c2], rfl⟩
    ·
      refine x_iconst dX5_isOnOrOff_9 ic_1 ?_
      refine x_goto (tgt := 14) dX5_isOnOrOff_10 rfl ?_
      refine x_zretb (b := true) dX5_isOnOrOff_14 rfl ⟨by rw [inR2_1 c2], rfl⟩
theorem c_stateOf {I : xMem} {d S l : Nat} : Cx LX yX0_stateOf mX0_stateOf d [.int (nI S), .int (nI l)] I (xRi (fun r J => r = nI (S * 8 + l) ∧ J = I)) := by
  refine Cx.of [.int (nI S), .int (nI l)] (by decide) rfl rfl (Nat.le_of_ble_eq_true rfl) rfl ?_
  refine x_iload_n dX0_stateOf_0 rfl ?_
  refine x_bipush dX0_stateOf_1 bp_8 ?_
  refine x_imul (v := nI (S * 8)) dX0_stateOf_3 (pk_mul _ _) ?_
  refine x_iload_n dX0_stateOf_4 rfl ?_
  refine x_iadd (v := nI ((S * 8) + l)) dX0_stateOf_5 (nI_add _ _) ?_
  refine x_ireti dX0_stateOf_6 rfl ⟨rfl, rfl⟩
theorem c_stateAfter {I : xMem} {d S g : Nat} (hg : g < 32) : Cx LX yX0_stateAfter mX0_stateAfter d [.int (nI S), .int (nI g)] I (xRi (fun r J => r = nI ((S ||| 1 <<< g) * 8 + g) ∧ J = I)) := by
  refine Cx.of [.int (nI S), .int (nI g)] (by decide) rfl rfl (Nat.le_of_ble_eq_true rfl) rfl ?_
  refine x_iload_n dX0_stateAfter_0 rfl ?_
  refine x_iconst dX0_stateAfter_1 ic_1 ?_
  refine x_iload_n dX0_stateAfter_2 rfl ?_
  refine x_ishl (v := nI (1 <<< g)) dX0_stateAfter_3 (nI_shl _ (by omega)) ?_
  refine x_ior (v := nI (S ||| (1 <<< g))) dX0_stateAfter_4 (nI_or _ _) ?_
  refine x_bipush dX0_stateAfter_5 bp_8 ?_
  refine x_imul (v := nI ((S ||| (1 <<< g)) * 8)) dX0_stateAfter_7 (pk_mul _ _) ?_
  refine x_iload_n dX0_stateAfter_8 rfl ?_
  refine x_iadd (v := nI (((S ||| (1 <<< g)) * 8) + g)) dX0_stateAfter_9 (nI_add _ _) ?_
  refine x_ireti dX0_stateAfter_10 rfl ⟨rfl, rfl⟩
/-- a set of graves that lie first, with the last of them -/
def isSt (S l : Nat) : Bool := if S = 0 then decide (l = 0) else S.testBit l
theorem c_isState {I : xMem} {d S l : Nat} (hd : 1 ≤ d) (hS : S < 2 ^ 31) (hl : l < 32) : Cx LX yX0_isState mX0_isState d [.int (nI S), .int (nI l)] I (xRi (fun r J => r = nI (isSt S l).toNat ∧ J = I)) := by
  refine Cx.of [.int (nI S), .int (nI l)] (by decide) rfl rfl (Nat.le_of_ble_eq_true rfl) rfl ?_
  refine x_iload_n dX0_isState_0 rfl ?_
  refine x_ifn_ne (a := S) (by omega) (tgt := 16) dX0_isState_1 rfl (fun c => ?_) (fun c => ?_)
  ·
    refine x_iload_n dX0_isState_16 rfl ?_
    refine x_iload_n dX0_isState_17 rfl ?_
    refine x_callSNi (as := [.int (nI S), .int (nI l)]) (fun _ h => h.2.1) st_X5_isMember ct_X5_isMember (c_isMember (d := 0) (by omega) (by omega)) dX0_isState_18 hd rfl rfl (Nat.le_of_ble_eq_true rfl) (fun r0 J0 h0 => ?_)
    obtain ⟨rfl, hJ0⟩ := h0
    obtain rfl := hJ0.symm
    refine x_zretb (b := (S.testBit l)) dX0_isState_21 rfl ⟨by rw [isSt, if_neg c], rfl⟩
  ·
    refine x_iload_n dX0_isState_4 rfl ?_
    refine x_ifn_ne (a := l) (by omega) (tgt := 12) dX0_isState_5 rfl (fun c2 => ?_) (fun c2 => ?_)
    ·
      refine x_iconst dX0_isState_12 ic_0 ?_
      refine x_goto (tgt := 21) dX0_isState_13 rfl ?_
      refine x_zretb (b := false) dX0_isState_21 rfl ⟨by rw [isSt, if_pos c, decide_eq_false c2], rfl⟩
    ·
      refine x_iconst dX0_isState_8 ic_1 ?_
      refine x_goto (tgt := 21) dX0_isState_9 rfl ?_
      refine x_zretb (b := true) dX0_isState_21 rfl ⟨by rw [isSt, if_pos c, decide_eq_true c2], rfl⟩
/-- which next graves would part what is to lie together: none, or all but it -/
def partB (w S : Nat) : Bool := !(decide (S &&& w = 0) || decide (S &&& w = w))
theorem c_nextThatPart {I : xMem} {d w S : Nat} (hw : w < 2 ^ 31) : Cx LX yX0_nextThatPart mX0_nextThatPart d [.int (nI w), .int (nI S)] I (xRi (fun r J => r = (if partB w S then nI w ^^^ (-1) else nI 0) ∧ J = I)) := by
  have hle : S &&& w ≤ w := Nat.and_le_right
  refine Cx.of [.int (nI w), .int (nI S), .null] (by decide) rfl rfl (Nat.le_of_ble_eq_true rfl) rfl ?_
  refine x_iload_n dX0_nextThatPart_0 rfl ?_
  refine x_iload_n dX0_nextThatPart_1 rfl ?_
  refine x_iand (v := nI (S &&& w)) dX0_nextThatPart_2 (nI_and _ _) ?_
  refine x_istore_n (ls' := [.int (nI w), .int (nI S), .int (nI (S &&& w))]) dX0_nextThatPart_3 rfl rfl ?_
  refine x_iload_n dX0_nextThatPart_4 rfl ?_
  refine x_ifn_eq (a := S &&& w) (by omega) (tgt := 13) dX0_nextThatPart_5 rfl (fun c => ?_) (fun c => ?_)
  ·
    refine x_iconst dX0_nextThatPart_13 ic_0 ?_
    refine x_goto (tgt := 20) dX0_nextThatPart_14 rfl ?_
    refine x_ireti dX0_nextThatPart_20 rfl ⟨by simp [partB, c], rfl⟩
  ·
    refine x_iload_n dX0_nextThatPart_8 rfl ?_
    refine x_iload_n dX0_nextThatPart_9 rfl ?_
    refine x_icmpn_ne (a := S &&& w) (b := w) (by omega) (by omega) (tgt := 17) dX0_nextThatPart_10 rfl (fun c2 => ?_) (fun c2 => ?_)
    ·
      refine x_iload_n dX0_nextThatPart_17 rfl ?_
      refine x_iconst dX0_nextThatPart_18 ic_m1 ?_
      refine x_ixor dX0_nextThatPart_19 rfl ?_
      refine x_ireti dX0_nextThatPart_20 rfl ⟨by simp [partB, c, c2], rfl⟩
    ·
      refine x_iconst dX0_nextThatPart_13 ic_0 ?_
      refine x_goto (tgt := 20) dX0_nextThatPart_14 rfl ?_
      refine x_ireti dX0_nextThatPart_20 rfl ⟨by simp [partB, c2], rfl⟩
/-- the least member below 8; 0, if there is none -/
def lstM (S : Nat) : Nat := ((List.range 8).find? (fun g => S.testBit g)).getD 0
theorem c_leastMember {I : xMem} {d S : Nat} (hd : 1 ≤ d) (hS : S < 2 ^ 31) : Cx LX yX0_leastMember mX0_leastMember d [.int (nI S)] I (xRi (fun r J => r = nI (lstM S) ∧ J = I)) := by
  have lp : ∀ (k g : Nat), g + k = 8 → (∀ j, j < g → S.testBit j = false) → Wx LX mX0_leastMember d (xRi (fun r J => r = nI (lstM S) ∧ J = I)) 2 [.int (nI S), .int (nI g)] [] I := by
    intro k
    induction k with
    | zero =>
      intro g hg hno
      refine x_iload_n dX0_leastMember_2 rfl ?_
      refine x_bipush dX0_leastMember_3 bp_8 ?_
      refine x_icmpn_ge (a := g) (b := 8) (by omega) (by omega) (tgt := 24) dX0_leastMember_5 rfl (fun c => ?_) (fun c => ?_)
      ·
        refine x_iconst dX0_leastMember_24 ic_0 ?_
        refine x_ireti dX0_leastMember_25 rfl ⟨?_, rfl⟩
        have : (List.range 8).find? (fun g => S.testBit g) = none := by
          rw [List.find?_eq_none]; intro x hx; have := List.mem_range.mp hx; simp [hno x (by omega)]
        rw [lstM, this]; rfl
      ·
        omega
    | succ k ih =>
      intro g hg hno
      refine x_iload_n dX0_leastMember_2 rfl ?_
      refine x_bipush dX0_leastMember_3 bp_8 ?_
      refine x_icmpn_ge (a := g) (b := 8) (by omega) (by omega) (tgt := 24) dX0_leastMember_5 rfl (fun c => ?_) (fun c => ?_)
      ·
        omega
      ·
        refine x_iload_n dX0_leastMember_8 rfl ?_
        refine x_iload_n dX0_leastMember_9 rfl ?_
        refine x_callSNi (as := [.int (nI S), .int (nI g)]) (fun _ h => h.2.1) st_X5_isMember ct_X5_isMember (c_isMember (d := 0) (by omega) (by omega)) dX0_leastMember_10 hd rfl rfl (Nat.le_of_ble_eq_true rfl) (fun r0 J0 h0 => ?_)
        obtain ⟨rfl, hJ0⟩ := h0
        obtain rfl := hJ0.symm
        refine x_ifb_eq (b := S.testBit g) (tgt := 18) dX0_leastMember_13 rfl (fun c2 => ?_) (fun c2 => ?_)
        ·
          refine x_iinc (v := nI (g + 1)) (ls' := [.int (nI S), .int (nI (g + 1))]) dX0_leastMember_18 rfl (inc_1 _) rfl rfl ?_
          refine x_goto (tgt := 2) dX0_leastMember_21 rfl ?_
          exact ih (g + 1) (by omega) (fun j hj => by rcases (show j < g ∨ j = g by omega) with e | rfl; exact hno j e; exact c2)
        ·
          refine x_iload_n dX0_leastMember_16 rfl ?_
          refine x_ireti dX0_leastMember_17 rfl ⟨?_, rfl⟩
          have : (List.range 8).find? (fun g => S.testBit g) = some g := by
            rw [List.find?_range_eq_some]
            refine ⟨c2, List.mem_range.mpr (by omega), fun j hj => by simp [hno j hj]⟩
          rw [lstM, this]; rfl
  refine Cx.of [.int (nI S), .null] (by decide) rfl rfl (Nat.le_of_ble_eq_true rfl) rfl ?_
  refine x_iconst dX0_leastMember_0 ic_0 ?_
  refine x_istore_n (ls' := [.int (nI S), .int (nI 0)]) dX0_leastMember_1 rfl rfl ?_
  exact lp 8 0 rfl (fun j hj => by omega)
