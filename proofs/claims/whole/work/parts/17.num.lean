/-! numbers of the layer, and the two layouts -/
theorem ic_m1 : Int32.ofInt (-1) = (-1 : Int32) := by decide +kernel
theorem ic_0 : Int32.ofInt (0) = nI 0 := by decide +kernel
theorem ic_1 : Int32.ofInt (1) = nI 1 := by decide +kernel
theorem ic_2 : Int32.ofInt (2) = nI 2 := by decide +kernel
theorem ic_3 : Int32.ofInt (3) = nI 3 := by decide +kernel
theorem ic_4 : Int32.ofInt (4) = nI 4 := by decide +kernel
theorem bp_m6 : (Int8.ofInt (-6)).toInt32 = (-6 : Int32) := by decide +kernel
theorem bp_m3 : (Int8.ofInt (-3)).toInt32 = (-3 : Int32) := by decide +kernel
theorem bp_m2 : (Int8.ofInt (-2)).toInt32 = (-2 : Int32) := by decide +kernel
theorem bp_8 : (Int8.ofInt (8)).toInt32 = nI 8 := by decide +kernel
theorem bp_9 : (Int8.ofInt (9)).toInt32 = nI 9 := by decide +kernel
theorem bp_10 : (Int8.ofInt (10)).toInt32 = nI 10 := by decide +kernel
theorem bp_16 : (Int8.ofInt (16)).toInt32 = nI 16 := by decide +kernel
theorem bp_17 : (Int8.ofInt (17)).toInt32 = nI 17 := by decide +kernel
theorem bp_25 : (Int8.ofInt (25)).toInt32 = nI 25 := by decide +kernel
theorem bp_31 : (Int8.ofInt (31)).toInt32 = nI 31 := by decide +kernel
theorem bp_50 : (Int8.ofInt (50)).toInt32 = nI 50 := by decide +kernel
theorem bp_63 : (Int8.ofInt (63)).toInt32 = nI 63 := by decide +kernel
theorem bp_64 : (Int8.ofInt (64)).toInt32 = nI 64 := by decide +kernel
theorem sp_256 : (Int16.ofInt (256)).toInt32 = nI 256 := by decide +kernel
theorem sp_1000 : (Int16.ofInt (1000)).toInt32 = nI 1000 := by decide +kernel
theorem sp_1023 : (Int16.ofInt (1023)).toInt32 = nI 1023 := by decide +kernel
theorem sp_2048 : (Int16.ofInt (2048)).toInt32 = nI 2048 := by decide +kernel
theorem inc_1 (a : Nat) : nI a + Int32.ofInt 1 = nI (a + 1) := by rw [← nI_add]; rfl
theorem inc_4 (a : Nat) : nI a + Int32.ofInt 4 = nI (a + 4) := by rw [← nI_add]; rfl
theorem dec_1 {a : Nat} (h : 1 ≤ a) : nI a + Int32.ofInt (-1) = nI (a - 1) := by
  obtain ⟨b, rfl⟩ : ∃ b, a = b + 1 := ⟨a - 1, by omega⟩
  exact pk_m1 b
theorem nI_and (a b : Nat) : nI a &&& nI b = nI (a &&& b) := by
  apply Int32.toBitVec_inj.mp
  show BitVec.ofNat 32 a &&& BitVec.ofNat 32 b = BitVec.ofNat 32 (a &&& b)
  apply BitVec.eq_of_getLsbD_eq
  intro i hi
  simp [BitVec.getLsbD_ofNat, hi]
theorem nI_or (a b : Nat) : nI a ||| nI b = nI (a ||| b) := by
  apply Int32.toBitVec_inj.mp
  show BitVec.ofNat 32 a ||| BitVec.ofNat 32 b = BitVec.ofNat 32 (a ||| b)
  apply BitVec.eq_of_getLsbD_eq
  intro i hi
  simp [BitVec.getLsbD_ofNat, hi]
theorem nI_xor (a b : Nat) : nI a ^^^ nI b = nI (a ^^^ b) := by
  apply Int32.toBitVec_inj.mp
  show BitVec.ofNat 32 a ^^^ BitVec.ofNat 32 b = BitVec.ofNat 32 (a ^^^ b)
  apply BitVec.eq_of_getLsbD_eq
  intro i hi
  simp [BitVec.getLsbD_ofNat, hi]
/-- what is in x and not in m -/
def nd (x m : Nat) : Nat := x ^^^ (x &&& m)
theorem nd_bit (x m i : Nat) : (nd x m).testBit i = (x.testBit i && !m.testBit i) := by
  simp [nd]; cases x.testBit i <;> cases m.testBit i <;> rfl
theorem nI_nd (x m : Nat) : nI x &&& (nI m ^^^ (-1)) = nI (nd x m) := by
  apply Int32.toBitVec_inj.mp
  show BitVec.ofNat 32 x &&& (BitVec.ofNat 32 m ^^^ BitVec.allOnes 32) = BitVec.ofNat 32 (nd x m)
  rw [BitVec.xor_allOnes]
  apply BitVec.eq_of_getLsbD_eq
  intro i hi
  simp only [BitVec.getLsbD_and, BitVec.getLsbD_not, BitVec.getLsbD_ofNat, nd_bit]
  simp [hi]
theorem sh31 : ∀ s : Nat, s < 32 → ((nI s &&& 31).toBitVec.smod 32).toNat = s := by decide +kernel
theorem nI_shl (a : Nat) {s : Nat} (h : s < 32) : nI a <<< (nI s &&& 31) = nI (a <<< s) := by
  apply Int32.toBitVec_inj.mp
  apply BitVec.eq_of_toNat_eq
  rw [pk_shl _ _ s (sh31 s h)]
  show (BitVec.ofNat 32 a).toNat * 2 ^ s % 2 ^ 32 = (BitVec.ofNat 32 (a <<< s)).toNat
  rw [BitVec.toNat_ofNat, BitVec.toNat_ofNat, Nat.shiftLeft_eq, Nat.mod_mul_mod]
theorem nI_shr {a s : Nat} (ha : a < 2 ^ 31) (h : s < 32) : nI a >>> (nI s &&& 31) = nI (a >>> s) := by
  rw [pk_shrN ha _ s (sh31 s h), Nat.shiftRight_eq_div_pow]
theorem narZ {x : Int32} (h : x = nI 0 ∨ x = nI 1) : narrow .boolean (.int x) = .int x := by rcases h with rfl | rfl <;> rfl
theorem fitZ {x : Int32} (h : x = nI 0 ∨ x = nI 1) : fits .boolean (.int x) = true := by rcases h with rfl | rfl <;> rfl
section XN
variable {Λ : xLay} {μ : xM} {d : Nat} {Q : Option Value → xMem → Prop} {pc : Nat} {ls st : List Value} {I : xMem} {off : Int} {tgt : Nat}
theorem x_icmpn_eq {a b : Nat} (ha : a < 2 ^ 31) (hb : b < 2 ^ 31) (hd : decode μ.2.1 pc = .ok (.if_icmp .eq off, 3)) (ht : (pc : Int) + off = (tgt : Int)) (kt : a = b → Wx Λ μ d Q tgt ls st I) (kf : a ≠ b → Wx Λ μ d Q (pc + 3) ls st I) : Wx Λ μ d Q pc ls (.int (nI b) :: .int (nI a) :: st) I :=
  x_icmp_eq hd ht (fun h => kt (by have e1 := nI_eq ha hb; have e2 := nI_leI ha hb; have e3 := nI_ltI ha hb; have e4 := nI_leI hb ha; have e5 := nI_ltI hb ha; simp only [e1, e2, e3, e4, e5] at h; first | omega | trivial)) (fun h => kf (by have e1 := nI_eq ha hb; have e2 := nI_leI ha hb; have e3 := nI_ltI ha hb; have e4 := nI_leI hb ha; have e5 := nI_ltI hb ha; simp only [e1, e2, e3, e4, e5] at h; first | omega | trivial))
theorem x_icmpn_ne {a b : Nat} (ha : a < 2 ^ 31) (hb : b < 2 ^ 31) (hd : decode μ.2.1 pc = .ok (.if_icmp .ne off, 3)) (ht : (pc : Int) + off = (tgt : Int)) (kt : a ≠ b → Wx Λ μ d Q tgt ls st I) (kf : a = b → Wx Λ μ d Q (pc + 3) ls st I) : Wx Λ μ d Q pc ls (.int (nI b) :: .int (nI a) :: st) I :=
  x_icmp_ne hd ht (fun h => kt (by have e1 := nI_eq ha hb; have e2 := nI_leI ha hb; have e3 := nI_ltI ha hb; have e4 := nI_leI hb ha; have e5 := nI_ltI hb ha; simp only [e1, e2, e3, e4, e5] at h; first | omega | trivial)) (fun h => kf (by have e1 := nI_eq ha hb; have e2 := nI_leI ha hb; have e3 := nI_ltI ha hb; have e4 := nI_leI hb ha; have e5 := nI_ltI hb ha; simp only [e1, e2, e3, e4, e5] at h; first | omega | trivial))
theorem x_icmpn_lt {a b : Nat} (ha : a < 2 ^ 31) (hb : b < 2 ^ 31) (hd : decode μ.2.1 pc = .ok (.if_icmp .lt off, 3)) (ht : (pc : Int) + off = (tgt : Int)) (kt : a < b → Wx Λ μ d Q tgt ls st I) (kf : b ≤ a → Wx Λ μ d Q (pc + 3) ls st I) : Wx Λ μ d Q pc ls (.int (nI b) :: .int (nI a) :: st) I :=
  x_icmp_lt hd ht (fun h => kt (by have e1 := nI_eq ha hb; have e2 := nI_leI ha hb; have e3 := nI_ltI ha hb; have e4 := nI_leI hb ha; have e5 := nI_ltI hb ha; simp only [e1, e2, e3, e4, e5] at h; first | omega | trivial)) (fun h => kf (by have e1 := nI_eq ha hb; have e2 := nI_leI ha hb; have e3 := nI_ltI ha hb; have e4 := nI_leI hb ha; have e5 := nI_ltI hb ha; simp only [e1, e2, e3, e4, e5] at h; first | omega | trivial))
theorem x_icmpn_ge {a b : Nat} (ha : a < 2 ^ 31) (hb : b < 2 ^ 31) (hd : decode μ.2.1 pc = .ok (.if_icmp .ge off, 3)) (ht : (pc : Int) + off = (tgt : Int)) (kt : b ≤ a → Wx Λ μ d Q tgt ls st I) (kf : a < b → Wx Λ μ d Q (pc + 3) ls st I) : Wx Λ μ d Q pc ls (.int (nI b) :: .int (nI a) :: st) I :=
  x_icmp_ge hd ht (fun h => kt (by have e1 := nI_eq ha hb; have e2 := nI_leI ha hb; have e3 := nI_ltI ha hb; have e4 := nI_leI hb ha; have e5 := nI_ltI hb ha; simp only [e1, e2, e3, e4, e5] at h; first | omega | trivial)) (fun h => kf (by have e1 := nI_eq ha hb; have e2 := nI_leI ha hb; have e3 := nI_ltI ha hb; have e4 := nI_leI hb ha; have e5 := nI_ltI hb ha; simp only [e1, e2, e3, e4, e5] at h; first | omega | trivial))
theorem x_icmpn_gt {a b : Nat} (ha : a < 2 ^ 31) (hb : b < 2 ^ 31) (hd : decode μ.2.1 pc = .ok (.if_icmp .gt off, 3)) (ht : (pc : Int) + off = (tgt : Int)) (kt : b < a → Wx Λ μ d Q tgt ls st I) (kf : a ≤ b → Wx Λ μ d Q (pc + 3) ls st I) : Wx Λ μ d Q pc ls (.int (nI b) :: .int (nI a) :: st) I :=
  x_icmp_gt hd ht (fun h => kt (by have e1 := nI_eq ha hb; have e2 := nI_leI ha hb; have e3 := nI_ltI ha hb; have e4 := nI_leI hb ha; have e5 := nI_ltI hb ha; simp only [e1, e2, e3, e4, e5] at h; first | omega | trivial)) (fun h => kf (by have e1 := nI_eq ha hb; have e2 := nI_leI ha hb; have e3 := nI_ltI ha hb; have e4 := nI_leI hb ha; have e5 := nI_ltI hb ha; simp only [e1, e2, e3, e4, e5] at h; first | omega | trivial))
theorem x_icmpn_le {a b : Nat} (ha : a < 2 ^ 31) (hb : b < 2 ^ 31) (hd : decode μ.2.1 pc = .ok (.if_icmp .le off, 3)) (ht : (pc : Int) + off = (tgt : Int)) (kt : a ≤ b → Wx Λ μ d Q tgt ls st I) (kf : b < a → Wx Λ μ d Q (pc + 3) ls st I) : Wx Λ μ d Q pc ls (.int (nI b) :: .int (nI a) :: st) I :=
  x_icmp_le hd ht (fun h => kt (by have e1 := nI_eq ha hb; have e2 := nI_leI ha hb; have e3 := nI_ltI ha hb; have e4 := nI_leI hb ha; have e5 := nI_ltI hb ha; simp only [e1, e2, e3, e4, e5] at h; first | omega | trivial)) (fun h => kf (by have e1 := nI_eq ha hb; have e2 := nI_leI ha hb; have e3 := nI_ltI ha hb; have e4 := nI_leI hb ha; have e5 := nI_ltI hb ha; simp only [e1, e2, e3, e4, e5] at h; first | omega | trivial))
theorem x_ifn_eq {a : Nat} (ha : a < 2 ^ 31) (hd : decode μ.2.1 pc = .ok (.ifCond .eq off, 3)) (ht : (pc : Int) + off = (tgt : Int)) (kt : a = 0 → Wx Λ μ d Q tgt ls st I) (kf : a ≠ 0 → Wx Λ μ d Q (pc + 3) ls st I) : Wx Λ μ d Q pc ls (.int (nI a) :: st) I :=
  x_if_eq hd ht (fun h => kt (by have e0 : (0 : Int32) = nI 0 := nI_0.symm; rw [e0] at h; have e1 := nI_eq ha (by decide : 0 < 2 ^ 31); have e2 := nI_leI ha (by decide : 0 < 2 ^ 31); have e3 := nI_ltI ha (by decide : 0 < 2 ^ 31); have e4 := nI_leI (by decide : 0 < 2 ^ 31) ha; have e5 := nI_ltI (by decide : 0 < 2 ^ 31) ha; simp only [e1, e2, e3, e4, e5] at h; first | omega | trivial)) (fun h => kf (by have e0 : (0 : Int32) = nI 0 := nI_0.symm; rw [e0] at h; have e1 := nI_eq ha (by decide : 0 < 2 ^ 31); have e2 := nI_leI ha (by decide : 0 < 2 ^ 31); have e3 := nI_ltI ha (by decide : 0 < 2 ^ 31); have e4 := nI_leI (by decide : 0 < 2 ^ 31) ha; have e5 := nI_ltI (by decide : 0 < 2 ^ 31) ha; simp only [e1, e2, e3, e4, e5] at h; first | omega | trivial))
theorem x_ifn_ne {a : Nat} (ha : a < 2 ^ 31) (hd : decode μ.2.1 pc = .ok (.ifCond .ne off, 3)) (ht : (pc : Int) + off = (tgt : Int)) (kt : a ≠ 0 → Wx Λ μ d Q tgt ls st I) (kf : a = 0 → Wx Λ μ d Q (pc + 3) ls st I) : Wx Λ μ d Q pc ls (.int (nI a) :: st) I :=
  x_if_ne hd ht (fun h => kt (by have e0 : (0 : Int32) = nI 0 := nI_0.symm; rw [e0] at h; have e1 := nI_eq ha (by decide : 0 < 2 ^ 31); have e2 := nI_leI ha (by decide : 0 < 2 ^ 31); have e3 := nI_ltI ha (by decide : 0 < 2 ^ 31); have e4 := nI_leI (by decide : 0 < 2 ^ 31) ha; have e5 := nI_ltI (by decide : 0 < 2 ^ 31) ha; simp only [e1, e2, e3, e4, e5] at h; first | omega | trivial)) (fun h => kf (by have e0 : (0 : Int32) = nI 0 := nI_0.symm; rw [e0] at h; have e1 := nI_eq ha (by decide : 0 < 2 ^ 31); have e2 := nI_leI ha (by decide : 0 < 2 ^ 31); have e3 := nI_ltI ha (by decide : 0 < 2 ^ 31); have e4 := nI_leI (by decide : 0 < 2 ^ 31) ha; have e5 := nI_ltI (by decide : 0 < 2 ^ 31) ha; simp only [e1, e2, e3, e4, e5] at h; first | omega | trivial))
theorem x_ifn_lt {a : Nat} (ha : a < 2 ^ 31) (hd : decode μ.2.1 pc = .ok (.ifCond .lt off, 3)) (ht : (pc : Int) + off = (tgt : Int)) (kt : False → Wx Λ μ d Q tgt ls st I) (kf : True → Wx Λ μ d Q (pc + 3) ls st I) : Wx Λ μ d Q pc ls (.int (nI a) :: st) I :=
  x_if_lt hd ht (fun h => kt (by have e0 : (0 : Int32) = nI 0 := nI_0.symm; rw [e0] at h; have e1 := nI_eq ha (by decide : 0 < 2 ^ 31); have e2 := nI_leI ha (by decide : 0 < 2 ^ 31); have e3 := nI_ltI ha (by decide : 0 < 2 ^ 31); have e4 := nI_leI (by decide : 0 < 2 ^ 31) ha; have e5 := nI_ltI (by decide : 0 < 2 ^ 31) ha; simp only [e1, e2, e3, e4, e5] at h; first | omega | trivial)) (fun h => kf (by have e0 : (0 : Int32) = nI 0 := nI_0.symm; rw [e0] at h; have e1 := nI_eq ha (by decide : 0 < 2 ^ 31); have e2 := nI_leI ha (by decide : 0 < 2 ^ 31); have e3 := nI_ltI ha (by decide : 0 < 2 ^ 31); have e4 := nI_leI (by decide : 0 < 2 ^ 31) ha; have e5 := nI_ltI (by decide : 0 < 2 ^ 31) ha; simp only [e1, e2, e3, e4, e5] at h; first | omega | trivial))
theorem x_ifn_ge {a : Nat} (ha : a < 2 ^ 31) (hd : decode μ.2.1 pc = .ok (.ifCond .ge off, 3)) (ht : (pc : Int) + off = (tgt : Int)) (kt : True → Wx Λ μ d Q tgt ls st I) (kf : False → Wx Λ μ d Q (pc + 3) ls st I) : Wx Λ μ d Q pc ls (.int (nI a) :: st) I :=
  x_if_ge hd ht (fun h => kt (by have e0 : (0 : Int32) = nI 0 := nI_0.symm; rw [e0] at h; have e1 := nI_eq ha (by decide : 0 < 2 ^ 31); have e2 := nI_leI ha (by decide : 0 < 2 ^ 31); have e3 := nI_ltI ha (by decide : 0 < 2 ^ 31); have e4 := nI_leI (by decide : 0 < 2 ^ 31) ha; have e5 := nI_ltI (by decide : 0 < 2 ^ 31) ha; simp only [e1, e2, e3, e4, e5] at h; first | omega | trivial)) (fun h => kf (by have e0 : (0 : Int32) = nI 0 := nI_0.symm; rw [e0] at h; have e1 := nI_eq ha (by decide : 0 < 2 ^ 31); have e2 := nI_leI ha (by decide : 0 < 2 ^ 31); have e3 := nI_ltI ha (by decide : 0 < 2 ^ 31); have e4 := nI_leI (by decide : 0 < 2 ^ 31) ha; have e5 := nI_ltI (by decide : 0 < 2 ^ 31) ha; simp only [e1, e2, e3, e4, e5] at h; first | omega | trivial))
theorem x_ifn_gt {a : Nat} (ha : a < 2 ^ 31) (hd : decode μ.2.1 pc = .ok (.ifCond .gt off, 3)) (ht : (pc : Int) + off = (tgt : Int)) (kt : 0 < a → Wx Λ μ d Q tgt ls st I) (kf : a = 0 → Wx Λ μ d Q (pc + 3) ls st I) : Wx Λ μ d Q pc ls (.int (nI a) :: st) I :=
  x_if_gt hd ht (fun h => kt (by have e0 : (0 : Int32) = nI 0 := nI_0.symm; rw [e0] at h; have e1 := nI_eq ha (by decide : 0 < 2 ^ 31); have e2 := nI_leI ha (by decide : 0 < 2 ^ 31); have e3 := nI_ltI ha (by decide : 0 < 2 ^ 31); have e4 := nI_leI (by decide : 0 < 2 ^ 31) ha; have e5 := nI_ltI (by decide : 0 < 2 ^ 31) ha; simp only [e1, e2, e3, e4, e5] at h; first | omega | trivial)) (fun h => kf (by have e0 : (0 : Int32) = nI 0 := nI_0.symm; rw [e0] at h; have e1 := nI_eq ha (by decide : 0 < 2 ^ 31); have e2 := nI_leI ha (by decide : 0 < 2 ^ 31); have e3 := nI_ltI ha (by decide : 0 < 2 ^ 31); have e4 := nI_leI (by decide : 0 < 2 ^ 31) ha; have e5 := nI_ltI (by decide : 0 < 2 ^ 31) ha; simp only [e1, e2, e3, e4, e5] at h; first | omega | trivial))
theorem x_ifn_le {a : Nat} (ha : a < 2 ^ 31) (hd : decode μ.2.1 pc = .ok (.ifCond .le off, 3)) (ht : (pc : Int) + off = (tgt : Int)) (kt : a = 0 → Wx Λ μ d Q tgt ls st I) (kf : 0 < a → Wx Λ μ d Q (pc + 3) ls st I) : Wx Λ μ d Q pc ls (.int (nI a) :: st) I :=
  x_if_le hd ht (fun h => kt (by have e0 : (0 : Int32) = nI 0 := nI_0.symm; rw [e0] at h; have e1 := nI_eq ha (by decide : 0 < 2 ^ 31); have e2 := nI_leI ha (by decide : 0 < 2 ^ 31); have e3 := nI_ltI ha (by decide : 0 < 2 ^ 31); have e4 := nI_leI (by decide : 0 < 2 ^ 31) ha; have e5 := nI_ltI (by decide : 0 < 2 ^ 31) ha; simp only [e1, e2, e3, e4, e5] at h; first | omega | trivial)) (fun h => kf (by have e0 : (0 : Int32) = nI 0 := nI_0.symm; rw [e0] at h; have e1 := nI_eq ha (by decide : 0 < 2 ^ 31); have e2 := nI_leI ha (by decide : 0 < 2 ^ 31); have e3 := nI_ltI ha (by decide : 0 < 2 ^ 31); have e4 := nI_leI (by decide : 0 < 2 ^ 31) ha; have e5 := nI_ltI (by decide : 0 < 2 ^ 31) ha; simp only [e1, e2, e3, e4, e5] at h; first | omega | trivial))
theorem bz {b : Bool} : nI b.toNat = 0 ↔ b = false := by cases b <;> decide +kernel
theorem x_ifb_eq {b : Bool} (hd : decode μ.2.1 pc = .ok (.ifCond .eq off, 3)) (ht : (pc : Int) + off = (tgt : Int)) (kt : b = false → Wx Λ μ d Q tgt ls st I) (kf : b = true → Wx Λ μ d Q (pc + 3) ls st I) : Wx Λ μ d Q pc ls (.int (nI b.toNat) :: st) I :=
  x_if_eq hd ht (fun h => kt (bz.mp h)) (fun h => kf (by cases b with | true => rfl | false => exact absurd (bz.mpr rfl) h))
theorem x_ifb_ne {b : Bool} (hd : decode μ.2.1 pc = .ok (.ifCond .ne off, 3)) (ht : (pc : Int) + off = (tgt : Int)) (kt : b = true → Wx Λ μ d Q tgt ls st I) (kf : b = false → Wx Λ μ d Q (pc + 3) ls st I) : Wx Λ μ d Q pc ls (.int (nI b.toNat) :: st) I :=
  x_if_ne hd ht (fun h => kt (by cases b with | true => rfl | false => exact absurd (bz.mpr rfl) h)) (fun h => kf (bz.mp (by first | exact h | exact Classical.not_not.mp h)))
theorem bz01 (b : Bool) : nI b.toNat = 0 ∨ nI b.toNat = 1 := by cases b <;> decide +kernel
theorem bzn (b : Bool) : nI b.toNat = nI 0 ∨ nI b.toNat = nI 1 := by cases b <;> decide +kernel
theorem x_zretb {P : Int32 → xMem → Prop} {b : Bool} (hd : decode μ.2.1 pc = .ok (.ireturn, 1)) (hr : μ.2.2.2 = some .boolean) (hq : P (nI b.toNat) I) : Wx Λ μ d (xRi P) pc ls [.int (nI b.toNat)] I := x_zreti hd hr (bz01 b) hq
end XN
/-- the class's cells: 0 the object; 1, 6, 10 the digs (held, later, line behind each); 5 the row of images; 14 BestOrders with its rows; 22, 24 the costs -/
def LX : xLay := (26, fun k => match k with
  | 0 => .inr (.inl (4, [some 1, some 5, none, some 14, none, none]))
  | 1 => .inr (.inl (1, [none, some 2, some 3, some 4]))
  | 2 => .inl (0, 8)
  | 3 => .inl (0, 8)
  | 4 => .inl (0, 8)
  | 5 => .inr (.inr (2, 2, fun j => if j = 0 then some 6 else some 10))
  | 6 => .inr (.inl (1, [none, some 7, some 8, some 9]))
  | 7 => .inl (0, 8)
  | 8 => .inl (0, 8)
  | 9 => .inl (0, 8)
  | 10 => .inr (.inl (1, [none, some 11, some 12, some 13]))
  | 11 => .inl (0, 8)
  | 12 => .inl (0, 8)
  | 13 => .inl (0, 8)
  | 14 => .inr (.inl (0, [none, none, none, none, none, some 15, some 16, some 17, some 18, some 19, some 20, some 21, some 22, some 24]))
  | 15 => .inl (0, 2048)
  | 16 => .inl (0, 2048)
  | 17 => .inl (0, 2048)
  | 18 => .inl (0, 2048)
  | 19 => .inl (0, 256)
  | 20 => .inl (0, 256)
  | 21 => .inl (0, 8)
  | 22 => .inr (.inl (2, [some 23]))
  | 23 => .inl (0, 8)
  | 24 => .inr (.inl (3, [some 25]))
  | _ => .inl (0, 8))
/-- the reference's cells: 0 the object, its rows behind it -/
def LM : xLay := (13, fun k => match k with
  | 0 => .inr (.inl (5, [some 1, some 2, some 3, some 4, none, none, none, none, some 5, some 6, some 7, some 8, some 9, some 10, some 11, none, some 12]))
  | 1 => .inl (0, 25)
  | 2 => .inl (0, 50)
  | 3 => .inl (1, 2)
  | 4 => .inl (0, 8)
  | 5 => .inl (0, 8)
  | 6 => .inl (0, 64)
  | 7 => .inl (0, 64)
  | 8 => .inl (0, 8)
  | 9 => .inl (0, 8)
  | 10 => .inl (0, 10)
  | 11 => .inl (1, 256)
  | _ => .inl (0, 8))
