/-! the class: the search for best orders -/
def hrA (h : Nat → Nat) (g : Nat) : Nat := h g &&& 1023
def onO (n : Nat) (a : Nat → Nat) (S _l : Nat) : Nat := on0 n a S
def onA (n : Nat) (h a : Nat → Nat) : Nat → Nat → Nat := on1 n (onO n a) (cR (hrA h))
def tot (n : Nat) (h a : Nat → Nat) : Nat := Wr n (onA n h a) 0 0
def t01 (n : Nat) (h a : Nat → Nat) : Nat := if 0 < tot n h a then 1 else 0
def onB (n : Nat) (h a : Nat → Nat) : Nat → Nat → Nat := on2 n (onA n h a) (t01 n h a)
def BOk (J : xMem) (n : Nat) (h a : Nat → Nat) : Prop := J 14 0 = nI n ∧ J 14 1 = nI (1 <<< n - 1) ∧ J 14 2 = nI (Rr n (onO n a) (cR (hrA h)) 0 0) - nI (pop (fnd h n)) ∧
  (∀ S l, S < 2 ^ n → l < n → J 15 (S * 8 + l) = nI (onB n h a S l)) ∧ (∀ S l, S < 2 ^ n → l < n → isSt S l = true → J 16 (S * 8 + l) = nI (Wr n (onA n h a) S l)) ∧
  (∀ S l, S < 2 ^ n → l < n → isSt S l = true → J 17 (S * 8 + l) = nI (Tr n (onA n h a) (t01 n h a) S l)) ∧ ∀ S, S < 2 ^ n → J 19 S = nI (folF n (onA n h a) (t01 n h a) S n)
theorem on0_bit {n : Nat} {a : Nat → Nat} {S g : Nat} : (on0 n a S).testBit g = (decide (g < n) && (!S.testBit g && decide (a g &&& S = 0))) := rf_bits n g
theorem on0_lt {n : Nat} {a : Nat → Nat} {S : Nat} (hn : n ≤ 8) : on0 n a S < 256 := Nat.lt_of_lt_of_le (rf_bits_lt n) (p2_le hn)
theorem onK_bit {n : Nat} {on : Nat → Nat → Nat} {c : Nat → Nat → Nat → Nat} {S l g : Nat} : (onK n on c S l).testBit g = (decide (Rr n on c S l < 1000000) && (decide (g < n) && ((on S l).testBit g && decide (Rr n on c (S ||| 1 <<< g) g + c S l g = Rr n on c S l)))) := by
  unfold onK
  by_cases h : Rr n on c S l < 1000000
  · rw [if_pos h, decide_eq_true h, Bool.true_and]; exact rf_bits n g
  · rw [if_neg h, decide_eq_false h]; simp
theorem onK_lt {n : Nat} {on : Nat → Nat → Nat} {c : Nat → Nat → Nat → Nat} {S l : Nat} (hn : n ≤ 8) : onK n on c S l < 256 := by
  unfold onK
  split
  · exact Nat.lt_of_lt_of_le (rf_bits_lt n) (p2_le hn)
  · decide
theorem onO_ob {n : Nat} {a : Nat → Nat} {S l g : Nat} (h : (onO n a S l).testBit g = true) : g < n ∧ S.testBit g = false := by
  unfold onO at h; rw [on0_bit] at h
  simp only [Bool.and_eq_true, decide_eq_true_eq, Bool.not_eq_true'] at h
  exact ⟨h.1, h.2.1⟩
theorem onA_sub {n : Nat} {h a : Nat → Nat} {S l g : Nat} (hb : (onA n h a S l).testBit g = true) : (onO n a S l).testBit g = true := by
  unfold onA on1 at hb
  split at hb
  · rw [onK_bit] at hb
    simp only [Bool.and_eq_true] at hb
    exact hb.2.2.1
  · exact hb
theorem onA_ob {n : Nat} {h a : Nat → Nat} {S l g : Nat} (hb : (onA n h a S l).testBit g = true) : g < n ∧ S.testBit g = false := onO_ob (onA_sub hb)
theorem onA_lt {n : Nat} {h a : Nat → Nat} {S l : Nat} (hn : n ≤ 8) : onA n h a S l < 256 := by
  unfold onA on1
  split
  · exact onK_lt hn
  · exact on0_lt hn
theorem onB_sub {n : Nat} {h a : Nat → Nat} {S l g : Nat} (hb : (onB n h a S l).testBit g = true) : (onA n h a S l).testBit g = true := by
  unfold onB on2 at hb
  split at hb
  · simp at hb
  · exact hb
theorem onB_ob {n : Nat} {h a : Nat → Nat} {S l g : Nat} (hb : (onB n h a S l).testBit g = true) : g < n ∧ S.testBit g = false := onA_ob (onB_sub hb)
theorem onB_lt {n : Nat} {h a : Nat → Nat} {S l : Nat} (hn : n ≤ 8) : onB n h a S l < 256 := by
  unfold onB on2
  split
  · decide
  · exact onA_lt hn
theorem rf_sum_le {p : Nat → Bool} {f : Nat → Nat} {B : Nat} (hf : ∀ g, f g ≤ B) : ∀ k, rf (fun s g => if p g then s + f g else s) 0 k ≤ k * B
  | 0 => Nat.zero_le _
  | k + 1 => by
    rw [rf_s, Nat.succ_mul]
    have := rf_sum_le (p := p) hf k
    have := hf k
    split <;> omega
theorem Wst_le (n : Nat) (on : Nat → Nat → Nat) : ∀ (k S l : Nat), Wst n on k S l ≤ n ^ k
  | 0, _, _ => Nat.le_refl _
  | k + 1, S, l => by
    simp only [Wst]
    rw [Nat.pow_succ, Nat.mul_comm]
    exact rf_sum_le (p := fun g => (on S l).testBit g) (fun g => Wst_le n on k (S ||| 1 <<< g) g) n
theorem Tst_le (n : Nat) (on : Nat → Nat → Nat) {t0 : Nat} (ht : t0 ≤ 1) : ∀ (k S l : Nat), Tst n on t0 k S l ≤ n ^ k
  | 0, _, _ => ht
  | k + 1, S, l => by
    simp only [Tst]
    rw [Nat.pow_succ, Nat.mul_comm]
    exact rf_sum_le (p := fun q => isSt (nd S (1 <<< l)) q && (on (nd S (1 <<< l)) q).testBit l) (fun q => Tst_le n on ht k _ q) n
theorem pow88 {n k : Nat} (hn : n ≤ 8) (hk : k ≤ 8) : n ^ k ≤ 16777216 := Nat.le_trans (Nat.pow_le_pow_left hn k) (Nat.le_trans (Nat.pow_le_pow_right (by decide) hk) (by decide))
theorem Wr_le {n : Nat} {on : Nat → Nat → Nat} {S l : Nat} (hn : n ≤ 8) : Wr n on S l ≤ 16777216 := Nat.le_trans (Wst_le n on _ S l) (pow88 hn (Nat.le_trans (rem_le n S) hn))
theorem Tr_le {n : Nat} {on : Nat → Nat → Nat} {t0 S l : Nat} (hn : n ≤ 8) (ht : t0 ≤ 1) : Tr n on t0 S l ≤ 16777216 := Nat.le_trans (Tst_le n on ht _ S l) (pow88 hn (by omega))
theorem t01_le (n : Nat) (h a : Nat → Nat) : t01 n h a ≤ 1 := by unfold t01; split <;> omega
theorem isSt_00 : isSt 0 0 = true := rfl
section XK
variable {I : xMem} {n d : Nat} {h a L : Nat → Nat}
theorem c_search (hd : 4 ≤ d) (h1 : 1 ≤ n) (hn : n ≤ 8) (hh : ∀ g, h g < 1024) (ha : ∀ g, a g < 256) (hD : DigAt I 1 n h a L) : Cx LX yX0_search mX0_search d [.ref 14, .ref 1] I (xRv (fun J => BOk J n h a ∧ J 14 3 = (-6) ∧ ∀ c, c ≠ 14 → c ≠ 15 → c ≠ 16 → c ≠ 17 → c ≠ 18 → c ≠ 19 → c ≠ 23 → J c = I c)) := by
  have hp := p2_le hn
  have h2n : 0 < 2 ^ n := Nat.one_le_two_pow
  have hle : 1 ≤ 1 <<< n := by rw [Nat.one_shiftLeft]; exact Nat.one_le_two_pow
  have hhr : ∀ g, hrA h g < 1024 := fun g => and_lt1024 (hh g)
  have hobO : ∀ S l g, S < 2 ^ n → l < n → (onO n a S l).testBit g = true → g < n ∧ S.testBit g = false := fun S l g _ _ hb => onO_ob hb
  have hltO : ∀ S l, S < 2 ^ n → l < n → onO n a S l < 256 := fun S l _ _ => on0_lt hn
  have hobA : ∀ S l g, S < 2 ^ n → l < n → (onA n h a S l).testBit g = true → g < n ∧ S.testBit g = false := fun S l g _ _ hb => onA_ob hb
  have hltA : ∀ S l, S < 2 ^ n → l < n → onA n h a S l < 256 := fun S l _ _ => onA_lt hn
  refine Cx.of [.ref 14, .ref 1] (by decide) rfl rfl (Nat.le_of_ble_eq_true rfl) rfl ?_
  refine x_aload_n dX0_search_0 rfl ?_
  refine x_aload_n dX0_search_1 rfl ?_
  refine x_getI 1 0 (v := nI n) rfl (by decide) fl_X0_51 dX0_search_2 rfl rfl rfl hD.1 ?_
  refine x_put 0 0 rfl (by decide) fl_X0_57 rfl rfl rfl rfl dX0_search_5 rfl rfl rfl ?_
  generalize hI1 : xup I 14 0 (nI n) = I1
  refine x_aload_n dX0_search_8 rfl ?_
  refine x_iconst dX0_search_9 ic_1 ?_
  refine x_aload_n dX0_search_10 rfl ?_
  refine x_getI 0 0 (v := nI n) rfl (by decide) fl_X0_57 dX0_search_11 rfl rfl rfl (by rw [← hI1, xup_eq, if_pos rfl]) ?_
  refine x_ishl (v := nI (1 <<< n)) dX0_search_14 (nI_shl _ (by omega)) ?_
  refine x_iconst dX0_search_15 ic_1 ?_
  refine x_isub (v := nI ((1 <<< n) - 1)) dX0_search_16 (pk_sub (by omega)) ?_
  refine x_put 0 1 rfl (by decide) fl_X0_58 rfl rfl rfl rfl dX0_search_17 rfl rfl rfl ?_
  generalize hI2 : xup I1 14 1 (nI ((1 <<< n) - 1)) = I2
  refine x_aload_n dX0_search_20 rfl ?_
  refine x_bipush dX0_search_21 bp_m6 ?_
  refine x_put 0 3 rfl (by decide) fl_X0_61 rfl rfl rfl rfl dX0_search_23 rfl rfl rfl ?_
  generalize hI3 : xup I2 14 3 (-6) = I3
  have i14 : ∀ J : xMem, J 14 = I3 14 → J 14 0 = nI n ∧ J 14 1 = nI (1 <<< n - 1) ∧ J 14 3 = (-6) := by
    intro J e
    rw [e, ← hI3]
    refine ⟨?_, ?_, ?_⟩
    · rw [xup_eq, if_neg (by decide), ← hI2, xup_eq, if_neg (by decide), ← hI1, xup_eq, if_pos rfl]
    · rw [xup_eq, if_neg (by decide), ← hI2, xup_eq, if_pos rfl]
    · rw [xup_eq, if_pos rfl]
  have iF : ∀ c, c ≠ 14 → I3 c = I c := fun c hc => by rw [← hI3, xup_ne hc, ← hI2, xup_ne hc, ← hI1, xup_ne hc]
  have q3 := i14 I3 rfl
  refine x_aload_n dX0_search_26 rfl ?_
  refine x_aload_n dX0_search_27 rfl ?_
  refine x_callVv 0 ml_X0_64 in_X0_openAllowed se_X0_openAllowed ct_X0_openAllowed rfl (c_openAllowed (d := 3) (a := a) (by decide) hn ha (by rw [iF 3 (by decide)]; exact hD.2.2.1) q3.1 q3.2.1) dX0_search_28 hd rfl rfl rfl rfl (Nat.le_of_ble_eq_true rfl) (fun J4 h0 => ?_)
  obtain ⟨A1, A2⟩ := h0
  have q4 := i14 J4 (A2 14 (by decide))
  refine x_aload_n dX0_search_31 rfl ?_
  refine x_getR 0 12 rfl (by decide) fl_X0_36 dX0_search_32 rfl rfl rfl ?_
  refine x_aload_n dX0_search_35 rfl ?_
  refine x_sipush dX0_search_36 sp_1023 ?_
  refine x_callVv 2 ml_X0_68 in_X3_lookAt se_X3_lookAt ct_X3_lookAt rfl (c_lookAt3 (d := 3) (h := h) (by rw [A2 2 (by decide), iF 2 (by decide)]; exact hD.2.1)) dX0_search_39 hd rfl rfl rfl rfl (Nat.le_of_ble_eq_true rfl) (fun J5 h0 => ?_)
  obtain ⟨B1, B2⟩ := h0
  have q5 := i14 J5 (by rw [B2 14 (by decide)]; exact A2 14 (by decide))
  have o5 : ∀ S l, S < 2 ^ n → l < n → J5 15 (S * 8 + l) = nI (onO n a S l) := fun S l hS hl => by rw [B2 15 (by decide)]; exact A1 S l hS hl
  refine x_aload_n dX0_search_42 rfl ?_
  refine x_aload_n dX0_search_43 rfl ?_
  refine x_getR 0 12 rfl (by decide) fl_X0_36 dX0_search_44 rfl rfl rfl ?_
  refine x_callVv 0 ml_X0_72 in_X0_costRest se_X0_costRest ct_X0_costRest rfl (c_costRest22 (d := 3) (on := onO n a) (hr := hrA h) (by decide) h1 hn hhr B1 q5.1 q5.2.1 o5 hobO hltO) dX0_search_47 hd rfl rfl rfl rfl (Nat.le_of_ble_eq_true rfl) (fun J6 h0 => ?_)
  obtain ⟨C1, C2⟩ := h0
  have q6 := i14 J6 (by rw [C2 14 (by decide), B2 14 (by decide)]; exact A2 14 (by decide))
  have D6 : DigAt J6 1 n h a L := by
    have e : ∀ c, c ≠ 14 → c ≠ 15 → c ≠ 23 → c ≠ 18 → J6 c = I c := fun c e1 e2 e3 e4 => by rw [C2 c e4, B2 c e3, A2 c e2, iF c e1]
    unfold DigAt
    rw [e 1 (by decide) (by decide) (by decide) (by decide), e (1 + 1) (by decide) (by decide) (by decide) (by decide), e (1 + 2) (by decide) (by decide) (by decide) (by decide), e (1 + 3) (by decide) (by decide) (by decide) (by decide)]
    exact hD
  refine x_aload_n dX0_search_50 rfl ?_
  refine x_aload_n dX0_search_51 rfl ?_
  refine x_getR 0 8 rfl (by decide) fl_X0_21 dX0_search_52 rfl rfl rfl ?_
  refine x_iconst dX0_search_55 ic_0 ?_
  refine x_iald (p := 0) (v := nI (Rr n (onO n a) (cR (hrA h)) 0 0)) dX0_search_56 rfl rfl rfl rfl (by omega) (C1 0 0 h2n (by omega) rfl) ?_
  refine x_aload_n dX0_search_57 rfl ?_
  refine x_callVi 1 ml_X0_76 in_X2_sortsFound se_X2_sortsFound ct_X2_sortsFound rfl (c_sortsFound (d := 0) D6 hn) dX0_search_58 (by omega) rfl rfl rfl rfl (Nat.le_of_ble_eq_true rfl) (fun r0 J0 h0 => ?_)
  obtain ⟨rfl, hJ0⟩ := h0
  obtain rfl := hJ0.symm
  refine x_callSi (as := [.int (nI (fnd h n))]) ml_X0_80 st_J6_bitCount_0f7a4 ct_J6_bitCount_0f7a4 (c_bitCount (d := 0) (fnd_lt hh n)) dX0_search_61 (by omega) rfl rfl (Nat.le_of_ble_eq_true rfl) (fun r0 J0 h0 => ?_)
  obtain ⟨rfl, hJ0⟩ := h0
  obtain rfl := hJ0.symm
  refine x_isub (v := nI (Rr n (onO n a) (cR (hrA h)) 0 0) - nI (pop (fnd h n))) dX0_search_64 rfl ?_
  refine x_put 0 2 rfl (by decide) fl_X0_86 rfl rfl rfl rfl dX0_search_65 rfl rfl rfl ?_
  generalize hI7 : xup J6 14 2 (nI (Rr n (onO n a) (cR (hrA h)) 0 0) - nI (pop (fnd h n))) = I7
  have i7 : ∀ c, c ≠ 14 → I7 c = J6 c := fun c hc => by rw [← hI7, xup_ne hc]
  have z7 : ∀ j, j ≠ 2 → I7 14 j = J6 14 j := fun j hj => by rw [← hI7, xup_eq, if_neg hj]
  have v7 : I7 14 2 = nI (Rr n (onO n a) (cR (hrA h)) 0 0) - nI (pop (fnd h n)) := by rw [← hI7, xup_eq, if_pos rfl]
  refine x_aload_n dX0_search_68 rfl ?_
  refine x_aload_n dX0_search_69 rfl ?_
  refine x_getR 0 12 rfl (by decide) fl_X0_36 dX0_search_70 rfl rfl rfl ?_
  refine x_callVv 0 ml_X0_89 in_X0_keepCheapest se_X0_keepCheapest ct_X0_keepCheapest rfl (c_keepCheapest (d := 3) (on := onO n a) (hr := hrA h) (by decide) hn hhr (by rw [i7 23 (by decide), C2 23 (by decide)]; exact B1) (by rw [z7 0 (by decide)]; exact q6.1) (by rw [z7 1 (by decide)]; exact q6.2.1) (fun S l hS hl => by rw [i7 15 (by decide), C2 15 (by decide)]; exact o5 S l hS hl) hobO hltO (fun S l hS hl hst => by rw [i7 18 (by decide)]; exact C1 S l hS hl hst)) dX0_search_73 hd rfl rfl rfl rfl (Nat.le_of_ble_eq_true rfl) (fun J8 h0 => ?_)
  obtain ⟨E1, E2⟩ := h0
  refine x_aload_n dX0_search_76 rfl ?_
  refine x_callVv 0 ml_X0_92 in_X0_countWaysOn se_X0_countWaysOn ct_X0_countWaysOn rfl (c_countWaysOn (d := 3) (on := onA n h a) (by decide) h1 hn (by rw [E2 14 (by decide), z7 0 (by decide)]; exact q6.1) (by rw [E2 14 (by decide), z7 1 (by decide)]; exact q6.2.1) E1 hobA hltA) dX0_search_77 hd rfl rfl rfl rfl (Nat.le_of_ble_eq_true rfl) (fun J9 h0 => ?_)
  obtain ⟨F1, F2⟩ := h0
  have q9 : J9 14 = I7 14 := by rw [F2 14 (by decide), E2 14 (by decide)]
  have hwl := Wr_le (n := n) (on := onA n h a) (S := 0) (l := 0) hn
  refine x_aload_n dX0_search_80 rfl ?_
  refine x_callVv 0 ml_X0_95 in_X0_countWaysTo se_X0_countWaysTo ct_X0_countWaysTo rfl (c_countWaysTo (d := 3) (on := onA n h a) (t0 := t01 n h a) (tt := tot n h a) (by decide) h1 hn (by rw [q9, z7 0 (by decide)]; exact q6.1) (by rw [q9, z7 1 (by decide)]; exact q6.2.1) (fun S l hS hl => by rw [F2 15 (by decide)]; exact E1 S l hS hl) hobA hltA (F1 0 0 h2n (by omega) rfl) (by show Wr n (onA n h a) 0 0 < _; omega) rfl (fun S l _ _ _ => by have := Tr_le (n := n) (on := onA n h a) (t0 := t01 n h a) (S := S) (l := l) hn (t01_le n h a); omega)) dX0_search_81 hd rfl rfl rfl rfl (Nat.le_of_ble_eq_true rfl) (fun J0 h0 => ?_)
  obtain ⟨G1, G2, G3, G4⟩ := h0
  have q10 : J0 14 = I7 14 := by rw [G4 14 (by decide) (by decide) (by decide)]; exact q9
  refine x_vretv dX0_search_84 rfl ⟨⟨?_, ?_, ?_, fun S l hS hl => ?_, fun S l hS hl hst => ?_, fun S l hS hl hst => ?_, G3⟩, ?_, fun c e1 e2 e3 e4 e5 e6 e7 => ?_⟩
  · rw [q10, z7 0 (by decide)]; exact q6.1
  · rw [q10, z7 1 (by decide)]; exact q6.2.1
  · rw [q10]; exact v7
  · rw [G2 S l hS hl, if_pos (by omega)]; rfl
  · rw [G4 16 (by decide) (by decide) (by decide)]; exact F1 S l hS hl hst
  · rw [G1 S l hS hl hst]
    congr 1
    unfold Vw
    by_cases e0 : S = 0
    · rw [if_pos e0, e0, Tr_0]
    · have hb : S.testBit l = true := by unfold isSt at hst; rwa [if_neg e0] at hst
      rw [if_neg e0, if_pos (by have := nd_lt hb; omega)]
  · rw [q10, z7 3 (by decide)]; exact q6.2.2
  · rw [G4 c e2 e4 e6, F2 c e3, E2 c e2, i7 c e1, C2 c e5, B2 c e7, A2 c e2, iF c e1]
end XK
