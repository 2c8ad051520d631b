/-! the class: what is asked of best orders, on -/
/-- of the next graves those that don't part what is to lie together -/
def bar (w S x : Nat) : Nat := if partB w S then x &&& w else x
theorem bar_I (w S x : Nat) : nI x &&& ((if partB w S then nI w ^^^ (-1) else nI 0) ^^^ (-1)) = nI (bar w S x) := by
  unfold bar
  have hx : ∀ y : Int32, y ^^^ (-1) ^^^ (-1) = y := fun y => by rw [Int32.xor_assoc]; simp
  cases partB w S with
  | true => rw [if_pos rfl, if_pos rfl, hx, nI_and]
  | false =>
    rw [if_neg (by decide), if_neg (by decide)]
    have : nI 0 ^^^ (-1) = (-1 : Int32) := by decide +kernel
    rw [this]
    apply Int32.toBitVec_inj.mp
    show BitVec.ofNat 32 x &&& BitVec.allOnes 32 = BitVec.ofNat 32 x
    exact BitVec.and_allOnes
theorem bar_bit {w S x g : Nat} (h : (bar w S x).testBit g = true) : x.testBit g = true := by
  unfold bar at h
  split at h
  · rw [Nat.testBit_and] at h; exact (Bool.and_eq_true _ _ |>.mp h).1
  · exact h
theorem bar_lt {w S x : Nat} (h : x < 256) : bar w S x < 256 := by
  unfold bar
  split
  · exact Nat.lt_of_le_of_lt Nat.and_le_left h
  · exact h
def onT (n : Nat) (h a : Nat → Nat) (w S l : Nat) : Nat := bar w S (onB n h a S l)
theorem onT_ob {n : Nat} {h a : Nat → Nat} {w S l g : Nat} (hb : (onT n h a w S l).testBit g = true) : g < n ∧ S.testBit g = false := onB_ob (bar_bit hb)
section XQ
variable {I : xMem} {n d : Nat} {h a L : Nat → Nat}
theorem c_ordersWithTogether {w : Nat} (hd : 2 ≤ d) (h1 : 1 ≤ n) (hn : n ≤ 8) (hw : w < 256) (hB : BOk I n h a) : Cx LX yX0_ordersWithTogether mX0_ordersWithTogether d [.ref 14, .int (nI w)] I (xRi (fun r J => r = nI (Wr n (onT n h a w) 0 0) ∧ ∀ c, c ≠ 18 → J c = I c)) := by
  have hp := p2_le hn
  have hfl : 1 <<< n - 1 + 1 = 2 ^ n := by rw [Nat.one_shiftLeft]; have := Nat.one_le_two_pow (n := n); omega
  have inn : ∀ (k l S : Nat) (v5 : Value) (J : xMem), l + k = n → S < 2 ^ n → (∀ S' l, S < S' → S' < 2 ^ n → l < n → isSt S' l = true → J 18 (S' * 8 + l) = nI (Wr n (onT n h a w) S' l)) → (∀ q, q < l → isSt S q = true → J 18 (S * 8 + q) = nI (Wr n (onT n h a w) S q)) → (∀ c, c ≠ 18 → J c = I c) →
      (∀ (v3 v4 v5 : Value) (J : xMem), (∀ S' l, S ≤ S' → S' < 2 ^ n → l < n → isSt S' l = true → J 18 (S' * 8 + l) = nI (Wr n (onT n h a w) S' l)) → (∀ c, c ≠ 18 → J c = I c) → Wx LX mX0_ordersWithTogether d (xRi (fun r J => r = nI (Wr n (onT n h a w) 0 0) ∧ ∀ c, c ≠ 18 → J c = I c)) 5 [.ref 14, .int (nI w), .int (nI S - nI 1), v3, v4, v5] [] J) →
      Wx LX mX0_ordersWithTogether d (xRi (fun r J => r = nI (Wr n (onT n h a w) 0 0) ∧ ∀ c, c ≠ 18 → J c = I c)) 18 [.ref 14, .int (nI w), .int (nI S), .int (if partB w S then nI w ^^^ (-1) else nI 0), .int (nI l), v5] [] J := by
    intro k
    induction k with
    | zero =>
      intro l S v5 J hl hS j1 j2 jf kk
      refine x_iload dX0_ordersWithTogether_18 rfl ?_
      refine x_aload_n dX0_ordersWithTogether_20 rfl ?_
      refine x_getI 0 0 (v := nI n) rfl (by decide) fl_X0_57 dX0_ordersWithTogether_21 rfl rfl rfl (by rw [jf 14 (by decide)]; exact hB.1) ?_
      refine x_icmpn_ge (a := l) (b := n) (by omega) (by omega) (tgt := 89) dX0_ordersWithTogether_24 rfl (fun c => ?_) (fun c => ?_)
      ·
        refine x_iinc (v := nI S - nI 1) (ls' := [.ref 14, .int (nI w), .int (nI S - nI 1), .int (if partB w S then nI w ^^^ (-1) else nI 0), .int (nI l), v5]) dX0_ordersWithTogether_89 rfl (dec_raw _) rfl rfl ?_
        refine x_goto (tgt := 5) dX0_ordersWithTogether_92 rfl ?_
        refine kk _ _ _ J (fun S' q hS' hS2 hq hst => ?_) jf
        rcases Nat.lt_or_ge S S' with e | e
        · exact j1 S' q e hS2 hq hst
        · have e : S' = S := by omega
          subst e; exact j2 q (by omega) hst
      ·
        omega
    | succ k ih =>
      intro l S v5 J hl hS j1 j2 jf kk
      have hS8 : S * 8 + l < 2048 := by omega
      have j14 : J 14 0 = nI n := by rw [jf 14 (by decide)]; exact hB.1
      have stx : ∀ (x : Nat), isSt S l = true → x = Wr n (onT n h a w) S l → Wx LX mX0_ordersWithTogether d (xRi (fun r J => r = nI (Wr n (onT n h a w) 0 0) ∧ ∀ c, c ≠ 18 → J c = I c)) 82 [.ref 14, .int (nI w), .int (nI S), .int (if partB w S then nI w ^^^ (-1) else nI 0), .int (nI l), .int (nI (S * 8 + l))] [.int (nI x), .int (nI (S * 8 + l)), .ref 18] J := by
        intro x hst ex
        refine x_iast (p := S * 8 + l) dX0_ordersWithTogether_82 rfl rfl rfl rfl (by omega) ?_
        generalize hK1 : xup J 18 (S * 8 + l) (nI x) = K1
        refine x_iinc (v := nI (l + 1)) (ls' := [.ref 14, .int (nI w), .int (nI S), .int (if partB w S then nI w ^^^ (-1) else nI 0), .int (nI (l + 1)), .int (nI (S * 8 + l))]) dX0_ordersWithTogether_83 rfl (inc_1 _) rfl rfl ?_
        refine x_goto (tgt := 18) dX0_ordersWithTogether_86 rfl ?_
        refine ih (l + 1) S _ K1 (by omega) hS (fun S' q hS' hS2 hq h2 => ?_) (fun q hq h2 => ?_) (fun c hc => by rw [← hK1, xup_ne hc]; exact jf c hc) kk
        · rw [← hK1, xup_eq, if_neg (by omega)]; exact j1 S' q hS' hS2 hq h2
        · rw [← hK1, xup_eq]
          by_cases e : q = l
          · subst e; rw [if_pos rfl, ex]
          · rw [if_neg (by omega)]; exact j2 q (by omega) h2
      refine x_iload dX0_ordersWithTogether_18 rfl ?_
      refine x_aload_n dX0_ordersWithTogether_20 rfl ?_
      refine x_getI 0 0 (v := nI n) rfl (by decide) fl_X0_57 dX0_ordersWithTogether_21 rfl rfl rfl j14 ?_
      refine x_icmpn_ge (a := l) (b := n) (by omega) (by omega) (tgt := 89) dX0_ordersWithTogether_24 rfl (fun c => ?_) (fun c => ?_)
      ·
        omega
      ·
        refine x_iload_n dX0_ordersWithTogether_27 rfl ?_
        refine x_iload dX0_ordersWithTogether_28 rfl ?_
        refine x_callSi (as := [.int (nI S), .int (nI l)]) ml_X0_105 st_X0_isState ct_X0_isState (c_isState (d := 1) (by decide) (by omega) (by omega)) dX0_ordersWithTogether_30 (by omega) rfl rfl (Nat.le_of_ble_eq_true rfl) (fun r0 J0 h0 => ?_)
        obtain ⟨rfl, hJ0⟩ := h0
        obtain rfl := hJ0.symm
        refine x_ifb_eq (b := isSt S l) (tgt := 83) dX0_ordersWithTogether_33 rfl (fun c2 => ?_) (fun c2 => ?_)
        ·
          refine x_iinc (v := nI (l + 1)) (ls' := [.ref 14, .int (nI w), .int (nI S), .int (if partB w S then nI w ^^^ (-1) else nI 0), .int (nI (l + 1)), v5]) dX0_ordersWithTogether_83 rfl (inc_1 _) rfl rfl ?_
          refine x_goto (tgt := 18) dX0_ordersWithTogether_86 rfl ?_
          refine ih (l + 1) S _ J (by omega) hS j1 (fun q hq h2 => ?_) jf kk
          by_cases e : q = l
          · subst e; rw [c2] at h2; cases h2
          · exact j2 q (by omega) h2
        ·
          refine x_iload_n dX0_ordersWithTogether_36 rfl ?_
          refine x_iload dX0_ordersWithTogether_37 rfl ?_
          refine x_callSi (as := [.int (nI S), .int (nI l)]) ml_X0_101 st_X0_stateOf ct_X0_stateOf (c_stateOf (d := 0)) dX0_ordersWithTogether_39 (by omega) rfl rfl (Nat.le_of_ble_eq_true rfl) (fun r0 J0 h0 => ?_)
          obtain ⟨rfl, hJ0⟩ := h0
          obtain rfl := hJ0.symm
          refine x_istore (ls' := [.ref 14, .int (nI w), .int (nI S), .int (if partB w S then nI w ^^^ (-1) else nI 0), .int (nI l), .int (nI (S * 8 + l))]) dX0_ordersWithTogether_42 rfl rfl ?_
          refine x_aload_n dX0_ordersWithTogether_44 rfl ?_
          refine x_getR 0 8 rfl (by decide) fl_X0_21 dX0_ordersWithTogether_45 rfl rfl rfl ?_
          refine x_iload dX0_ordersWithTogether_48 rfl ?_
          refine x_iload_n dX0_ordersWithTogether_50 rfl ?_
          refine x_aload_n dX0_ordersWithTogether_51 rfl ?_
          refine x_getI 0 1 (v := nI (1 <<< n - 1)) rfl (by decide) fl_X0_58 dX0_ordersWithTogether_52 rfl rfl rfl (by rw [jf 14 (by decide)]; exact hB.2.1) ?_
          refine x_icmpn_ne (a := S) (b := 1 <<< n - 1) (by omega) (by omega) (tgt := 62) dX0_ordersWithTogether_55 rfl (fun c3 => ?_) (fun c3 => ?_)
          ·
            have hrem : rem n S ≠ 0 := fun e => c3 ((rem_0 hS).mp e)
            obtain ⟨k', hk'⟩ : ∃ k', rem n S = k' + 1 := ⟨rem n S - 1, by omega⟩
            refine x_aload_n dX0_ordersWithTogether_62 rfl ?_
            refine x_aload_n dX0_ordersWithTogether_63 rfl ?_
            refine x_getR 0 8 rfl (by decide) fl_X0_21 dX0_ordersWithTogether_64 rfl rfl rfl ?_
            refine x_aload_n dX0_ordersWithTogether_67 rfl ?_
            refine x_getR 0 5 rfl (by decide) fl_X0_9 dX0_ordersWithTogether_68 rfl rfl rfl ?_
            refine x_iload dX0_ordersWithTogether_71 rfl ?_
            refine x_iald (p := (S * 8 + l)) (v := nI (onB n h a S l)) dX0_ordersWithTogether_73 rfl rfl rfl rfl (by omega) (by rw [jf 15 (by decide)]; exact hB.2.2.2.1 S l hS (by omega)) ?_
            refine x_iload_n dX0_ordersWithTogether_74 rfl ?_
            refine x_iconst dX0_ordersWithTogether_75 ic_m1 ?_
            refine x_ixor (v := (if partB w S then nI w ^^^ (-1) else nI 0) ^^^ (-1)) dX0_ordersWithTogether_76 rfl ?_
            refine x_iand (v := nI (onT n h a w S l)) dX0_ordersWithTogether_77 (bar_I w S _) ?_
            refine x_iload_n dX0_ordersWithTogether_78 rfl ?_
            refine x_callVi 0 ml_X0_130 in_X0_sumOver se_X0_sumOver ct_X0_sumOver rfl (c_sumOver18 (d := 1) (f := fun S g => Wr n (onT n h a w) S g) (by decide) hn hS (bar_lt (onB_lt hn)) (fun g hg => onT_ob hg) j14 (fun g hg hb => j1 _ g (or_gt hb) (or_lt hS hg) hg (isSt_or S g))) dX0_ordersWithTogether_79 hd rfl rfl rfl rfl (Nat.le_of_ble_eq_true rfl) (fun r0 J0 h0 => ?_)
            obtain ⟨rfl, hJ0⟩ := h0
            obtain rfl := hJ0.symm
            exact stx _ c2 (Wr_step hk' (fun g hg => onT_ob hg)).symm
          ·
            refine x_iconst dX0_ordersWithTogether_58 ic_1 ?_
            refine x_goto (tgt := 82) dX0_ordersWithTogether_59 rfl ?_
            exact stx 1 c2 (by rw [Wr, (rem_0 hS).mpr c3]; rfl)
  have out : ∀ (K : Nat) (v3 v4 v5 : Value) (J : xMem), K ≤ 2 ^ n → (∀ S' l, K ≤ S' → S' < 2 ^ n → l < n → isSt S' l = true → J 18 (S' * 8 + l) = nI (Wr n (onT n h a w) S' l)) → (∀ c, c ≠ 18 → J c = I c) → Wx LX mX0_ordersWithTogether d (xRi (fun r J => r = nI (Wr n (onT n h a w) 0 0) ∧ ∀ c, c ≠ 18 → J c = I c)) 5 [.ref 14, .int (nI w), .int (nI K - nI 1), v3, v4, v5] [] J := by
    intro K
    induction K with
    | zero =>
      intro v3 v4 v5 J hK j1 jf
      rw [show nI 0 - nI 1 = (-1) by decide +kernel]
      refine x_iload_n dX0_ordersWithTogether_5 rfl ?_
      refine x_if_lt (tgt := 95) dX0_ordersWithTogether_6 rfl (fun c => ?_) (fun c => ?_)
      ·
        refine x_aload_n dX0_ordersWithTogether_95 rfl ?_
        refine x_getR 0 8 rfl (by decide) fl_X0_21 dX0_ordersWithTogether_96 rfl rfl rfl ?_
        refine x_iconst dX0_ordersWithTogether_99 ic_0 ?_
        refine x_iald (p := 0) (v := nI (Wr n (onT n h a w) 0 0)) dX0_ordersWithTogether_100 rfl rfl rfl rfl (by omega) (j1 0 0 (Nat.le_refl _) Nat.one_le_two_pow (by omega) rfl) ?_
        refine x_ireti dX0_ordersWithTogether_101 rfl ⟨rfl, jf⟩
      ·
        exact absurd (by decide +kernel) c
    | succ K ih =>
      intro v3 v4 v5 J hK j1 jf
      rw [pk_sub (by omega), show K + 1 - 1 = K by omega]
      refine x_iload_n dX0_ordersWithTogether_5 rfl ?_
      refine x_ifn_lt (a := K) (by omega) (tgt := 95) dX0_ordersWithTogether_6 rfl (fun c => ?_) (fun c => ?_)
      ·
        exact absurd c id
      ·
        refine x_iload_n dX0_ordersWithTogether_9 rfl ?_
        refine x_iload_n dX0_ordersWithTogether_10 rfl ?_
        refine x_callSi (as := [.int (nI w), .int (nI K)]) ml_X0_150 st_X0_nextThatPart ct_X0_nextThatPart (c_nextThatPart (d := 0) (by omega)) dX0_ordersWithTogether_11 (by omega) rfl rfl (Nat.le_of_ble_eq_true rfl) (fun r0 J0 h0 => ?_)
        obtain ⟨rfl, hJ0⟩ := h0
        obtain rfl := hJ0.symm
        refine x_istore_n (ls' := [.ref 14, .int (nI w), .int (nI K), .int (if partB w K then nI w ^^^ (-1) else nI 0), v4, v5]) dX0_ordersWithTogether_14 rfl rfl ?_
        refine x_iconst dX0_ordersWithTogether_15 ic_0 ?_
        refine x_istore (ls' := [.ref 14, .int (nI w), .int (nI K), .int (if partB w K then nI w ^^^ (-1) else nI 0), .int (nI 0), v5]) dX0_ordersWithTogether_16 rfl rfl ?_
        exact inn n 0 K _ J (by omega) (by omega) (fun S' q hS' hS2 hq hst => j1 S' q (by omega) hS2 hq hst) (fun q hq => by omega) jf (fun v3 v4 v5 J a1 a2 => ih v3 v4 v5 J (by omega) a1 a2)
  have e0 := out (2 ^ n) .null .null .null I (Nat.le_refl _) (fun S' l h1 h2 => by omega) (fun _ _ => rfl)
  rw [pk_sub Nat.one_le_two_pow, show 2 ^ n - 1 = 1 <<< n - 1 by omega] at e0
  refine Cx.of [.ref 14, .int (nI w), .null, .null, .null, .null] (by decide) rfl rfl (Nat.le_of_ble_eq_true rfl) rfl ?_
  refine x_aload_n dX0_ordersWithTogether_0 rfl ?_
  refine x_getI 0 1 (v := nI (1 <<< n - 1)) rfl (by decide) fl_X0_58 dX0_ordersWithTogether_1 rfl rfl rfl hB.2.1 ?_
  refine x_istore_n (ls' := [.ref 14, .int (nI w), .int (nI (1 <<< n - 1)), .null, .null, .null]) dX0_ordersWithTogether_4 rfl rfl ?_
  exact e0
def prt (n : Nat) (h a : Nat → Nat) (w S : Nat) : Nat := if partB w S then nd (fol n h a S) w else 0
theorem prt_I (n : Nat) (h a : Nat → Nat) (w S : Nat) : nI (fol n h a S) &&& (if partB w S then nI w ^^^ (-1) else nI 0) = nI (prt n h a w S) := by
  unfold prt
  cases partB w S with
  | true => rw [if_pos rfl, if_pos rfl, nI_nd]
  | false => rw [if_neg (by decide), if_neg (by decide), nI_and]; simp
theorem rf_or_lt {p : Nat → Bool} {f : Nat → Nat} (hf : ∀ g, f g < 256) : ∀ k, rf (fun s q => if p q then s ||| f q else s) 0 k < 256
  | 0 => by rw [rf_0]; decide
  | k + 1 => by
    rw [rf_s]
    have := rf_or_lt (p := p) hf k
    split
    · exact Nat.or_lt_two_pow (n := 8) this (hf k)
    · exact this
theorem fol_lt {n : Nat} {h a : Nat → Nat} {S : Nat} (hn : n ≤ 8) : fol n h a S < 256 := rf_or_lt (p := fun q => isSt S q) (fun g => onB_lt hn) n
theorem prt_lt {n : Nat} {h a : Nat → Nat} {w S : Nat} (hn : n ≤ 8) : prt n h a w S < 256 := by
  unfold prt
  split
  · exact Nat.lt_of_le_of_lt (nd_le _ _) (fol_lt hn)
  · decide
def ltA (n : Nat) (h a : Nat → Nat) (w : Nat) : Bool := (List.range (2 ^ n)).all (fun S => decide (prt n h a w S = 0))
theorem prt_00 (n : Nat) (h a : Nat → Nat) (w : Nat) : prt n h a w 0 = 0 := by
  unfold prt partB; simp
theorem c_liesTogetherInAll {w : Nat} (hd : 1 ≤ d) (hn : n ≤ 8) (hw : w < 256) (hB : BOk I n h a) : Cx LX yX0_liesTogetherInAll mX0_liesTogetherInAll d [.ref 14, .int (nI w)] I (xRi (fun r J => r = nI (ltA n h a w).toNat ∧ J = I)) := by
  have hp := p2_le hn
  have hfl : 1 <<< n - 1 + 1 = 2 ^ n := by rw [Nat.one_shiftLeft]; have := Nat.one_le_two_pow (n := n); omega
  have lp : ∀ (k S : Nat), S + k = 2 ^ n → (∀ q, q < S → prt n h a w q = 0) → Wx LX mX0_liesTogetherInAll d (xRi (fun r J => r = nI (ltA n h a w).toNat ∧ J = I)) 2 [.ref 14, .int (nI w), .int (nI S)] [] I := by
    intro k
    induction k with
    | zero =>
      intro S hS hno
      refine x_iload_n dX0_liesTogetherInAll_2 rfl ?_
      refine x_aload_n dX0_liesTogetherInAll_3 rfl ?_
      refine x_getI 0 1 (v := nI (1 <<< n - 1)) rfl (by decide) fl_X0_58 dX0_liesTogetherInAll_4 rfl rfl rfl hB.2.1 ?_
      refine x_icmpn_gt (a := S) (b := 1 <<< n - 1) (by omega) (by omega) (tgt := 33) dX0_liesTogetherInAll_7 rfl (fun c => ?_) (fun c => ?_)
      ·
        refine x_iconst dX0_liesTogetherInAll_33 ic_1 ?_
        refine x_zretb (b := true) dX0_liesTogetherInAll_34 rfl ⟨?_, rfl⟩
        have : ltA n h a w = true := by
          unfold ltA; rw [List.all_eq_true]; intro S hS; exact decide_eq_true (hno S (by have := List.mem_range.mp hS; omega))
        rw [this]
      ·
        omega
    | succ k ih =>
      intro S hS hno
      have hpl := prt_lt (n := n) (h := h) (a := a) (w := w) (S := S) hn
      refine x_iload_n dX0_liesTogetherInAll_2 rfl ?_
      refine x_aload_n dX0_liesTogetherInAll_3 rfl ?_
      refine x_getI 0 1 (v := nI (1 <<< n - 1)) rfl (by decide) fl_X0_58 dX0_liesTogetherInAll_4 rfl rfl rfl hB.2.1 ?_
      refine x_icmpn_gt (a := S) (b := 1 <<< n - 1) (by omega) (by omega) (tgt := 33) dX0_liesTogetherInAll_7 rfl (fun c => ?_) (fun c => ?_)
      ·
        omega
      ·
        refine x_aload_n dX0_liesTogetherInAll_10 rfl ?_
        refine x_getR 0 9 rfl (by decide) fl_X0_24 dX0_liesTogetherInAll_11 rfl rfl rfl ?_
        refine x_iload_n dX0_liesTogetherInAll_14 rfl ?_
        refine x_iald (p := S) (v := nI (fol n h a S)) dX0_liesTogetherInAll_15 rfl rfl rfl rfl (by omega) (hB.2.2.2.2.2.2 S (by omega)) ?_
        refine x_iload_n dX0_liesTogetherInAll_16 rfl ?_
        refine x_iload_n dX0_liesTogetherInAll_17 rfl ?_
        refine x_callSi (as := [.int (nI w), .int (nI S)]) ml_X0_150 st_X0_nextThatPart ct_X0_nextThatPart (c_nextThatPart (d := 0) (by omega)) dX0_liesTogetherInAll_18 hd rfl rfl (Nat.le_of_ble_eq_true rfl) (fun r0 J0 h0 => ?_)
        obtain ⟨rfl, hJ0⟩ := h0
        obtain rfl := hJ0.symm
        refine x_iand (v := nI (prt n h a w S)) dX0_liesTogetherInAll_21 (prt_I n h a w S) ?_
        refine x_ifn_eq (a := prt n h a w S) (by omega) (tgt := 27) dX0_liesTogetherInAll_22 rfl (fun c2 => ?_) (fun c2 => ?_)
        ·
          refine x_iinc (v := nI (S + 1)) (ls' := [.ref 14, .int (nI w), .int (nI (S + 1))]) dX0_liesTogetherInAll_27 rfl (inc_1 _) rfl rfl ?_
          refine x_goto (tgt := 2) dX0_liesTogetherInAll_30 rfl ?_
          exact ih (S + 1) (by omega) (fun q hq => by rcases (show q < S ∨ q = S by omega) with e | rfl; exact hno q e; exact c2)
        ·
          refine x_iconst dX0_liesTogetherInAll_25 ic_0 ?_
          refine x_zretb (b := false) dX0_liesTogetherInAll_26 rfl ⟨?_, rfl⟩
          have : ltA n h a w = false := by
            unfold ltA; rw [List.all_eq_false]; exact ⟨S, List.mem_range.mpr (by omega), by simpa using c2⟩
          rw [this]
  have h1p := Nat.one_le_two_pow (n := n)
  refine Cx.of [.ref 14, .int (nI w), .null] (by decide) rfl rfl (Nat.le_of_ble_eq_true rfl) rfl ?_
  refine x_iconst dX0_liesTogetherInAll_0 ic_1 ?_
  refine x_istore_n (ls' := [.ref 14, .int (nI w), .int (nI 1)]) dX0_liesTogetherInAll_1 rfl rfl ?_
  exact lp (2 ^ n - 1) 1 (by omega) (fun q hq => by rw [show q = 0 by omega]; exact prt_00 n h a w)
def clC (n : Nat) (h a : Nat → Nat) (w : Nat) : Bool := decide (0 < tot n h a) && (decide (1 < pop w) && ltA n h a w)
def clL (n : Nat) (h a : Nat → Nat) : List Nat := (List.range (2 ^ n)).filter (clC n h a)
def CLk (J : xMem) (n : Nat) (h a : Nat → Nat) : Prop := J 14 3 = nI (clL n h a).length ∧ ∀ i S, (clL n h a)[i]? = some S → J 20 i = nI S
theorem BOk.kept {I J : xMem} (hB : BOk I n h a) (h14 : ∀ j, j ≠ 3 → j ≠ 4 → J 14 j = I 14 j) (h15 : J 15 = I 15) (h16 : J 16 = I 16) (h17 : J 17 = I 17) (h19 : J 19 = I 19) : BOk J n h a := by
  unfold BOk
  rw [h14 0 (by decide) (by decide), h14 1 (by decide) (by decide), h14 2 (by decide) (by decide), h15, h16, h17, h19]
  exact hB
theorem c_gatherClumps (hd : 2 ≤ d) (h1n : 1 ≤ n) (hn : n ≤ 8) (hB : BOk I n h a) (hc : I 14 3 = (-6) ∨ CLk I n h a) : Cx LX yX0_gatherClumps mX0_gatherClumps d [.ref 14] I (xRv (fun J => CLk J n h a ∧ (∀ j, j ≠ 3 → J 14 j = I 14 j) ∧ ∀ c, c ≠ 14 → c ≠ 20 → J c = I c)) := by
  have hp := p2_le hn
  have hfl : 1 <<< n - 1 + 1 = 2 ^ n := by rw [Nat.one_shiftLeft]; have := Nat.one_le_two_pow (n := n); omega
  have hwl := Wr_le (n := n) (on := onA n h a) (S := 0) (l := 0) hn
  have htl : tot n h a ≤ 16777216 := hwl
  have hbl : ∀ k, ((List.range k).filter (clC n h a)).length ≤ k := fun k => by have := List.length_filter_le (clC n h a) (List.range k); rw [List.length_range] at this; exact this
  have lp : ∀ (k S : Nat) (J : xMem), S + k = 2 ^ n → 0 < tot n h a → J 14 3 = nI ((List.range S).filter (clC n h a)).length → (∀ i q, ((List.range S).filter (clC n h a))[i]? = some q → J 20 i = nI q) → (∀ j, j ≠ 3 → J 14 j = I 14 j) → (∀ c, c ≠ 14 → c ≠ 20 → J c = I c) → Wx LX mX0_gatherClumps d (xRv (fun J => CLk J n h a ∧ (∀ j, j ≠ 3 → J 14 j = I 14 j) ∧ ∀ c, c ≠ 14 → c ≠ 20 → J c = I c)) 17 [.ref 14, .int (nI S)] [] J := by
    intro k
    induction k with
    | zero =>
      intro S J hS htt e3 e20 e14 jf
      have e : S = 2 ^ n := by omega
      subst e
      refine x_iload_n dX0_gatherClumps_17 rfl ?_
      refine x_aload_n dX0_gatherClumps_18 rfl ?_
      refine x_getI 0 1 (v := nI (1 <<< n - 1)) rfl (by decide) fl_X0_58 dX0_gatherClumps_19 rfl rfl rfl (by rw [e14 1 (by decide)]; exact hB.2.1) ?_
      refine x_icmpn_gt (a := 2 ^ n) (b := 1 <<< n - 1) (by omega) (by omega) (tgt := 74) dX0_gatherClumps_22 rfl (fun c => ?_) (fun c => ?_)
      ·
        refine x_vretv dX0_gatherClumps_74 rfl ⟨⟨e3, e20⟩, e14, jf⟩
      ·
        omega
    | succ k ih =>
      intro S J hS htt e3 e20 e14 jf
      have hBJ : BOk J n h a := hB.kept (fun j h3 _ => e14 j h3) (jf 15 (by decide) (by decide)) (jf 16 (by decide) (by decide)) (jf 17 (by decide) (by decide)) (jf 19 (by decide) (by decide))
      have es : (List.range (S + 1)).filter (clC n h a) = (List.range S).filter (clC n h a) ++ [S].filter (clC n h a) := by rw [List.range_succ, List.filter_append]
      have key := ih (S + 1)
      rw [es] at key
      have hb := hbl S
      have hpl := pop_le S
      refine x_iload_n dX0_gatherClumps_17 rfl ?_
      refine x_aload_n dX0_gatherClumps_18 rfl ?_
      refine x_getI 0 1 (v := nI (1 <<< n - 1)) rfl (by decide) fl_X0_58 dX0_gatherClumps_19 rfl rfl rfl (by rw [e14 1 (by decide)]; exact hB.2.1) ?_
      refine x_icmpn_gt (a := S) (b := 1 <<< n - 1) (by omega) (by omega) (tgt := 74) dX0_gatherClumps_22 rfl (fun c => ?_) (fun c => ?_)
      ·
        omega
      ·
        refine x_aload_n dX0_gatherClumps_25 rfl ?_
        refine x_callVi 0 ml_X0_134 in_X0_total se_X0_total ct_X0_total rfl (c_total (d := 0) (t := tot n h a) (hBJ.2.2.2.2.1 0 0 Nat.one_le_two_pow (by omega) rfl)) dX0_gatherClumps_26 (by omega) rfl rfl rfl rfl (Nat.le_of_ble_eq_true rfl) (fun r0 J0 h0 => ?_)
        obtain ⟨rfl, hJ0⟩ := h0
        obtain rfl := hJ0.symm
        refine x_ifn_le (a := tot n h a) (by omega) (tgt := 74) dX0_gatherClumps_29 rfl (fun c1 => ?_) (fun c1 => ?_)
        ·
          omega
        ·
          refine x_iload_n dX0_gatherClumps_32 rfl ?_
          refine x_callSi (as := [.int (nI S)]) ml_X0_80 st_J6_bitCount_0f7a4 ct_J6_bitCount_0f7a4 (c_bitCount (d := 0) (by omega)) dX0_gatherClumps_33 (by omega) rfl rfl (Nat.le_of_ble_eq_true rfl) (fun r0 J0 h0 => ?_)
          obtain ⟨rfl, hJ0⟩ := h0
          obtain rfl := hJ0.symm
          refine x_iconst dX0_gatherClumps_36 ic_1 ?_
          refine x_icmpn_le (a := pop S) (b := 1) (by omega) (by omega) (tgt := 68) dX0_gatherClumps_37 rfl (fun c2 => ?_) (fun c2 => ?_)
          ·
            refine x_iinc (v := nI (S + 1)) (ls' := [.ref 14, .int (nI (S + 1))]) dX0_gatherClumps_68 rfl (inc_1 _) rfl rfl ?_
            refine x_goto (tgt := 17) dX0_gatherClumps_71 rfl ?_
            have ef : clC n h a S = false := by simp [clC, Nat.not_lt.mpr c2]
            simp [ef] at key
            exact key J (by omega) htt e3 e20 e14 jf
          ·
            refine x_aload_n dX0_gatherClumps_40 rfl ?_
            refine x_iload_n dX0_gatherClumps_41 rfl ?_
            refine x_callVi 0 ml_X0_153 in_X0_liesTogetherInAll se_X0_liesTogetherInAll ct_X0_liesTogetherInAll rfl (c_liesTogetherInAll (d := 1) (by decide) hn (by omega) hBJ) dX0_gatherClumps_42 hd rfl rfl rfl rfl (Nat.le_of_ble_eq_true rfl) (fun r0 J0 h0 => ?_)
            obtain ⟨rfl, hJ0⟩ := h0
            obtain rfl := hJ0.symm
            refine x_ifb_eq (b := ltA n h a S) (tgt := 68) dX0_gatherClumps_45 rfl (fun c3 => ?_) (fun c3 => ?_)
            ·
              refine x_iinc (v := nI (S + 1)) (ls' := [.ref 14, .int (nI (S + 1))]) dX0_gatherClumps_68 rfl (inc_1 _) rfl rfl ?_
              refine x_goto (tgt := 17) dX0_gatherClumps_71 rfl ?_
              have ef : clC n h a S = false := by simp [clC, c3]
              simp [ef] at key
              exact key J (by omega) htt e3 e20 e14 jf
            ·
              have ef : clC n h a S = true := by simp [clC, c3, c2, htt]
              simp [ef] at key
              refine x_aload_n dX0_gatherClumps_48 rfl ?_
              refine x_getR 0 10 rfl (by decide) fl_X0_27 dX0_gatherClumps_49 rfl rfl rfl ?_
              refine x_aload_n dX0_gatherClumps_52 rfl ?_
              refine x_getI 0 3 (v := nI (((List.range S).filter (clC n h a)).length)) rfl (by decide) fl_X0_61 dX0_gatherClumps_53 rfl rfl rfl e3 ?_
              refine x_iload_n dX0_gatherClumps_56 rfl ?_
              refine x_iast (p := ((List.range S).filter (clC n h a)).length) dX0_gatherClumps_57 rfl rfl rfl rfl (by omega) ?_
              generalize hK1 : xup J 20 (((List.range S).filter (clC n h a)).length) (nI S) = K1
              refine x_aload_n dX0_gatherClumps_58 rfl ?_
              refine x_dup dX0_gatherClumps_59 rfl ?_
              refine x_getI 0 3 (v := nI (((List.range S).filter (clC n h a)).length)) rfl (by decide) fl_X0_61 dX0_gatherClumps_60 rfl rfl rfl (by rw [← hK1, xup_ne (by decide)]; exact e3) ?_
              refine x_iconst dX0_gatherClumps_63 ic_1 ?_
              refine x_iadd (v := nI ((((List.range S).filter (clC n h a)).length) + 1)) dX0_gatherClumps_64 (nI_add _ _) ?_
              refine x_put 0 3 rfl (by decide) fl_X0_61 rfl rfl rfl rfl dX0_gatherClumps_65 rfl rfl rfl ?_
              generalize hK2 : xup K1 14 3 (nI ((((List.range S).filter (clC n h a)).length) + 1)) = K2
              refine x_iinc (v := nI (S + 1)) (ls' := [.ref 14, .int (nI (S + 1))]) dX0_gatherClumps_68 rfl (inc_1 _) rfl rfl ?_
              refine x_goto (tgt := 17) dX0_gatherClumps_71 rfl ?_
              refine key K2 (by omega) htt ?_ (fun i q hi => ?_) (fun j hj => ?_) (fun c h1 h2 => by rw [← hK2, xup_ne h1, ← hK1, xup_ne h2]; exact jf c h1 h2)
              · rw [← hK2, xup_eq, if_pos rfl]
              · rw [← hK2, xup_ne (by decide), ← hK1, xup_eq]
                by_cases e : i = ((List.range S).filter (clC n h a)).length
                · subst e
                  rw [List.getElem?_append_right (Nat.le_refl _), Nat.sub_self] at hi
                  simp at hi
                  rw [if_pos rfl, hi]
                · have hi' : i < ((List.range S).filter (clC n h a)).length := by
                    have := (List.getElem?_eq_some_iff.mp hi).1
                    simp at this; omega
                  rw [List.getElem?_append_left hi'] at hi
                  rw [if_neg e]; exact e20 i q hi
              · rw [← hK2, xup_eq, if_neg hj, ← hK1, xup_ne (by decide)]; exact e14 j hj
  refine Cx.of [.ref 14, .null] (by decide) rfl rfl (Nat.le_of_ble_eq_true rfl) rfl ?_
  rcases hc with hc | hc
  ·
    refine x_aload_n dX0_gatherClumps_0 rfl ?_
    refine x_getI 0 3 (v := (-6)) rfl (by decide) fl_X0_61 dX0_gatherClumps_1 rfl rfl rfl hc ?_
    refine x_bipush dX0_gatherClumps_4 bp_m6 ?_
    refine x_icmp_eq (tgt := 10) dX0_gatherClumps_6 rfl (fun c => ?_) (fun c => ?_)
    ·
      refine x_aload_n dX0_gatherClumps_10 rfl ?_
      refine x_iconst dX0_gatherClumps_11 ic_0 ?_
      refine x_put 0 3 rfl (by decide) fl_X0_61 rfl rfl rfl rfl dX0_gatherClumps_12 rfl rfl rfl ?_
      generalize hK1 : xup I 14 3 (nI 0) = K1
      refine x_iconst dX0_gatherClumps_15 ic_1 ?_
      refine x_istore_n (ls' := [.ref 14, .int (nI 1)]) dX0_gatherClumps_16 rfl rfl ?_
      have k14 : ∀ j, j ≠ 3 → K1 14 j = I 14 j := fun j hj => by rw [← hK1, xup_eq, if_neg hj]
      have kf : ∀ c, c ≠ 14 → K1 c = I c := fun c hc => by rw [← hK1, xup_ne hc]
      have k3 : K1 14 3 = nI 0 := by rw [← hK1, xup_eq, if_pos rfl]
      have h1p := Nat.one_le_two_pow (n := n)
      have e1 : (List.range 1).filter (clC n h a) = [] := by
        have : clC n h a 0 = false := by simp [clC, pop, popN]
        simp [this]
      by_cases htt : 0 < tot n h a
      · refine lp (2 ^ n - 1) 1 K1 (by omega) htt (by rw [e1]; exact k3) (fun i q hi => by rw [e1] at hi; simp at hi) k14 (fun c h1 _ => kf c h1)
      · have eC : clL n h a = [] := by
          unfold clL; apply List.filter_eq_nil_iff.mpr; intro S _; simp [clC, htt]
        have fin : ∀ (v1 : Value), Wx LX mX0_gatherClumps d (xRv (fun J => CLk J n h a ∧ (∀ j, j ≠ 3 → J 14 j = I 14 j) ∧ ∀ c, c ≠ 14 → c ≠ 20 → J c = I c)) 74 [.ref 14, v1] [] K1 := by
          intro v1
          refine x_vretv dX0_gatherClumps_74 rfl ⟨⟨by rw [eC]; exact k3, fun i S hi => by rw [eC] at hi; simp at hi⟩, k14, fun c h1 _ => kf c h1⟩
        refine x_iload_n dX0_gatherClumps_17 rfl ?_
        refine x_aload_n dX0_gatherClumps_18 rfl ?_
        refine x_getI 0 1 (v := nI (1 <<< n - 1)) rfl (by decide) fl_X0_58 dX0_gatherClumps_19 rfl rfl rfl (by rw [k14 1 (by decide)]; exact hB.2.1) ?_
        refine x_icmpn_gt (a := 1) (b := 1 <<< n - 1) (by omega) (by omega) (tgt := 74) dX0_gatherClumps_22 rfl (fun c1 => ?_) (fun c1 => ?_)
        ·
          exact fin _
        ·
          refine x_aload_n dX0_gatherClumps_25 rfl ?_
          refine x_callVi 0 ml_X0_134 in_X0_total se_X0_total ct_X0_total rfl (c_total (d := 0) (t := tot n h a) (by rw [kf 16 (by decide)]; exact hB.2.2.2.2.1 0 0 h1p (by omega) rfl)) dX0_gatherClumps_26 (by omega) rfl rfl rfl rfl (Nat.le_of_ble_eq_true rfl) (fun r0 J0 h0 => ?_)
          obtain ⟨rfl, hJ0⟩ := h0
          obtain rfl := hJ0.symm
          refine x_ifn_le (a := tot n h a) (by omega) (tgt := 74) dX0_gatherClumps_29 rfl (fun c2 => ?_) (fun c2 => ?_)
          ·
            exact fin _
          ·
            omega
    ·
      exact absurd rfl c
  ·
    have hlen : (clL n h a).length ≤ 2 ^ n := hbl (2 ^ n)
    refine x_aload_n dX0_gatherClumps_0 rfl ?_
    refine x_getI 0 3 (v := nI ((clL n h a).length)) rfl (by decide) fl_X0_61 dX0_gatherClumps_1 rfl rfl rfl hc.1 ?_
    refine x_bipush dX0_gatherClumps_4 bp_m6 ?_
    refine x_icmp_eq (tgt := 10) dX0_gatherClumps_6 rfl (fun c => ?_) (fun c => ?_)
    ·
      exfalso
      have := congrArg Int32.toInt c
      rw [nI_toInt (by omega)] at this
      have e1 : (-6 : Int32).toInt = -6 := by decide +kernel
      omega
    ·
      refine x_vretv dX0_gatherClumps_9 rfl ⟨hc, fun _ _ => rfl, fun _ _ _ => rfl⟩
theorem c_fewestBreaksOf {s : Nat} (hd : 4 ≤ d) (h1 : 1 ≤ n) (hn : n ≤ 8) (hs : s < 10) (hh : ∀ g, h g < 1024) (hD : DigAt I 1 n h a L) (hB : BOk I n h a) : Cx LX yX0_fewestBreaksOf mX0_fewestBreaksOf d [.ref 14, .int (nI s), .ref 1] I (xRi (fun r J => r = (if tot n h a = 0 then (-6 : Int32) else nI (Rr n (onB n h a) (cR (fun g => h g &&& 1 <<< s)) 0 0) - nI (if 0 < cwi h s n then 1 else 0)) ∧ ∀ c, c ≠ 18 → c ≠ 23 → J c = I c)) := by
  have h1p := Nat.one_le_two_pow (n := n)
  have htl : tot n h a ≤ 16777216 := Wr_le hn
  have hcw := cwi_le h s n
  refine Cx.of [.ref 14, .int (nI s), .ref 1] (by decide) rfl rfl (Nat.le_of_ble_eq_true rfl) rfl ?_
  refine x_aload_n dX0_fewestBreaksOf_0 rfl ?_
  refine x_callVi 0 ml_X0_134 in_X0_total se_X0_total ct_X0_total rfl (c_total (d := 0) (t := tot n h a) (hB.2.2.2.2.1 0 0 h1p (by omega) rfl)) dX0_fewestBreaksOf_1 (by omega) rfl rfl rfl rfl (Nat.le_of_ble_eq_true rfl) (fun r0 J0 h0 => ?_)
  obtain ⟨rfl, hJ0⟩ := h0
  obtain rfl := hJ0.symm
  refine x_ifn_ne (a := tot n h a) (by omega) (tgt := 10) dX0_fewestBreaksOf_4 rfl (fun c => ?_) (fun c => ?_)
  ·
    refine x_aload_n dX0_fewestBreaksOf_10 rfl ?_
    refine x_getR 0 12 rfl (by decide) fl_X0_36 dX0_fewestBreaksOf_11 rfl rfl rfl ?_
    refine x_aload_n dX0_fewestBreaksOf_14 rfl ?_
    refine x_iconst dX0_fewestBreaksOf_15 ic_1 ?_
    refine x_iload_n dX0_fewestBreaksOf_16 rfl ?_
    refine x_ishl (v := nI (1 <<< s)) dX0_fewestBreaksOf_17 (nI_shl _ (by omega)) ?_
    refine x_callVv 2 ml_X0_68 in_X3_lookAt se_X3_lookAt ct_X3_lookAt rfl (c_lookAt3 (d := 3) (h := h) hD.2.1) dX0_fewestBreaksOf_18 hd rfl rfl rfl rfl (Nat.le_of_ble_eq_true rfl) (fun J1 h0 => ?_)
    obtain ⟨A1, A2⟩ := h0
    refine x_aload_n dX0_fewestBreaksOf_21 rfl ?_
    refine x_aload_n dX0_fewestBreaksOf_22 rfl ?_
    refine x_getR 0 12 rfl (by decide) fl_X0_36 dX0_fewestBreaksOf_23 rfl rfl rfl ?_
    refine x_callVv 0 ml_X0_72 in_X0_costRest se_X0_costRest ct_X0_costRest rfl (c_costRest22 (d := 3) (on := onB n h a) (hr := fun g => h g &&& 1 <<< s) (by decide) h1 hn (fun g => and_lt1024 (hh g)) A1 (by rw [A2 14 (by decide)]; exact hB.1) (by rw [A2 14 (by decide)]; exact hB.2.1) (fun S l hS hl => by rw [A2 15 (by decide)]; exact hB.2.2.2.1 S l hS hl) (fun S l g _ _ hb => onB_ob hb) (fun S l _ _ => onB_lt hn)) dX0_fewestBreaksOf_26 hd rfl rfl rfl rfl (Nat.le_of_ble_eq_true rfl) (fun J2 h0 => ?_)
    obtain ⟨B1, B2⟩ := h0
    refine x_aload_n dX0_fewestBreaksOf_29 rfl ?_
    refine x_getR 0 8 rfl (by decide) fl_X0_21 dX0_fewestBreaksOf_30 rfl rfl rfl ?_
    refine x_iconst dX0_fewestBreaksOf_33 ic_0 ?_
    refine x_iald (p := 0) (v := nI (Rr n (onB n h a) (cR (fun g => h g &&& 1 <<< s)) 0 0)) dX0_fewestBreaksOf_34 rfl rfl rfl rfl (by omega) (B1 0 0 h1p (by omega) rfl) ?_
    refine x_aload_n dX0_fewestBreaksOf_35 rfl ?_
    refine x_iload_n dX0_fewestBreaksOf_36 rfl ?_
    refine x_callVi 1 ml_X0_157 in_X2_gravesWith se_X2_gravesWith ct_X2_gravesWith rfl (c_gravesWith (d := 1) (h := h) (a := a) (L := L) (by decide) (by omega) hh (by unfold DigAt; rw [B2 1 (by decide), A2 1 (by decide), B2 (1 + 1) (by decide), A2 (1 + 1) (by decide), B2 (1 + 2) (by decide), A2 (1 + 2) (by decide), B2 (1 + 3) (by decide), A2 (1 + 3) (by decide)]; exact hD) hn) dX0_fewestBreaksOf_37 (by omega) rfl rfl rfl rfl (Nat.le_of_ble_eq_true rfl) (fun r0 J0 h0 => ?_)
    obtain ⟨rfl, hJ0⟩ := h0
    obtain rfl := hJ0.symm
    have fr : ∀ c, c ≠ 18 → c ≠ 23 → J2 c = I c := fun c e1 e2 => by rw [B2 c e1, A2 c e2]
    refine x_ifn_le (a := cwi h s n) (by omega) (tgt := 47) dX0_fewestBreaksOf_40 rfl (fun c2 => ?_) (fun c2 => ?_)
    ·
      refine x_iconst dX0_fewestBreaksOf_47 ic_0 ?_
      refine x_isub (v := nI (Rr n (onB n h a) (cR (fun g => h g &&& 1 <<< s)) 0 0) - nI 0) dX0_fewestBreaksOf_48 rfl ?_
      refine x_ireti dX0_fewestBreaksOf_49 rfl ⟨by rw [if_neg c, if_neg (by omega)], fr⟩
    ·
      refine x_iconst dX0_fewestBreaksOf_43 ic_1 ?_
      refine x_goto (tgt := 48) dX0_fewestBreaksOf_44 rfl ?_
      refine x_isub (v := nI (Rr n (onB n h a) (cR (fun g => h g &&& 1 <<< s)) 0 0) - nI 1) dX0_fewestBreaksOf_48 rfl ?_
      refine x_ireti dX0_fewestBreaksOf_49 rfl ⟨by rw [if_neg c, if_pos c2], fr⟩
  ·
    refine x_bipush dX0_fewestBreaksOf_7 bp_m6 ?_
    refine x_ireti dX0_fewestBreaksOf_9 rfl ⟨by rw [if_pos c], fun _ _ _ => rfl⟩
end XQ
