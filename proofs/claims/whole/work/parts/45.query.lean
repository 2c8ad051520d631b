/-! the class: what is asked of best orders -/
abbrev wN (n : Nat) (h a : Nat → Nat) : Nat → Nat → Nat := Wr n (onA n h a)
abbrev tN0 (n : Nat) (h a : Nat → Nat) : Nat → Nat → Nat := Tr n (onA n h a) (t01 n h a)
abbrev fol (n : Nat) (h a : Nat → Nat) (S : Nat) : Nat := folF n (onA n h a) (t01 n h a) S n
def owA (n : Nat) (h a : Nat → Nat) (g p k : Nat) : Nat := rf (fun s S => if S.testBit g && decide (pop S = p + 1) then s + tN0 n h a S g * wN n h a S g else s) 0 k
def owF (n : Nat) (h a : Nat → Nat) (x y k : Nat) : Nat := rf (fun s S => if S.testBit x && S.testBit y then s + tN0 n h a S y * wN n h a S y else s) 0 k
def owN (n : Nat) (h a : Nat → Nat) (x y k : Nat) : Nat := rf (fun s S => if S.testBit x && (onB n h a S x).testBit y then s + tN0 n h a S x * wN n h a (S ||| 1 <<< y) y else s) 0 k
theorem isSt_of {S g : Nat} (h : S.testBit g = true) : isSt S g = true := by
  unfold isSt
  rw [if_neg, h]
  intro e; rw [e] at h; simp at h
section XQ
variable {I : xMem} {n d : Nat} {h a L : Nat → Nat}
theorem c_ordersBy {S l : Nat} (hd : 1 ≤ d) (hn : n ≤ 8) (hS : S < 2 ^ n) (hl : l < n) (hst : isSt S l = true) (hB : BOk I n h a) : Cx LX yX0_ordersBy mX0_ordersBy d [.ref 14, .int (nI S), .int (nI l)] I (xRi (fun r J => r = nI (tN0 n h a S l * wN n h a S l) ∧ J = I)) := by
  have hp := p2_le hn
  refine Cx.of [.ref 14, .int (nI S), .int (nI l), .null] (by decide) rfl rfl (Nat.le_of_ble_eq_true rfl) rfl ?_
  refine x_iload_n dX0_ordersBy_0 rfl ?_
  refine x_iload_n dX0_ordersBy_1 rfl ?_
  refine x_callSi (as := [.int (nI S), .int (nI l)]) ml_X0_101 st_X0_stateOf ct_X0_stateOf (c_stateOf (d := 0)) dX0_ordersBy_2 hd rfl rfl (Nat.le_of_ble_eq_true rfl) (fun r0 J0 h0 => ?_)
  obtain ⟨rfl, hJ0⟩ := h0
  obtain rfl := hJ0.symm
  refine x_istore_n (ls' := [.ref 14, .int (nI S), .int (nI l), .int (nI (S * 8 + l))]) dX0_ordersBy_5 rfl rfl ?_
  refine x_aload_n dX0_ordersBy_6 rfl ?_
  refine x_getR 0 7 rfl (by decide) fl_X0_18 dX0_ordersBy_7 rfl rfl rfl ?_
  refine x_iload_n dX0_ordersBy_10 rfl ?_
  refine x_iald (p := (S * 8 + l)) (v := nI (tN0 n h a S l)) dX0_ordersBy_11 rfl rfl rfl rfl (by omega) (hB.2.2.2.2.2.1 S l hS hl hst) ?_
  refine x_aload_n dX0_ordersBy_12 rfl ?_
  refine x_getR 0 6 rfl (by decide) fl_X0_15 dX0_ordersBy_13 rfl rfl rfl ?_
  refine x_iload_n dX0_ordersBy_16 rfl ?_
  refine x_iald (p := (S * 8 + l)) (v := nI (wN n h a S l)) dX0_ordersBy_17 rfl rfl rfl rfl (by omega) (hB.2.2.2.2.1 S l hS hl hst) ?_
  refine x_imul (v := nI ((tN0 n h a S l) * (wN n h a S l))) dX0_ordersBy_18 (pk_mul _ _) ?_
  refine x_ireti dX0_ordersBy_19 rfl ⟨rfl, rfl⟩
theorem c_ordersWithAt {g p : Nat} (hd : 2 ≤ d) (hn : n ≤ 8) (hg : g < n) (hp8 : p < 8) (hB : BOk I n h a) : Cx LX yX0_ordersWithAt mX0_ordersWithAt d [.ref 14, .int (nI g), .int (nI p)] I (xRi (fun r J => r = nI (owA n h a g p (2 ^ n)) ∧ J = I)) := by
  have hp := p2_le hn
  have hfl : 1 <<< n - 1 + 1 = 2 ^ n := by rw [Nat.one_shiftLeft]; have := Nat.one_le_two_pow (n := n); omega
  have lp : ∀ (k S : Nat), S + k = 2 ^ n → Wx LX mX0_ordersWithAt d (xRi (fun r J => r = nI (owA n h a g p (2 ^ n)) ∧ J = I)) 5 [.ref 14, .int (nI g), .int (nI p), .int (nI (owA n h a g p S)), .int (nI S)] [] I := by
    intro k
    induction k with
    | zero =>
      intro S hS
      have e : S = 2 ^ n := by omega
      subst e
      refine x_iload dX0_ordersWithAt_5 rfl ?_
      refine x_aload_n dX0_ordersWithAt_7 rfl ?_
      refine x_getI 0 1 (v := nI (1 <<< n - 1)) rfl (by decide) fl_X0_58 dX0_ordersWithAt_8 rfl rfl rfl hB.2.1 ?_
      refine x_icmpn_gt (a := 2 ^ n) (b := 1 <<< n - 1) (by omega) (by omega) (tgt := 50) dX0_ordersWithAt_11 rfl (fun c => ?_) (fun c => ?_)
      ·
        refine x_iload_n dX0_ordersWithAt_50 rfl ?_
        refine x_ireti dX0_ordersWithAt_51 rfl ⟨rfl, rfl⟩
      ·
        omega
    | succ k ih =>
      intro S hS
      have key := ih (S + 1) (by omega)
      have e1 : owA n h a g p (S + 1) = if S.testBit g && decide (pop S = p + 1) then owA n h a g p S + tN0 n h a S g * wN n h a S g else owA n h a g p S := rf_s _ _ _
      rw [e1] at key
      have hpl := pop_le S
      refine x_iload dX0_ordersWithAt_5 rfl ?_
      refine x_aload_n dX0_ordersWithAt_7 rfl ?_
      refine x_getI 0 1 (v := nI (1 <<< n - 1)) rfl (by decide) fl_X0_58 dX0_ordersWithAt_8 rfl rfl rfl hB.2.1 ?_
      refine x_icmpn_gt (a := S) (b := 1 <<< n - 1) (by omega) (by omega) (tgt := 50) dX0_ordersWithAt_11 rfl (fun c => ?_) (fun c => ?_)
      ·
        omega
      ·
        refine x_iload dX0_ordersWithAt_14 rfl ?_
        refine x_iload_n dX0_ordersWithAt_16 rfl ?_
        refine x_callSNi (as := [.int (nI S), .int (nI g)]) (fun _ h => h.2.1) st_X5_isMember ct_X5_isMember (c_isMember (d := 0) (by omega) (by omega)) dX0_ordersWithAt_17 (by omega) rfl rfl (Nat.le_of_ble_eq_true rfl) (fun r0 J0 h0 => ?_)
        obtain ⟨rfl, hJ0⟩ := h0
        obtain rfl := hJ0.symm
        refine x_ifb_eq (b := S.testBit g) (tgt := 44) dX0_ordersWithAt_20 rfl (fun c2 => ?_) (fun c2 => ?_)
        ·
          refine x_iinc (v := nI (S + 1)) (ls' := [.ref 14, .int (nI g), .int (nI p), .int (nI (owA n h a g p S)), .int (nI (S + 1))]) dX0_ordersWithAt_44 rfl (inc_1 _) rfl rfl ?_
          refine x_goto (tgt := 5) dX0_ordersWithAt_47 rfl ?_
          rw [c2] at key
          exact key
        ·
          refine x_iload dX0_ordersWithAt_23 rfl ?_
          refine x_callSi (as := [.int (nI S)]) ml_X0_80 st_J6_bitCount_0f7a4 ct_J6_bitCount_0f7a4 (c_bitCount (d := 0) (by omega)) dX0_ordersWithAt_25 (by omega) rfl rfl (Nat.le_of_ble_eq_true rfl) (fun r0 J0 h0 => ?_)
          obtain ⟨rfl, hJ0⟩ := h0
          obtain rfl := hJ0.symm
          refine x_iload_n dX0_ordersWithAt_28 rfl ?_
          refine x_iconst dX0_ordersWithAt_29 ic_1 ?_
          refine x_iadd (v := nI (p + 1)) dX0_ordersWithAt_30 (nI_add _ _) ?_
          refine x_icmpn_ne (a := pop S) (b := p + 1) (by omega) (by omega) (tgt := 44) dX0_ordersWithAt_31 rfl (fun c3 => ?_) (fun c3 => ?_)
          ·
            refine x_iinc (v := nI (S + 1)) (ls' := [.ref 14, .int (nI g), .int (nI p), .int (nI (owA n h a g p S)), .int (nI (S + 1))]) dX0_ordersWithAt_44 rfl (inc_1 _) rfl rfl ?_
            refine x_goto (tgt := 5) dX0_ordersWithAt_47 rfl ?_
            rw [c2, decide_eq_false c3] at key
            exact key
          ·
            refine x_iload_n dX0_ordersWithAt_34 rfl ?_
            refine x_aload_n dX0_ordersWithAt_35 rfl ?_
            refine x_iload dX0_ordersWithAt_36 rfl ?_
            refine x_iload_n dX0_ordersWithAt_38 rfl ?_
            refine x_callVi 0 ml_X0_147 in_X0_ordersBy se_X0_ordersBy ct_X0_ordersBy rfl (c_ordersBy (d := 1) (by decide) hn (by omega) hg (isSt_of c2) hB) dX0_ordersWithAt_39 hd rfl rfl rfl rfl (Nat.le_of_ble_eq_true rfl) (fun r0 J0 h0 => ?_)
            obtain ⟨rfl, hJ0⟩ := h0
            obtain rfl := hJ0.symm
            refine x_iadd (v := nI ((owA n h a g p S) + (tN0 n h a S g * wN n h a S g))) dX0_ordersWithAt_42 (nI_add _ _) ?_
            refine x_istore_n (ls' := [.ref 14, .int (nI g), .int (nI p), .int (nI ((owA n h a g p S) + (tN0 n h a S g * wN n h a S g))), .int (nI S)]) dX0_ordersWithAt_43 rfl rfl ?_
            refine x_iinc (v := nI (S + 1)) (ls' := [.ref 14, .int (nI g), .int (nI p), .int (nI ((owA n h a g p S) + (tN0 n h a S g * wN n h a S g))), .int (nI (S + 1))]) dX0_ordersWithAt_44 rfl (inc_1 _) rfl rfl ?_
            refine x_goto (tgt := 5) dX0_ordersWithAt_47 rfl ?_
            rw [c2, decide_eq_true c3] at key
            exact key
  have h1p := Nat.one_le_two_pow (n := n)
  have e0 : owA n h a g p 1 = 0 := by rw [owA, rf_s]; simp [rf_0]
  have := lp (2 ^ n - 1) 1 (by omega)
  rw [e0] at this
  refine Cx.of [.ref 14, .int (nI g), .int (nI p), .null, .null] (by decide) rfl rfl (Nat.le_of_ble_eq_true rfl) rfl ?_
  refine x_iconst dX0_ordersWithAt_0 ic_0 ?_
  refine x_istore_n (ls' := [.ref 14, .int (nI g), .int (nI p), .int (nI 0), .null]) dX0_ordersWithAt_1 rfl rfl ?_
  refine x_iconst dX0_ordersWithAt_2 ic_1 ?_
  refine x_istore (ls' := [.ref 14, .int (nI g), .int (nI p), .int (nI 0), .int (nI 1)]) dX0_ordersWithAt_3 rfl rfl ?_
  exact this
theorem c_ordersWithFirst {x y : Nat} (hd : 2 ≤ d) (hn : n ≤ 8) (hx : x < n) (hy : y < n) (hB : BOk I n h a) : Cx LX yX0_ordersWithFirst mX0_ordersWithFirst d [.ref 14, .int (nI x), .int (nI y)] I (xRi (fun r J => r = nI (owF n h a x y (2 ^ n)) ∧ J = I)) := by
  have hp := p2_le hn
  have hfl : 1 <<< n - 1 + 1 = 2 ^ n := by rw [Nat.one_shiftLeft]; have := Nat.one_le_two_pow (n := n); omega
  have lp : ∀ (k S : Nat), S + k = 2 ^ n → Wx LX mX0_ordersWithFirst d (xRi (fun r J => r = nI (owF n h a x y (2 ^ n)) ∧ J = I)) 5 [.ref 14, .int (nI x), .int (nI y), .int (nI (owF n h a x y S)), .int (nI S)] [] I := by
    intro k
    induction k with
    | zero =>
      intro S hS
      have e : S = 2 ^ n := by omega
      subst e
      refine x_iload dX0_ordersWithFirst_5 rfl ?_
      refine x_aload_n dX0_ordersWithFirst_7 rfl ?_
      refine x_getI 0 1 (v := nI (1 <<< n - 1)) rfl (by decide) fl_X0_58 dX0_ordersWithFirst_8 rfl rfl rfl hB.2.1 ?_
      refine x_icmpn_gt (a := 2 ^ n) (b := 1 <<< n - 1) (by omega) (by omega) (tgt := 48) dX0_ordersWithFirst_11 rfl (fun c => ?_) (fun c => ?_)
      ·
        refine x_iload_n dX0_ordersWithFirst_48 rfl ?_
        refine x_ireti dX0_ordersWithFirst_49 rfl ⟨rfl, rfl⟩
      ·
        omega
    | succ k ih =>
      intro S hS
      have key := ih (S + 1) (by omega)
      have e1 : owF n h a x y (S + 1) = if S.testBit x && S.testBit y then owF n h a x y S + tN0 n h a S y * wN n h a S y else owF n h a x y S := rf_s _ _ _
      rw [e1] at key
      refine x_iload dX0_ordersWithFirst_5 rfl ?_
      refine x_aload_n dX0_ordersWithFirst_7 rfl ?_
      refine x_getI 0 1 (v := nI (1 <<< n - 1)) rfl (by decide) fl_X0_58 dX0_ordersWithFirst_8 rfl rfl rfl hB.2.1 ?_
      refine x_icmpn_gt (a := S) (b := 1 <<< n - 1) (by omega) (by omega) (tgt := 48) dX0_ordersWithFirst_11 rfl (fun c => ?_) (fun c => ?_)
      ·
        omega
      ·
        refine x_iload dX0_ordersWithFirst_14 rfl ?_
        refine x_iload_n dX0_ordersWithFirst_16 rfl ?_
        refine x_callSNi (as := [.int (nI S), .int (nI x)]) (fun _ h => h.2.1) st_X5_isMember ct_X5_isMember (c_isMember (d := 0) (by omega) (by omega)) dX0_ordersWithFirst_17 (by omega) rfl rfl (Nat.le_of_ble_eq_true rfl) (fun r0 J0 h0 => ?_)
        obtain ⟨rfl, hJ0⟩ := h0
        obtain rfl := hJ0.symm
        refine x_ifb_eq (b := S.testBit x) (tgt := 42) dX0_ordersWithFirst_20 rfl (fun c2 => ?_) (fun c2 => ?_)
        ·
          refine x_iinc (v := nI (S + 1)) (ls' := [.ref 14, .int (nI x), .int (nI y), .int (nI (owF n h a x y S)), .int (nI (S + 1))]) dX0_ordersWithFirst_42 rfl (inc_1 _) rfl rfl ?_
          refine x_goto (tgt := 5) dX0_ordersWithFirst_45 rfl ?_
          rw [c2] at key
          exact key
        ·
          refine x_iload dX0_ordersWithFirst_23 rfl ?_
          refine x_iload_n dX0_ordersWithFirst_25 rfl ?_
          refine x_callSNi (as := [.int (nI S), .int (nI y)]) (fun _ h => h.2.1) st_X5_isMember ct_X5_isMember (c_isMember (d := 0) (by omega) (by omega)) dX0_ordersWithFirst_26 (by omega) rfl rfl (Nat.le_of_ble_eq_true rfl) (fun r0 J0 h0 => ?_)
          obtain ⟨rfl, hJ0⟩ := h0
          obtain rfl := hJ0.symm
          refine x_ifb_eq (b := S.testBit y) (tgt := 42) dX0_ordersWithFirst_29 rfl (fun c3 => ?_) (fun c3 => ?_)
          ·
            refine x_iinc (v := nI (S + 1)) (ls' := [.ref 14, .int (nI x), .int (nI y), .int (nI (owF n h a x y S)), .int (nI (S + 1))]) dX0_ordersWithFirst_42 rfl (inc_1 _) rfl rfl ?_
            refine x_goto (tgt := 5) dX0_ordersWithFirst_45 rfl ?_
            rw [c2, c3] at key
            exact key
          ·
            refine x_iload_n dX0_ordersWithFirst_32 rfl ?_
            refine x_aload_n dX0_ordersWithFirst_33 rfl ?_
            refine x_iload dX0_ordersWithFirst_34 rfl ?_
            refine x_iload_n dX0_ordersWithFirst_36 rfl ?_
            refine x_callVi 0 ml_X0_147 in_X0_ordersBy se_X0_ordersBy ct_X0_ordersBy rfl (c_ordersBy (d := 1) (by decide) hn (by omega) hy (isSt_of c3) hB) dX0_ordersWithFirst_37 hd rfl rfl rfl rfl (Nat.le_of_ble_eq_true rfl) (fun r0 J0 h0 => ?_)
            obtain ⟨rfl, hJ0⟩ := h0
            obtain rfl := hJ0.symm
            refine x_iadd (v := nI ((owF n h a x y S) + (tN0 n h a S y * wN n h a S y))) dX0_ordersWithFirst_40 (nI_add _ _) ?_
            refine x_istore_n (ls' := [.ref 14, .int (nI x), .int (nI y), .int (nI ((owF n h a x y S) + (tN0 n h a S y * wN n h a S y))), .int (nI S)]) dX0_ordersWithFirst_41 rfl rfl ?_
            refine x_iinc (v := nI (S + 1)) (ls' := [.ref 14, .int (nI x), .int (nI y), .int (nI ((owF n h a x y S) + (tN0 n h a S y * wN n h a S y))), .int (nI (S + 1))]) dX0_ordersWithFirst_42 rfl (inc_1 _) rfl rfl ?_
            refine x_goto (tgt := 5) dX0_ordersWithFirst_45 rfl ?_
            rw [c2, c3] at key
            exact key
  have h1p := Nat.one_le_two_pow (n := n)
  have e0 : owF n h a x y 1 = 0 := by rw [owF, rf_s]; simp [rf_0]
  have := lp (2 ^ n - 1) 1 (by omega)
  rw [e0] at this
  refine Cx.of [.ref 14, .int (nI x), .int (nI y), .null, .null] (by decide) rfl rfl (Nat.le_of_ble_eq_true rfl) rfl ?_
  refine x_iconst dX0_ordersWithFirst_0 ic_0 ?_
  refine x_istore_n (ls' := [.ref 14, .int (nI x), .int (nI y), .int (nI 0), .null]) dX0_ordersWithFirst_1 rfl rfl ?_
  refine x_iconst dX0_ordersWithFirst_2 ic_1 ?_
  refine x_istore (ls' := [.ref 14, .int (nI x), .int (nI y), .int (nI 0), .int (nI 1)]) dX0_ordersWithFirst_3 rfl rfl ?_
  exact this
theorem c_ordersWithNext {x y : Nat} (hd : 1 ≤ d) (hn : n ≤ 8) (hx : x < n) (hy : y < n) (hB : BOk I n h a) : Cx LX yX0_ordersWithNext mX0_ordersWithNext d [.ref 14, .int (nI x), .int (nI y)] I (xRi (fun r J => r = nI (owN n h a x y (2 ^ n)) ∧ J = I)) := by
  have hp := p2_le hn
  have hfl : 1 <<< n - 1 + 1 = 2 ^ n := by rw [Nat.one_shiftLeft]; have := Nat.one_le_two_pow (n := n); omega
  have lp : ∀ (k S : Nat) (v5 : Value), S + k = 2 ^ n → Wx LX mX0_ordersWithNext d (xRi (fun r J => r = nI (owN n h a x y (2 ^ n)) ∧ J = I)) 5 [.ref 14, .int (nI x), .int (nI y), .int (nI (owN n h a x y S)), .int (nI S), v5] [] I := by
    intro k
    induction k with
    | zero =>
      intro S v5 hS
      have e : S = 2 ^ n := by omega
      subst e
      refine x_iload dX0_ordersWithNext_5 rfl ?_
      refine x_aload_n dX0_ordersWithNext_7 rfl ?_
      refine x_getI 0 1 (v := nI (1 <<< n - 1)) rfl (by decide) fl_X0_58 dX0_ordersWithNext_8 rfl rfl rfl hB.2.1 ?_
      refine x_icmpn_gt (a := 2 ^ n) (b := 1 <<< n - 1) (by omega) (by omega) (tgt := 73) dX0_ordersWithNext_11 rfl (fun c => ?_) (fun c => ?_)
      ·
        refine x_iload_n dX0_ordersWithNext_73 rfl ?_
        refine x_ireti dX0_ordersWithNext_74 rfl ⟨rfl, rfl⟩
      ·
        omega
    | succ k ih =>
      intro S v5 hS
      have key := fun v => ih (S + 1) v (by omega)
      have e1 : owN n h a x y (S + 1) = if S.testBit x && (onB n h a S x).testBit y then owN n h a x y S + tN0 n h a S x * wN n h a (S ||| 1 <<< y) y else owN n h a x y S := rf_s _ _ _
      rw [e1] at key
      have hlB := onB_lt (n := n) (h := h) (a := a) (S := S) (l := x) hn
      refine x_iload dX0_ordersWithNext_5 rfl ?_
      refine x_aload_n dX0_ordersWithNext_7 rfl ?_
      refine x_getI 0 1 (v := nI (1 <<< n - 1)) rfl (by decide) fl_X0_58 dX0_ordersWithNext_8 rfl rfl rfl hB.2.1 ?_
      refine x_icmpn_gt (a := S) (b := 1 <<< n - 1) (by omega) (by omega) (tgt := 73) dX0_ordersWithNext_11 rfl (fun c => ?_) (fun c => ?_)
      ·
        omega
      ·
        refine x_iload dX0_ordersWithNext_14 rfl ?_
        refine x_iload_n dX0_ordersWithNext_16 rfl ?_
        refine x_callSi (as := [.int (nI S), .int (nI x)]) ml_X0_101 st_X0_stateOf ct_X0_stateOf (c_stateOf (d := 0)) dX0_ordersWithNext_17 hd rfl rfl (Nat.le_of_ble_eq_true rfl) (fun r0 J0 h0 => ?_)
        obtain ⟨rfl, hJ0⟩ := h0
        obtain rfl := hJ0.symm
        refine x_istore (ls' := [.ref 14, .int (nI x), .int (nI y), .int (nI (owN n h a x y S)), .int (nI S), .int (nI (S * 8 + x))]) dX0_ordersWithNext_20 rfl rfl ?_
        refine x_iload dX0_ordersWithNext_22 rfl ?_
        refine x_iload_n dX0_ordersWithNext_24 rfl ?_
        refine x_callSNi (as := [.int (nI S), .int (nI x)]) (fun _ h => h.2.1) st_X5_isMember ct_X5_isMember (c_isMember (d := 0) (by omega) (by omega)) dX0_ordersWithNext_25 hd rfl rfl (Nat.le_of_ble_eq_true rfl) (fun r0 J0 h0 => ?_)
        obtain ⟨rfl, hJ0⟩ := h0
        obtain rfl := hJ0.symm
        refine x_ifb_eq (b := S.testBit x) (tgt := 67) dX0_ordersWithNext_28 rfl (fun c2 => ?_) (fun c2 => ?_)
        ·
          refine x_iinc (v := nI (S + 1)) (ls' := [.ref 14, .int (nI x), .int (nI y), .int (nI (owN n h a x y S)), .int (nI (S + 1)), .int (nI (S * 8 + x))]) dX0_ordersWithNext_67 rfl (inc_1 _) rfl rfl ?_
          refine x_goto (tgt := 5) dX0_ordersWithNext_70 rfl ?_
          rw [c2] at key
          exact key _
        ·
          refine x_aload_n dX0_ordersWithNext_31 rfl ?_
          refine x_getR 0 5 rfl (by decide) fl_X0_9 dX0_ordersWithNext_32 rfl rfl rfl ?_
          refine x_iload dX0_ordersWithNext_35 rfl ?_
          refine x_iald (p := (S * 8 + x)) (v := nI (onB n h a S x)) dX0_ordersWithNext_37 rfl rfl rfl rfl (by omega) (hB.2.2.2.1 S x (by omega) hx) ?_
          refine x_iload_n dX0_ordersWithNext_38 rfl ?_
          refine x_callSNi (as := [.int (nI (onB n h a S x)), .int (nI y)]) (fun _ h => h.2.1) st_X5_isMember ct_X5_isMember (c_isMember (d := 0) (by omega) (by omega)) dX0_ordersWithNext_39 hd rfl rfl (Nat.le_of_ble_eq_true rfl) (fun r0 J0 h0 => ?_)
          obtain ⟨rfl, hJ0⟩ := h0
          obtain rfl := hJ0.symm
          refine x_ifb_eq (b := (onB n h a S x).testBit y) (tgt := 67) dX0_ordersWithNext_42 rfl (fun c3 => ?_) (fun c3 => ?_)
          ·
            refine x_iinc (v := nI (S + 1)) (ls' := [.ref 14, .int (nI x), .int (nI y), .int (nI (owN n h a x y S)), .int (nI (S + 1)), .int (nI (S * 8 + x))]) dX0_ordersWithNext_67 rfl (inc_1 _) rfl rfl ?_
            refine x_goto (tgt := 5) dX0_ordersWithNext_70 rfl ?_
            rw [c2, c3] at key
            exact key _
          ·
            have hS2 := or_lt (S := S) (n := n) (by omega) hy
            refine x_iload_n dX0_ordersWithNext_45 rfl ?_
            refine x_aload_n dX0_ordersWithNext_46 rfl ?_
            refine x_getR 0 7 rfl (by decide) fl_X0_18 dX0_ordersWithNext_47 rfl rfl rfl ?_
            refine x_iload dX0_ordersWithNext_50 rfl ?_
            refine x_iald (p := (S * 8 + x)) (v := nI (tN0 n h a S x)) dX0_ordersWithNext_52 rfl rfl rfl rfl (by omega) (hB.2.2.2.2.2.1 S x (by omega) hx (isSt_of c2)) ?_
            refine x_aload_n dX0_ordersWithNext_53 rfl ?_
            refine x_getR 0 6 rfl (by decide) fl_X0_15 dX0_ordersWithNext_54 rfl rfl rfl ?_
            refine x_iload dX0_ordersWithNext_57 rfl ?_
            refine x_iload_n dX0_ordersWithNext_59 rfl ?_
            refine x_callSi (as := [.int (nI S), .int (nI y)]) ml_X0_113 st_X0_stateAfter ct_X0_stateAfter (c_stateAfter (d := 0) (by omega)) dX0_ordersWithNext_60 hd rfl rfl (Nat.le_of_ble_eq_true rfl) (fun r0 J0 h0 => ?_)
            obtain ⟨rfl, hJ0⟩ := h0
            obtain rfl := hJ0.symm
            refine x_iald (p := ((S ||| 1 <<< y) * 8 + y)) (v := nI (wN n h a (S ||| 1 <<< y) y)) dX0_ordersWithNext_63 rfl rfl rfl rfl (by omega) (hB.2.2.2.2.1 _ y hS2 hy (isSt_or S y)) ?_
            refine x_imul (v := nI ((tN0 n h a S x) * (wN n h a (S ||| 1 <<< y) y))) dX0_ordersWithNext_64 (pk_mul _ _) ?_
            refine x_iadd (v := nI ((owN n h a x y S) + ((tN0 n h a S x) * (wN n h a (S ||| 1 <<< y) y)))) dX0_ordersWithNext_65 (nI_add _ _) ?_
            refine x_istore_n (ls' := [.ref 14, .int (nI x), .int (nI y), .int (nI ((owN n h a x y S) + ((tN0 n h a S x) * (wN n h a (S ||| 1 <<< y) y)))), .int (nI S), .int (nI (S * 8 + x))]) dX0_ordersWithNext_66 rfl rfl ?_
            refine x_iinc (v := nI (S + 1)) (ls' := [.ref 14, .int (nI x), .int (nI y), .int (nI ((owN n h a x y S) + ((tN0 n h a S x) * (wN n h a (S ||| 1 <<< y) y)))), .int (nI (S + 1)), .int (nI (S * 8 + x))]) dX0_ordersWithNext_67 rfl (inc_1 _) rfl rfl ?_
            refine x_goto (tgt := 5) dX0_ordersWithNext_70 rfl ?_
            rw [c2, c3] at key
            exact key _
  have h1p := Nat.one_le_two_pow (n := n)
  have e0 : owN n h a x y 1 = 0 := by rw [owN, rf_s]; simp [rf_0]
  have := fun v => lp (2 ^ n - 1) 1 v (by omega)
  rw [e0] at this
  refine Cx.of [.ref 14, .int (nI x), .int (nI y), .null, .null, .null] (by decide) rfl rfl (Nat.le_of_ble_eq_true rfl) rfl ?_
  refine x_iconst dX0_ordersWithNext_0 ic_0 ?_
  refine x_istore_n (ls' := [.ref 14, .int (nI x), .int (nI y), .int (nI 0), .null, .null]) dX0_ordersWithNext_1 rfl rfl ?_
  refine x_iconst dX0_ordersWithNext_2 ic_1 ?_
  refine x_istore (ls' := [.ref 14, .int (nI x), .int (nI y), .int (nI 0), .int (nI 1), .null]) dX0_ordersWithNext_3 rfl rfl ?_
  exact this _
def nbF (n : Nat) (h a : Nat → Nat) (g t k : Nat) : Nat := rf (fun s q => if !decide (q = g) && decide (t ≤ owN n h a g q (2 ^ n) + owN n h a q g (2 ^ n)) then s ||| 1 <<< q else s) 0 k
theorem c_neighboursOf {g t : Nat} (hd : 2 ≤ d) (hn : n ≤ 8) (hg : g < n) (ht : t < 2 ^ 31) (hb : ∀ q, q < n → owN n h a g q (2 ^ n) + owN n h a q g (2 ^ n) < 2 ^ 31) (hB : BOk I n h a) : Cx LX yX0_neighboursOf mX0_neighboursOf d [.ref 14, .int (nI g), .int (nI t)] I (xRi (fun r J => r = nI (nbF n h a g t n) ∧ J = I)) := by
  have lp : ∀ (k q : Nat), q + k = n → Wx LX mX0_neighboursOf d (xRi (fun r J => r = nI (nbF n h a g t n) ∧ J = I)) 5 [.ref 14, .int (nI g), .int (nI t), .int (nI (nbF n h a g t q)), .int (nI q)] [] I := by
    intro k
    induction k with
    | zero =>
      intro q hq
      have e : q = n := by omega
      subst e
      refine x_iload dX0_neighboursOf_5 rfl ?_
      refine x_aload_n dX0_neighboursOf_7 rfl ?_
      refine x_getI 0 0 (v := nI q) rfl (by decide) fl_X0_57 dX0_neighboursOf_8 rfl rfl rfl hB.1 ?_
      refine x_icmpn_ge (a := q) (b := q) (by omega) (by omega) (tgt := 52) dX0_neighboursOf_11 rfl (fun c => ?_) (fun c => ?_)
      ·
        refine x_iload_n dX0_neighboursOf_52 rfl ?_
        refine x_ireti dX0_neighboursOf_53 rfl ⟨rfl, rfl⟩
      ·
        omega
    | succ k ih =>
      intro q hq
      have key := ih (q + 1) (by omega)
      have e1 : nbF n h a g t (q + 1) = if !decide (q = g) && decide (t ≤ owN n h a g q (2 ^ n) + owN n h a q g (2 ^ n)) then nbF n h a g t q ||| 1 <<< q else nbF n h a g t q := rf_s _ _ _
      rw [e1] at key
      have hbq := hb q (by omega)
      refine x_iload dX0_neighboursOf_5 rfl ?_
      refine x_aload_n dX0_neighboursOf_7 rfl ?_
      refine x_getI 0 0 (v := nI n) rfl (by decide) fl_X0_57 dX0_neighboursOf_8 rfl rfl rfl hB.1 ?_
      refine x_icmpn_ge (a := q) (b := n) (by omega) (by omega) (tgt := 52) dX0_neighboursOf_11 rfl (fun c => ?_) (fun c => ?_)
      ·
        omega
      ·
        refine x_iload dX0_neighboursOf_14 rfl ?_
        refine x_iload_n dX0_neighboursOf_16 rfl ?_
        refine x_icmpn_eq (a := q) (b := g) (by omega) (by omega) (tgt := 46) dX0_neighboursOf_17 rfl (fun c2 => ?_) (fun c2 => ?_)
        ·
          refine x_iinc (v := nI (q + 1)) (ls' := [.ref 14, .int (nI g), .int (nI t), .int (nI (nbF n h a g t q)), .int (nI (q + 1))]) dX0_neighboursOf_46 rfl (inc_1 _) rfl rfl ?_
          refine x_goto (tgt := 5) dX0_neighboursOf_49 rfl ?_
          rw [decide_eq_true c2] at key
          exact key
        ·
          refine x_aload_n dX0_neighboursOf_20 rfl ?_
          refine x_iload_n dX0_neighboursOf_21 rfl ?_
          refine x_iload dX0_neighboursOf_22 rfl ?_
          refine x_callVi 0 ml_X0_141 in_X0_ordersWithNext se_X0_ordersWithNext ct_X0_ordersWithNext rfl (c_ordersWithNext (d := 1) (by decide) hn hg (by omega) hB) dX0_neighboursOf_24 hd rfl rfl rfl rfl (Nat.le_of_ble_eq_true rfl) (fun r0 J0 h0 => ?_)
          obtain ⟨rfl, hJ0⟩ := h0
          obtain rfl := hJ0.symm
          refine x_aload_n dX0_neighboursOf_27 rfl ?_
          refine x_iload dX0_neighboursOf_28 rfl ?_
          refine x_iload_n dX0_neighboursOf_30 rfl ?_
          refine x_callVi 0 ml_X0_141 in_X0_ordersWithNext se_X0_ordersWithNext ct_X0_ordersWithNext rfl (c_ordersWithNext (d := 1) (by decide) hn (by omega) hg hB) dX0_neighboursOf_31 hd rfl rfl rfl rfl (Nat.le_of_ble_eq_true rfl) (fun r0 J0 h0 => ?_)
          obtain ⟨rfl, hJ0⟩ := h0
          obtain rfl := hJ0.symm
          refine x_iadd (v := nI ((owN n h a g q (2 ^ n)) + (owN n h a q g (2 ^ n)))) dX0_neighboursOf_34 (nI_add _ _) ?_
          refine x_iload_n dX0_neighboursOf_35 rfl ?_
          refine x_icmpn_lt (a := (owN n h a g q (2 ^ n)) + (owN n h a q g (2 ^ n))) (b := t) (by omega) (by omega) (tgt := 46) dX0_neighboursOf_36 rfl (fun c3 => ?_) (fun c3 => ?_)
          ·
            refine x_iinc (v := nI (q + 1)) (ls' := [.ref 14, .int (nI g), .int (nI t), .int (nI (nbF n h a g t q)), .int (nI (q + 1))]) dX0_neighboursOf_46 rfl (inc_1 _) rfl rfl ?_
            refine x_goto (tgt := 5) dX0_neighboursOf_49 rfl ?_
            rw [decide_eq_false c2, decide_eq_false (by omega)] at key
            exact key
          ·
            refine x_iload_n dX0_neighboursOf_39 rfl ?_
            refine x_iconst dX0_neighboursOf_40 ic_1 ?_
            refine x_iload dX0_neighboursOf_41 rfl ?_
            refine x_ishl (v := nI (1 <<< q)) dX0_neighboursOf_43 (nI_shl _ (by omega)) ?_
            refine x_ior (v := nI ((nbF n h a g t q) ||| (1 <<< q))) dX0_neighboursOf_44 (nI_or _ _) ?_
            refine x_istore_n (ls' := [.ref 14, .int (nI g), .int (nI t), .int (nI ((nbF n h a g t q) ||| (1 <<< q))), .int (nI q)]) dX0_neighboursOf_45 rfl rfl ?_
            refine x_iinc (v := nI (q + 1)) (ls' := [.ref 14, .int (nI g), .int (nI t), .int (nI ((nbF n h a g t q) ||| (1 <<< q))), .int (nI (q + 1))]) dX0_neighboursOf_46 rfl (inc_1 _) rfl rfl ?_
            refine x_goto (tgt := 5) dX0_neighboursOf_49 rfl ?_
            rw [decide_eq_false c2, decide_eq_true c3] at key
            exact key
  refine Cx.of [.ref 14, .int (nI g), .int (nI t), .null, .null] (by decide) rfl rfl (Nat.le_of_ble_eq_true rfl) rfl ?_
  refine x_iconst dX0_neighboursOf_0 ic_0 ?_
  refine x_istore_n (ls' := [.ref 14, .int (nI g), .int (nI t), .int (nI 0), .null]) dX0_neighboursOf_1 rfl rfl ?_
  refine x_iconst dX0_neighboursOf_2 ic_0 ?_
  refine x_istore (ls' := [.ref 14, .int (nI g), .int (nI t), .int (nI 0), .int (nI 0)]) dX0_neighboursOf_3 rfl rfl ?_
  exact lp n 0 (by omega)
theorem c_leastPlaceOf {g : Nat} (hd : 3 ≤ d) (hn : n ≤ 8) (hg : g < n) (hb : ∀ p, p < n → owA n h a g p (2 ^ n) < 2 ^ 31) (hB : BOk I n h a) : Cx LX yX0_leastPlaceOf mX0_leastPlaceOf d [.ref 14, .int (nI g)] I (xRi (fun r J => r = oI ((List.range n).find? (fun p => decide (0 < owA n h a g p (2 ^ n)))) ∧ J = I)) := by
  have lp : ∀ (k p : Nat), p + k = n → (∀ q, q < p → owA n h a g q (2 ^ n) = 0) → Wx LX mX0_leastPlaceOf d (xRi (fun r J => r = oI ((List.range n).find? (fun p => decide (0 < owA n h a g p (2 ^ n)))) ∧ J = I)) 2 [.ref 14, .int (nI g), .int (nI p)] [] I := by
    intro k
    induction k with
    | zero =>
      intro p hp hno
      refine x_iload_n dX0_leastPlaceOf_2 rfl ?_
      refine x_aload_n dX0_leastPlaceOf_3 rfl ?_
      refine x_getI 0 0 (v := nI n) rfl (by decide) fl_X0_57 dX0_leastPlaceOf_4 rfl rfl rfl hB.1 ?_
      refine x_icmpn_ge (a := p) (b := n) (by omega) (by omega) (tgt := 27) dX0_leastPlaceOf_7 rfl (fun c => ?_) (fun c => ?_)
      ·
        refine x_bipush dX0_leastPlaceOf_27 bp_m6 ?_
        refine x_ireti dX0_leastPlaceOf_29 rfl ⟨?_, rfl⟩
        have : (List.range n).find? (fun p => decide (0 < owA n h a g p (2 ^ n))) = none := by
          rw [List.find?_eq_none]; intro x hx; have := List.mem_range.mp hx; simp [hno x (by omega)]
        rw [this]; rfl
      ·
        omega
    | succ k ih =>
      intro p hp hno
      have hbp := hb p (by omega)
      refine x_iload_n dX0_leastPlaceOf_2 rfl ?_
      refine x_aload_n dX0_leastPlaceOf_3 rfl ?_
      refine x_getI 0 0 (v := nI n) rfl (by decide) fl_X0_57 dX0_leastPlaceOf_4 rfl rfl rfl hB.1 ?_
      refine x_icmpn_ge (a := p) (b := n) (by omega) (by omega) (tgt := 27) dX0_leastPlaceOf_7 rfl (fun c => ?_) (fun c => ?_)
      ·
        omega
      ·
        refine x_aload_n dX0_leastPlaceOf_10 rfl ?_
        refine x_iload_n dX0_leastPlaceOf_11 rfl ?_
        refine x_iload_n dX0_leastPlaceOf_12 rfl ?_
        refine x_callVi 0 ml_X0_144 in_X0_ordersWithAt se_X0_ordersWithAt ct_X0_ordersWithAt rfl (c_ordersWithAt (d := 2) (by decide) hn hg (by omega) hB) dX0_leastPlaceOf_13 hd rfl rfl rfl rfl (Nat.le_of_ble_eq_true rfl) (fun r0 J0 h0 => ?_)
        obtain ⟨rfl, hJ0⟩ := h0
        obtain rfl := hJ0.symm
        refine x_ifn_le (a := owA n h a g p (2 ^ n)) (by omega) (tgt := 21) dX0_leastPlaceOf_16 rfl (fun c2 => ?_) (fun c2 => ?_)
        ·
          refine x_iinc (v := nI (p + 1)) (ls' := [.ref 14, .int (nI g), .int (nI (p + 1))]) dX0_leastPlaceOf_21 rfl (inc_1 _) rfl rfl ?_
          refine x_goto (tgt := 2) dX0_leastPlaceOf_24 rfl ?_
          exact ih (p + 1) (by omega) (fun q hq => by rcases (show q < p ∨ q = p by omega) with e | rfl; exact hno q e; exact c2)
        ·
          refine x_iload_n dX0_leastPlaceOf_19 rfl ?_
          refine x_ireti dX0_leastPlaceOf_20 rfl ⟨?_, rfl⟩
          have : (List.range n).find? (fun p => decide (0 < owA n h a g p (2 ^ n))) = some p := by
            rw [List.find?_range_eq_some]
            exact ⟨by simpa using c2, List.mem_range.mpr (by omega), fun j hj => by simp [hno j hj]⟩
          rw [this]; rfl
  refine Cx.of [.ref 14, .int (nI g), .null] (by decide) rfl rfl (Nat.le_of_ble_eq_true rfl) rfl ?_
  refine x_iconst dX0_leastPlaceOf_0 ic_0 ?_
  refine x_istore_n (ls' := [.ref 14, .int (nI g), .int (nI 0)]) dX0_leastPlaceOf_1 rfl rfl ?_
  exact lp n 0 (by omega) (fun q hq => by omega)
theorem c_greatestPlaceOf {g : Nat} (hd : 3 ≤ d) (hn : n ≤ 8) (hg : g < n) (hb : ∀ p, p < n → owA n h a g p (2 ^ n) < 2 ^ 31) (hB : BOk I n h a) : Cx LX yX0_greatestPlaceOf mX0_greatestPlaceOf d [.ref 14, .int (nI g)] I (xRi (fun r J => r = oI ((List.range n).reverse.find? (fun p => decide (0 < owA n h a g p (2 ^ n)))) ∧ J = I)) := by
  have lp : ∀ (k : Nat), k ≤ n → (List.range n).reverse.find? (fun p => decide (0 < owA n h a g p (2 ^ n))) = (List.range k).reverse.find? (fun p => decide (0 < owA n h a g p (2 ^ n))) → Wx LX mX0_greatestPlaceOf d (xRi (fun r J => r = oI ((List.range n).reverse.find? (fun p => decide (0 < owA n h a g p (2 ^ n)))) ∧ J = I)) 7 [.ref 14, .int (nI g), .int (nI k - nI 1)] [] I := by
    intro k
    induction k with
    | zero =>
      intro hk e
      rw [show nI 0 - nI 1 = (-1) by decide +kernel]
      refine x_iload_n dX0_greatestPlaceOf_7 rfl ?_
      refine x_if_lt (tgt := 28) dX0_greatestPlaceOf_8 rfl (fun c => ?_) (fun c => ?_)
      ·
        refine x_bipush dX0_greatestPlaceOf_28 bp_m6 ?_
        refine x_ireti dX0_greatestPlaceOf_30 rfl ⟨by rw [e]; rfl, rfl⟩
      ·
        exact absurd (by decide +kernel) c
    | succ k ih =>
      intro hk e
      have hbp := hb k (by omega)
      rw [pk_sub (by omega), show k + 1 - 1 = k by omega]
      rw [List.range_succ, List.reverse_append] at e
      simp only [List.reverse_cons, List.reverse_nil, List.nil_append, List.singleton_append, List.cons_append] at e
      refine x_iload_n dX0_greatestPlaceOf_7 rfl ?_
      refine x_ifn_lt (a := k) (by omega) (tgt := 28) dX0_greatestPlaceOf_8 rfl (fun c => ?_) (fun c => ?_)
      ·
        exact absurd c id
      ·
        refine x_aload_n dX0_greatestPlaceOf_11 rfl ?_
        refine x_iload_n dX0_greatestPlaceOf_12 rfl ?_
        refine x_iload_n dX0_greatestPlaceOf_13 rfl ?_
        refine x_callVi 0 ml_X0_144 in_X0_ordersWithAt se_X0_ordersWithAt ct_X0_ordersWithAt rfl (c_ordersWithAt (d := 2) (by decide) hn hg (by omega) hB) dX0_greatestPlaceOf_14 hd rfl rfl rfl rfl (Nat.le_of_ble_eq_true rfl) (fun r0 J0 h0 => ?_)
        obtain ⟨rfl, hJ0⟩ := h0
        obtain rfl := hJ0.symm
        refine x_ifn_le (a := owA n h a g k (2 ^ n)) (by omega) (tgt := 22) dX0_greatestPlaceOf_17 rfl (fun c2 => ?_) (fun c2 => ?_)
        ·
          refine x_iinc (v := nI k - nI 1) (ls' := [.ref 14, .int (nI g), .int (nI k - nI 1)]) dX0_greatestPlaceOf_22 rfl (dec_raw _) rfl rfl ?_
          refine x_goto (tgt := 7) dX0_greatestPlaceOf_25 rfl ?_
          rw [List.find?_cons_of_neg (by simp [c2])] at e
          exact ih (by omega) e
        ·
          refine x_iload_n dX0_greatestPlaceOf_20 rfl ?_
          rw [List.find?_cons_of_pos (by simpa using c2)] at e
          refine x_ireti dX0_greatestPlaceOf_21 rfl ⟨by rw [e]; rfl, rfl⟩
  refine Cx.of [.ref 14, .int (nI g), .null] (by decide) rfl rfl (Nat.le_of_ble_eq_true rfl) rfl ?_
  refine x_aload_n dX0_greatestPlaceOf_0 rfl ?_
  refine x_getI 0 0 (v := nI n) rfl (by decide) fl_X0_57 dX0_greatestPlaceOf_1 rfl rfl rfl hB.1 ?_
  refine x_iconst dX0_greatestPlaceOf_4 ic_1 ?_
  refine x_isub (v := nI n - nI 1) dX0_greatestPlaceOf_5 rfl ?_
  refine x_istore_n (ls' := [.ref 14, .int (nI g), .int (nI n - nI 1)]) dX0_greatestPlaceOf_6 rfl rfl ?_
  exact lp n (Nat.le_refl _) rfl
end XQ
