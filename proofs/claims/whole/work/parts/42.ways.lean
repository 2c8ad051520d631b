/-! the class: ways on and ways to -/
def on0 (n : Nat) (a : Nat → Nat) (S : Nat) : Nat := rf (fun s g => if !S.testBit g && decide (a g &&& S = 0) then s ||| 1 <<< g else s) 0 n
def on0F (a : Nat → Nat) (S k : Nat) : Nat := rf (fun s g => if !S.testBit g && decide (a g &&& S = 0) then s ||| 1 <<< g else s) 0 k
theorem rf_bits {p : Nat → Bool} : ∀ (k i : Nat), (rf (fun s g => if p g then s ||| 1 <<< g else s) 0 k).testBit i = (decide (i < k) && p i)
  | 0, i => by simp [rf]
  | k + 1, i => by
    rw [rf_s]
    have ih := rf_bits (p := p) k i
    by_cases hp : p k
    · rw [if_pos hp, bit_or1, ih]
      by_cases e : i = k
      · subst e; simp [hp]
      · have : decide (i < k + 1) = decide (i < k) := decide_eq_decide.mpr (by omega)
        rw [this]; simp [e]
    · rw [if_neg hp, ih]
      by_cases e : i = k
      · subst e; simp [hp]
      · have : decide (i < k + 1) = decide (i < k) := decide_eq_decide.mpr (by omega)
        rw [this]
theorem rf_bits_lt {p : Nat → Bool} (k : Nat) : rf (fun s g => if p g then s ||| 1 <<< g else s) 0 k < 2 ^ k := by
  apply Nat.lt_pow_two_of_testBit
  intro i hi
  rw [rf_bits, decide_eq_false (by omega)]; rfl
def Wst (n : Nat) (on : Nat → Nat → Nat) : Nat → Nat → Nat → Nat
  | 0, _, _ => 1
  | k + 1, S, l => rf (fun s g => if (on S l).testBit g then s + Wst n on k (S ||| 1 <<< g) g else s) 0 n
def Wr (n : Nat) (on : Nat → Nat → Nat) (S l : Nat) : Nat := Wst n on (rem n S) S l
theorem Wr_step {n : Nat} {on : Nat → Nat → Nat} {S l k : Nat} (hk : rem n S = k + 1) (hob : ∀ g, (on S l).testBit g = true → g < n ∧ S.testBit g = false) : Wr n on S l = rf (fun s g => if (on S l).testBit g then s + Wr n on (S ||| 1 <<< g) g else s) 0 n := by
  rw [Wr, hk]
  simp only [Wst]
  apply rf_congr
  intro m g _
  cases e : (on S l).testBit g with
  | false => rfl
  | true =>
    obtain ⟨h1, h2⟩ := hob g e
    have := rem_or h1 h2
    rw [Wr, show rem n (S ||| 1 <<< g) = k by omega]
section XK
variable {I : xMem} {n d : Nat} {h a L : Nat → Nat}
theorem c_openAllowed (hd : 1 ≤ d) (hn : n ≤ 8) (ha : ∀ g, a g < 256) (hA : ∀ g, g < 8 → I 3 g = nI (a g)) (h0 : I 14 0 = nI n) (hf : I 14 1 = nI (1 <<< n - 1)) : Cx LX yX0_openAllowed mX0_openAllowed d [.ref 14, .ref 1] I (xRv (fun J => (∀ S l, S < 2 ^ n → l < n → J 15 (S * 8 + l) = nI (on0 n a S)) ∧ ∀ c, c ≠ 15 → J c = I c)) := by
  have hp := p2_le hn
  have hfl : 1 <<< n - 1 + 1 = 2 ^ n := by rw [Nat.one_shiftLeft]; have := Nat.one_le_two_pow (n := n); omega
  have inn2 : ∀ (k l S : Nat) (J : xMem), l + k = n → S < 2 ^ n → (∀ S' l, S' < S → l < n → J 15 (S' * 8 + l) = nI (on0 n a S')) → (∀ q, q < l → J 15 (S * 8 + q) = nI (on0 n a S)) → (∀ c, c ≠ 15 → J c = I c) →
      (∀ (v3 v4 : Value) (J : xMem), (∀ S' l, S' < S + 1 → l < n → J 15 (S' * 8 + l) = nI (on0 n a S')) → (∀ c, c ≠ 15 → J c = I c) → Wx LX mX0_openAllowed d (xRv (fun J => (∀ S l, S < 2 ^ n → l < n → J 15 (S * 8 + l) = nI (on0 n a S)) ∧ ∀ c, c ≠ 15 → J c = I c)) 2 [.ref 14, .ref 1, .int (nI (S + 1)), v3, v4] [] J) →
      Wx LX mX0_openAllowed d (xRv (fun J => (∀ S l, S < 2 ^ n → l < n → J 15 (S * 8 + l) = nI (on0 n a S)) ∧ ∀ c, c ≠ 15 → J c = I c)) 61 [.ref 14, .ref 1, .int (nI S), .int (nI (on0 n a S)), .int (nI l)] [] J := by
    intro k
    induction k with
    | zero =>
      intro l S J hl hS j1 j2 jf kk
      refine x_iload dX0_openAllowed_61 rfl ?_
      refine x_aload_n dX0_openAllowed_63 rfl ?_
      refine x_getI 0 0 (v := nI n) rfl (by decide) fl_X0_57 dX0_openAllowed_64 rfl rfl rfl (by rw [jf 14 (by decide)]; exact h0) ?_
      refine x_icmpn_ge (a := l) (b := n) (by omega) (by omega) (tgt := 88) dX0_openAllowed_67 rfl (fun c => ?_) (fun c => ?_)
      ·
        refine x_iinc (v := nI (S + 1)) (ls' := [.ref 14, .ref 1, .int (nI (S + 1)), .int (nI (on0 n a S)), .int (nI l)]) dX0_openAllowed_88 rfl (inc_1 _) rfl rfl ?_
        refine x_goto (tgt := 2) dX0_openAllowed_91 rfl ?_
        refine kk _ _ J (fun S' q hS' hq => ?_) jf
        rcases Nat.lt_or_ge S' S with e | e
        · exact j1 S' q e hq
        · have e : S' = S := by omega
          subst e; exact j2 q (by omega)
      ·
        omega
    | succ k ih =>
      intro l S J hl hS j1 j2 jf kk
      refine x_iload dX0_openAllowed_61 rfl ?_
      refine x_aload_n dX0_openAllowed_63 rfl ?_
      refine x_getI 0 0 (v := nI n) rfl (by decide) fl_X0_57 dX0_openAllowed_64 rfl rfl rfl (by rw [jf 14 (by decide)]; exact h0) ?_
      refine x_icmpn_ge (a := l) (b := n) (by omega) (by omega) (tgt := 88) dX0_openAllowed_67 rfl (fun c => ?_) (fun c => ?_)
      ·
        omega
      ·
        refine x_aload_n dX0_openAllowed_70 rfl ?_
        refine x_getR 0 5 rfl (by decide) fl_X0_9 dX0_openAllowed_71 rfl rfl rfl ?_
        refine x_iload_n dX0_openAllowed_74 rfl ?_
        refine x_iload dX0_openAllowed_75 rfl ?_
        refine x_callSi (as := [.int (nI S), .int (nI l)]) ml_X0_101 st_X0_stateOf ct_X0_stateOf (c_stateOf (d := 0)) dX0_openAllowed_77 hd rfl rfl (Nat.le_of_ble_eq_true rfl) (fun r0 J0 h0 => ?_)
        obtain ⟨rfl, hJ0⟩ := h0
        obtain rfl := hJ0.symm
        refine x_iload_n dX0_openAllowed_80 rfl ?_
        refine x_iast (p := (S * 8 + l)) dX0_openAllowed_81 rfl rfl rfl rfl (by omega) ?_
        generalize hK1 : xup J 15 (S * 8 + l) (nI (on0 n a S)) = K1
        refine x_iinc (v := nI (l + 1)) (ls' := [.ref 14, .ref 1, .int (nI S), .int (nI (on0 n a S)), .int (nI (l + 1))]) dX0_openAllowed_82 rfl (inc_1 _) rfl rfl ?_
        refine x_goto (tgt := 61) dX0_openAllowed_85 rfl ?_
        refine ih (l + 1) S K1 (by omega) hS (fun S' q hS' hq => ?_) (fun q hq => ?_) (fun c hc => by rw [← hK1, xup_ne hc]; exact jf c hc) kk
        · rw [← hK1, xup_eq, if_neg (by omega)]; exact j1 S' q hS' hq
        · rw [← hK1, xup_eq]
          by_cases e : q = l
          · subst e; rw [if_pos rfl]
          · rw [if_neg (by omega)]; exact j2 q (by omega)
  have inn1 : ∀ (k g S : Nat) (J : xMem), g + k = n → S < 2 ^ n → (∀ c, c ≠ 15 → J c = I c) →
      (Wx LX mX0_openAllowed d (xRv (fun J => (∀ S l, S < 2 ^ n → l < n → J 15 (S * 8 + l) = nI (on0 n a S)) ∧ ∀ c, c ≠ 15 → J c = I c)) 58 [.ref 14, .ref 1, .int (nI S), .int (nI (on0 n a S)), .int (nI n)] [] J) →
      Wx LX mX0_openAllowed d (xRv (fun J => (∀ S l, S < 2 ^ n → l < n → J 15 (S * 8 + l) = nI (on0 n a S)) ∧ ∀ c, c ≠ 15 → J c = I c)) 15 [.ref 14, .ref 1, .int (nI S), .int (nI (on0F a S g)), .int (nI g)] [] J := by
    intro k
    induction k with
    | zero =>
      intro g S J hg hS jf kk
      have e : g = n := by omega
      subst e
      refine x_iload dX0_openAllowed_15 rfl ?_
      refine x_aload_n dX0_openAllowed_17 rfl ?_
      refine x_getI 0 0 (v := nI g) rfl (by decide) fl_X0_57 dX0_openAllowed_18 rfl rfl rfl (by rw [jf 14 (by decide)]; exact h0) ?_
      refine x_icmpn_ge (a := g) (b := g) (by omega) (by omega) (tgt := 58) dX0_openAllowed_21 rfl (fun c => ?_) (fun c => ?_)
      ·
        exact kk
      ·
        omega
    | succ k ih =>
      intro g S J hg hS jf kk
      have key := ih (g + 1) S J (by omega) hS jf kk
      have hb := ha g
      have hb2 : a g &&& S ≤ a g := Nat.and_le_left
      have e1 : on0F a S (g + 1) = if !S.testBit g && decide (a g &&& S = 0) then on0F a S g ||| 1 <<< g else on0F a S g := rf_s _ _ _
      rw [e1] at key
      refine x_iload dX0_openAllowed_15 rfl ?_
      refine x_aload_n dX0_openAllowed_17 rfl ?_
      refine x_getI 0 0 (v := nI n) rfl (by decide) fl_X0_57 dX0_openAllowed_18 rfl rfl rfl (by rw [jf 14 (by decide)]; exact h0) ?_
      refine x_icmpn_ge (a := g) (b := n) (by omega) (by omega) (tgt := 58) dX0_openAllowed_21 rfl (fun c => ?_) (fun c => ?_)
      ·
        omega
      ·
        refine x_iload_n dX0_openAllowed_24 rfl ?_
        refine x_iload dX0_openAllowed_25 rfl ?_
        refine x_callSNi (as := [.int (nI S), .int (nI g)]) (fun _ h => h.2.1) st_X5_isMember ct_X5_isMember (c_isMember (d := 0) (by omega) (by omega)) dX0_openAllowed_27 hd rfl rfl (Nat.le_of_ble_eq_true rfl) (fun r0 J0 h0 => ?_)
        obtain ⟨rfl, hJ0⟩ := h0
        obtain rfl := hJ0.symm
        refine x_ifb_ne (b := S.testBit g) (tgt := 52) dX0_openAllowed_30 rfl (fun c2 => ?_) (fun c2 => ?_)
        ·
          refine x_iinc (v := nI (g + 1)) (ls' := [.ref 14, .ref 1, .int (nI S), .int (nI (on0F a S g)), .int (nI (g + 1))]) dX0_openAllowed_52 rfl (inc_1 _) rfl rfl ?_
          refine x_goto (tgt := 15) dX0_openAllowed_55 rfl ?_
          rw [c2] at key
          exact key
        ·
          refine x_aload_n dX0_openAllowed_33 rfl ?_
          refine x_getR 1 2 rfl (by decide) fl_X0_98 dX0_openAllowed_34 rfl rfl rfl ?_
          refine x_iload dX0_openAllowed_37 rfl ?_
          refine x_iald (p := g) (v := nI (a g)) dX0_openAllowed_39 rfl rfl rfl rfl (by omega) (by rw [jf 3 (by decide)]; exact hA g (by omega)) ?_
          refine x_iload_n dX0_openAllowed_40 rfl ?_
          refine x_iand (v := nI ((a g) &&& S)) dX0_openAllowed_41 (nI_and _ _) ?_
          refine x_ifn_ne (a := (a g) &&& S) (by omega) (tgt := 52) dX0_openAllowed_42 rfl (fun c3 => ?_) (fun c3 => ?_)
          ·
            refine x_iinc (v := nI (g + 1)) (ls' := [.ref 14, .ref 1, .int (nI S), .int (nI (on0F a S g)), .int (nI (g + 1))]) dX0_openAllowed_52 rfl (inc_1 _) rfl rfl ?_
            refine x_goto (tgt := 15) dX0_openAllowed_55 rfl ?_
            rw [c2, decide_eq_false c3] at key
            exact key
          ·
            refine x_iload_n dX0_openAllowed_45 rfl ?_
            refine x_iconst dX0_openAllowed_46 ic_1 ?_
            refine x_iload dX0_openAllowed_47 rfl ?_
            refine x_ishl (v := nI (1 <<< g)) dX0_openAllowed_49 (nI_shl _ (by omega)) ?_
            refine x_ior (v := nI ((on0F a S g) ||| (1 <<< g))) dX0_openAllowed_50 (nI_or _ _) ?_
            refine x_istore_n (ls' := [.ref 14, .ref 1, .int (nI S), .int (nI ((on0F a S g) ||| (1 <<< g))), .int (nI g)]) dX0_openAllowed_51 rfl rfl ?_
            refine x_iinc (v := nI (g + 1)) (ls' := [.ref 14, .ref 1, .int (nI S), .int (nI ((on0F a S g) ||| (1 <<< g))), .int (nI (g + 1))]) dX0_openAllowed_52 rfl (inc_1 _) rfl rfl ?_
            refine x_goto (tgt := 15) dX0_openAllowed_55 rfl ?_
            rw [c2, decide_eq_true c3] at key
            exact key
  have out : ∀ (k S : Nat) (v3 v4 : Value) (J : xMem), S + k = 2 ^ n → (∀ S' l, S' < S → l < n → J 15 (S' * 8 + l) = nI (on0 n a S')) → (∀ c, c ≠ 15 → J c = I c) → Wx LX mX0_openAllowed d (xRv (fun J => (∀ S l, S < 2 ^ n → l < n → J 15 (S * 8 + l) = nI (on0 n a S)) ∧ ∀ c, c ≠ 15 → J c = I c)) 2 [.ref 14, .ref 1, .int (nI S), v3, v4] [] J := by
    intro k
    induction k with
    | zero =>
      intro S v3 v4 J hS j1 jf
      refine x_iload_n dX0_openAllowed_2 rfl ?_
      refine x_aload_n dX0_openAllowed_3 rfl ?_
      refine x_getI 0 1 (v := nI (1 <<< n - 1)) rfl (by decide) fl_X0_58 dX0_openAllowed_4 rfl rfl rfl (by rw [jf 14 (by decide)]; exact hf) ?_
      refine x_icmpn_gt (a := S) (b := 1 <<< n - 1) (by omega) (by omega) (tgt := 94) dX0_openAllowed_7 rfl (fun c => ?_) (fun c => ?_)
      ·
        refine x_vretv dX0_openAllowed_94 rfl ⟨fun S' l h1 h2 => j1 S' l (by omega) h2, jf⟩
      ·
        omega
    | succ k ih =>
      intro S v3 v4 J hS j1 jf
      refine x_iload_n dX0_openAllowed_2 rfl ?_
      refine x_aload_n dX0_openAllowed_3 rfl ?_
      refine x_getI 0 1 (v := nI (1 <<< n - 1)) rfl (by decide) fl_X0_58 dX0_openAllowed_4 rfl rfl rfl (by rw [jf 14 (by decide)]; exact hf) ?_
      refine x_icmpn_gt (a := S) (b := 1 <<< n - 1) (by omega) (by omega) (tgt := 94) dX0_openAllowed_7 rfl (fun c => ?_) (fun c => ?_)
      ·
        omega
      ·
        refine x_iconst dX0_openAllowed_10 ic_0 ?_
        refine x_istore_n (ls' := [.ref 14, .ref 1, .int (nI S), .int (nI 0), v4]) dX0_openAllowed_11 rfl rfl ?_
        refine x_iconst dX0_openAllowed_12 ic_0 ?_
        refine x_istore (ls' := [.ref 14, .ref 1, .int (nI S), .int (nI 0), .int (nI 0)]) dX0_openAllowed_13 rfl rfl ?_
        refine inn1 n 0 S J (by omega) (by omega) jf ?_
        refine x_iconst dX0_openAllowed_58 ic_0 ?_
        refine x_istore (ls' := [.ref 14, .ref 1, .int (nI S), .int (nI (on0 n a S)), .int (nI 0)]) dX0_openAllowed_59 rfl rfl ?_
        exact inn2 n 0 S J (by omega) (by omega) j1 (fun q hq => by omega) jf (fun v3 v4 J a1 a2 => ih (S + 1) v3 v4 J (by omega) a1 a2)
  refine Cx.of [.ref 14, .ref 1, .null, .null, .null] (by decide) rfl rfl (Nat.le_of_ble_eq_true rfl) rfl ?_
  refine x_iconst dX0_openAllowed_0 ic_0 ?_
  refine x_istore_n (ls' := [.ref 14, .ref 1, .int (nI 0), .null, .null]) dX0_openAllowed_1 rfl rfl ?_
  exact out (2 ^ n) 0 _ _ I (by omega) (fun S' l h => by omega) (fun _ _ => rfl)
/-- a state's next graves, those kept by which the least cost is met -/
def on1 (n : Nat) (on : Nat → Nat → Nat) (c : Nat → Nat → Nat → Nat) (S l : Nat) : Nat := if isSt S l then onK n on c S l else on S l
theorem c_keepCheapest {on : Nat → Nat → Nat} {hr : Nat → Nat} (hd : 3 ≤ d) (hn : n ≤ 8) (hh : ∀ g, hr g < 1024) (hI : ∀ g, g < 8 → I 23 g = nI (hr g)) (h0 : I 14 0 = nI n) (hf : I 14 1 = nI (1 <<< n - 1)) (hon : ∀ S l, S < 2 ^ n → l < n → I 15 (S * 8 + l) = nI (on S l)) (hob : ∀ S l g, S < 2 ^ n → l < n → (on S l).testBit g = true → g < n ∧ S.testBit g = false) (hlt : ∀ S l, S < 2 ^ n → l < n → on S l < 256) (hrF : ∀ S l, S < 2 ^ n → l < n → isSt S l = true → I 18 (S * 8 + l) = nI (Rr n on (cR hr) S l)) : Cx LX yX0_keepCheapest mX0_keepCheapest d [.ref 14, .ref 22] I (xRv (fun J => (∀ S l, S < 2 ^ n → l < n → J 15 (S * 8 + l) = nI (on1 n on (cR hr) S l)) ∧ ∀ c, c ≠ 15 → J c = I c)) := by
  have hp := p2_le hn
  have hfl : 1 <<< n - 1 + 1 = 2 ^ n := by rw [Nat.one_shiftLeft]; have := Nat.one_le_two_pow (n := n); omega
  have inn : ∀ (k l S : Nat) (J : xMem), l + k = n → S < 2 ^ n → (∀ S' q, S' < 2 ^ n → q < n → J 15 (S' * 8 + q) = nI (if S' < S ∨ (S' = S ∧ q < l) then on1 n on (cR hr) S' q else on S' q)) → (∀ c, c ≠ 15 → J c = I c) →
      (∀ (v3 : Value) (J : xMem), (∀ S' q, S' < 2 ^ n → q < n → J 15 (S' * 8 + q) = nI (if S' < S + 1 ∨ (S' = S + 1 ∧ q < 0) then on1 n on (cR hr) S' q else on S' q)) → (∀ c, c ≠ 15 → J c = I c) → Wx LX mX0_keepCheapest d (xRv (fun J => (∀ S l, S < 2 ^ n → l < n → J 15 (S * 8 + l) = nI (on1 n on (cR hr) S l)) ∧ ∀ c, c ≠ 15 → J c = I c)) 2 [.ref 14, .ref 22, .int (nI (S + 1)), v3] [] J) →
      Wx LX mX0_keepCheapest d (xRv (fun J => (∀ S l, S < 2 ^ n → l < n → J 15 (S * 8 + l) = nI (on1 n on (cR hr) S l)) ∧ ∀ c, c ≠ 15 → J c = I c)) 12 [.ref 14, .ref 22, .int (nI S), .int (nI l)] [] J := by
    intro k
    induction k with
    | zero =>
      intro l S J hl hS j1 jf kk
      refine x_iload_n dX0_keepCheapest_12 rfl ?_
      refine x_aload_n dX0_keepCheapest_13 rfl ?_
      refine x_getI 0 0 (v := nI n) rfl (by decide) fl_X0_57 dX0_keepCheapest_14 rfl rfl rfl (by rw [jf 14 (by decide)]; exact h0) ?_
      refine x_icmpn_ge (a := l) (b := n) (by omega) (by omega) (tgt := 51) dX0_keepCheapest_17 rfl (fun c => ?_) (fun c => ?_)
      ·
        refine x_iinc (v := nI (S + 1)) (ls' := [.ref 14, .ref 22, .int (nI (S + 1)), .int (nI l)]) dX0_keepCheapest_51 rfl (inc_1 _) rfl rfl ?_
        refine x_goto (tgt := 2) dX0_keepCheapest_54 rfl ?_
        refine kk _ J (fun S' q hS' hq => ?_) jf
        rw [j1 S' q hS' hq]
        by_cases e : S' < S + 1
        · rw [if_pos (by omega), if_pos (by omega)]
        · rw [if_neg (by omega), if_neg (by omega)]
      ·
        omega
    | succ k ih =>
      intro l S J hl hS j1 jf kk
      have e15 : J 15 (S * 8 + l) = nI (on S l) := by rw [j1 S l hS (by omega), if_neg (by omega)]
      refine x_iload_n dX0_keepCheapest_12 rfl ?_
      refine x_aload_n dX0_keepCheapest_13 rfl ?_
      refine x_getI 0 0 (v := nI n) rfl (by decide) fl_X0_57 dX0_keepCheapest_14 rfl rfl rfl (by rw [jf 14 (by decide)]; exact h0) ?_
      refine x_icmpn_ge (a := l) (b := n) (by omega) (by omega) (tgt := 51) dX0_keepCheapest_17 rfl (fun c => ?_) (fun c => ?_)
      ·
        omega
      ·
        refine x_iload_n dX0_keepCheapest_20 rfl ?_
        refine x_iload_n dX0_keepCheapest_21 rfl ?_
        refine x_callSi (as := [.int (nI S), .int (nI l)]) ml_X0_105 st_X0_isState ct_X0_isState (c_isState (d := 1) (by decide) (by omega) (by omega)) dX0_keepCheapest_22 (by omega) rfl rfl (Nat.le_of_ble_eq_true rfl) (fun r0 J0 h0 => ?_)
        obtain ⟨rfl, hJ0⟩ := h0
        obtain rfl := hJ0.symm
        refine x_ifb_eq (b := isSt S l) (tgt := 45) dX0_keepCheapest_25 rfl (fun c2 => ?_) (fun c2 => ?_)
        ·
          refine x_iinc (v := nI (l + 1)) (ls' := [.ref 14, .ref 22, .int (nI S), .int (nI (l + 1))]) dX0_keepCheapest_45 rfl (inc_1 _) rfl rfl ?_
          refine x_goto (tgt := 12) dX0_keepCheapest_48 rfl ?_
          refine ih (l + 1) S J (by omega) hS (fun S' q hS' hq => ?_) jf kk
          rw [j1 S' q hS' hq]
          by_cases e : S' = S ∧ q = l
          · obtain ⟨rfl, rfl⟩ := e
            rw [if_neg (by omega), if_pos (by omega), on1, c2]; rfl
          · by_cases e2 : S' < S ∨ (S' = S ∧ q < l)
            · rw [if_pos e2, if_pos (by omega)]
            · rw [if_neg e2, if_neg (by omega)]
        ·
          refine x_aload_n dX0_keepCheapest_28 rfl ?_
          refine x_getR 0 5 rfl (by decide) fl_X0_9 dX0_keepCheapest_29 rfl rfl rfl ?_
          refine x_iload_n dX0_keepCheapest_32 rfl ?_
          refine x_iload_n dX0_keepCheapest_33 rfl ?_
          refine x_callSi (as := [.int (nI S), .int (nI l)]) ml_X0_101 st_X0_stateOf ct_X0_stateOf (c_stateOf (d := 0)) dX0_keepCheapest_34 (by omega) rfl rfl (Nat.le_of_ble_eq_true rfl) (fun r0 J0 h0 => ?_)
          obtain ⟨rfl, hJ0⟩ := h0
          obtain rfl := hJ0.symm
          refine x_aload_n dX0_keepCheapest_37 rfl ?_
          refine x_aload_n dX0_keepCheapest_38 rfl ?_
          refine x_iload_n dX0_keepCheapest_39 rfl ?_
          refine x_iload_n dX0_keepCheapest_40 rfl ?_
          refine x_callVi 0 ml_X0_127 in_X0_cheapestNext se_X0_cheapestNext ct_X0_cheapestNext rfl (c_cheapestNext22 (d := 2) (on := on) (hr := hr) (by decide) hn hS (by omega) c2 hh (by rw [jf 23 (by decide)]; exact hI) (by rw [jf 14 (by decide)]; exact h0) e15 (fun g hg => hob S l g hS (by omega) hg) (hlt S l hS (by omega)) (by rw [jf 18 (by decide)]; exact hrF)) dX0_keepCheapest_41 hd rfl rfl rfl rfl (Nat.le_of_ble_eq_true rfl) (fun r0 J0 h0 => ?_)
          obtain ⟨rfl, hJ0⟩ := h0
          obtain rfl := hJ0.symm
          refine x_iast (p := (S * 8 + l)) dX0_keepCheapest_44 rfl rfl rfl rfl (by omega) ?_
          generalize hK1 : xup J 15 (S * 8 + l) (nI (onK n on (cR hr) S l)) = K1
          refine x_iinc (v := nI (l + 1)) (ls' := [.ref 14, .ref 22, .int (nI S), .int (nI (l + 1))]) dX0_keepCheapest_45 rfl (inc_1 _) rfl rfl ?_
          refine x_goto (tgt := 12) dX0_keepCheapest_48 rfl ?_
          refine ih (l + 1) S K1 (by omega) hS (fun S' q hS' hq => ?_) (fun c hc => by rw [← hK1, xup_ne hc]; exact jf c hc) kk
          rw [← hK1, xup_eq]
          by_cases e : S' * 8 + q = S * 8 + l
          · have e1 : S' = S := by omega
            have e2 : q = l := by omega
            subst e1; subst e2
            rw [if_pos rfl, if_pos (by omega), on1, c2]; rfl
          · rw [if_neg e, j1 S' q hS' hq]
            by_cases e2 : S' < S ∨ (S' = S ∧ q < l)
            · rw [if_pos e2, if_pos (by omega)]
            · rw [if_neg e2, if_neg (by omega)]
  have out : ∀ (k S : Nat) (v3 : Value) (J : xMem), S + k = 2 ^ n → (∀ S' q, S' < 2 ^ n → q < n → J 15 (S' * 8 + q) = nI (if S' < S ∨ (S' = S ∧ q < 0) then on1 n on (cR hr) S' q else on S' q)) → (∀ c, c ≠ 15 → J c = I c) → Wx LX mX0_keepCheapest d (xRv (fun J => (∀ S l, S < 2 ^ n → l < n → J 15 (S * 8 + l) = nI (on1 n on (cR hr) S l)) ∧ ∀ c, c ≠ 15 → J c = I c)) 2 [.ref 14, .ref 22, .int (nI S), v3] [] J := by
    intro k
    induction k with
    | zero =>
      intro S v3 J hS j1 jf
      refine x_iload_n dX0_keepCheapest_2 rfl ?_
      refine x_aload_n dX0_keepCheapest_3 rfl ?_
      refine x_getI 0 1 (v := nI (1 <<< n - 1)) rfl (by decide) fl_X0_58 dX0_keepCheapest_4 rfl rfl rfl (by rw [jf 14 (by decide)]; exact hf) ?_
      refine x_icmpn_gt (a := S) (b := 1 <<< n - 1) (by omega) (by omega) (tgt := 57) dX0_keepCheapest_7 rfl (fun c => ?_) (fun c => ?_)
      ·
        refine x_vretv dX0_keepCheapest_57 rfl ⟨fun S' l h1 h2 => by rw [j1 S' l h1 h2, if_pos (by omega)], jf⟩
      ·
        omega
    | succ k ih =>
      intro S v3 J hS j1 jf
      refine x_iload_n dX0_keepCheapest_2 rfl ?_
      refine x_aload_n dX0_keepCheapest_3 rfl ?_
      refine x_getI 0 1 (v := nI (1 <<< n - 1)) rfl (by decide) fl_X0_58 dX0_keepCheapest_4 rfl rfl rfl (by rw [jf 14 (by decide)]; exact hf) ?_
      refine x_icmpn_gt (a := S) (b := 1 <<< n - 1) (by omega) (by omega) (tgt := 57) dX0_keepCheapest_7 rfl (fun c => ?_) (fun c => ?_)
      ·
        omega
      ·
        refine x_iconst dX0_keepCheapest_10 ic_0 ?_
        refine x_istore_n (ls' := [.ref 14, .ref 22, .int (nI S), .int (nI 0)]) dX0_keepCheapest_11 rfl rfl ?_
        exact inn n 0 S J (by omega) (by omega) j1 jf (fun v3 J a1 a2 => ih (S + 1) v3 J (by omega) a1 a2)
  refine Cx.of [.ref 14, .ref 22, .null, .null] (by decide) rfl rfl (Nat.le_of_ble_eq_true rfl) rfl ?_
  refine x_iconst dX0_keepCheapest_0 ic_0 ?_
  refine x_istore_n (ls' := [.ref 14, .ref 22, .int (nI 0), .null]) dX0_keepCheapest_1 rfl rfl ?_
  exact out (2 ^ n) 0 _ I (by omega) (fun S' q h1 h2 => by rw [if_neg (by omega)]; exact hon S' q h1 h2) (fun _ _ => rfl)
theorem c_sumOver16 {nx S : Nat} {f : Nat → Nat → Nat} (hd : 1 ≤ d) (hn : n ≤ 8) (hS : S < 2 ^ n) (hx : nx < 256) (hob : ∀ g, nx.testBit g = true → g < n ∧ S.testBit g = false) (h0 : I 14 0 = nI n) (hf : ∀ g, g < n → S.testBit g = false → I 16 ((S ||| 1 <<< g) * 8 + g) = nI (f (S ||| 1 <<< g) g)) : Cx LX yX0_sumOver mX0_sumOver d [.ref 14, .ref 16, .int (nI nx), .int (nI S)] I (xRi (fun r J => r = nI (rf (fun s g => if nx.testBit g then s + f (S ||| 1 <<< g) g else s) 0 n) ∧ J = I)) := by
  have hp := p2_le hn
  have lp : ∀ (k g : Nat), g + k = n → Wx LX mX0_sumOver d (xRi (fun r J => r = nI (rf (fun s g => if nx.testBit g then s + f (S ||| 1 <<< g) g else s) 0 n) ∧ J = I)) 6 [.ref 14, .ref 16, .int (nI nx), .int (nI S), .int (nI (rf (fun s g => if nx.testBit g then s + f (S ||| 1 <<< g) g else s) 0 g)), .int (nI g)] [] I := by
    intro k
    induction k with
    | zero =>
      intro g hg
      have e : g = n := by omega
      subst e
      refine x_iload dX0_sumOver_6 rfl ?_
      refine x_aload_n dX0_sumOver_8 rfl ?_
      refine x_getI 0 0 (v := nI g) rfl (by decide) fl_X0_57 dX0_sumOver_9 rfl rfl rfl h0 ?_
      refine x_icmpn_ge (a := g) (b := g) (by omega) (by omega) (tgt := 43) dX0_sumOver_12 rfl (fun c => ?_) (fun c => ?_)
      ·
        refine x_iload dX0_sumOver_43 rfl ?_
        refine x_ireti dX0_sumOver_45 rfl ⟨rfl, rfl⟩
      ·
        omega
    | succ k ih =>
      intro g hg
      have key := ih (g + 1) (by omega)
      rw [rf_s] at key
      generalize rf (fun s g => if nx.testBit g then s + f (S ||| 1 <<< g) g else s) 0 g = M at key ⊢
      refine x_iload dX0_sumOver_6 rfl ?_
      refine x_aload_n dX0_sumOver_8 rfl ?_
      refine x_getI 0 0 (v := nI n) rfl (by decide) fl_X0_57 dX0_sumOver_9 rfl rfl rfl h0 ?_
      refine x_icmpn_ge (a := g) (b := n) (by omega) (by omega) (tgt := 43) dX0_sumOver_12 rfl (fun c => ?_) (fun c => ?_)
      ·
        omega
      ·
        refine x_iload_n dX0_sumOver_15 rfl ?_
        refine x_iload dX0_sumOver_16 rfl ?_
        refine x_callSNi (as := [.int (nI nx), .int (nI g)]) (fun _ h => h.2.1) st_X5_isMember ct_X5_isMember (c_isMember (d := 0) (by omega) (by omega)) dX0_sumOver_18 hd rfl rfl (Nat.le_of_ble_eq_true rfl) (fun r0 J0 h0 => ?_)
        obtain ⟨rfl, hJ0⟩ := h0
        obtain rfl := hJ0.symm
        refine x_ifb_eq (b := nx.testBit g) (tgt := 37) dX0_sumOver_21 rfl (fun c2 => ?_) (fun c2 => ?_)
        ·
          refine x_iinc (v := nI (g + 1)) (ls' := [.ref 14, .ref 16, .int (nI nx), .int (nI S), .int (nI M), .int (nI (g + 1))]) dX0_sumOver_37 rfl (inc_1 _) rfl rfl ?_
          refine x_goto (tgt := 6) dX0_sumOver_40 rfl ?_
          rw [c2, if_neg (by decide)] at key
          exact key
        ·
          obtain ⟨b1, b2⟩ := hob g c2
          have hS2 := or_lt hS b1
          refine x_iload dX0_sumOver_24 rfl ?_
          refine x_aload_n dX0_sumOver_26 rfl ?_
          refine x_iload_n dX0_sumOver_27 rfl ?_
          refine x_iload dX0_sumOver_28 rfl ?_
          refine x_callSi (as := [.int (nI S), .int (nI g)]) ml_X0_113 st_X0_stateAfter ct_X0_stateAfter (c_stateAfter (d := 0) (by omega)) dX0_sumOver_30 hd rfl rfl (Nat.le_of_ble_eq_true rfl) (fun r0 J0 h0 => ?_)
          obtain ⟨rfl, hJ0⟩ := h0
          obtain rfl := hJ0.symm
          refine x_iald (p := ((S ||| 1 <<< g) * 8 + g)) (v := nI (f (S ||| 1 <<< g) g)) dX0_sumOver_33 rfl rfl rfl rfl (by omega) (hf g b1 b2) ?_
          refine x_iadd (v := nI (M + (f (S ||| 1 <<< g) g))) dX0_sumOver_34 (nI_add _ _) ?_
          refine x_istore (ls' := [.ref 14, .ref 16, .int (nI nx), .int (nI S), .int (nI (M + (f (S ||| 1 <<< g) g))), .int (nI g)]) dX0_sumOver_35 rfl rfl ?_
          refine x_iinc (v := nI (g + 1)) (ls' := [.ref 14, .ref 16, .int (nI nx), .int (nI S), .int (nI (M + (f (S ||| 1 <<< g) g))), .int (nI (g + 1))]) dX0_sumOver_37 rfl (inc_1 _) rfl rfl ?_
          refine x_goto (tgt := 6) dX0_sumOver_40 rfl ?_
          rw [c2, if_pos rfl] at key
          exact key
  refine Cx.of [.ref 14, .ref 16, .int (nI nx), .int (nI S), .null, .null] (by decide) rfl rfl (Nat.le_of_ble_eq_true rfl) rfl ?_
  refine x_iconst dX0_sumOver_0 ic_0 ?_
  refine x_istore (ls' := [.ref 14, .ref 16, .int (nI nx), .int (nI S), .int (nI 0), .null]) dX0_sumOver_1 rfl rfl ?_
  refine x_iconst dX0_sumOver_3 ic_0 ?_
  refine x_istore (ls' := [.ref 14, .ref 16, .int (nI nx), .int (nI S), .int (nI 0), .int (nI 0)]) dX0_sumOver_4 rfl rfl ?_
  exact lp n 0 (by omega)
theorem c_sumOver18 {nx S : Nat} {f : Nat → Nat → Nat} (hd : 1 ≤ d) (hn : n ≤ 8) (hS : S < 2 ^ n) (hx : nx < 256) (hob : ∀ g, nx.testBit g = true → g < n ∧ S.testBit g = false) (h0 : I 14 0 = nI n) (hf : ∀ g, g < n → S.testBit g = false → I 18 ((S ||| 1 <<< g) * 8 + g) = nI (f (S ||| 1 <<< g) g)) : Cx LX yX0_sumOver mX0_sumOver d [.ref 14, .ref 18, .int (nI nx), .int (nI S)] I (xRi (fun r J => r = nI (rf (fun s g => if nx.testBit g then s + f (S ||| 1 <<< g) g else s) 0 n) ∧ J = I)) := by
  have hp := p2_le hn
  have lp : ∀ (k g : Nat), g + k = n → Wx LX mX0_sumOver d (xRi (fun r J => r = nI (rf (fun s g => if nx.testBit g then s + f (S ||| 1 <<< g) g else s) 0 n) ∧ J = I)) 6 [.ref 14, .ref 18, .int (nI nx), .int (nI S), .int (nI (rf (fun s g => if nx.testBit g then s + f (S ||| 1 <<< g) g else s) 0 g)), .int (nI g)] [] I := by
    intro k
    induction k with
    | zero =>
      intro g hg
      have e : g = n := by omega
      subst e
      refine x_iload dX0_sumOver_6 rfl ?_
      refine x_aload_n dX0_sumOver_8 rfl ?_
      refine x_getI 0 0 (v := nI g) rfl (by decide) fl_X0_57 dX0_sumOver_9 rfl rfl rfl h0 ?_
      refine x_icmpn_ge (a := g) (b := g) (by omega) (by omega) (tgt := 43) dX0_sumOver_12 rfl (fun c => ?_) (fun c => ?_)
      ·
        refine x_iload dX0_sumOver_43 rfl ?_
        refine x_ireti dX0_sumOver_45 rfl ⟨rfl, rfl⟩
      ·
        omega
    | succ k ih =>
      intro g hg
      have key := ih (g + 1) (by omega)
      rw [rf_s] at key
      generalize rf (fun s g => if nx.testBit g then s + f (S ||| 1 <<< g) g else s) 0 g = M at key ⊢
      refine x_iload dX0_sumOver_6 rfl ?_
      refine x_aload_n dX0_sumOver_8 rfl ?_
      refine x_getI 0 0 (v := nI n) rfl (by decide) fl_X0_57 dX0_sumOver_9 rfl rfl rfl h0 ?_
      refine x_icmpn_ge (a := g) (b := n) (by omega) (by omega) (tgt := 43) dX0_sumOver_12 rfl (fun c => ?_) (fun c => ?_)
      ·
        omega
      ·
        refine x_iload_n dX0_sumOver_15 rfl ?_
        refine x_iload dX0_sumOver_16 rfl ?_
        refine x_callSNi (as := [.int (nI nx), .int (nI g)]) (fun _ h => h.2.1) st_X5_isMember ct_X5_isMember (c_isMember (d := 0) (by omega) (by omega)) dX0_sumOver_18 hd rfl rfl (Nat.le_of_ble_eq_true rfl) (fun r0 J0 h0 => ?_)
        obtain ⟨rfl, hJ0⟩ := h0
        obtain rfl := hJ0.symm
        refine x_ifb_eq (b := nx.testBit g) (tgt := 37) dX0_sumOver_21 rfl (fun c2 => ?_) (fun c2 => ?_)
        ·
          refine x_iinc (v := nI (g + 1)) (ls' := [.ref 14, .ref 18, .int (nI nx), .int (nI S), .int (nI M), .int (nI (g + 1))]) dX0_sumOver_37 rfl (inc_1 _) rfl rfl ?_
          refine x_goto (tgt := 6) dX0_sumOver_40 rfl ?_
          rw [c2, if_neg (by decide)] at key
          exact key
        ·
          obtain ⟨b1, b2⟩ := hob g c2
          have hS2 := or_lt hS b1
          refine x_iload dX0_sumOver_24 rfl ?_
          refine x_aload_n dX0_sumOver_26 rfl ?_
          refine x_iload_n dX0_sumOver_27 rfl ?_
          refine x_iload dX0_sumOver_28 rfl ?_
          refine x_callSi (as := [.int (nI S), .int (nI g)]) ml_X0_113 st_X0_stateAfter ct_X0_stateAfter (c_stateAfter (d := 0) (by omega)) dX0_sumOver_30 hd rfl rfl (Nat.le_of_ble_eq_true rfl) (fun r0 J0 h0 => ?_)
          obtain ⟨rfl, hJ0⟩ := h0
          obtain rfl := hJ0.symm
          refine x_iald (p := ((S ||| 1 <<< g) * 8 + g)) (v := nI (f (S ||| 1 <<< g) g)) dX0_sumOver_33 rfl rfl rfl rfl (by omega) (hf g b1 b2) ?_
          refine x_iadd (v := nI (M + (f (S ||| 1 <<< g) g))) dX0_sumOver_34 (nI_add _ _) ?_
          refine x_istore (ls' := [.ref 14, .ref 18, .int (nI nx), .int (nI S), .int (nI (M + (f (S ||| 1 <<< g) g))), .int (nI g)]) dX0_sumOver_35 rfl rfl ?_
          refine x_iinc (v := nI (g + 1)) (ls' := [.ref 14, .ref 18, .int (nI nx), .int (nI S), .int (nI (M + (f (S ||| 1 <<< g) g))), .int (nI (g + 1))]) dX0_sumOver_37 rfl (inc_1 _) rfl rfl ?_
          refine x_goto (tgt := 6) dX0_sumOver_40 rfl ?_
          rw [c2, if_pos rfl] at key
          exact key
  refine Cx.of [.ref 14, .ref 18, .int (nI nx), .int (nI S), .null, .null] (by decide) rfl rfl (Nat.le_of_ble_eq_true rfl) rfl ?_
  refine x_iconst dX0_sumOver_0 ic_0 ?_
  refine x_istore (ls' := [.ref 14, .ref 18, .int (nI nx), .int (nI S), .int (nI 0), .null]) dX0_sumOver_1 rfl rfl ?_
  refine x_iconst dX0_sumOver_3 ic_0 ?_
  refine x_istore (ls' := [.ref 14, .ref 18, .int (nI nx), .int (nI S), .int (nI 0), .int (nI 0)]) dX0_sumOver_4 rfl rfl ?_
  exact lp n 0 (by omega)
theorem c_countWaysOn {on : Nat → Nat → Nat} (hd : 2 ≤ d) (h1 : 1 ≤ n) (hn : n ≤ 8) (h0 : I 14 0 = nI n) (hf : I 14 1 = nI (1 <<< n - 1)) (hon : ∀ S l, S < 2 ^ n → l < n → I 15 (S * 8 + l) = nI (on S l)) (hob : ∀ S l g, S < 2 ^ n → l < n → (on S l).testBit g = true → g < n ∧ S.testBit g = false) (hlt : ∀ S l, S < 2 ^ n → l < n → on S l < 256) : Cx LX yX0_countWaysOn mX0_countWaysOn d [.ref 14] I (xRv (fun J => (∀ S l, S < 2 ^ n → l < n → isSt S l = true → J 16 (S * 8 + l) = nI (Wr n on S l)) ∧ ∀ c, c ≠ 16 → J c = I c)) := by
  have hp := p2_le hn
  have hfl : 1 <<< n - 1 + 1 = 2 ^ n := by rw [Nat.one_shiftLeft]; have := Nat.one_le_two_pow (n := n); omega
  have inn : ∀ (k l S : Nat) (v3 : Value) (J : xMem), l + k = n → S < 2 ^ n → (∀ S' l, S < S' → S' < 2 ^ n → l < n → isSt S' l = true → J 16 (S' * 8 + l) = nI (Wr n on S' l)) → (∀ q, q < l → isSt S q = true → J 16 (S * 8 + q) = nI (Wr n on S q)) → (∀ c, c ≠ 16 → J c = I c) →
      (∀ (v2 v3 : Value) (J : xMem), (∀ S' l, S ≤ S' → S' < 2 ^ n → l < n → isSt S' l = true → J 16 (S' * 8 + l) = nI (Wr n on S' l)) → (∀ c, c ≠ 16 → J c = I c) → Wx LX mX0_countWaysOn d (xRv (fun J => (∀ S l, S < 2 ^ n → l < n → isSt S l = true → J 16 (S * 8 + l) = nI (Wr n on S l)) ∧ ∀ c, c ≠ 16 → J c = I c)) 5 [.ref 14, .int (nI S - nI 1), v2, v3] [] J) →
      Wx LX mX0_countWaysOn d (xRv (fun J => (∀ S l, S < 2 ^ n → l < n → isSt S l = true → J 16 (S * 8 + l) = nI (Wr n on S l)) ∧ ∀ c, c ≠ 16 → J c = I c)) 11 [.ref 14, .int (nI S), .int (nI l), v3] [] J := by
    intro k
    induction k with
    | zero =>
      intro l S v3 J hl hS j1 j2 jf kk
      refine x_iload_n dX0_countWaysOn_11 rfl ?_
      refine x_aload_n dX0_countWaysOn_12 rfl ?_
      refine x_getI 0 0 (v := nI n) rfl (by decide) fl_X0_57 dX0_countWaysOn_13 rfl rfl rfl (by rw [jf 14 (by decide)]; exact h0) ?_
      refine x_icmpn_ge (a := l) (b := n) (by omega) (by omega) (tgt := 72) dX0_countWaysOn_16 rfl (fun c => ?_) (fun c => ?_)
      ·
        refine x_iinc (v := nI S - nI 1) (ls' := [.ref 14, .int (nI S - nI 1), .int (nI l), v3]) dX0_countWaysOn_72 rfl (dec_raw _) rfl rfl ?_
        refine x_goto (tgt := 5) dX0_countWaysOn_75 rfl ?_
        refine kk _ _ J (fun S' q hS' hS2 hq hst => ?_) jf
        rcases Nat.lt_or_ge S S' with e | e
        · exact j1 S' q e hS2 hq hst
        · have e : S' = S := by omega
          subst e; exact j2 q (by omega) hst
      ·
        omega
    | succ k ih =>
      intro l S v3 J hl hS j1 j2 jf kk
      have hS8 : S * 8 + l < 2048 := by omega
      have j14 : J 14 0 = nI n := by rw [jf 14 (by decide)]; exact h0
      have stx : ∀ (x : Nat), isSt S l = true → x = Wr n on S l → Wx LX mX0_countWaysOn d (xRv (fun J => (∀ S l, S < 2 ^ n → l < n → isSt S l = true → J 16 (S * 8 + l) = nI (Wr n on S l)) ∧ ∀ c, c ≠ 16 → J c = I c)) 65 [.ref 14, .int (nI S), .int (nI l), .int (nI (S * 8 + l))] [.int (nI x), .int (nI (S * 8 + l)), .ref 16] J := by
        intro x hst ex
        refine x_iast (p := S * 8 + l) dX0_countWaysOn_65 rfl rfl rfl rfl (by omega) ?_
        generalize hK1 : xup J 16 (S * 8 + l) (nI x) = K1
        refine x_iinc (v := nI (l + 1)) (ls' := [.ref 14, .int (nI S), .int (nI (l + 1)), .int (nI (S * 8 + l))]) dX0_countWaysOn_66 rfl (inc_1 _) rfl rfl ?_
        refine x_goto (tgt := 11) dX0_countWaysOn_69 rfl ?_
        refine ih (l + 1) S _ K1 (by omega) hS (fun S' q hS' hS2 hq h2 => ?_) (fun q hq h2 => ?_) (fun c hc => by rw [← hK1, xup_ne hc]; exact jf c hc) kk
        · rw [← hK1, xup_eq, if_neg (by omega)]; exact j1 S' q hS' hS2 hq h2
        · rw [← hK1, xup_eq]
          by_cases e : q = l
          · subst e; rw [if_pos rfl, ex]
          · rw [if_neg (by omega)]; exact j2 q (by omega) h2
      refine x_iload_n dX0_countWaysOn_11 rfl ?_
      refine x_aload_n dX0_countWaysOn_12 rfl ?_
      refine x_getI 0 0 (v := nI n) rfl (by decide) fl_X0_57 dX0_countWaysOn_13 rfl rfl rfl j14 ?_
      refine x_icmpn_ge (a := l) (b := n) (by omega) (by omega) (tgt := 72) dX0_countWaysOn_16 rfl (fun c => ?_) (fun c => ?_)
      ·
        omega
      ·
        refine x_iload_n dX0_countWaysOn_19 rfl ?_
        refine x_iload_n dX0_countWaysOn_20 rfl ?_
        refine x_callSi (as := [.int (nI S), .int (nI l)]) ml_X0_105 st_X0_isState ct_X0_isState (c_isState (d := 1) (by decide) (by omega) (by omega)) dX0_countWaysOn_21 (by omega) rfl rfl (Nat.le_of_ble_eq_true rfl) (fun r0 J0 h0 => ?_)
        obtain ⟨rfl, hJ0⟩ := h0
        obtain rfl := hJ0.symm
        refine x_ifb_eq (b := isSt S l) (tgt := 66) dX0_countWaysOn_24 rfl (fun c2 => ?_) (fun c2 => ?_)
        ·
          refine x_iinc (v := nI (l + 1)) (ls' := [.ref 14, .int (nI S), .int (nI (l + 1)), v3]) dX0_countWaysOn_66 rfl (inc_1 _) rfl rfl ?_
          refine x_goto (tgt := 11) dX0_countWaysOn_69 rfl ?_
          refine ih (l + 1) S _ J (by omega) hS j1 (fun q hq h2 => ?_) jf kk
          by_cases e : q = l
          · subst e; rw [c2] at h2; cases h2
          · exact j2 q (by omega) h2
        ·
          refine x_iload_n dX0_countWaysOn_27 rfl ?_
          refine x_iload_n dX0_countWaysOn_28 rfl ?_
          refine x_callSi (as := [.int (nI S), .int (nI l)]) ml_X0_101 st_X0_stateOf ct_X0_stateOf (c_stateOf (d := 0)) dX0_countWaysOn_29 (by omega) rfl rfl (Nat.le_of_ble_eq_true rfl) (fun r0 J0 h0 => ?_)
          obtain ⟨rfl, hJ0⟩ := h0
          obtain rfl := hJ0.symm
          refine x_istore_n (ls' := [.ref 14, .int (nI S), .int (nI l), .int (nI (S * 8 + l))]) dX0_countWaysOn_32 rfl rfl ?_
          refine x_aload_n dX0_countWaysOn_33 rfl ?_
          refine x_getR 0 6 rfl (by decide) fl_X0_15 dX0_countWaysOn_34 rfl rfl rfl ?_
          refine x_iload_n dX0_countWaysOn_37 rfl ?_
          refine x_iload_n dX0_countWaysOn_38 rfl ?_
          refine x_aload_n dX0_countWaysOn_39 rfl ?_
          refine x_getI 0 1 (v := nI (1 <<< n - 1)) rfl (by decide) fl_X0_58 dX0_countWaysOn_40 rfl rfl rfl (by rw [jf 14 (by decide)]; exact hf) ?_
          refine x_icmpn_ne (a := S) (b := 1 <<< n - 1) (by omega) (by omega) (tgt := 50) dX0_countWaysOn_43 rfl (fun c3 => ?_) (fun c3 => ?_)
          ·
            have hrem : rem n S ≠ 0 := fun e => c3 ((rem_0 hS).mp e)
            obtain ⟨k', hk'⟩ : ∃ k', rem n S = k' + 1 := ⟨rem n S - 1, by omega⟩
            refine x_aload_n dX0_countWaysOn_50 rfl ?_
            refine x_aload_n dX0_countWaysOn_51 rfl ?_
            refine x_getR 0 6 rfl (by decide) fl_X0_15 dX0_countWaysOn_52 rfl rfl rfl ?_
            refine x_aload_n dX0_countWaysOn_55 rfl ?_
            refine x_getR 0 5 rfl (by decide) fl_X0_9 dX0_countWaysOn_56 rfl rfl rfl ?_
            refine x_iload_n dX0_countWaysOn_59 rfl ?_
            refine x_iald (p := (S * 8 + l)) (v := nI (on S l)) dX0_countWaysOn_60 rfl rfl rfl rfl (by omega) (by rw [jf 15 (by decide)]; exact hon S l hS (by omega)) ?_
            refine x_iload_n dX0_countWaysOn_61 rfl ?_
            refine x_callVi 0 ml_X0_130 in_X0_sumOver se_X0_sumOver ct_X0_sumOver rfl (c_sumOver16 (d := 1) (f := fun S g => Wr n on S g) (by decide) hn hS (hlt S l hS (by omega)) (fun g hg => hob S l g hS (by omega) hg) j14 (fun g hg hb => j1 _ g (or_gt hb) (or_lt hS hg) hg (isSt_or S g))) dX0_countWaysOn_62 hd rfl rfl rfl rfl (Nat.le_of_ble_eq_true rfl) (fun r0 J0 h0 => ?_)
            obtain ⟨rfl, hJ0⟩ := h0
            obtain rfl := hJ0.symm
            exact stx _ c2 (Wr_step hk' (fun g hg => hob S l g hS (by omega) hg)).symm
          ·
            refine x_iconst dX0_countWaysOn_46 ic_1 ?_
            refine x_goto (tgt := 65) dX0_countWaysOn_47 rfl ?_
            exact stx 1 c2 (by rw [Wr, (rem_0 hS).mpr c3]; rfl)
  have out : ∀ (K : Nat) (v2 v3 : Value) (J : xMem), K ≤ 2 ^ n → (∀ S' l, K ≤ S' → S' < 2 ^ n → l < n → isSt S' l = true → J 16 (S' * 8 + l) = nI (Wr n on S' l)) → (∀ c, c ≠ 16 → J c = I c) → Wx LX mX0_countWaysOn d (xRv (fun J => (∀ S l, S < 2 ^ n → l < n → isSt S l = true → J 16 (S * 8 + l) = nI (Wr n on S l)) ∧ ∀ c, c ≠ 16 → J c = I c)) 5 [.ref 14, .int (nI K - nI 1), v2, v3] [] J := by
    intro K
    induction K with
    | zero =>
      intro v2 v3 J hK j1 jf
      rw [show nI 0 - nI 1 = (-1) by decide +kernel]
      refine x_iload_n dX0_countWaysOn_5 rfl ?_
      refine x_if_lt (tgt := 78) dX0_countWaysOn_6 rfl (fun c => ?_) (fun c => ?_)
      ·
        refine x_vretv dX0_countWaysOn_78 rfl ⟨fun S l hS hl hst => j1 S l (Nat.zero_le _) hS hl hst, jf⟩
      ·
        exact absurd (by decide +kernel) c
    | succ K ih =>
      intro v2 v3 J hK j1 jf
      rw [pk_sub (by omega), show K + 1 - 1 = K by omega]
      refine x_iload_n dX0_countWaysOn_5 rfl ?_
      refine x_ifn_lt (a := K) (by omega) (tgt := 78) dX0_countWaysOn_6 rfl (fun c => ?_) (fun c => ?_)
      ·
        exact absurd c id
      ·
        refine x_iconst dX0_countWaysOn_9 ic_0 ?_
        refine x_istore_n (ls' := [.ref 14, .int (nI K), .int (nI 0), v3]) dX0_countWaysOn_10 rfl rfl ?_
        exact inn n 0 K _ J (by omega) (by omega) (fun S' q hS' hS2 hq hst => j1 S' q (by omega) hS2 hq hst) (fun q hq => by omega) jf (fun v2 v3 J a1 a2 => ih v2 v3 J (by omega) a1 a2)
  have e0 := out (2 ^ n) .null .null I (Nat.le_refl _) (fun S' l h1 h2 => by omega) (fun _ _ => rfl)
  rw [pk_sub Nat.one_le_two_pow, show 2 ^ n - 1 = 1 <<< n - 1 by omega] at e0
  refine Cx.of [.ref 14, .null, .null, .null] (by decide) rfl rfl (Nat.le_of_ble_eq_true rfl) rfl ?_
  refine x_aload_n dX0_countWaysOn_0 rfl ?_
  refine x_getI 0 1 (v := nI (1 <<< n - 1)) rfl (by decide) fl_X0_58 dX0_countWaysOn_1 rfl rfl rfl hf ?_
  refine x_istore_n (ls' := [.ref 14, .int (nI (1 <<< n - 1)), .null, .null]) dX0_countWaysOn_4 rfl rfl ?_
  exact e0
end XK
