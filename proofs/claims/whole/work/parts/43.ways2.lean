/-! the class: ways to a state -/
/-- the ways to a state, of so many graves -/
def Tst (n : Nat) (on : Nat → Nat → Nat) (t0 : Nat) : Nat → Nat → Nat → Nat
  | 0, _, _ => t0
  | k + 1, S, g => rf (fun s q => if isSt (nd S (1 <<< g)) q && (on (nd S (1 <<< g)) q).testBit g then s + Tst n on t0 k (nd S (1 <<< g)) q else s) 0 n
def Tr (n : Nat) (on : Nat → Nat → Nat) (t0 : Nat) (S g : Nat) : Nat := Tst n on t0 (n - rem n S) S g
/-- of them, those by the states q < l of P -/
def pT (n : Nat) (on : Nat → Nat → Nat) (t0 P g l : Nat) : Nat := rf (fun s q => if isSt P q && (on P q).testBit g then s + Tr n on t0 P q else s) 0 l
theorem pT_s (n : Nat) (on : Nat → Nat → Nat) (t0 P g l : Nat) : pT n on t0 P g (l + 1) = if isSt P l && (on P l).testBit g then pT n on t0 P g l + Tr n on t0 P l else pT n on t0 P g l := rf_s _ _ _
theorem rem_le (n S : Nat) : rem n S ≤ n := by
  have := List.length_filter_le (fun g => !S.testBit g) (List.range n)
  rw [List.length_range] at this; exact this
theorem nd_or {S g : Nat} (h : S.testBit g = false) : nd (S ||| 1 <<< g) (1 <<< g) = S := by
  apply Nat.eq_of_testBit_eq
  intro i
  rw [nd_bit, bit_or1, Nat.one_shiftLeft, Nat.testBit_two_pow]
  by_cases e : i = g
  · subst e; simp [h]
  · simp [e, Ne.symm e]
theorem or_nd {S g : Nat} (h : S.testBit g = true) : nd S (1 <<< g) ||| 1 <<< g = S := by
  apply Nat.eq_of_testBit_eq
  intro i
  rw [bit_or1, nd_bit, Nat.one_shiftLeft, Nat.testBit_two_pow]
  by_cases e : i = g
  · subst e; simp [h]
  · simp [e, Ne.symm e]
theorem nd_g {S g : Nat} : (nd S (1 <<< g)).testBit g = false := by
  rw [nd_bit, Nat.one_shiftLeft, Nat.testBit_two_pow]; simp
theorem nd_lt {S g : Nat} (h : S.testBit g = true) : nd S (1 <<< g) < S := by
  have := or_gt (S := nd S (1 <<< g)) (g := g) nd_g
  rwa [or_nd h] at this
theorem Tr_step {n : Nat} {on : Nat → Nat → Nat} {t0 S g : Nat} (hg : g < n) (h : S.testBit g = true) : Tr n on t0 S g = pT n on t0 (nd S (1 <<< g)) g n := by
  have h1 := rem_or (n := n) (S := nd S (1 <<< g)) hg nd_g
  rw [or_nd h] at h1
  have h2 := rem_le n (nd S (1 <<< g))
  rw [Tr, show n - rem n S = (n - rem n (nd S (1 <<< g))) + 1 by omega]
  simp only [Tst]
  rfl
theorem Tr_0 {n : Nat} {on : Nat → Nat → Nat} {t0 g : Nat} : Tr n on t0 0 g = t0 := by
  have : rem n 0 = n := by rw [rem, ascL_0, List.length_range]
  rw [Tr, this, Nat.sub_self]; rfl
def on2 (n : Nat) (on : Nat → Nat → Nat) (t0 S l : Nat) : Nat := if isSt S l && decide (Tr n on t0 S l = 0) then 0 else on S l
def folF (n : Nat) (on : Nat → Nat → Nat) (t0 S l : Nat) : Nat := rf (fun s q => if isSt S q then s ||| on2 n on t0 S q else s) 0 l
theorem folF_s (n : Nat) (on : Nat → Nat → Nat) (t0 S l : Nat) : folF n on t0 S (l + 1) = if isSt S l then folF n on t0 S l ||| on2 n on t0 S l else folF n on t0 S l := rf_s _ _ _
section XK
variable {I : xMem} {n d : Nat}
def passQ (I : xMem) (n S l t o f : Nat) (J : xMem) : Prop := J 15 (S * 8 + l) = nI o ∧ (∀ i, i ≠ S * 8 + l → J 15 i = I 15 i) ∧ J 19 S = nI (f ||| o) ∧ (∀ i, i ≠ S → J 19 i = I 19 i) ∧ (∀ g, o.testBit g = true → J 17 ((S ||| 1 <<< g) * 8 + g) = I 17 ((S ||| 1 <<< g) * 8 + g) + nI t) ∧ (∀ i, (∀ g, o.testBit g = true → i ≠ (S ||| 1 <<< g) * 8 + g) → J 17 i = I 17 i) ∧ ∀ c, c ≠ 15 → c ≠ 17 → c ≠ 19 → J c = I c
theorem c_passOn {S l t o f : Nat} (hd : 1 ≤ d) (hn : n ≤ 8) (hS : S < 2 ^ n) (hl : l < n) (h0 : I 14 0 = nI n) (ht : I 17 (S * 8 + l) = nI t) (ht2 : t < 2 ^ 31) (ho : I 15 (S * 8 + l) = nI o) (hlt : o < 256) (hob : ∀ g, o.testBit g = true → g < n ∧ S.testBit g = false) (hf : I 19 S = nI f) : Cx LX yX0_passOn mX0_passOn d [.ref 14, .int (nI S), .int (nI l)] I (xRv (passQ I n S l t (if t = 0 then 0 else o) f)) := by
  have hp := p2_le hn
  have lp : ∀ (k g o' : Nat) (J : xMem), g + k = n → o' < 256 → (∀ g, o'.testBit g = true → g < n ∧ S.testBit g = false) → o' = (if t = 0 then 0 else o) → J 15 (S * 8 + l) = nI o' → (∀ i, i ≠ S * 8 + l → J 15 i = I 15 i) → J 19 S = nI (f ||| o') → (∀ i, i ≠ S → J 19 i = I 19 i) → (∀ q, q < g → o'.testBit q = true → J 17 ((S ||| 1 <<< q) * 8 + q) = I 17 ((S ||| 1 <<< q) * 8 + q) + nI t) → (∀ i, (∀ q, q < g → o'.testBit q = true → i ≠ (S ||| 1 <<< q) * 8 + q) → J 17 i = I 17 i) → (∀ c, c ≠ 15 → c ≠ 17 → c ≠ 19 → J c = I c) → Wx LX mX0_passOn d (xRv (passQ I n S l t (if t = 0 then 0 else o) f)) 40 [.ref 14, .int (nI S), .int (nI l), .int (nI (S * 8 + l)), .int (nI g)] [] J := by
    intro k
    induction k with
    | zero =>
      intro g o' J hg hlt' hob' eo' j15 j15' j19 j19' j17 j17' jf
      refine x_iload dX0_passOn_40 rfl ?_
      refine x_aload_n dX0_passOn_42 rfl ?_
      refine x_getI 0 0 (v := nI n) rfl (by decide) fl_X0_57 dX0_passOn_43 rfl rfl rfl (by rw [jf 14 (by decide) (by decide) (by decide)]; exact h0) ?_
      refine x_icmpn_ge (a := g) (b := n) (by omega) (by omega) (tgt := 89) dX0_passOn_46 rfl (fun c => ?_) (fun c => ?_)
      ·
        rw [← eo']
        refine x_vretv dX0_passOn_89 rfl ⟨j15, j15', j19, j19', fun q hq => j17 q (by have := (hob' q hq).1; omega) hq, fun i hi => j17' i (fun q _ hq => hi q hq), jf⟩
      ·
        omega
    | succ k ih =>
      intro g o' J hg hlt' hob' eo' j15 j15' j19 j19' j17 j17' jf
      refine x_iload dX0_passOn_40 rfl ?_
      refine x_aload_n dX0_passOn_42 rfl ?_
      refine x_getI 0 0 (v := nI n) rfl (by decide) fl_X0_57 dX0_passOn_43 rfl rfl rfl (by rw [jf 14 (by decide) (by decide) (by decide)]; exact h0) ?_
      refine x_icmpn_ge (a := g) (b := n) (by omega) (by omega) (tgt := 89) dX0_passOn_46 rfl (fun c => ?_) (fun c => ?_)
      ·
        omega
      ·
        refine x_aload_n dX0_passOn_49 rfl ?_
        refine x_getR 0 5 rfl (by decide) fl_X0_9 dX0_passOn_50 rfl rfl rfl ?_
        refine x_iload_n dX0_passOn_53 rfl ?_
        refine x_iald (p := S * 8 + l) (v := nI o') dX0_passOn_54 rfl rfl rfl rfl (by omega) j15 ?_
        refine x_iload dX0_passOn_55 rfl ?_
        refine x_callSNi (as := [.int (nI o'), .int (nI g)]) (fun _ h => h.2.1) st_X5_isMember ct_X5_isMember (c_isMember (d := 0) (by omega) (by omega)) dX0_passOn_57 hd rfl rfl (Nat.le_of_ble_eq_true rfl) (fun r0 J0 h0 => ?_)
        obtain ⟨rfl, hJ0⟩ := h0
        obtain rfl := hJ0.symm
        refine x_ifb_eq (b := o'.testBit g) (tgt := 83) dX0_passOn_60 rfl (fun c2 => ?_) (fun c2 => ?_)
        ·
          refine x_iinc (v := nI (g + 1)) (ls' := [.ref 14, .int (nI S), .int (nI l), .int (nI (S * 8 + l)), .int (nI (g + 1))]) dX0_passOn_83 rfl (inc_1 _) rfl rfl ?_
          refine x_goto (tgt := 40) dX0_passOn_86 rfl ?_
          refine ih (g + 1) o' J (by omega) hlt' hob' eo' j15 j15' j19 j19' (fun q hq hb => ?_) (fun i hi => j17' i (fun q hq hb => hi q (by omega) hb)) jf
          by_cases e : q = g
          · subst e; rw [c2] at hb; cases hb
          · exact j17 q (by omega) hb
        ·
          obtain ⟨b1, b2⟩ := hob' g c2
          have hS2 := or_lt hS b1
          have hgt := or_gt b2
          have e1 : J 17 ((S ||| 1 <<< g) * 8 + g) = I 17 ((S ||| 1 <<< g) * 8 + g) := j17' _ (fun q hq _ => by omega)
          have e2 : J 17 (S * 8 + l) = nI t := by rw [j17' _ (fun q hq hb => by have := or_gt (hob' q hb).2; omega)]; exact ht
          refine x_aload_n dX0_passOn_63 rfl ?_
          refine x_getR 0 7 rfl (by decide) fl_X0_18 dX0_passOn_64 rfl rfl rfl ?_
          refine x_iload_n dX0_passOn_67 rfl ?_
          refine x_iload dX0_passOn_68 rfl ?_
          refine x_callSi (as := [.int (nI S), .int (nI g)]) ml_X0_113 st_X0_stateAfter ct_X0_stateAfter (c_stateAfter (d := 0) (by omega)) dX0_passOn_70 hd rfl rfl (Nat.le_of_ble_eq_true rfl) (fun r0 J0 h0 => ?_)
          obtain ⟨rfl, hJ0⟩ := h0
          obtain rfl := hJ0.symm
          refine x_dup2 dX0_passOn_73 rfl rfl ?_
          refine x_iald (p := ((S ||| 1 <<< g) * 8 + g)) (v := I 17 ((S ||| 1 <<< g) * 8 + g)) dX0_passOn_74 rfl rfl rfl rfl (by omega) e1 ?_
          refine x_aload_n dX0_passOn_75 rfl ?_
          refine x_getR 0 7 rfl (by decide) fl_X0_18 dX0_passOn_76 rfl rfl rfl ?_
          refine x_iload_n dX0_passOn_79 rfl ?_
          refine x_iald (p := S * 8 + l) (v := nI t) dX0_passOn_80 rfl rfl rfl rfl (by omega) e2 ?_
          refine x_iadd (v := (I 17 ((S ||| 1 <<< g) * 8 + g)) + (nI t)) dX0_passOn_81 rfl ?_
          refine x_iast (p := ((S ||| 1 <<< g) * 8 + g)) dX0_passOn_82 rfl rfl rfl rfl (by omega) ?_
          generalize hK1 : xup J 17 ((S ||| 1 <<< g) * 8 + g) ((I 17 ((S ||| 1 <<< g) * 8 + g)) + (nI t)) = K1
          refine x_iinc (v := nI (g + 1)) (ls' := [.ref 14, .int (nI S), .int (nI l), .int (nI (S * 8 + l)), .int (nI (g + 1))]) dX0_passOn_83 rfl (inc_1 _) rfl rfl ?_
          refine x_goto (tgt := 40) dX0_passOn_86 rfl ?_
          refine ih (g + 1) o' K1 (by omega) hlt' hob' eo' ?_ (fun i hi => ?_) ?_ (fun i hi => ?_) (fun q hq hb => ?_) (fun i hi => ?_) (fun c hc1 hc2 hc3 => by rw [← hK1, xup_ne hc2]; exact jf c hc1 hc2 hc3)
          · rw [← hK1, xup_ne (by decide)]; exact j15
          · rw [← hK1, xup_ne (by decide)]; exact j15' i hi
          · rw [← hK1, xup_ne (by decide)]; exact j19
          · rw [← hK1, xup_ne (by decide)]; exact j19' i hi
          · rw [← hK1, xup_eq]
            by_cases e : q = g
            · subst e; rw [if_pos rfl]
            · have hq8 := (hob' q hb).1
              rw [if_neg (by omega)]; exact j17 q (by omega) hb
          · rw [← hK1, xup_eq, if_neg (hi g (by omega) c2)]
            exact j17' i (fun q hq hb => hi q (by omega) hb)
  have mid : ∀ (o' : Nat) (J : xMem), o' < 256 → (∀ g, o'.testBit g = true → g < n ∧ S.testBit g = false) → o' = (if t = 0 then 0 else o) → J 15 (S * 8 + l) = nI o' → (∀ i, i ≠ S * 8 + l → J 15 i = I 15 i) → (∀ c, c ≠ 15 → J c = I c) → Wx LX mX0_passOn d (xRv (passQ I n S l t (if t = 0 then 0 else o) f)) 22 [.ref 14, .int (nI S), .int (nI l), .int (nI (S * 8 + l)), .null] [] J := by
    intro o' J hlt' hob' eo' j15 j15' jf
    refine x_aload_n dX0_passOn_22 rfl ?_
    refine x_getR 0 9 rfl (by decide) fl_X0_24 dX0_passOn_23 rfl rfl rfl ?_
    refine x_iload_n dX0_passOn_26 rfl ?_
    refine x_dup2 dX0_passOn_27 rfl rfl ?_
    refine x_iald (p := S) (v := nI f) dX0_passOn_28 rfl rfl rfl rfl (by omega) (by rw [jf 19 (by decide)]; exact hf) ?_
    refine x_aload_n dX0_passOn_29 rfl ?_
    refine x_getR 0 5 rfl (by decide) fl_X0_9 dX0_passOn_30 rfl rfl rfl ?_
    refine x_iload_n dX0_passOn_33 rfl ?_
    refine x_iald (p := S * 8 + l) (v := nI o') dX0_passOn_34 rfl rfl rfl rfl (by omega) j15 ?_
    refine x_ior (v := nI (f ||| o')) dX0_passOn_35 (nI_or _ _) ?_
    refine x_iast (p := S) dX0_passOn_36 rfl rfl rfl rfl (by omega) ?_
    generalize hK1 : xup J 19 S (nI (f ||| o')) = K1
    refine x_iconst dX0_passOn_37 ic_0 ?_
    refine x_istore (ls' := [.ref 14, .int (nI S), .int (nI l), .int (nI (S * 8 + l)), .int (nI 0)]) dX0_passOn_38 rfl rfl ?_
    refine lp n 0 o' K1 (by omega) hlt' hob' eo' ?_ (fun i hi => ?_) ?_ (fun i hi => ?_) (fun q hq => by omega) (fun i _ => ?_) (fun c h1 h2 h3 => by rw [← hK1, xup_ne h3]; exact jf c h1)
    · rw [← hK1, xup_ne (by decide)]; exact j15
    · rw [← hK1, xup_ne (by decide)]; exact j15' i hi
    · rw [← hK1, xup_eq, if_pos rfl]
    · rw [← hK1, xup_eq, if_neg hi, jf 19 (by decide)]
    · rw [← hK1, xup_ne (by decide), jf 17 (by decide)]
  refine Cx.of [.ref 14, .int (nI S), .int (nI l), .null, .null] (by decide) rfl rfl (Nat.le_of_ble_eq_true rfl) rfl ?_
  refine x_iload_n dX0_passOn_0 rfl ?_
  refine x_iload_n dX0_passOn_1 rfl ?_
  refine x_callSi (as := [.int (nI S), .int (nI l)]) ml_X0_101 st_X0_stateOf ct_X0_stateOf (c_stateOf (d := 0)) dX0_passOn_2 hd rfl rfl (Nat.le_of_ble_eq_true rfl) (fun r0 J0 h0 => ?_)
  obtain ⟨rfl, hJ0⟩ := h0
  obtain rfl := hJ0.symm
  refine x_istore_n (ls' := [.ref 14, .int (nI S), .int (nI l), .int (nI (S * 8 + l)), .null]) dX0_passOn_5 rfl rfl ?_
  refine x_aload_n dX0_passOn_6 rfl ?_
  refine x_getR 0 7 rfl (by decide) fl_X0_18 dX0_passOn_7 rfl rfl rfl ?_
  refine x_iload_n dX0_passOn_10 rfl ?_
  refine x_iald (p := (S * 8 + l)) (v := nI t) dX0_passOn_11 rfl rfl rfl rfl (by omega) ht ?_
  refine x_ifn_ne (a := t) (by omega) (tgt := 22) dX0_passOn_12 rfl (fun c => ?_) (fun c => ?_)
  ·
    exact mid o I hlt hob (by rw [if_neg c]) ho (fun _ _ => rfl) (fun _ _ => rfl)
  ·
    refine x_aload_n dX0_passOn_15 rfl ?_
    refine x_getR 0 5 rfl (by decide) fl_X0_9 dX0_passOn_16 rfl rfl rfl ?_
    refine x_iload_n dX0_passOn_19 rfl ?_
    refine x_iconst dX0_passOn_20 ic_0 ?_
    refine x_iast (p := (S * 8 + l)) dX0_passOn_21 rfl rfl rfl rfl (by omega) ?_
    generalize hK1 : xup I 15 (S * 8 + l) (nI 0) = K1
    refine mid 0 K1 (by decide) (fun g hg => by simp at hg) (by rw [if_pos c]) ?_ (fun i hi => ?_) (fun c hc => by rw [← hK1, xup_ne hc])
    · rw [← hK1, xup_eq, if_pos rfl]
    · rw [← hK1, xup_eq, if_neg hi]
/-- the ways to a state, when the states as far as (S, l) have passed on theirs -/
def Vw (n : Nat) (on : Nat → Nat → Nat) (t0 S l S2 g2 : Nat) : Nat := if S2 = 0 then t0 else if nd S2 (1 <<< g2) < S then Tr n on t0 S2 g2 else if nd S2 (1 <<< g2) = S then pT n on t0 S g2 l else 0
def ctI (I : xMem) (n : Nat) (on : Nat → Nat → Nat) (t0 S l : Nat) (J : xMem) : Prop :=
  (∀ S2 g2, S2 < 2 ^ n → g2 < n → isSt S2 g2 = true → J 17 (S2 * 8 + g2) = nI (Vw n on t0 S l S2 g2)) ∧
  (∀ S2 q, S2 < 2 ^ n → q < n → J 15 (S2 * 8 + q) = nI (if S2 < S ∨ (S2 = S ∧ q < l) then on2 n on t0 S2 q else on S2 q)) ∧
  (∀ S2, S2 < S → J 19 S2 = nI (folF n on t0 S2 n)) ∧ ∀ c, c ≠ 15 → c ≠ 17 → c ≠ 19 → J c = I c
theorem c_countWaysTo {on : Nat → Nat → Nat} {t0 tt : Nat} (hd : 2 ≤ d) (h1 : 1 ≤ n) (hn : n ≤ 8) (h0 : I 14 0 = nI n) (hf : I 14 1 = nI (1 <<< n - 1)) (hon : ∀ S l, S < 2 ^ n → l < n → I 15 (S * 8 + l) = nI (on S l)) (hob : ∀ S l g, S < 2 ^ n → l < n → (on S l).testBit g = true → g < n ∧ S.testBit g = false) (hlt : ∀ S l, S < 2 ^ n → l < n → on S l < 256) (htot : I 16 0 = nI tt) (htt : tt < 2 ^ 31) (ht0 : t0 = if 0 < tt then 1 else 0) (hTb : ∀ S l, S < 2 ^ n → l < n → isSt S l = true → Tr n on t0 S l < 2 ^ 31) : Cx LX yX0_countWaysTo mX0_countWaysTo d [.ref 14] I (xRv (ctI I n on t0 (2 ^ n) 0)) := by
  have hp := p2_le hn
  have hfl : 1 <<< n - 1 + 1 = 2 ^ n := by rw [Nat.one_shiftLeft]; have := Nat.one_le_two_pow (n := n); omega
  have inn : ∀ (k l S : Nat) (J : xMem), l + k = n → S < 2 ^ n → ctI I n on t0 S l J → J 19 S = nI (folF n on t0 S l) → (∀ (v2 : Value) (J : xMem), ctI I n on t0 (S + 1) 0 J → Wx LX mX0_countWaysTo d (xRv (ctI I n on t0 (2 ^ n) 0)) 48 [.ref 14, .int (nI (S + 1)), v2] [] J) → Wx LX mX0_countWaysTo d (xRv (ctI I n on t0 (2 ^ n) 0)) 65 [.ref 14, .int (nI S), .int (nI l)] [] J := by
    intro k
    induction k with
    | zero =>
      intro l S J hl hS hJ h19 kk
      have e : l = n := by omega
      subst e
      refine x_iload_n dX0_countWaysTo_65 rfl ?_
      refine x_aload_n dX0_countWaysTo_66 rfl ?_
      refine x_getI 0 0 (v := nI l) rfl (by decide) fl_X0_57 dX0_countWaysTo_67 rfl rfl rfl (by rw [hJ.2.2.2 14 (by decide) (by decide) (by decide)]; exact h0) ?_
      refine x_icmpn_ge (a := l) (b := l) (by omega) (by omega) (tgt := 93) dX0_countWaysTo_70 rfl (fun c => ?_) (fun c => ?_)
      ·
        refine x_iinc (v := nI (S + 1)) (ls' := [.ref 14, .int (nI (S + 1)), .int (nI l)]) dX0_countWaysTo_93 rfl (inc_1 _) rfl rfl ?_
        refine x_goto (tgt := 48) dX0_countWaysTo_96 rfl ?_
        refine kk _ J ⟨fun S2 g2 hS2 hg2 hst => ?_, fun S2 q hS2 hq => ?_, fun S2 hS2 => ?_, hJ.2.2.2⟩
        · rw [hJ.1 S2 g2 hS2 hg2 hst]
          congr 1
          unfold Vw
          by_cases e0 : S2 = 0
          · rw [if_pos e0, if_pos e0]
          · rw [if_neg e0, if_neg e0]
            by_cases e1 : nd S2 (1 <<< g2) < S
            · rw [if_pos e1, if_pos (by omega)]
            · rw [if_neg e1]
              by_cases e2 : nd S2 (1 <<< g2) = S
              · rw [if_pos e2, if_pos (by omega)]
                have hb : S2.testBit g2 = true := by unfold isSt at hst; rwa [if_neg e0] at hst
                rw [Tr_step hg2 hb, e2]
              · rw [if_neg e2, if_neg (by omega)]
                by_cases e3 : nd S2 (1 <<< g2) = S + 1
                · rw [if_pos e3]; rfl
                · rw [if_neg e3]
        · rw [hJ.2.1 S2 q hS2 hq]
          by_cases e : S2 < S + 1
          · rw [if_pos (by omega), if_pos (by omega)]
          · rw [if_neg (by omega), if_neg (by omega)]
        · by_cases e : S2 = S
          · subst e; exact h19
          · exact hJ.2.2.1 S2 (by omega)
      ·
        omega
    | succ k ih =>
      intro l S J hl hS hJ h19 kk
      refine x_iload_n dX0_countWaysTo_65 rfl ?_
      refine x_aload_n dX0_countWaysTo_66 rfl ?_
      refine x_getI 0 0 (v := nI n) rfl (by decide) fl_X0_57 dX0_countWaysTo_67 rfl rfl rfl (by rw [hJ.2.2.2 14 (by decide) (by decide) (by decide)]; exact h0) ?_
      refine x_icmpn_ge (a := l) (b := n) (by omega) (by omega) (tgt := 93) dX0_countWaysTo_70 rfl (fun c => ?_) (fun c => ?_)
      ·
        omega
      ·
        refine x_iload_n dX0_countWaysTo_73 rfl ?_
        refine x_iload_n dX0_countWaysTo_74 rfl ?_
        refine x_callSi (as := [.int (nI S), .int (nI l)]) ml_X0_105 st_X0_isState ct_X0_isState (c_isState (d := 1) (by decide) (by omega) (by omega)) dX0_countWaysTo_75 hd rfl rfl (Nat.le_of_ble_eq_true rfl) (fun r0 J0 h0 => ?_)
        obtain ⟨rfl, hJ0⟩ := h0
        obtain rfl := hJ0.symm
        refine x_ifb_eq (b := isSt S l) (tgt := 87) dX0_countWaysTo_78 rfl (fun c2 => ?_) (fun c2 => ?_)
        ·
          refine x_iinc (v := nI (l + 1)) (ls' := [.ref 14, .int (nI S), .int (nI (l + 1))]) dX0_countWaysTo_87 rfl (inc_1 _) rfl rfl ?_
          refine x_goto (tgt := 65) dX0_countWaysTo_90 rfl ?_
          refine ih (l + 1) S J (by omega) hS ⟨fun S2 g2 hS2 hg2 hst => ?_, fun S2 q hS2 hq => ?_, hJ.2.2.1, hJ.2.2.2⟩ (by rw [h19, folF_s, c2]; rfl) kk
          · rw [hJ.1 S2 g2 hS2 hg2 hst]
            congr 1
            unfold Vw
            rw [pT_s, c2]; rfl
          · rw [hJ.2.1 S2 q hS2 hq]
            by_cases e : S2 = S ∧ q = l
            · obtain ⟨rfl, rfl⟩ := e
              rw [if_neg (by omega), if_pos (by omega), on2, c2]; rfl
            · by_cases e2 : S2 < S ∨ (S2 = S ∧ q < l)
              · rw [if_pos e2, if_pos (by omega)]
              · rw [if_neg e2, if_neg (by omega)]
        ·
          have eT : Vw n on t0 S l S l = Tr n on t0 S l := by
            unfold Vw
            by_cases e0 : S = 0
            · rw [if_pos e0, e0, Tr_0]
            · have hb : S.testBit l = true := by unfold isSt at c2; rwa [if_neg e0] at c2
              rw [if_neg e0, if_pos (nd_lt hb)]
          have e17 : J 17 (S * 8 + l) = nI (Tr n on t0 S l) := by rw [hJ.1 S l hS (by omega) c2, eT]
          have e15 : J 15 (S * 8 + l) = nI (on S l) := by rw [hJ.2.1 S l hS (by omega), if_neg (by omega)]
          have hobl := fun g hg => hob S l g hS (by omega) hg
          have eo : (if Tr n on t0 S l = 0 then 0 else on S l) = on2 n on t0 S l := by
            unfold on2; rw [c2, Bool.true_and]
            by_cases e : Tr n on t0 S l = 0
            · rw [if_pos e, if_pos (decide_eq_true e)]
            · rw [if_neg e, if_neg (by simp [e])]
          refine x_aload_n dX0_countWaysTo_81 rfl ?_
          refine x_iload_n dX0_countWaysTo_82 rfl ?_
          refine x_iload_n dX0_countWaysTo_83 rfl ?_
          refine x_callVv 0 ml_X0_137 in_X0_passOn se_X0_passOn ct_X0_passOn rfl (c_passOn (d := 1) (by decide) hn hS (by omega) (by rw [hJ.2.2.2 14 (by decide) (by decide) (by decide)]; exact h0) e17 (hTb S l hS (by omega) c2) e15 (hlt S l hS (by omega)) hobl h19) dX0_countWaysTo_84 hd rfl rfl rfl rfl (Nat.le_of_ble_eq_true rfl) (fun J0 h0 => ?_)
          obtain ⟨p1, p2, p3, p4, p5, p6, p7⟩ := h0
          refine x_iinc (v := nI (l + 1)) (ls' := [.ref 14, .int (nI S), .int (nI (l + 1))]) dX0_countWaysTo_87 rfl (inc_1 _) rfl rfl ?_
          refine x_goto (tgt := 65) dX0_countWaysTo_90 rfl ?_
          rw [eo] at p1 p3 p5 p6
          refine ih (l + 1) S J0 (by omega) hS ⟨fun S2 g2 hS2 hg2 hst => ?_, fun S2 q hS2 hq => ?_, fun S2 hS2 => ?_, fun c h1 h2 h3 => by rw [p7 c h1 h2 h3]; exact hJ.2.2.2 c h1 h2 h3⟩ (by rw [p3, folF_s, c2]; rfl) kk
          · have old := hJ.1 S2 g2 hS2 hg2 hst
            by_cases e : S2 ≠ 0 ∧ nd S2 (1 <<< g2) = S ∧ (on2 n on t0 S l).testBit g2 = true
            · obtain ⟨e0, e1, e2⟩ := e
              have hb : S2.testBit g2 = true := by unfold isSt at hst; rwa [if_neg e0] at hst
              have eS2 : S2 = S ||| 1 <<< g2 := by rw [← e1, or_nd hb]
              have h5 := p5 g2 e2
              rw [← eS2] at h5
              rw [h5, old, nI_add]
              congr 1
              unfold Vw
              rw [if_neg e0, if_neg (by omega), if_pos e1, if_neg e0, if_neg (by omega), if_pos e1, pT_s, c2]
              have : (on S l).testBit g2 = true := by
                unfold on2 at e2
                split at e2
                · simp at e2
                · exact e2
              rw [this]; rfl
            · rw [p6 _ (fun g hg e2 => by
                have hob2 : (on S l).testBit g = true := by
                  unfold on2 at hg
                  split at hg
                  · simp at hg
                  · exact hg
                obtain ⟨b1, b2⟩ := hobl g hob2
                have e3 : g2 = g := by omega
                have e4 : S2 = S ||| 1 <<< g := by omega
                subst e3
                apply e
                refine ⟨by have := or_gt b2; omega, by rw [e4, nd_or b2], hg⟩), old]
              congr 1
              unfold Vw
              by_cases e0 : S2 = 0
              · rw [if_pos e0, if_pos e0]
              · rw [if_neg e0, if_neg e0]
                by_cases e1 : nd S2 (1 <<< g2) < S
                · rw [if_pos e1, if_pos e1]
                · rw [if_neg e1, if_neg e1]
                  by_cases e2 : nd S2 (1 <<< g2) = S
                  · rw [if_pos e2, if_pos e2, pT_s, c2]
                    cases e3 : (on S l).testBit g2 with
                    | false => rfl
                    | true =>
                      have ez : Tr n on t0 S l = 0 := by
                        rcases Nat.eq_zero_or_pos (Tr n on t0 S l) with z | z
                        · exact z
                        · exfalso
                          apply e
                          refine ⟨e0, e2, ?_⟩
                          unfold on2
                          rw [if_neg (by simp; omega)]; exact e3
                      rw [ez]; rfl
                  · rw [if_neg e2, if_neg e2]
          · by_cases e : S2 * 8 + q = S * 8 + l
            · have e1 : S2 = S := by omega
              have e2 : q = l := by omega
              subst e1; subst e2
              rw [p1, if_pos (by omega)]
            · rw [p2 _ e, hJ.2.1 S2 q hS2 hq]
              by_cases e2 : S2 < S ∨ (S2 = S ∧ q < l)
              · rw [if_pos e2, if_pos (by omega)]
              · rw [if_neg e2, if_neg (by omega)]
          · rw [p4 S2 (by omega)]; exact hJ.2.2.1 S2 hS2
  have out : ∀ (k S : Nat) (v2 : Value) (J : xMem), S + k = 2 ^ n → ctI I n on t0 S 0 J → Wx LX mX0_countWaysTo d (xRv (ctI I n on t0 (2 ^ n) 0)) 48 [.ref 14, .int (nI S), v2] [] J := by
    intro k
    induction k with
    | zero =>
      intro S v2 J hS hJ
      have e : S = 2 ^ n := by omega
      subst e
      refine x_iload_n dX0_countWaysTo_48 rfl ?_
      refine x_aload_n dX0_countWaysTo_49 rfl ?_
      refine x_getI 0 1 (v := nI (1 <<< n - 1)) rfl (by decide) fl_X0_58 dX0_countWaysTo_50 rfl rfl rfl (by rw [hJ.2.2.2 14 (by decide) (by decide) (by decide)]; exact hf) ?_
      refine x_icmpn_gt (a := 2 ^ n) (b := 1 <<< n - 1) (by omega) (by omega) (tgt := 99) dX0_countWaysTo_53 rfl (fun c => ?_) (fun c => ?_)
      ·
        refine x_vretv dX0_countWaysTo_99 rfl hJ
      ·
        omega
    | succ k ih =>
      intro S v2 J hS hJ
      refine x_iload_n dX0_countWaysTo_48 rfl ?_
      refine x_aload_n dX0_countWaysTo_49 rfl ?_
      refine x_getI 0 1 (v := nI (1 <<< n - 1)) rfl (by decide) fl_X0_58 dX0_countWaysTo_50 rfl rfl rfl (by rw [hJ.2.2.2 14 (by decide) (by decide) (by decide)]; exact hf) ?_
      refine x_icmpn_gt (a := S) (b := 1 <<< n - 1) (by omega) (by omega) (tgt := 99) dX0_countWaysTo_53 rfl (fun c => ?_) (fun c => ?_)
      ·
        omega
      ·
        refine x_aload_n dX0_countWaysTo_56 rfl ?_
        refine x_getR 0 9 rfl (by decide) fl_X0_24 dX0_countWaysTo_57 rfl rfl rfl ?_
        refine x_iload_n dX0_countWaysTo_60 rfl ?_
        refine x_iconst dX0_countWaysTo_61 ic_0 ?_
        refine x_iast (p := S) dX0_countWaysTo_62 rfl rfl rfl rfl (by omega) ?_
        generalize hK1 : xup J 19 S (nI 0) = K1
        refine x_iconst dX0_countWaysTo_63 ic_0 ?_
        refine x_istore_n (ls' := [.ref 14, .int (nI S), .int (nI 0)]) dX0_countWaysTo_64 rfl rfl ?_
        refine inn n 0 S K1 (by omega) (by omega) ⟨?_, ?_, fun S2 hS2 => ?_, fun c h1 h2 h3 => by rw [← hK1, xup_ne h3]; exact hJ.2.2.2 c h1 h2 h3⟩ ?_ (fun v2 J a => ih (S + 1) v2 J (by omega) a)
        · rw [← hK1, xup_ne (by decide)]; exact hJ.1
        · rw [← hK1, xup_ne (by decide)]; exact hJ.2.1
        · rw [← hK1, xup_eq, if_neg (by omega)]; exact hJ.2.2.1 S2 hS2
        · rw [← hK1, xup_eq, if_pos rfl]; rfl
  have strt : ∀ (t : Nat) (v1 : Value) (J : xMem), t = t0 → (∀ i, i < (1 <<< n - 1 + 1) * 8 → J 17 i = nI 0) → (∀ c, c ≠ 17 → J c = I c) → Wx LX mX0_countWaysTo d (xRv (ctI I n on t0 (2 ^ n) 0)) 45 [.ref 14, v1, .null] [.int (nI t), .int (nI 0), .ref 17] J := by
    intro t v1 J et j17 jf
    refine x_iast (p := 0) dX0_countWaysTo_45 rfl rfl rfl rfl (by omega) ?_
    generalize hK1 : xup J 17 0 (nI t) = K1
    refine x_iconst dX0_countWaysTo_46 ic_0 ?_
    refine x_istore_n (ls' := [.ref 14, .int (nI 0), .null]) dX0_countWaysTo_47 rfl rfl ?_
    refine out (2 ^ n) 0 _ K1 (by omega) ⟨fun S2 g2 hS2 hg2 hst => ?_, fun S2 q hS2 hq => ?_, fun S2 h => by omega, fun c h1 h2 h3 => by rw [← hK1, xup_ne h2]; exact jf c h2⟩
    · rw [← hK1, xup_eq]
      unfold Vw
      by_cases e0 : S2 = 0
      · subst e0
        have : g2 = 0 := by unfold isSt at hst; simpa using hst
        subst this
        rw [if_pos rfl, if_pos rfl, et]
      · rw [if_neg (by omega), if_neg e0, if_neg (by omega), j17 _ (by omega)]
        by_cases e2 : nd S2 (1 <<< g2) = 0
        · rw [if_pos e2]; rfl
        · rw [if_neg e2]
    · rw [← hK1, xup_ne (by decide), jf 15 (by decide), if_neg (by omega)]; exact hon S2 q hS2 hq
  have zer : ∀ (k i : Nat) (J : xMem), i + k = (1 <<< n - 1 + 1) * 8 → (∀ j, j < i → J 17 j = nI 0) → (∀ c, c ≠ 17 → J c = I c) → Wx LX mX0_countWaysTo d (xRv (ctI I n on t0 (2 ^ n) 0)) 2 [.ref 14, .int (nI i), .null] [] J := by
    intro k
    induction k with
    | zero =>
      intro i J hi j17 jf
      refine x_iload_n dX0_countWaysTo_2 rfl ?_
      refine x_aload_n dX0_countWaysTo_3 rfl ?_
      refine x_getI 0 1 (v := nI (1 <<< n - 1)) rfl (by decide) fl_X0_58 dX0_countWaysTo_4 rfl rfl rfl (by rw [jf 14 (by decide)]; exact hf) ?_
      refine x_iconst dX0_countWaysTo_7 ic_1 ?_
      refine x_iadd (v := nI ((1 <<< n - 1) + 1)) dX0_countWaysTo_8 (nI_add _ _) ?_
      refine x_bipush dX0_countWaysTo_9 bp_8 ?_
      refine x_imul (v := nI (((1 <<< n - 1) + 1) * 8)) dX0_countWaysTo_11 (pk_mul _ _) ?_
      refine x_icmpn_ge (a := i) (b := ((1 <<< n - 1) + 1) * 8) (by omega) (by omega) (tgt := 28) dX0_countWaysTo_12 rfl (fun c => ?_) (fun c => ?_)
      ·
        refine x_aload_n dX0_countWaysTo_28 rfl ?_
        refine x_getR 0 7 rfl (by decide) fl_X0_18 dX0_countWaysTo_29 rfl rfl rfl ?_
        refine x_iconst dX0_countWaysTo_32 ic_0 ?_
        refine x_aload_n dX0_countWaysTo_33 rfl ?_
        refine x_callVi 0 ml_X0_134 in_X0_total se_X0_total ct_X0_total rfl (c_total (d := 0) (by rw [jf 16 (by decide)]; exact htot)) dX0_countWaysTo_34 (by omega) rfl rfl rfl rfl (Nat.le_of_ble_eq_true rfl) (fun r0 J0 h0 => ?_)
        obtain ⟨rfl, hJ0⟩ := h0
        obtain rfl := hJ0.symm
        refine x_ifn_le (a := tt) (by omega) (tgt := 44) dX0_countWaysTo_37 rfl (fun c2 => ?_) (fun c2 => ?_)
        ·
          refine x_iconst dX0_countWaysTo_44 ic_0 ?_
          exact strt 0 _ J (by rw [ht0, if_neg (by omega)]) (fun j hj => j17 j (by omega)) jf
        ·
          refine x_iconst dX0_countWaysTo_40 ic_1 ?_
          refine x_goto (tgt := 45) dX0_countWaysTo_41 rfl ?_
          exact strt 1 _ J (by rw [ht0, if_pos c2]) (fun j hj => j17 j (by omega)) jf
      ·
        omega
    | succ k ih =>
      intro i J hi j17 jf
      refine x_iload_n dX0_countWaysTo_2 rfl ?_
      refine x_aload_n dX0_countWaysTo_3 rfl ?_
      refine x_getI 0 1 (v := nI (1 <<< n - 1)) rfl (by decide) fl_X0_58 dX0_countWaysTo_4 rfl rfl rfl (by rw [jf 14 (by decide)]; exact hf) ?_
      refine x_iconst dX0_countWaysTo_7 ic_1 ?_
      refine x_iadd (v := nI ((1 <<< n - 1) + 1)) dX0_countWaysTo_8 (nI_add _ _) ?_
      refine x_bipush dX0_countWaysTo_9 bp_8 ?_
      refine x_imul (v := nI (((1 <<< n - 1) + 1) * 8)) dX0_countWaysTo_11 (pk_mul _ _) ?_
      refine x_icmpn_ge (a := i) (b := ((1 <<< n - 1) + 1) * 8) (by omega) (by omega) (tgt := 28) dX0_countWaysTo_12 rfl (fun c => ?_) (fun c => ?_)
      ·
        omega
      ·
        refine x_aload_n dX0_countWaysTo_15 rfl ?_
        refine x_getR 0 7 rfl (by decide) fl_X0_18 dX0_countWaysTo_16 rfl rfl rfl ?_
        refine x_iload_n dX0_countWaysTo_19 rfl ?_
        refine x_iconst dX0_countWaysTo_20 ic_0 ?_
        refine x_iast (p := i) dX0_countWaysTo_21 rfl rfl rfl rfl (by omega) ?_
        generalize hK1 : xup J 17 i (nI 0) = K1
        refine x_iinc (v := nI (i + 1)) (ls' := [.ref 14, .int (nI (i + 1)), .null]) dX0_countWaysTo_22 rfl (inc_1 _) rfl rfl ?_
        refine x_goto (tgt := 2) dX0_countWaysTo_25 rfl ?_
        refine ih (i + 1) K1 (by omega) (fun j hj => ?_) (fun c hc => by rw [← hK1, xup_ne hc]; exact jf c hc)
        rw [← hK1, xup_eq]
        by_cases e : j = i
        · rw [if_pos e]
        · rw [if_neg e]; exact j17 j (by omega)
  refine Cx.of [.ref 14, .null, .null] (by decide) rfl rfl (Nat.le_of_ble_eq_true rfl) rfl ?_
  refine x_iconst dX0_countWaysTo_0 ic_0 ?_
  refine x_istore_n (ls' := [.ref 14, .int (nI 0), .null]) dX0_countWaysTo_1 rfl rfl ?_
  exact zer _ 0 I (Nat.zero_add _) (fun j hj => by omega) (fun _ _ => rfl)
end XK
