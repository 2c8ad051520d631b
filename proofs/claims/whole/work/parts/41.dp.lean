/-! the class: the least cost, and by which it is met -/
theorem nI_min {x y : Nat} (hx : x < 2 ^ 31) (hy : y < 2 ^ 31) : (if nI y < nI x then nI y else nI x) = nI (if y < x then y else x) := by
  by_cases h : y < x
  · rw [if_pos h, if_pos ((nI_ltI hy hx).mpr h)]
  · rw [if_neg h, if_neg (mt (nI_ltI hy hx).mp h)]
theorem rf_congr {β : Type} {f f' : β → Nat → β} {b : β} : ∀ {k : Nat}, (∀ m g, g < k → f m g = f' m g) → rf f b k = rf f' b k := by
  intro k
  induction k with
  | zero => intro _; rfl
  | succ k ih => intro h; rw [rf_s, rf_s, ih (fun m g hg => h m g (by omega)), h _ k (by omega)]
theorem Rr_step {n : Nat} {on : Nat → Nat → Nat} {c : Nat → Nat → Nat → Nat} {S l k : Nat} (hk : rem n S = k + 1) (hob : ∀ g, (on S l).testBit g = true → g < n ∧ S.testBit g = false) : Rr n on c S l = rf (fun m g => if (on S l).testBit g then (if Rr n on c (S ||| 1 <<< g) g + c S l g < m then Rr n on c (S ||| 1 <<< g) g + c S l g else m) else m) 1000000 n := by
  rw [Rr, hk]
  simp only [Rst]
  apply rf_congr
  intro m g _
  cases e : (on S l).testBit g with
  | false => rfl
  | true =>
    obtain ⟨h1, h2⟩ := hob g e
    have := rem_or h1 h2
    rw [Rr, show rem n (S ||| 1 <<< g) = k by omega]
def onF (n : Nat) (on : Nat → Nat → Nat) (c : Nat → Nat → Nat → Nat) (S l k : Nat) : Nat := rf (fun s g => if (on S l).testBit g && decide (Rr n on c (S ||| 1 <<< g) g + c S l g = Rr n on c S l) then s ||| 1 <<< g else s) 0 k
theorem onF_s (n : Nat) (on : Nat → Nat → Nat) (c : Nat → Nat → Nat → Nat) (S l k : Nat) : onF n on c S l (k + 1) = if (on S l).testBit k && decide (Rr n on c (S ||| 1 <<< k) k + c S l k = Rr n on c S l) then onF n on c S l k ||| 1 <<< k else onF n on c S l k := rf_s _ _ _
def onK (n : Nat) (on : Nat → Nat → Nat) (c : Nat → Nat → Nat → Nat) (S l : Nat) : Nat := if Rr n on c S l < 1000000 then onF n on c S l n else 0
section XK
variable {I : xMem} {n d : Nat} {h a L : Nat → Nat}
theorem c_cheapestOn22 {on : Nat → Nat → Nat} {rF : Nat → Nat → Nat} {hr : Nat → Nat} {S l : Nat} (hd : 2 ≤ d) (hn : n ≤ 8) (hS : S < 2 ^ n) (hl : l < n) (hh : ∀ g, hr g < 1024) (hI : ∀ g, g < 8 → I 23 g = nI (hr g)) (h0 : I 14 0 = nI n) (hon : I 15 (S * 8 + l) = nI (on S l)) (hob : ∀ g, (on S l).testBit g = true → g < n ∧ S.testBit g = false) (hlt : on S l < 256) (hrF : ∀ g, g < n → S.testBit g = false → I 18 ((S ||| 1 <<< g) * 8 + g) = nI (rF (S ||| 1 <<< g) g)) (hrb : ∀ S g, rF S g ≤ 1000000) : Cx LX yX0_cheapestOn mX0_cheapestOn d [.ref 14, .ref 22, .int (nI S), .int (nI l)] I (xRi (fun r J => r = nI (rf (fun m g => if (on S l).testBit g then (if rF (S ||| 1 <<< g) g + cR hr S l g < m then rF (S ||| 1 <<< g) g + cR hr S l g else m) else m) 1000000 n) ∧ J = I)) := by
  have hp := p2_le hn
  have lp : ∀ (k g : Nat) (v7 : Value), g + k = n → Wx LX mX0_cheapestOn d (xRi (fun r J => r = nI (rf (fun m g => if (on S l).testBit g then (if rF (S ||| 1 <<< g) g + cR hr S l g < m then rF (S ||| 1 <<< g) g + cR hr S l g else m) else m) 1000000 n) ∧ J = I)) 19 [.ref 14, .ref 22, .int (nI S), .int (nI l), .int (nI (on S l)), .int (nI (rf (fun m g => if (on S l).testBit g then (if rF (S ||| 1 <<< g) g + cR hr S l g < m then rF (S ||| 1 <<< g) g + cR hr S l g else m) else m) 1000000 g)), .int (nI g), v7] [] I := by
    intro k
    induction k with
    | zero =>
      intro g v7 hg
      have e : g = n := by omega
      subst e
      refine x_iload dX0_cheapestOn_19 rfl ?_
      refine x_aload_n dX0_cheapestOn_21 rfl ?_
      refine x_getI 0 0 (v := nI g) rfl (by decide) fl_X0_57 dX0_cheapestOn_22 rfl rfl rfl h0 ?_
      refine x_icmpn_ge (a := g) (b := g) (by omega) (by omega) (tgt := 75) dX0_cheapestOn_25 rfl (fun c => ?_) (fun c => ?_)
      ·
        refine x_iload dX0_cheapestOn_75 rfl ?_
        refine x_ireti dX0_cheapestOn_77 rfl ⟨rfl, rfl⟩
      ·
        omega
    | succ k ih =>
      intro g v7 hg
      have hm : rf (fun m g => if (on S l).testBit g then (if rF (S ||| 1 <<< g) g + cR hr S l g < m then rF (S ||| 1 <<< g) g + cR hr S l g else m) else m) 1000000 g ≤ 1000000 := rf_le (fun m g => by split; split; omega; exact Nat.le_refl _; exact Nat.le_refl _) g
      have key := fun v => ih (g + 1) v (by omega)
      rw [rf_s] at key
      generalize rf (fun m g => if (on S l).testBit g then (if rF (S ||| 1 <<< g) g + cR hr S l g < m then rF (S ||| 1 <<< g) g + cR hr S l g else m) else m) 1000000 g = M at hm key ⊢
      refine x_iload dX0_cheapestOn_19 rfl ?_
      refine x_aload_n dX0_cheapestOn_21 rfl ?_
      refine x_getI 0 0 (v := nI n) rfl (by decide) fl_X0_57 dX0_cheapestOn_22 rfl rfl rfl h0 ?_
      refine x_icmpn_ge (a := g) (b := n) (by omega) (by omega) (tgt := 75) dX0_cheapestOn_25 rfl (fun c => ?_) (fun c => ?_)
      ·
        omega
      ·
        refine x_iload dX0_cheapestOn_28 rfl ?_
        refine x_iload dX0_cheapestOn_30 rfl ?_
        refine x_callSNi (as := [.int (nI (on S l)), .int (nI g)]) (fun _ h => h.2.1) st_X5_isMember ct_X5_isMember (c_isMember (d := 0) (by omega) (by omega)) dX0_cheapestOn_32 (by omega) rfl rfl (Nat.le_of_ble_eq_true rfl) (fun r0 J0 h0 => ?_)
        obtain ⟨rfl, hJ0⟩ := h0
        obtain rfl := hJ0.symm
        refine x_ifb_eq (b := (on S l).testBit g) (tgt := 69) dX0_cheapestOn_35 rfl (fun c2 => ?_) (fun c2 => ?_)
        ·
          refine x_iinc (v := nI (g + 1)) (ls' := [.ref 14, .ref 22, .int (nI S), .int (nI l), .int (nI (on S l)), .int (nI M), .int (nI (g + 1)), v7]) dX0_cheapestOn_69 rfl (inc_1 _) rfl rfl ?_
          refine x_goto (tgt := 19) dX0_cheapestOn_72 rfl ?_
          have := key v7
          rw [c2, if_neg (by decide)] at this
          exact this
        ·
          obtain ⟨b1, b2⟩ := hob g c2
          have hS2 := or_lt hS b1
          have hw := hrb (S ||| 1 <<< g) g
          have hc : cR hr S l g ≤ 10 := pop_le _
          refine x_aload_n dX0_cheapestOn_38 rfl ?_
          refine x_getR 0 8 rfl (by decide) fl_X0_21 dX0_cheapestOn_39 rfl rfl rfl ?_
          refine x_iload_n dX0_cheapestOn_42 rfl ?_
          refine x_iload dX0_cheapestOn_43 rfl ?_
          refine x_callSi (as := [.int (nI S), .int (nI g)]) ml_X0_113 st_X0_stateAfter ct_X0_stateAfter (c_stateAfter (d := 0) (by omega)) dX0_cheapestOn_45 (by omega) rfl rfl (Nat.le_of_ble_eq_true rfl) (fun r0 J0 h0 => ?_)
          obtain ⟨rfl, hJ0⟩ := h0
          obtain rfl := hJ0.symm
          refine x_iald (p := ((S ||| 1 <<< g) * 8 + g)) (v := nI (rF (S ||| 1 <<< g) g)) dX0_cheapestOn_48 rfl rfl rfl rfl (by omega) (hrF g b1 b2) ?_
          refine x_aload_n dX0_cheapestOn_49 rfl ?_
          refine x_iload_n dX0_cheapestOn_50 rfl ?_
          refine x_iload_n dX0_cheapestOn_51 rfl ?_
          refine x_iload dX0_cheapestOn_52 rfl ?_
          refine x_callAi 2 ml_X0_116 same_Next so_X3 in_X3_ofNext ct_X3_ofNext rfl (c_ofNext3 (d := 1) (by decide) (by omega) (by omega) (by omega) hh hI) dX0_cheapestOn_54 hd rfl rfl rfl rfl (Nat.le_of_ble_eq_true rfl) (fun r0 J0 h0 => ?_)
          obtain ⟨rfl, hJ0⟩ := h0
          obtain rfl := hJ0.symm
          refine x_iadd (v := nI ((rF (S ||| 1 <<< g) g) + (cR hr S l g))) dX0_cheapestOn_57 (nI_add _ _) ?_
          refine x_istore (ls' := [.ref 14, .ref 22, .int (nI S), .int (nI l), .int (nI (on S l)), .int (nI M), .int (nI g), .int (nI ((rF (S ||| 1 <<< g) g) + (cR hr S l g)))]) dX0_cheapestOn_58 rfl rfl ?_
          refine x_iload dX0_cheapestOn_60 rfl ?_
          refine x_iload dX0_cheapestOn_62 rfl ?_
          refine x_min (v := nI (if rF (S ||| 1 <<< g) g + cR hr S l g < M then rF (S ||| 1 <<< g) g + cR hr S l g else M)) ml_X0_122 stat_min ini_J9 code_min dX0_cheapestOn_64 (by omega) (Nat.le_of_ble_eq_true rfl) (nI_min (by omega) (by omega)) ?_
          refine x_istore (ls' := [.ref 14, .ref 22, .int (nI S), .int (nI l), .int (nI (on S l)), .int (nI (if rF (S ||| 1 <<< g) g + cR hr S l g < M then rF (S ||| 1 <<< g) g + cR hr S l g else M)), .int (nI g), .int (nI ((rF (S ||| 1 <<< g) g) + (cR hr S l g)))]) dX0_cheapestOn_67 rfl rfl ?_
          refine x_iinc (v := nI (g + 1)) (ls' := [.ref 14, .ref 22, .int (nI S), .int (nI l), .int (nI (on S l)), .int (nI (if rF (S ||| 1 <<< g) g + cR hr S l g < M then rF (S ||| 1 <<< g) g + cR hr S l g else M)), .int (nI (g + 1)), .int (nI ((rF (S ||| 1 <<< g) g) + (cR hr S l g)))]) dX0_cheapestOn_69 rfl (inc_1 _) rfl rfl ?_
          refine x_goto (tgt := 19) dX0_cheapestOn_72 rfl ?_
          have := key (.int (nI (rF (S ||| 1 <<< g) g + cR hr S l g)))
          rw [c2, if_pos rfl] at this
          exact this
  refine Cx.of [.ref 14, .ref 22, .int (nI S), .int (nI l), .null, .null, .null, .null] (by decide) rfl rfl (Nat.le_of_ble_eq_true rfl) rfl ?_
  refine x_aload_n dX0_cheapestOn_0 rfl ?_
  refine x_getR 0 5 rfl (by decide) fl_X0_9 dX0_cheapestOn_1 rfl rfl rfl ?_
  refine x_iload_n dX0_cheapestOn_4 rfl ?_
  refine x_iload_n dX0_cheapestOn_5 rfl ?_
  refine x_callSi (as := [.int (nI S), .int (nI l)]) ml_X0_101 st_X0_stateOf ct_X0_stateOf (c_stateOf (d := 0)) dX0_cheapestOn_6 (by omega) rfl rfl (Nat.le_of_ble_eq_true rfl) (fun r0 J0 h0 => ?_)
  obtain ⟨rfl, hJ0⟩ := h0
  obtain rfl := hJ0.symm
  refine x_iald (p := (S * 8 + l)) (v := nI (on S l)) dX0_cheapestOn_9 rfl rfl rfl rfl (by omega) hon ?_
  refine x_istore (ls' := [.ref 14, .ref 22, .int (nI S), .int (nI l), .int (nI (on S l)), .null, .null, .null]) dX0_cheapestOn_10 rfl rfl ?_
  refine x_ldc (v := nI 1000000) dX0_cheapestOn_12 cn_X0_112 ?_
  refine x_istore (ls' := [.ref 14, .ref 22, .int (nI S), .int (nI l), .int (nI (on S l)), .int (nI 1000000), .null, .null]) dX0_cheapestOn_14 rfl rfl ?_
  refine x_iconst dX0_cheapestOn_16 ic_0 ?_
  refine x_istore (ls' := [.ref 14, .ref 22, .int (nI S), .int (nI l), .int (nI (on S l)), .int (nI 1000000), .int (nI 0), .null]) dX0_cheapestOn_17 rfl rfl ?_
  exact lp n 0 _ (by omega)
theorem c_costRest22 {on : Nat → Nat → Nat} {hr : Nat → Nat} (hd : 3 ≤ d) (h1 : 1 ≤ n) (hn : n ≤ 8) (hh : ∀ g, hr g < 1024) (hI : ∀ g, g < 8 → I 23 g = nI (hr g)) (h0 : I 14 0 = nI n) (hf : I 14 1 = nI (1 <<< n - 1)) (hon : ∀ S l, S < 2 ^ n → l < n → I 15 (S * 8 + l) = nI (on S l)) (hob : ∀ S l g, S < 2 ^ n → l < n → (on S l).testBit g = true → g < n ∧ S.testBit g = false) (hlt : ∀ S l, S < 2 ^ n → l < n → on S l < 256) : Cx LX yX0_costRest mX0_costRest d [.ref 14, .ref 22] I (xRv (fun J => (∀ S l, S < 2 ^ n → l < n → isSt S l = true → J 18 (S * 8 + l) = nI (Rr n on (cR hr) S l)) ∧ ∀ c, c ≠ 18 → J c = I c)) := by
  have hp := p2_le hn
  have hfl : 1 <<< n - 1 + 1 = 2 ^ n := by rw [Nat.one_shiftLeft]; have := Nat.one_le_two_pow (n := n); omega
  have inn : ∀ (k l S : Nat) (J : xMem), l + k = n → S < 2 ^ n → (∀ S' l, S < S' → S' < 2 ^ n → l < n → isSt S' l = true → J 18 (S' * 8 + l) = nI (Rr n on (cR hr) S' l)) → (∀ q, q < l → isSt S q = true → J 18 (S * 8 + q) = nI (Rr n on (cR hr) S q)) → (∀ c, c ≠ 18 → J c = I c) →
      (∀ (v3 : Value) (J : xMem), (∀ S' l, S ≤ S' → S' < 2 ^ n → l < n → isSt S' l = true → J 18 (S' * 8 + l) = nI (Rr n on (cR hr) S' l)) → (∀ c, c ≠ 18 → J c = I c) → Wx LX mX0_costRest d (xRv (fun J => (∀ S l, S < 2 ^ n → l < n → isSt S l = true → J 18 (S * 8 + l) = nI (Rr n on (cR hr) S l)) ∧ ∀ c, c ≠ 18 → J c = I c)) 5 [.ref 14, .ref 22, .int (nI S - nI 1), v3] [] J) →
      Wx LX mX0_costRest d (xRv (fun J => (∀ S l, S < 2 ^ n → l < n → isSt S l = true → J 18 (S * 8 + l) = nI (Rr n on (cR hr) S l)) ∧ ∀ c, c ≠ 18 → J c = I c)) 11 [.ref 14, .ref 22, .int (nI S), .int (nI l)] [] J := by
    intro k
    induction k with
    | zero =>
      intro l S J hl hS j1 j2 jf kk
      refine x_iload_n dX0_costRest_11 rfl ?_
      refine x_aload_n dX0_costRest_12 rfl ?_
      refine x_getI 0 0 (v := nI n) rfl (by decide) fl_X0_57 dX0_costRest_13 rfl rfl rfl (by rw [jf 14 (by decide)]; exact h0) ?_
      refine x_icmpn_ge (a := l) (b := n) (by omega) (by omega) (tgt := 62) dX0_costRest_16 rfl (fun c => ?_) (fun c => ?_)
      ·
        refine x_iinc (v := nI S - nI 1) (ls' := [.ref 14, .ref 22, .int (nI S - nI 1), .int (nI l)]) dX0_costRest_62 rfl (dec_raw _) rfl rfl ?_
        refine x_goto (tgt := 5) dX0_costRest_65 rfl ?_
        refine kk _ J (fun S' q hS' hS2 hq hst => ?_) jf
        rcases Nat.lt_or_ge S S' with e | e
        · exact j1 S' q e hS2 hq hst
        · have e : S' = S := by omega
          subst e; exact j2 q (by omega) hst
      ·
        omega
    | succ k ih =>
      intro l S J hl hS j1 j2 jf kk
      have hS8 : S * 8 + l < 2048 := by omega
      have j14 : J 14 0 = nI n := by rw [jf 14 (by decide)]; exact h0
      have stx : ∀ (x : Nat), isSt S l = true → x = Rr n on (cR hr) S l → Wx LX mX0_costRest d (xRv (fun J => (∀ S l, S < 2 ^ n → l < n → isSt S l = true → J 18 (S * 8 + l) = nI (Rr n on (cR hr) S l)) ∧ ∀ c, c ≠ 18 → J c = I c)) 55 [.ref 14, .ref 22, .int (nI S), .int (nI l)] [.int (nI x), .int (nI (S * 8 + l)), .ref 18] J := by
        intro x hst ex
        refine x_iast (p := S * 8 + l) dX0_costRest_55 rfl rfl rfl rfl (by omega) ?_
        generalize hK1 : xup J 18 (S * 8 + l) (nI x) = K1
        refine x_iinc (v := nI (l + 1)) (ls' := [.ref 14, .ref 22, .int (nI S), .int (nI (l + 1))]) dX0_costRest_56 rfl (inc_1 _) rfl rfl ?_
        refine x_goto (tgt := 11) dX0_costRest_59 rfl ?_
        refine ih (l + 1) S K1 (by omega) hS (fun S' q hS' hS2 hq h2 => ?_) (fun q hq h2 => ?_) (fun c hc => by rw [← hK1, xup_ne hc]; exact jf c hc) kk
        · rw [← hK1, xup_eq, if_neg (by omega)]; exact j1 S' q hS' hS2 hq h2
        · rw [← hK1, xup_eq]
          by_cases e : q = l
          · subst e; rw [if_pos rfl, ex]
          · rw [if_neg (by omega)]; exact j2 q (by omega) h2
      refine x_iload_n dX0_costRest_11 rfl ?_
      refine x_aload_n dX0_costRest_12 rfl ?_
      refine x_getI 0 0 (v := nI n) rfl (by decide) fl_X0_57 dX0_costRest_13 rfl rfl rfl j14 ?_
      refine x_icmpn_ge (a := l) (b := n) (by omega) (by omega) (tgt := 62) dX0_costRest_16 rfl (fun c => ?_) (fun c => ?_)
      ·
        omega
      ·
        refine x_iload_n dX0_costRest_19 rfl ?_
        refine x_iload_n dX0_costRest_20 rfl ?_
        refine x_callSi (as := [.int (nI S), .int (nI l)]) ml_X0_105 st_X0_isState ct_X0_isState (c_isState (d := 1) (by decide) (by omega) (by omega)) dX0_costRest_21 (by omega) rfl rfl (Nat.le_of_ble_eq_true rfl) (fun r0 J0 h0 => ?_)
        obtain ⟨rfl, hJ0⟩ := h0
        obtain rfl := hJ0.symm
        refine x_ifb_eq (b := isSt S l) (tgt := 56) dX0_costRest_24 rfl (fun c2 => ?_) (fun c2 => ?_)
        ·
          refine x_iinc (v := nI (l + 1)) (ls' := [.ref 14, .ref 22, .int (nI S), .int (nI (l + 1))]) dX0_costRest_56 rfl (inc_1 _) rfl rfl ?_
          refine x_goto (tgt := 11) dX0_costRest_59 rfl ?_
          refine ih (l + 1) S J (by omega) hS j1 (fun q hq h2 => ?_) jf kk
          by_cases e : q = l
          · subst e; rw [c2] at h2; cases h2
          · exact j2 q (by omega) h2
        ·
          refine x_aload_n dX0_costRest_27 rfl ?_
          refine x_getR 0 8 rfl (by decide) fl_X0_21 dX0_costRest_28 rfl rfl rfl ?_
          refine x_iload_n dX0_costRest_31 rfl ?_
          refine x_iload_n dX0_costRest_32 rfl ?_
          refine x_callSi (as := [.int (nI S), .int (nI l)]) ml_X0_101 st_X0_stateOf ct_X0_stateOf (c_stateOf (d := 0)) dX0_costRest_33 (by omega) rfl rfl (Nat.le_of_ble_eq_true rfl) (fun r0 J0 h0 => ?_)
          obtain ⟨rfl, hJ0⟩ := h0
          obtain rfl := hJ0.symm
          refine x_iload_n dX0_costRest_36 rfl ?_
          refine x_aload_n dX0_costRest_37 rfl ?_
          refine x_getI 0 1 (v := nI (1 <<< n - 1)) rfl (by decide) fl_X0_58 dX0_costRest_38 rfl rfl rfl (by rw [jf 14 (by decide)]; exact hf) ?_
          refine x_icmpn_ne (a := S) (b := 1 <<< n - 1) (by omega) (by omega) (tgt := 48) dX0_costRest_41 rfl (fun c3 => ?_) (fun c3 => ?_)
          ·
            have hrem : rem n S ≠ 0 := fun e => c3 ((rem_0 hS).mp e)
            obtain ⟨k', hk'⟩ : ∃ k', rem n S = k' + 1 := ⟨rem n S - 1, by omega⟩
            refine x_aload_n dX0_costRest_48 rfl ?_
            refine x_aload_n dX0_costRest_49 rfl ?_
            refine x_iload_n dX0_costRest_50 rfl ?_
            refine x_iload_n dX0_costRest_51 rfl ?_
            refine x_callVi 0 ml_X0_108 in_X0_cheapestOn se_X0_cheapestOn ct_X0_cheapestOn rfl (c_cheapestOn22 (d := 2) (on := on) (rF := fun S g => Rr n on (cR hr) S g) (hr := hr) (by decide) hn hS (by omega) hh (by rw [jf 23 (by decide)]; exact hI) j14 (by rw [jf 15 (by decide)]; exact hon S l hS (by omega)) (fun g hg => hob S l g hS (by omega) hg) (hlt S l hS (by omega)) (fun g hg hb => j1 _ g (or_gt hb) (or_lt hS hg) hg (isSt_or S g)) (fun S g => Rst_le n on (cR hr) _ S g)) dX0_costRest_52 hd rfl rfl rfl rfl (Nat.le_of_ble_eq_true rfl) (fun r0 J0 h0 => ?_)
            obtain ⟨rfl, hJ0⟩ := h0
            obtain rfl := hJ0.symm
            exact stx _ c2 (Rr_step hk' (fun g hg => hob S l g hS (by omega) hg)).symm
          ·
            refine x_iconst dX0_costRest_44 ic_0 ?_
            refine x_goto (tgt := 55) dX0_costRest_45 rfl ?_
            exact stx 0 c2 (by rw [Rr, (rem_0 hS).mpr c3]; rfl)
  have out : ∀ (K : Nat) (v3 : Value) (J : xMem), K ≤ 2 ^ n → (∀ S' l, K ≤ S' → S' < 2 ^ n → l < n → isSt S' l = true → J 18 (S' * 8 + l) = nI (Rr n on (cR hr) S' l)) → (∀ c, c ≠ 18 → J c = I c) → Wx LX mX0_costRest d (xRv (fun J => (∀ S l, S < 2 ^ n → l < n → isSt S l = true → J 18 (S * 8 + l) = nI (Rr n on (cR hr) S l)) ∧ ∀ c, c ≠ 18 → J c = I c)) 5 [.ref 14, .ref 22, .int (nI K - nI 1), v3] [] J := by
    intro K
    induction K with
    | zero =>
      intro v3 J hK j1 jf
      rw [show nI 0 - nI 1 = (-1) by decide +kernel]
      refine x_iload_n dX0_costRest_5 rfl ?_
      refine x_if_lt (tgt := 68) dX0_costRest_6 rfl (fun c => ?_) (fun c => ?_)
      ·
        refine x_vretv dX0_costRest_68 rfl ⟨fun S l hS hl hst => j1 S l (Nat.zero_le _) hS hl hst, jf⟩
      ·
        exact absurd (by decide +kernel) c
    | succ K ih =>
      intro v3 J hK j1 jf
      rw [pk_sub (by omega), show K + 1 - 1 = K by omega]
      refine x_iload_n dX0_costRest_5 rfl ?_
      refine x_ifn_lt (a := K) (by omega) (tgt := 68) dX0_costRest_6 rfl (fun c => ?_) (fun c => ?_)
      ·
        exact absurd c id
      ·
        refine x_iconst dX0_costRest_9 ic_0 ?_
        refine x_istore_n (ls' := [.ref 14, .ref 22, .int (nI K), .int (nI 0)]) dX0_costRest_10 rfl rfl ?_
        exact inn n 0 K J (by omega) (by omega) (fun S' q hS' hS2 hq hst => j1 S' q (by omega) hS2 hq hst) (fun q hq => by omega) jf (fun v3 J a1 a2 => ih v3 J (by omega) a1 a2)
  have e0 := out (2 ^ n) .null I (Nat.le_refl _) (fun S' l h1 h2 => by omega) (fun _ _ => rfl)
  rw [pk_sub Nat.one_le_two_pow, show 2 ^ n - 1 = 1 <<< n - 1 by omega] at e0
  refine Cx.of [.ref 14, .ref 22, .null, .null] (by decide) rfl rfl (Nat.le_of_ble_eq_true rfl) rfl ?_
  refine x_aload_n dX0_costRest_0 rfl ?_
  refine x_getI 0 1 (v := nI (1 <<< n - 1)) rfl (by decide) fl_X0_58 dX0_costRest_1 rfl rfl rfl hf ?_
  refine x_istore_n (ls' := [.ref 14, .ref 22, .int (nI (1 <<< n - 1)), .null]) dX0_costRest_4 rfl rfl ?_
  exact e0
theorem c_cheapestNext22 {on : Nat → Nat → Nat} {hr : Nat → Nat} {S l : Nat} (hd : 2 ≤ d) (hn : n ≤ 8) (hS : S < 2 ^ n) (hl : l < n) (hst : isSt S l = true) (hh : ∀ g, hr g < 1024) (hI : ∀ g, g < 8 → I 23 g = nI (hr g)) (h0 : I 14 0 = nI n) (hon : I 15 (S * 8 + l) = nI (on S l)) (hob : ∀ g, (on S l).testBit g = true → g < n ∧ S.testBit g = false) (hlt : on S l < 256) (hrF : ∀ S l, S < 2 ^ n → l < n → isSt S l = true → I 18 (S * 8 + l) = nI (Rr n on (cR hr) S l)) : Cx LX yX0_cheapestNext mX0_cheapestNext d [.ref 14, .ref 22, .int (nI S), .int (nI l)] I (xRi (fun r J => r = nI (onK n on (cR hr) S l) ∧ J = I)) := by
  have hp := p2_le hn
  have hR := Rst_le n on (cR hr) (rem n S) S l
  have eR : I 18 (S * 8 + l) = nI (Rr n on (cR hr) S l) := hrF S l hS hl hst
  have hR : Rr n on (cR hr) S l ≤ 1000000 := hR
  have lp : ∀ (k g : Nat), g + k = n → Rr n on (cR hr) S l < 1000000 → Wx LX mX0_cheapestNext d (xRi (fun r J => r = nI (onK n on (cR hr) S l) ∧ J = I)) 13 [.ref 14, .ref 22, .int (nI S), .int (nI l), .int (nI (S * 8 + l)), .int (nI (onF n on (cR hr) S l g)), .int (nI g)] [] I := by
    intro k
    induction k with
    | zero =>
      intro g hg hRl
      have e : g = n := by omega
      subst e
      refine x_iload dX0_cheapestNext_13 rfl ?_
      refine x_aload_n dX0_cheapestNext_15 rfl ?_
      refine x_getI 0 0 (v := nI g) rfl (by decide) fl_X0_57 dX0_cheapestNext_16 rfl rfl rfl h0 ?_
      refine x_icmpn_ge (a := g) (b := g) (by omega) (by omega) (tgt := 94) dX0_cheapestNext_19 rfl (fun c => ?_) (fun c => ?_)
      ·
        refine x_iload dX0_cheapestNext_94 rfl ?_
        refine x_ireti dX0_cheapestNext_96 rfl ⟨by rw [onK, if_pos hRl], rfl⟩
      ·
        omega
    | succ k ih =>
      intro g hg hRl
      have key := ih (g + 1) (by omega) hRl
      rw [onF_s] at key
      refine x_iload dX0_cheapestNext_13 rfl ?_
      refine x_aload_n dX0_cheapestNext_15 rfl ?_
      refine x_getI 0 0 (v := nI n) rfl (by decide) fl_X0_57 dX0_cheapestNext_16 rfl rfl rfl h0 ?_
      refine x_icmpn_ge (a := g) (b := n) (by omega) (by omega) (tgt := 94) dX0_cheapestNext_19 rfl (fun c => ?_) (fun c => ?_)
      ·
        omega
      ·
        refine x_aload_n dX0_cheapestNext_22 rfl ?_
        refine x_getR 0 8 rfl (by decide) fl_X0_21 dX0_cheapestNext_23 rfl rfl rfl ?_
        refine x_iload dX0_cheapestNext_26 rfl ?_
        refine x_iald (p := S * 8 + l) (v := nI (Rr n on (cR hr) S l)) dX0_cheapestNext_28 rfl rfl rfl rfl (by omega) eR ?_
        refine x_ldc (v := nI 1000000) dX0_cheapestNext_29 cn_X0_112 ?_
        refine x_icmpn_ge (a := Rr n on (cR hr) S l) (b := 1000000) (by omega) (by decide) (tgt := 94) dX0_cheapestNext_31 rfl (fun c1 => ?_) (fun c1 => ?_)
        ·
          omega
        ·
          refine x_aload_n dX0_cheapestNext_34 rfl ?_
          refine x_getR 0 5 rfl (by decide) fl_X0_9 dX0_cheapestNext_35 rfl rfl rfl ?_
          refine x_iload dX0_cheapestNext_38 rfl ?_
          refine x_iald (p := S * 8 + l) (v := nI (on S l)) dX0_cheapestNext_40 rfl rfl rfl rfl (by omega) hon ?_
          refine x_iload dX0_cheapestNext_41 rfl ?_
          refine x_callSNi (as := [.int (nI (on S l)), .int (nI g)]) (fun _ h => h.2.1) st_X5_isMember ct_X5_isMember (c_isMember (d := 0) (by omega) (by omega)) dX0_cheapestNext_43 (by omega) rfl rfl (Nat.le_of_ble_eq_true rfl) (fun r0 J0 h0 => ?_)
          obtain ⟨rfl, hJ0⟩ := h0
          obtain rfl := hJ0.symm
          refine x_ifb_eq (b := (on S l).testBit g) (tgt := 88) dX0_cheapestNext_46 rfl (fun c2 => ?_) (fun c2 => ?_)
          ·
            refine x_iinc (v := nI (g + 1)) (ls' := [.ref 14, .ref 22, .int (nI S), .int (nI l), .int (nI (S * 8 + l)), .int (nI (onF n on (cR hr) S l g)), .int (nI (g + 1))]) dX0_cheapestNext_88 rfl (inc_1 _) rfl rfl ?_
            refine x_goto (tgt := 13) dX0_cheapestNext_91 rfl ?_
            rw [c2] at key
            simp only [Bool.false_and, Bool.false_eq_true, if_false] at key
            exact key
          ·
            obtain ⟨b1, b2⟩ := hob g c2
            have hS2 := or_lt hS b1
            have hw := Rst_le n on (cR hr) (rem n (S ||| 1 <<< g)) (S ||| 1 <<< g) g
            have hw : Rr n on (cR hr) (S ||| 1 <<< g) g ≤ 1000000 := hw
            have hc : cR hr S l g ≤ 10 := pop_le _
            refine x_aload_n dX0_cheapestNext_49 rfl ?_
            refine x_getR 0 8 rfl (by decide) fl_X0_21 dX0_cheapestNext_50 rfl rfl rfl ?_
            refine x_iload_n dX0_cheapestNext_53 rfl ?_
            refine x_iload dX0_cheapestNext_54 rfl ?_
            refine x_callSi (as := [.int (nI S), .int (nI g)]) ml_X0_113 st_X0_stateAfter ct_X0_stateAfter (c_stateAfter (d := 0) (by omega)) dX0_cheapestNext_56 (by omega) rfl rfl (Nat.le_of_ble_eq_true rfl) (fun r0 J0 h0 => ?_)
            obtain ⟨rfl, hJ0⟩ := h0
            obtain rfl := hJ0.symm
            refine x_iald (p := ((S ||| 1 <<< g) * 8 + g)) (v := nI (Rr n on (cR hr) (S ||| 1 <<< g) g)) dX0_cheapestNext_59 rfl rfl rfl rfl (by omega) (hrF _ g hS2 b1 (isSt_or S g)) ?_
            refine x_aload_n dX0_cheapestNext_60 rfl ?_
            refine x_iload_n dX0_cheapestNext_61 rfl ?_
            refine x_iload_n dX0_cheapestNext_62 rfl ?_
            refine x_iload dX0_cheapestNext_63 rfl ?_
            refine x_callAi 2 ml_X0_116 same_Next so_X3 in_X3_ofNext ct_X3_ofNext rfl (c_ofNext3 (d := 1) (by decide) (by omega) (by omega) (by omega) hh hI) dX0_cheapestNext_65 hd rfl rfl rfl rfl (Nat.le_of_ble_eq_true rfl) (fun r0 J0 h0 => ?_)
            obtain ⟨rfl, hJ0⟩ := h0
            obtain rfl := hJ0.symm
            refine x_iadd (v := nI ((Rr n on (cR hr) (S ||| 1 <<< g) g) + (cR hr S l g))) dX0_cheapestNext_68 (nI_add _ _) ?_
            refine x_aload_n dX0_cheapestNext_69 rfl ?_
            refine x_getR 0 8 rfl (by decide) fl_X0_21 dX0_cheapestNext_70 rfl rfl rfl ?_
            refine x_iload dX0_cheapestNext_73 rfl ?_
            refine x_iald (p := S * 8 + l) (v := nI (Rr n on (cR hr) S l)) dX0_cheapestNext_75 rfl rfl rfl rfl (by omega) eR ?_
            refine x_icmpn_ne (a := (Rr n on (cR hr) (S ||| 1 <<< g) g) + (cR hr S l g)) (b := Rr n on (cR hr) S l) (by omega) (by omega) (tgt := 88) dX0_cheapestNext_76 rfl (fun c3 => ?_) (fun c3 => ?_)
            ·
              refine x_iinc (v := nI (g + 1)) (ls' := [.ref 14, .ref 22, .int (nI S), .int (nI l), .int (nI (S * 8 + l)), .int (nI (onF n on (cR hr) S l g)), .int (nI (g + 1))]) dX0_cheapestNext_88 rfl (inc_1 _) rfl rfl ?_
              refine x_goto (tgt := 13) dX0_cheapestNext_91 rfl ?_
              rw [c2, decide_eq_false c3] at key
              simp only [Bool.true_and, Bool.false_eq_true, if_false] at key
              exact key
            ·
              refine x_iload dX0_cheapestNext_79 rfl ?_
              refine x_iconst dX0_cheapestNext_81 ic_1 ?_
              refine x_iload dX0_cheapestNext_82 rfl ?_
              refine x_ishl (v := nI (1 <<< g)) dX0_cheapestNext_84 (nI_shl _ (by omega)) ?_
              refine x_ior (v := nI ((onF n on (cR hr) S l g) ||| (1 <<< g))) dX0_cheapestNext_85 (nI_or _ _) ?_
              refine x_istore (ls' := [.ref 14, .ref 22, .int (nI S), .int (nI l), .int (nI (S * 8 + l)), .int (nI ((onF n on (cR hr) S l g) ||| (1 <<< g))), .int (nI g)]) dX0_cheapestNext_86 rfl rfl ?_
              refine x_iinc (v := nI (g + 1)) (ls' := [.ref 14, .ref 22, .int (nI S), .int (nI l), .int (nI (S * 8 + l)), .int (nI ((onF n on (cR hr) S l g) ||| (1 <<< g))), .int (nI (g + 1))]) dX0_cheapestNext_88 rfl (inc_1 _) rfl rfl ?_
              refine x_goto (tgt := 13) dX0_cheapestNext_91 rfl ?_
              rw [c2, decide_eq_true c3] at key
              simp only [Bool.true_and, if_true] at key
              exact key
  refine Cx.of [.ref 14, .ref 22, .int (nI S), .int (nI l), .null, .null, .null] (by decide) rfl rfl (Nat.le_of_ble_eq_true rfl) rfl ?_
  refine x_iload_n dX0_cheapestNext_0 rfl ?_
  refine x_iload_n dX0_cheapestNext_1 rfl ?_
  refine x_callSi (as := [.int (nI S), .int (nI l)]) ml_X0_101 st_X0_stateOf ct_X0_stateOf (c_stateOf (d := 0)) dX0_cheapestNext_2 (by omega) rfl rfl (Nat.le_of_ble_eq_true rfl) (fun r0 J0 h0 => ?_)
  obtain ⟨rfl, hJ0⟩ := h0
  obtain rfl := hJ0.symm
  refine x_istore (ls' := [.ref 14, .ref 22, .int (nI S), .int (nI l), .int (nI (S * 8 + l)), .null, .null]) dX0_cheapestNext_5 rfl rfl ?_
  refine x_iconst dX0_cheapestNext_7 ic_0 ?_
  refine x_istore (ls' := [.ref 14, .ref 22, .int (nI S), .int (nI l), .int (nI (S * 8 + l)), .int (nI 0), .null]) dX0_cheapestNext_8 rfl rfl ?_
  refine x_iconst dX0_cheapestNext_10 ic_0 ?_
  refine x_istore (ls' := [.ref 14, .ref 22, .int (nI S), .int (nI l), .int (nI (S * 8 + l)), .int (nI 0), .int (nI 0)]) dX0_cheapestNext_11 rfl rfl ?_
  by_cases hRl : Rr n on (cR hr) S l < 1000000
  · exact lp n 0 (by omega) hRl
  ·
    refine x_iload dX0_cheapestNext_13 rfl ?_
    refine x_aload_n dX0_cheapestNext_15 rfl ?_
    refine x_getI 0 0 (v := nI n) rfl (by decide) fl_X0_57 dX0_cheapestNext_16 rfl rfl rfl h0 ?_
    refine x_icmpn_ge (a := 0) (b := n) (by omega) (by omega) (tgt := 94) dX0_cheapestNext_19 rfl (fun c => ?_) (fun c => ?_)
    ·
      omega
    ·
      refine x_aload_n dX0_cheapestNext_22 rfl ?_
      refine x_getR 0 8 rfl (by decide) fl_X0_21 dX0_cheapestNext_23 rfl rfl rfl ?_
      refine x_iload dX0_cheapestNext_26 rfl ?_
      refine x_iald (p := (S * 8 + l)) (v := nI (Rr n on (cR hr) S l)) dX0_cheapestNext_28 rfl rfl rfl rfl (by omega) eR ?_
      refine x_ldc (v := nI 1000000) dX0_cheapestNext_29 cn_X0_112 ?_
      refine x_icmpn_ge (a := Rr n on (cR hr) S l) (b := 1000000) (by omega) (by decide) (tgt := 94) dX0_cheapestNext_31 rfl (fun c1 => ?_) (fun c1 => ?_)
      ·
        refine x_iload dX0_cheapestNext_94 rfl ?_
        refine x_ireti dX0_cheapestNext_96 rfl ⟨by rw [onK, if_neg hRl], rfl⟩
      ·
        omega
theorem c_cheapestOn24 {on : Nat → Nat → Nat} {rF : Nat → Nat → Nat} {hr : Nat → Nat} {S l : Nat} (hd : 2 ≤ d) (hn : n ≤ 8) (hS : S < 2 ^ n) (hl : l < n) (hh : ∀ g, g < n → hr g < 1024) (hI : ∀ g, g < n → I 25 g = nI (hr g)) (h0 : I 14 0 = nI n) (hon : I 15 (S * 8 + l) = nI (on S l)) (hob : ∀ g, (on S l).testBit g = true → g < n ∧ S.testBit g = false) (hlt : on S l < 256) (hrF : ∀ g, g < n → S.testBit g = false → I 18 ((S ||| 1 <<< g) * 8 + g) = nI (rF (S ||| 1 <<< g) g)) (hrb : ∀ S g, rF S g ≤ 1000000) : Cx LX yX0_cheapestOn mX0_cheapestOn d [.ref 14, .ref 24, .int (nI S), .int (nI l)] I (xRi (fun r J => r = nI (rf (fun m g => if (on S l).testBit g then (if rF (S ||| 1 <<< g) g + cS hr S l g < m then rF (S ||| 1 <<< g) g + cS hr S l g else m) else m) 1000000 n) ∧ J = I)) := by
  have hp := p2_le hn
  have lp : ∀ (k g : Nat) (v7 : Value), g + k = n → Wx LX mX0_cheapestOn d (xRi (fun r J => r = nI (rf (fun m g => if (on S l).testBit g then (if rF (S ||| 1 <<< g) g + cS hr S l g < m then rF (S ||| 1 <<< g) g + cS hr S l g else m) else m) 1000000 n) ∧ J = I)) 19 [.ref 14, .ref 24, .int (nI S), .int (nI l), .int (nI (on S l)), .int (nI (rf (fun m g => if (on S l).testBit g then (if rF (S ||| 1 <<< g) g + cS hr S l g < m then rF (S ||| 1 <<< g) g + cS hr S l g else m) else m) 1000000 g)), .int (nI g), v7] [] I := by
    intro k
    induction k with
    | zero =>
      intro g v7 hg
      have e : g = n := by omega
      subst e
      refine x_iload dX0_cheapestOn_19 rfl ?_
      refine x_aload_n dX0_cheapestOn_21 rfl ?_
      refine x_getI 0 0 (v := nI g) rfl (by decide) fl_X0_57 dX0_cheapestOn_22 rfl rfl rfl h0 ?_
      refine x_icmpn_ge (a := g) (b := g) (by omega) (by omega) (tgt := 75) dX0_cheapestOn_25 rfl (fun c => ?_) (fun c => ?_)
      ·
        refine x_iload dX0_cheapestOn_75 rfl ?_
        refine x_ireti dX0_cheapestOn_77 rfl ⟨rfl, rfl⟩
      ·
        omega
    | succ k ih =>
      intro g v7 hg
      have hm : rf (fun m g => if (on S l).testBit g then (if rF (S ||| 1 <<< g) g + cS hr S l g < m then rF (S ||| 1 <<< g) g + cS hr S l g else m) else m) 1000000 g ≤ 1000000 := rf_le (fun m g => by split; split; omega; exact Nat.le_refl _; exact Nat.le_refl _) g
      have key := fun v => ih (g + 1) v (by omega)
      rw [rf_s] at key
      generalize rf (fun m g => if (on S l).testBit g then (if rF (S ||| 1 <<< g) g + cS hr S l g < m then rF (S ||| 1 <<< g) g + cS hr S l g else m) else m) 1000000 g = M at hm key ⊢
      refine x_iload dX0_cheapestOn_19 rfl ?_
      refine x_aload_n dX0_cheapestOn_21 rfl ?_
      refine x_getI 0 0 (v := nI n) rfl (by decide) fl_X0_57 dX0_cheapestOn_22 rfl rfl rfl h0 ?_
      refine x_icmpn_ge (a := g) (b := n) (by omega) (by omega) (tgt := 75) dX0_cheapestOn_25 rfl (fun c => ?_) (fun c => ?_)
      ·
        omega
      ·
        refine x_iload dX0_cheapestOn_28 rfl ?_
        refine x_iload dX0_cheapestOn_30 rfl ?_
        refine x_callSNi (as := [.int (nI (on S l)), .int (nI g)]) (fun _ h => h.2.1) st_X5_isMember ct_X5_isMember (c_isMember (d := 0) (by omega) (by omega)) dX0_cheapestOn_32 (by omega) rfl rfl (Nat.le_of_ble_eq_true rfl) (fun r0 J0 h0 => ?_)
        obtain ⟨rfl, hJ0⟩ := h0
        obtain rfl := hJ0.symm
        refine x_ifb_eq (b := (on S l).testBit g) (tgt := 69) dX0_cheapestOn_35 rfl (fun c2 => ?_) (fun c2 => ?_)
        ·
          refine x_iinc (v := nI (g + 1)) (ls' := [.ref 14, .ref 24, .int (nI S), .int (nI l), .int (nI (on S l)), .int (nI M), .int (nI (g + 1)), v7]) dX0_cheapestOn_69 rfl (inc_1 _) rfl rfl ?_
          refine x_goto (tgt := 19) dX0_cheapestOn_72 rfl ?_
          have := key v7
          rw [c2, if_neg (by decide)] at this
          exact this
        ·
          obtain ⟨b1, b2⟩ := hob g c2
          have hS2 := or_lt hS b1
          have hw := hrb (S ||| 1 <<< g) g
          have hc : cS hr S l g ≤ 10 := pop_le _
          refine x_aload_n dX0_cheapestOn_38 rfl ?_
          refine x_getR 0 8 rfl (by decide) fl_X0_21 dX0_cheapestOn_39 rfl rfl rfl ?_
          refine x_iload_n dX0_cheapestOn_42 rfl ?_
          refine x_iload dX0_cheapestOn_43 rfl ?_
          refine x_callSi (as := [.int (nI S), .int (nI g)]) ml_X0_113 st_X0_stateAfter ct_X0_stateAfter (c_stateAfter (d := 0) (by omega)) dX0_cheapestOn_45 (by omega) rfl rfl (Nat.le_of_ble_eq_true rfl) (fun r0 J0 h0 => ?_)
          obtain ⟨rfl, hJ0⟩ := h0
          obtain rfl := hJ0.symm
          refine x_iald (p := ((S ||| 1 <<< g) * 8 + g)) (v := nI (rF (S ||| 1 <<< g) g)) dX0_cheapestOn_48 rfl rfl rfl rfl (by omega) (hrF g b1 b2) ?_
          refine x_aload_n dX0_cheapestOn_49 rfl ?_
          refine x_iload_n dX0_cheapestOn_50 rfl ?_
          refine x_iload_n dX0_cheapestOn_51 rfl ?_
          refine x_iload dX0_cheapestOn_52 rfl ?_
          refine x_callAi 3 ml_X0_116 same_Next so_X4 in_X4_ofNext ct_X4_ofNext rfl (c_ofNext4 (d := 1) (by decide) (by omega) b1 hh hI) dX0_cheapestOn_54 hd rfl rfl rfl rfl (Nat.le_of_ble_eq_true rfl) (fun r0 J0 h0 => ?_)
          obtain ⟨rfl, hJ0⟩ := h0
          obtain rfl := hJ0.symm
          refine x_iadd (v := nI ((rF (S ||| 1 <<< g) g) + (cS hr S l g))) dX0_cheapestOn_57 (nI_add _ _) ?_
          refine x_istore (ls' := [.ref 14, .ref 24, .int (nI S), .int (nI l), .int (nI (on S l)), .int (nI M), .int (nI g), .int (nI ((rF (S ||| 1 <<< g) g) + (cS hr S l g)))]) dX0_cheapestOn_58 rfl rfl ?_
          refine x_iload dX0_cheapestOn_60 rfl ?_
          refine x_iload dX0_cheapestOn_62 rfl ?_
          refine x_min (v := nI (if rF (S ||| 1 <<< g) g + cS hr S l g < M then rF (S ||| 1 <<< g) g + cS hr S l g else M)) ml_X0_122 stat_min ini_J9 code_min dX0_cheapestOn_64 (by omega) (Nat.le_of_ble_eq_true rfl) (nI_min (by omega) (by omega)) ?_
          refine x_istore (ls' := [.ref 14, .ref 24, .int (nI S), .int (nI l), .int (nI (on S l)), .int (nI (if rF (S ||| 1 <<< g) g + cS hr S l g < M then rF (S ||| 1 <<< g) g + cS hr S l g else M)), .int (nI g), .int (nI ((rF (S ||| 1 <<< g) g) + (cS hr S l g)))]) dX0_cheapestOn_67 rfl rfl ?_
          refine x_iinc (v := nI (g + 1)) (ls' := [.ref 14, .ref 24, .int (nI S), .int (nI l), .int (nI (on S l)), .int (nI (if rF (S ||| 1 <<< g) g + cS hr S l g < M then rF (S ||| 1 <<< g) g + cS hr S l g else M)), .int (nI (g + 1)), .int (nI ((rF (S ||| 1 <<< g) g) + (cS hr S l g)))]) dX0_cheapestOn_69 rfl (inc_1 _) rfl rfl ?_
          refine x_goto (tgt := 19) dX0_cheapestOn_72 rfl ?_
          have := key (.int (nI (rF (S ||| 1 <<< g) g + cS hr S l g)))
          rw [c2, if_pos rfl] at this
          exact this
  refine Cx.of [.ref 14, .ref 24, .int (nI S), .int (nI l), .null, .null, .null, .null] (by decide) rfl rfl (Nat.le_of_ble_eq_true rfl) rfl ?_
  refine x_aload_n dX0_cheapestOn_0 rfl ?_
  refine x_getR 0 5 rfl (by decide) fl_X0_9 dX0_cheapestOn_1 rfl rfl rfl ?_
  refine x_iload_n dX0_cheapestOn_4 rfl ?_
  refine x_iload_n dX0_cheapestOn_5 rfl ?_
  refine x_callSi (as := [.int (nI S), .int (nI l)]) ml_X0_101 st_X0_stateOf ct_X0_stateOf (c_stateOf (d := 0)) dX0_cheapestOn_6 (by omega) rfl rfl (Nat.le_of_ble_eq_true rfl) (fun r0 J0 h0 => ?_)
  obtain ⟨rfl, hJ0⟩ := h0
  obtain rfl := hJ0.symm
  refine x_iald (p := (S * 8 + l)) (v := nI (on S l)) dX0_cheapestOn_9 rfl rfl rfl rfl (by omega) hon ?_
  refine x_istore (ls' := [.ref 14, .ref 24, .int (nI S), .int (nI l), .int (nI (on S l)), .null, .null, .null]) dX0_cheapestOn_10 rfl rfl ?_
  refine x_ldc (v := nI 1000000) dX0_cheapestOn_12 cn_X0_112 ?_
  refine x_istore (ls' := [.ref 14, .ref 24, .int (nI S), .int (nI l), .int (nI (on S l)), .int (nI 1000000), .null, .null]) dX0_cheapestOn_14 rfl rfl ?_
  refine x_iconst dX0_cheapestOn_16 ic_0 ?_
  refine x_istore (ls' := [.ref 14, .ref 24, .int (nI S), .int (nI l), .int (nI (on S l)), .int (nI 1000000), .int (nI 0), .null]) dX0_cheapestOn_17 rfl rfl ?_
  exact lp n 0 _ (by omega)
theorem c_costRest24 {on : Nat → Nat → Nat} {hr : Nat → Nat} (hd : 3 ≤ d) (h1 : 1 ≤ n) (hn : n ≤ 8) (hh : ∀ g, g < n → hr g < 1024) (hI : ∀ g, g < n → I 25 g = nI (hr g)) (h0 : I 14 0 = nI n) (hf : I 14 1 = nI (1 <<< n - 1)) (hon : ∀ S l, S < 2 ^ n → l < n → I 15 (S * 8 + l) = nI (on S l)) (hob : ∀ S l g, S < 2 ^ n → l < n → (on S l).testBit g = true → g < n ∧ S.testBit g = false) (hlt : ∀ S l, S < 2 ^ n → l < n → on S l < 256) : Cx LX yX0_costRest mX0_costRest d [.ref 14, .ref 24] I (xRv (fun J => (∀ S l, S < 2 ^ n → l < n → isSt S l = true → J 18 (S * 8 + l) = nI (Rr n on (cS hr) S l)) ∧ ∀ c, c ≠ 18 → J c = I c)) := by
  have hp := p2_le hn
  have hfl : 1 <<< n - 1 + 1 = 2 ^ n := by rw [Nat.one_shiftLeft]; have := Nat.one_le_two_pow (n := n); omega
  have inn : ∀ (k l S : Nat) (J : xMem), l + k = n → S < 2 ^ n → (∀ S' l, S < S' → S' < 2 ^ n → l < n → isSt S' l = true → J 18 (S' * 8 + l) = nI (Rr n on (cS hr) S' l)) → (∀ q, q < l → isSt S q = true → J 18 (S * 8 + q) = nI (Rr n on (cS hr) S q)) → (∀ c, c ≠ 18 → J c = I c) →
      (∀ (v3 : Value) (J : xMem), (∀ S' l, S ≤ S' → S' < 2 ^ n → l < n → isSt S' l = true → J 18 (S' * 8 + l) = nI (Rr n on (cS hr) S' l)) → (∀ c, c ≠ 18 → J c = I c) → Wx LX mX0_costRest d (xRv (fun J => (∀ S l, S < 2 ^ n → l < n → isSt S l = true → J 18 (S * 8 + l) = nI (Rr n on (cS hr) S l)) ∧ ∀ c, c ≠ 18 → J c = I c)) 5 [.ref 14, .ref 24, .int (nI S - nI 1), v3] [] J) →
      Wx LX mX0_costRest d (xRv (fun J => (∀ S l, S < 2 ^ n → l < n → isSt S l = true → J 18 (S * 8 + l) = nI (Rr n on (cS hr) S l)) ∧ ∀ c, c ≠ 18 → J c = I c)) 11 [.ref 14, .ref 24, .int (nI S), .int (nI l)] [] J := by
    intro k
    induction k with
    | zero =>
      intro l S J hl hS j1 j2 jf kk
      refine x_iload_n dX0_costRest_11 rfl ?_
      refine x_aload_n dX0_costRest_12 rfl ?_
      refine x_getI 0 0 (v := nI n) rfl (by decide) fl_X0_57 dX0_costRest_13 rfl rfl rfl (by rw [jf 14 (by decide)]; exact h0) ?_
      refine x_icmpn_ge (a := l) (b := n) (by omega) (by omega) (tgt := 62) dX0_costRest_16 rfl (fun c => ?_) (fun c => ?_)
      ·
        refine x_iinc (v := nI S - nI 1) (ls' := [.ref 14, .ref 24, .int (nI S - nI 1), .int (nI l)]) dX0_costRest_62 rfl (dec_raw _) rfl rfl ?_
        refine x_goto (tgt := 5) dX0_costRest_65 rfl ?_
        refine kk _ J (fun S' q hS' hS2 hq hst => ?_) jf
        rcases Nat.lt_or_ge S S' with e | e
        · exact j1 S' q e hS2 hq hst
        · have e : S' = S := by omega
          subst e; exact j2 q (by omega) hst
      ·
        omega
    | succ k ih =>
      intro l S J hl hS j1 j2 jf kk
      have hS8 : S * 8 + l < 2048 := by omega
      have j14 : J 14 0 = nI n := by rw [jf 14 (by decide)]; exact h0
      have stx : ∀ (x : Nat), isSt S l = true → x = Rr n on (cS hr) S l → Wx LX mX0_costRest d (xRv (fun J => (∀ S l, S < 2 ^ n → l < n → isSt S l = true → J 18 (S * 8 + l) = nI (Rr n on (cS hr) S l)) ∧ ∀ c, c ≠ 18 → J c = I c)) 55 [.ref 14, .ref 24, .int (nI S), .int (nI l)] [.int (nI x), .int (nI (S * 8 + l)), .ref 18] J := by
        intro x hst ex
        refine x_iast (p := S * 8 + l) dX0_costRest_55 rfl rfl rfl rfl (by omega) ?_
        generalize hK1 : xup J 18 (S * 8 + l) (nI x) = K1
        refine x_iinc (v := nI (l + 1)) (ls' := [.ref 14, .ref 24, .int (nI S), .int (nI (l + 1))]) dX0_costRest_56 rfl (inc_1 _) rfl rfl ?_
        refine x_goto (tgt := 11) dX0_costRest_59 rfl ?_
        refine ih (l + 1) S K1 (by omega) hS (fun S' q hS' hS2 hq h2 => ?_) (fun q hq h2 => ?_) (fun c hc => by rw [← hK1, xup_ne hc]; exact jf c hc) kk
        · rw [← hK1, xup_eq, if_neg (by omega)]; exact j1 S' q hS' hS2 hq h2
        · rw [← hK1, xup_eq]
          by_cases e : q = l
          · subst e; rw [if_pos rfl, ex]
          · rw [if_neg (by omega)]; exact j2 q (by omega) h2
      refine x_iload_n dX0_costRest_11 rfl ?_
      refine x_aload_n dX0_costRest_12 rfl ?_
      refine x_getI 0 0 (v := nI n) rfl (by decide) fl_X0_57 dX0_costRest_13 rfl rfl rfl j14 ?_
      refine x_icmpn_ge (a := l) (b := n) (by omega) (by omega) (tgt := 62) dX0_costRest_16 rfl (fun c => ?_) (fun c => ?_)
      ·
        omega
      ·
        refine x_iload_n dX0_costRest_19 rfl ?_
        refine x_iload_n dX0_costRest_20 rfl ?_
        refine x_callSi (as := [.int (nI S), .int (nI l)]) ml_X0_105 st_X0_isState ct_X0_isState (c_isState (d := 1) (by decide) (by omega) (by omega)) dX0_costRest_21 (by omega) rfl rfl (Nat.le_of_ble_eq_true rfl) (fun r0 J0 h0 => ?_)
        obtain ⟨rfl, hJ0⟩ := h0
        obtain rfl := hJ0.symm
        refine x_ifb_eq (b := isSt S l) (tgt := 56) dX0_costRest_24 rfl (fun c2 => ?_) (fun c2 => ?_)
        ·
          refine x_iinc (v := nI (l + 1)) (ls' := [.ref 14, .ref 24, .int (nI S), .int (nI (l + 1))]) dX0_costRest_56 rfl (inc_1 _) rfl rfl ?_
          refine x_goto (tgt := 11) dX0_costRest_59 rfl ?_
          refine ih (l + 1) S J (by omega) hS j1 (fun q hq h2 => ?_) jf kk
          by_cases e : q = l
          · subst e; rw [c2] at h2; cases h2
          · exact j2 q (by omega) h2
        ·
          refine x_aload_n dX0_costRest_27 rfl ?_
          refine x_getR 0 8 rfl (by decide) fl_X0_21 dX0_costRest_28 rfl rfl rfl ?_
          refine x_iload_n dX0_costRest_31 rfl ?_
          refine x_iload_n dX0_costRest_32 rfl ?_
          refine x_callSi (as := [.int (nI S), .int (nI l)]) ml_X0_101 st_X0_stateOf ct_X0_stateOf (c_stateOf (d := 0)) dX0_costRest_33 (by omega) rfl rfl (Nat.le_of_ble_eq_true rfl) (fun r0 J0 h0 => ?_)
          obtain ⟨rfl, hJ0⟩ := h0
          obtain rfl := hJ0.symm
          refine x_iload_n dX0_costRest_36 rfl ?_
          refine x_aload_n dX0_costRest_37 rfl ?_
          refine x_getI 0 1 (v := nI (1 <<< n - 1)) rfl (by decide) fl_X0_58 dX0_costRest_38 rfl rfl rfl (by rw [jf 14 (by decide)]; exact hf) ?_
          refine x_icmpn_ne (a := S) (b := 1 <<< n - 1) (by omega) (by omega) (tgt := 48) dX0_costRest_41 rfl (fun c3 => ?_) (fun c3 => ?_)
          ·
            have hrem : rem n S ≠ 0 := fun e => c3 ((rem_0 hS).mp e)
            obtain ⟨k', hk'⟩ : ∃ k', rem n S = k' + 1 := ⟨rem n S - 1, by omega⟩
            refine x_aload_n dX0_costRest_48 rfl ?_
            refine x_aload_n dX0_costRest_49 rfl ?_
            refine x_iload_n dX0_costRest_50 rfl ?_
            refine x_iload_n dX0_costRest_51 rfl ?_
            refine x_callVi 0 ml_X0_108 in_X0_cheapestOn se_X0_cheapestOn ct_X0_cheapestOn rfl (c_cheapestOn24 (d := 2) (on := on) (rF := fun S g => Rr n on (cS hr) S g) (hr := hr) (by decide) hn hS (by omega) hh (by rw [jf 25 (by decide)]; exact hI) j14 (by rw [jf 15 (by decide)]; exact hon S l hS (by omega)) (fun g hg => hob S l g hS (by omega) hg) (hlt S l hS (by omega)) (fun g hg hb => j1 _ g (or_gt hb) (or_lt hS hg) hg (isSt_or S g)) (fun S g => Rst_le n on (cS hr) _ S g)) dX0_costRest_52 hd rfl rfl rfl rfl (Nat.le_of_ble_eq_true rfl) (fun r0 J0 h0 => ?_)
            obtain ⟨rfl, hJ0⟩ := h0
            obtain rfl := hJ0.symm
            exact stx _ c2 (Rr_step hk' (fun g hg => hob S l g hS (by omega) hg)).symm
          ·
            refine x_iconst dX0_costRest_44 ic_0 ?_
            refine x_goto (tgt := 55) dX0_costRest_45 rfl ?_
            exact stx 0 c2 (by rw [Rr, (rem_0 hS).mpr c3]; rfl)
  have out : ∀ (K : Nat) (v3 : Value) (J : xMem), K ≤ 2 ^ n → (∀ S' l, K ≤ S' → S' < 2 ^ n → l < n → isSt S' l = true → J 18 (S' * 8 + l) = nI (Rr n on (cS hr) S' l)) → (∀ c, c ≠ 18 → J c = I c) → Wx LX mX0_costRest d (xRv (fun J => (∀ S l, S < 2 ^ n → l < n → isSt S l = true → J 18 (S * 8 + l) = nI (Rr n on (cS hr) S l)) ∧ ∀ c, c ≠ 18 → J c = I c)) 5 [.ref 14, .ref 24, .int (nI K - nI 1), v3] [] J := by
    intro K
    induction K with
    | zero =>
      intro v3 J hK j1 jf
      rw [show nI 0 - nI 1 = (-1) by decide +kernel]
      refine x_iload_n dX0_costRest_5 rfl ?_
      refine x_if_lt (tgt := 68) dX0_costRest_6 rfl (fun c => ?_) (fun c => ?_)
      ·
        refine x_vretv dX0_costRest_68 rfl ⟨fun S l hS hl hst => j1 S l (Nat.zero_le _) hS hl hst, jf⟩
      ·
        exact absurd (by decide +kernel) c
    | succ K ih =>
      intro v3 J hK j1 jf
      rw [pk_sub (by omega), show K + 1 - 1 = K by omega]
      refine x_iload_n dX0_costRest_5 rfl ?_
      refine x_ifn_lt (a := K) (by omega) (tgt := 68) dX0_costRest_6 rfl (fun c => ?_) (fun c => ?_)
      ·
        exact absurd c id
      ·
        refine x_iconst dX0_costRest_9 ic_0 ?_
        refine x_istore_n (ls' := [.ref 14, .ref 24, .int (nI K), .int (nI 0)]) dX0_costRest_10 rfl rfl ?_
        exact inn n 0 K J (by omega) (by omega) (fun S' q hS' hS2 hq hst => j1 S' q (by omega) hS2 hq hst) (fun q hq => by omega) jf (fun v3 J a1 a2 => ih v3 J (by omega) a1 a2)
  have e0 := out (2 ^ n) .null I (Nat.le_refl _) (fun S' l h1 h2 => by omega) (fun _ _ => rfl)
  rw [pk_sub Nat.one_le_two_pow, show 2 ^ n - 1 = 1 <<< n - 1 by omega] at e0
  refine Cx.of [.ref 14, .ref 24, .null, .null] (by decide) rfl rfl (Nat.le_of_ble_eq_true rfl) rfl ?_
  refine x_aload_n dX0_costRest_0 rfl ?_
  refine x_getI 0 1 (v := nI (1 <<< n - 1)) rfl (by decide) fl_X0_58 dX0_costRest_1 rfl rfl rfl hf ?_
  refine x_istore_n (ls' := [.ref 14, .ref 24, .int (nI (1 <<< n - 1)), .null]) dX0_costRest_4 rfl rfl ?_
  exact e0
theorem c_cheapestNext24 {on : Nat → Nat → Nat} {hr : Nat → Nat} {S l : Nat} (hd : 2 ≤ d) (hn : n ≤ 8) (hS : S < 2 ^ n) (hl : l < n) (hst : isSt S l = true) (hh : ∀ g, g < n → hr g < 1024) (hI : ∀ g, g < n → I 25 g = nI (hr g)) (h0 : I 14 0 = nI n) (hon : I 15 (S * 8 + l) = nI (on S l)) (hob : ∀ g, (on S l).testBit g = true → g < n ∧ S.testBit g = false) (hlt : on S l < 256) (hrF : ∀ S l, S < 2 ^ n → l < n → isSt S l = true → I 18 (S * 8 + l) = nI (Rr n on (cS hr) S l)) : Cx LX yX0_cheapestNext mX0_cheapestNext d [.ref 14, .ref 24, .int (nI S), .int (nI l)] I (xRi (fun r J => r = nI (onK n on (cS hr) S l) ∧ J = I)) := by
  have hp := p2_le hn
  have hR := Rst_le n on (cS hr) (rem n S) S l
  have eR : I 18 (S * 8 + l) = nI (Rr n on (cS hr) S l) := hrF S l hS hl hst
  have hR : Rr n on (cS hr) S l ≤ 1000000 := hR
  have lp : ∀ (k g : Nat), g + k = n → Rr n on (cS hr) S l < 1000000 → Wx LX mX0_cheapestNext d (xRi (fun r J => r = nI (onK n on (cS hr) S l) ∧ J = I)) 13 [.ref 14, .ref 24, .int (nI S), .int (nI l), .int (nI (S * 8 + l)), .int (nI (onF n on (cS hr) S l g)), .int (nI g)] [] I := by
    intro k
    induction k with
    | zero =>
      intro g hg hRl
      have e : g = n := by omega
      subst e
      refine x_iload dX0_cheapestNext_13 rfl ?_
      refine x_aload_n dX0_cheapestNext_15 rfl ?_
      refine x_getI 0 0 (v := nI g) rfl (by decide) fl_X0_57 dX0_cheapestNext_16 rfl rfl rfl h0 ?_
      refine x_icmpn_ge (a := g) (b := g) (by omega) (by omega) (tgt := 94) dX0_cheapestNext_19 rfl (fun c => ?_) (fun c => ?_)
      ·
        refine x_iload dX0_cheapestNext_94 rfl ?_
        refine x_ireti dX0_cheapestNext_96 rfl ⟨by rw [onK, if_pos hRl], rfl⟩
      ·
        omega
    | succ k ih =>
      intro g hg hRl
      have key := ih (g + 1) (by omega) hRl
      rw [onF_s] at key
      refine x_iload dX0_cheapestNext_13 rfl ?_
      refine x_aload_n dX0_cheapestNext_15 rfl ?_
      refine x_getI 0 0 (v := nI n) rfl (by decide) fl_X0_57 dX0_cheapestNext_16 rfl rfl rfl h0 ?_
      refine x_icmpn_ge (a := g) (b := n) (by omega) (by omega) (tgt := 94) dX0_cheapestNext_19 rfl (fun c => ?_) (fun c => ?_)
      ·
        omega
      ·
        refine x_aload_n dX0_cheapestNext_22 rfl ?_
        refine x_getR 0 8 rfl (by decide) fl_X0_21 dX0_cheapestNext_23 rfl rfl rfl ?_
        refine x_iload dX0_cheapestNext_26 rfl ?_
        refine x_iald (p := S * 8 + l) (v := nI (Rr n on (cS hr) S l)) dX0_cheapestNext_28 rfl rfl rfl rfl (by omega) eR ?_
        refine x_ldc (v := nI 1000000) dX0_cheapestNext_29 cn_X0_112 ?_
        refine x_icmpn_ge (a := Rr n on (cS hr) S l) (b := 1000000) (by omega) (by decide) (tgt := 94) dX0_cheapestNext_31 rfl (fun c1 => ?_) (fun c1 => ?_)
        ·
          omega
        ·
          refine x_aload_n dX0_cheapestNext_34 rfl ?_
          refine x_getR 0 5 rfl (by decide) fl_X0_9 dX0_cheapestNext_35 rfl rfl rfl ?_
          refine x_iload dX0_cheapestNext_38 rfl ?_
          refine x_iald (p := S * 8 + l) (v := nI (on S l)) dX0_cheapestNext_40 rfl rfl rfl rfl (by omega) hon ?_
          refine x_iload dX0_cheapestNext_41 rfl ?_
          refine x_callSNi (as := [.int (nI (on S l)), .int (nI g)]) (fun _ h => h.2.1) st_X5_isMember ct_X5_isMember (c_isMember (d := 0) (by omega) (by omega)) dX0_cheapestNext_43 (by omega) rfl rfl (Nat.le_of_ble_eq_true rfl) (fun r0 J0 h0 => ?_)
          obtain ⟨rfl, hJ0⟩ := h0
          obtain rfl := hJ0.symm
          refine x_ifb_eq (b := (on S l).testBit g) (tgt := 88) dX0_cheapestNext_46 rfl (fun c2 => ?_) (fun c2 => ?_)
          ·
            refine x_iinc (v := nI (g + 1)) (ls' := [.ref 14, .ref 24, .int (nI S), .int (nI l), .int (nI (S * 8 + l)), .int (nI (onF n on (cS hr) S l g)), .int (nI (g + 1))]) dX0_cheapestNext_88 rfl (inc_1 _) rfl rfl ?_
            refine x_goto (tgt := 13) dX0_cheapestNext_91 rfl ?_
            rw [c2] at key
            simp only [Bool.false_and, Bool.false_eq_true, if_false] at key
            exact key
          ·
            obtain ⟨b1, b2⟩ := hob g c2
            have hS2 := or_lt hS b1
            have hw := Rst_le n on (cS hr) (rem n (S ||| 1 <<< g)) (S ||| 1 <<< g) g
            have hw : Rr n on (cS hr) (S ||| 1 <<< g) g ≤ 1000000 := hw
            have hc : cS hr S l g ≤ 10 := pop_le _
            refine x_aload_n dX0_cheapestNext_49 rfl ?_
            refine x_getR 0 8 rfl (by decide) fl_X0_21 dX0_cheapestNext_50 rfl rfl rfl ?_
            refine x_iload_n dX0_cheapestNext_53 rfl ?_
            refine x_iload dX0_cheapestNext_54 rfl ?_
            refine x_callSi (as := [.int (nI S), .int (nI g)]) ml_X0_113 st_X0_stateAfter ct_X0_stateAfter (c_stateAfter (d := 0) (by omega)) dX0_cheapestNext_56 (by omega) rfl rfl (Nat.le_of_ble_eq_true rfl) (fun r0 J0 h0 => ?_)
            obtain ⟨rfl, hJ0⟩ := h0
            obtain rfl := hJ0.symm
            refine x_iald (p := ((S ||| 1 <<< g) * 8 + g)) (v := nI (Rr n on (cS hr) (S ||| 1 <<< g) g)) dX0_cheapestNext_59 rfl rfl rfl rfl (by omega) (hrF _ g hS2 b1 (isSt_or S g)) ?_
            refine x_aload_n dX0_cheapestNext_60 rfl ?_
            refine x_iload_n dX0_cheapestNext_61 rfl ?_
            refine x_iload_n dX0_cheapestNext_62 rfl ?_
            refine x_iload dX0_cheapestNext_63 rfl ?_
            refine x_callAi 3 ml_X0_116 same_Next so_X4 in_X4_ofNext ct_X4_ofNext rfl (c_ofNext4 (d := 1) (by decide) (by omega) b1 hh hI) dX0_cheapestNext_65 hd rfl rfl rfl rfl (Nat.le_of_ble_eq_true rfl) (fun r0 J0 h0 => ?_)
            obtain ⟨rfl, hJ0⟩ := h0
            obtain rfl := hJ0.symm
            refine x_iadd (v := nI ((Rr n on (cS hr) (S ||| 1 <<< g) g) + (cS hr S l g))) dX0_cheapestNext_68 (nI_add _ _) ?_
            refine x_aload_n dX0_cheapestNext_69 rfl ?_
            refine x_getR 0 8 rfl (by decide) fl_X0_21 dX0_cheapestNext_70 rfl rfl rfl ?_
            refine x_iload dX0_cheapestNext_73 rfl ?_
            refine x_iald (p := S * 8 + l) (v := nI (Rr n on (cS hr) S l)) dX0_cheapestNext_75 rfl rfl rfl rfl (by omega) eR ?_
            refine x_icmpn_ne (a := (Rr n on (cS hr) (S ||| 1 <<< g) g) + (cS hr S l g)) (b := Rr n on (cS hr) S l) (by omega) (by omega) (tgt := 88) dX0_cheapestNext_76 rfl (fun c3 => ?_) (fun c3 => ?_)
            ·
              refine x_iinc (v := nI (g + 1)) (ls' := [.ref 14, .ref 24, .int (nI S), .int (nI l), .int (nI (S * 8 + l)), .int (nI (onF n on (cS hr) S l g)), .int (nI (g + 1))]) dX0_cheapestNext_88 rfl (inc_1 _) rfl rfl ?_
              refine x_goto (tgt := 13) dX0_cheapestNext_91 rfl ?_
              rw [c2, decide_eq_false c3] at key
              simp only [Bool.true_and, Bool.false_eq_true, if_false] at key
              exact key
            ·
              refine x_iload dX0_cheapestNext_79 rfl ?_
              refine x_iconst dX0_cheapestNext_81 ic_1 ?_
              refine x_iload dX0_cheapestNext_82 rfl ?_
              refine x_ishl (v := nI (1 <<< g)) dX0_cheapestNext_84 (nI_shl _ (by omega)) ?_
              refine x_ior (v := nI ((onF n on (cS hr) S l g) ||| (1 <<< g))) dX0_cheapestNext_85 (nI_or _ _) ?_
              refine x_istore (ls' := [.ref 14, .ref 24, .int (nI S), .int (nI l), .int (nI (S * 8 + l)), .int (nI ((onF n on (cS hr) S l g) ||| (1 <<< g))), .int (nI g)]) dX0_cheapestNext_86 rfl rfl ?_
              refine x_iinc (v := nI (g + 1)) (ls' := [.ref 14, .ref 24, .int (nI S), .int (nI l), .int (nI (S * 8 + l)), .int (nI ((onF n on (cS hr) S l g) ||| (1 <<< g))), .int (nI (g + 1))]) dX0_cheapestNext_88 rfl (inc_1 _) rfl rfl ?_
              refine x_goto (tgt := 13) dX0_cheapestNext_91 rfl ?_
              rw [c2, decide_eq_true c3] at key
              simp only [Bool.true_and, if_true] at key
              exact key
  refine Cx.of [.ref 14, .ref 24, .int (nI S), .int (nI l), .null, .null, .null] (by decide) rfl rfl (Nat.le_of_ble_eq_true rfl) rfl ?_
  refine x_iload_n dX0_cheapestNext_0 rfl ?_
  refine x_iload_n dX0_cheapestNext_1 rfl ?_
  refine x_callSi (as := [.int (nI S), .int (nI l)]) ml_X0_101 st_X0_stateOf ct_X0_stateOf (c_stateOf (d := 0)) dX0_cheapestNext_2 (by omega) rfl rfl (Nat.le_of_ble_eq_true rfl) (fun r0 J0 h0 => ?_)
  obtain ⟨rfl, hJ0⟩ := h0
  obtain rfl := hJ0.symm
  refine x_istore (ls' := [.ref 14, .ref 24, .int (nI S), .int (nI l), .int (nI (S * 8 + l)), .null, .null]) dX0_cheapestNext_5 rfl rfl ?_
  refine x_iconst dX0_cheapestNext_7 ic_0 ?_
  refine x_istore (ls' := [.ref 14, .ref 24, .int (nI S), .int (nI l), .int (nI (S * 8 + l)), .int (nI 0), .null]) dX0_cheapestNext_8 rfl rfl ?_
  refine x_iconst dX0_cheapestNext_10 ic_0 ?_
  refine x_istore (ls' := [.ref 14, .ref 24, .int (nI S), .int (nI l), .int (nI (S * 8 + l)), .int (nI 0), .int (nI 0)]) dX0_cheapestNext_11 rfl rfl ?_
  by_cases hRl : Rr n on (cS hr) S l < 1000000
  · exact lp n 0 (by omega) hRl
  ·
    refine x_iload dX0_cheapestNext_13 rfl ?_
    refine x_aload_n dX0_cheapestNext_15 rfl ?_
    refine x_getI 0 0 (v := nI n) rfl (by decide) fl_X0_57 dX0_cheapestNext_16 rfl rfl rfl h0 ?_
    refine x_icmpn_ge (a := 0) (b := n) (by omega) (by omega) (tgt := 94) dX0_cheapestNext_19 rfl (fun c => ?_) (fun c => ?_)
    ·
      omega
    ·
      refine x_aload_n dX0_cheapestNext_22 rfl ?_
      refine x_getR 0 8 rfl (by decide) fl_X0_21 dX0_cheapestNext_23 rfl rfl rfl ?_
      refine x_iload dX0_cheapestNext_26 rfl ?_
      refine x_iald (p := (S * 8 + l)) (v := nI (Rr n on (cS hr) S l)) dX0_cheapestNext_28 rfl rfl rfl rfl (by omega) eR ?_
      refine x_ldc (v := nI 1000000) dX0_cheapestNext_29 cn_X0_112 ?_
      refine x_icmpn_ge (a := Rr n on (cS hr) S l) (b := 1000000) (by omega) (by decide) (tgt := 94) dX0_cheapestNext_31 rfl (fun c1 => ?_) (fun c1 => ?_)
      ·
        refine x_iload dX0_cheapestNext_94 rfl ?_
        refine x_ireti dX0_cheapestNext_96 rfl ⟨by rw [onK, if_neg hRl], rfl⟩
      ·
        omega
end XK
