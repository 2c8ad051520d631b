/-! the reference: its rows changed -/
section MG
variable {I : xMem} {n d : Nat} {h a L : Nat → Nat}
theorem c_begin  : Cx LM yX6_begin mX6_begin d [.ref 0] I (xRv (fun J => (∀ p, p < 8 → J 4 p = nI p) ∧ ∀ c, c ≠ 4 → J c = I c)) := by
  have lp : ∀ (k g : Nat) (J : xMem), g + k = 8 → (∀ p, p < g → J 4 p = nI p) → (∀ c, c ≠ 4 → J c = I c) → Wx LM mX6_begin d (xRv (fun J => (∀ p, p < 8 → J 4 p = nI p) ∧ ∀ c, c ≠ 4 → J c = I c)) 2 [.ref 0, .int (nI g)] [] J := by
    intro k
    induction k with
    | zero =>
      intro g J hg j1 j2
      refine x_iload_n dX6_begin_2 rfl ?_
      refine x_bipush dX6_begin_3 bp_8 ?_
      refine x_icmpn_ge (a := g) (b := 8) (by omega) (by omega) (tgt := 21) dX6_begin_5 rfl (fun c => ?_) (fun c => ?_)
      ·
        refine x_vretv dX6_begin_21 rfl ⟨fun p hp => j1 p (by omega), j2⟩
      ·
        omega
    | succ k ih =>
      intro g J hg j1 j2
      refine x_iload_n dX6_begin_2 rfl ?_
      refine x_bipush dX6_begin_3 bp_8 ?_
      refine x_icmpn_ge (a := g) (b := 8) (by omega) (by omega) (tgt := 21) dX6_begin_5 rfl (fun c => ?_) (fun c => ?_)
      ·
        omega
      ·
        refine x_aload_n dX6_begin_8 rfl ?_
        refine x_getR 5 3 rfl (by decide) fl_X6_20 dX6_begin_9 rfl rfl rfl ?_
        refine x_iload_n dX6_begin_12 rfl ?_
        refine x_iload_n dX6_begin_13 rfl ?_
        refine x_iast (p := g) dX6_begin_14 rfl rfl rfl rfl (by omega) ?_
        generalize hJ1 : xup J 4 g (nI g) = J1
        refine x_iinc (v := nI (g + 1)) (ls' := [.ref 0, .int (nI (g + 1))]) dX6_begin_15 rfl (inc_1 _) rfl rfl ?_
        refine x_goto (tgt := 2) dX6_begin_18 rfl ?_
        refine ih (g + 1) J1 (by omega) (fun p hp => ?_) (fun c hc => ?_)
        · rw [← hJ1, xup_eq]
          by_cases e : p = g
          · subst e; rw [if_pos rfl]
          · rw [if_neg e]; exact j1 p (by omega)
        · rw [← hJ1, xup_ne hc]; exact j2 c hc
  refine Cx.of [.ref 0, .null] (by decide) rfl rfl (Nat.le_of_ble_eq_true rfl) rfl ?_
  refine x_iconst dX6_begin_0 ic_0 ?_
  refine x_istore_n (ls' := [.ref 0, .int (nI 0)]) dX6_begin_1 rfl rfl ?_
  exact lp 8 0 I rfl (fun p hp => by omega) (fun _ _ => rfl)
theorem c_takeRow (hL : ∀ g, g < 8 → I 1 (17 + g) = nI (L g)) : Cx LM yX6_takeRow mX6_takeRow d [.ref 0] I (xRv (fun J => (∀ p, p < 8 → J 4 p = nI (L p)) ∧ ∀ c, c ≠ 4 → J c = I c)) := by
  have lp : ∀ (k g : Nat) (J : xMem), g + k = 8 → (∀ p, p < g → J 4 p = nI (L p)) → (∀ c, c ≠ 4 → J c = I c) → Wx LM mX6_takeRow d (xRv (fun J => (∀ p, p < 8 → J 4 p = nI (L p)) ∧ ∀ c, c ≠ 4 → J c = I c)) 2 [.ref 0, .int (nI g)] [] J := by
    intro k
    induction k with
    | zero =>
      intro g J hg j1 j2
      refine x_iload_n dX6_takeRow_2 rfl ?_
      refine x_bipush dX6_takeRow_3 bp_8 ?_
      refine x_icmpn_ge (a := g) (b := 8) (by omega) (by omega) (tgt := 29) dX6_takeRow_5 rfl (fun c => ?_) (fun c => ?_)
      ·
        refine x_vretv dX6_takeRow_29 rfl ⟨fun p hp => j1 p (by omega), j2⟩
      ·
        omega
    | succ k ih =>
      intro g J hg j1 j2
      refine x_iload_n dX6_takeRow_2 rfl ?_
      refine x_bipush dX6_takeRow_3 bp_8 ?_
      refine x_icmpn_ge (a := g) (b := 8) (by omega) (by omega) (tgt := 29) dX6_takeRow_5 rfl (fun c => ?_) (fun c => ?_)
      ·
        omega
      ·
        refine x_aload_n dX6_takeRow_8 rfl ?_
        refine x_getR 5 3 rfl (by decide) fl_X6_20 dX6_takeRow_9 rfl rfl rfl ?_
        refine x_iload_n dX6_takeRow_12 rfl ?_
        refine x_aload_n dX6_takeRow_13 rfl ?_
        refine x_getR 5 0 rfl (by decide) fl_X6_7 dX6_takeRow_14 rfl rfl rfl ?_
        refine x_bipush dX6_takeRow_17 bp_17 ?_
        refine x_iload_n dX6_takeRow_19 rfl ?_
        refine x_iadd (v := nI (17 + g)) dX6_takeRow_20 (nI_add _ _) ?_
        refine x_iald (p := 17 + g) (v := nI (L g)) dX6_takeRow_21 rfl rfl rfl rfl (by omega) (by rw [j2 1 (by decide)]; exact hL g (by omega)) ?_
        refine x_iast (p := g) dX6_takeRow_22 rfl rfl rfl rfl (by omega) ?_
        generalize hJ1 : xup J 4 g (nI (L g)) = J1
        refine x_iinc (v := nI (g + 1)) (ls' := [.ref 0, .int (nI (g + 1))]) dX6_takeRow_23 rfl (inc_1 _) rfl rfl ?_
        refine x_goto (tgt := 2) dX6_takeRow_26 rfl ?_
        refine ih (g + 1) J1 (by omega) (fun p hp => ?_) (fun c hc => ?_)
        · rw [← hJ1, xup_eq]
          by_cases e : p = g
          · subst e; rw [if_pos rfl]
          · rw [if_neg e]; exact j1 p (by omega)
        · rw [← hJ1, xup_ne hc]; exact j2 c hc
  refine Cx.of [.ref 0, .null] (by decide) rfl rfl (Nat.le_of_ble_eq_true rfl) rfl ?_
  refine x_iconst dX6_takeRow_0 ic_0 ?_
  refine x_istore_n (ls' := [.ref 0, .int (nI 0)]) dX6_takeRow_1 rfl rfl ?_
  exact lp 8 0 I rfl (fun p hp => by omega) (fun _ _ => rfl)
theorem c_keep_5  : Cx LM yX6_keep mX6_keep d [.ref 0, .ref 5] I (xRv (fun J => (∀ p, p < 8 → J 5 p = I 4 p) ∧ ∀ c, c ≠ 5 → J c = I c)) := by
  have lp : ∀ (k g : Nat) (J : xMem), g + k = 8 → (∀ p, p < g → J 5 p = I 4 p) → (∀ c, c ≠ 5 → J c = I c) → Wx LM mX6_keep d (xRv (fun J => (∀ p, p < 8 → J 5 p = I 4 p) ∧ ∀ c, c ≠ 5 → J c = I c)) 2 [.ref 0, .ref 5, .int (nI g)] [] J := by
    intro k
    induction k with
    | zero =>
      intro g J hg j1 j2
      refine x_iload_n dX6_keep_2 rfl ?_
      refine x_bipush dX6_keep_3 bp_8 ?_
      refine x_icmpn_ge (a := g) (b := 8) (by omega) (by omega) (tgt := 23) dX6_keep_5 rfl (fun c => ?_) (fun c => ?_)
      ·
        refine x_vretv dX6_keep_23 rfl ⟨fun p hp => j1 p (by omega), j2⟩
      ·
        omega
    | succ k ih =>
      intro g J hg j1 j2
      refine x_iload_n dX6_keep_2 rfl ?_
      refine x_bipush dX6_keep_3 bp_8 ?_
      refine x_icmpn_ge (a := g) (b := 8) (by omega) (by omega) (tgt := 23) dX6_keep_5 rfl (fun c => ?_) (fun c => ?_)
      ·
        omega
      ·
        refine x_aload_n dX6_keep_8 rfl ?_
        refine x_iload_n dX6_keep_9 rfl ?_
        refine x_aload_n dX6_keep_10 rfl ?_
        refine x_getR 5 3 rfl (by decide) fl_X6_20 dX6_keep_11 rfl rfl rfl ?_
        refine x_iload_n dX6_keep_14 rfl ?_
        refine x_iald (p := g) (v := I 4 g) dX6_keep_15 rfl rfl rfl rfl (by omega) (by rw [j2 4 (by decide)]) ?_
        refine x_iast (p := g) dX6_keep_16 rfl rfl rfl rfl (by omega) ?_
        generalize hJ1 : xup J 5 g (I 4 g) = J1
        refine x_iinc (v := nI (g + 1)) (ls' := [.ref 0, .ref 5, .int (nI (g + 1))]) dX6_keep_17 rfl (inc_1 _) rfl rfl ?_
        refine x_goto (tgt := 2) dX6_keep_20 rfl ?_
        refine ih (g + 1) J1 (by omega) (fun p hp => ?_) (fun c hc => ?_)
        · rw [← hJ1, xup_eq]
          by_cases e : p = g
          · subst e; rw [if_pos rfl]
          · rw [if_neg e]; exact j1 p (by omega)
        · rw [← hJ1, xup_ne hc]; exact j2 c hc
  refine Cx.of [.ref 0, .ref 5, .null] (by decide) rfl rfl (Nat.le_of_ble_eq_true rfl) rfl ?_
  refine x_iconst dX6_keep_0 ic_0 ?_
  refine x_istore_n (ls' := [.ref 0, .ref 5, .int (nI 0)]) dX6_keep_1 rfl rfl ?_
  exact lp 8 0 I rfl (fun p hp => by omega) (fun _ _ => rfl)
theorem c_keep_12  : Cx LM yX6_keep mX6_keep d [.ref 0, .ref 12] I (xRv (fun J => (∀ p, p < 8 → J 12 p = I 4 p) ∧ ∀ c, c ≠ 12 → J c = I c)) := by
  have lp : ∀ (k g : Nat) (J : xMem), g + k = 8 → (∀ p, p < g → J 12 p = I 4 p) → (∀ c, c ≠ 12 → J c = I c) → Wx LM mX6_keep d (xRv (fun J => (∀ p, p < 8 → J 12 p = I 4 p) ∧ ∀ c, c ≠ 12 → J c = I c)) 2 [.ref 0, .ref 12, .int (nI g)] [] J := by
    intro k
    induction k with
    | zero =>
      intro g J hg j1 j2
      refine x_iload_n dX6_keep_2 rfl ?_
      refine x_bipush dX6_keep_3 bp_8 ?_
      refine x_icmpn_ge (a := g) (b := 8) (by omega) (by omega) (tgt := 23) dX6_keep_5 rfl (fun c => ?_) (fun c => ?_)
      ·
        refine x_vretv dX6_keep_23 rfl ⟨fun p hp => j1 p (by omega), j2⟩
      ·
        omega
    | succ k ih =>
      intro g J hg j1 j2
      refine x_iload_n dX6_keep_2 rfl ?_
      refine x_bipush dX6_keep_3 bp_8 ?_
      refine x_icmpn_ge (a := g) (b := 8) (by omega) (by omega) (tgt := 23) dX6_keep_5 rfl (fun c => ?_) (fun c => ?_)
      ·
        omega
      ·
        refine x_aload_n dX6_keep_8 rfl ?_
        refine x_iload_n dX6_keep_9 rfl ?_
        refine x_aload_n dX6_keep_10 rfl ?_
        refine x_getR 5 3 rfl (by decide) fl_X6_20 dX6_keep_11 rfl rfl rfl ?_
        refine x_iload_n dX6_keep_14 rfl ?_
        refine x_iald (p := g) (v := I 4 g) dX6_keep_15 rfl rfl rfl rfl (by omega) (by rw [j2 4 (by decide)]) ?_
        refine x_iast (p := g) dX6_keep_16 rfl rfl rfl rfl (by omega) ?_
        generalize hJ1 : xup J 12 g (I 4 g) = J1
        refine x_iinc (v := nI (g + 1)) (ls' := [.ref 0, .ref 12, .int (nI (g + 1))]) dX6_keep_17 rfl (inc_1 _) rfl rfl ?_
        refine x_goto (tgt := 2) dX6_keep_20 rfl ?_
        refine ih (g + 1) J1 (by omega) (fun p hp => ?_) (fun c hc => ?_)
        · rw [← hJ1, xup_eq]
          by_cases e : p = g
          · subst e; rw [if_pos rfl]
          · rw [if_neg e]; exact j1 p (by omega)
        · rw [← hJ1, xup_ne hc]; exact j2 c hc
  refine Cx.of [.ref 0, .ref 12, .null] (by decide) rfl rfl (Nat.le_of_ble_eq_true rfl) rfl ?_
  refine x_iconst dX6_keep_0 ic_0 ?_
  refine x_istore_n (ls' := [.ref 0, .ref 12, .int (nI 0)]) dX6_keep_1 rfl rfl ?_
  exact lp 8 0 I rfl (fun p hp => by omega) (fun _ _ => rfl)
theorem c_change {x y : Nat} (hx : x < 8) (hy : y < 8) : Cx LM yX6_change mX6_change d [.ref 0, .int (nI x), .int (nI y)] I (xRv (fun J => J = xup (xup I 4 x (I 4 y)) 4 y (I 4 x))) := by
  refine Cx.of [.ref 0, .int (nI x), .int (nI y), .null] (by decide) rfl rfl (Nat.le_of_ble_eq_true rfl) rfl ?_
  refine x_aload_n dX6_change_0 rfl ?_
  refine x_getR 5 3 rfl (by decide) fl_X6_20 dX6_change_1 rfl rfl rfl ?_
  refine x_iload_n dX6_change_4 rfl ?_
  refine x_iald (p := x) (v := I 4 x) dX6_change_5 rfl rfl rfl rfl (by omega) rfl ?_
  refine x_istore_n (ls' := [.ref 0, .int (nI x), .int (nI y), .int (I 4 x)]) dX6_change_6 rfl rfl ?_
  refine x_aload_n dX6_change_7 rfl ?_
  refine x_getR 5 3 rfl (by decide) fl_X6_20 dX6_change_8 rfl rfl rfl ?_
  refine x_iload_n dX6_change_11 rfl ?_
  refine x_aload_n dX6_change_12 rfl ?_
  refine x_getR 5 3 rfl (by decide) fl_X6_20 dX6_change_13 rfl rfl rfl ?_
  refine x_iload_n dX6_change_16 rfl ?_
  refine x_iald (p := y) (v := I 4 y) dX6_change_17 rfl rfl rfl rfl (by omega) rfl ?_
  refine x_iast (p := x) dX6_change_18 rfl rfl rfl rfl (by omega) ?_
  refine x_aload_n dX6_change_19 rfl ?_
  refine x_getR 5 3 rfl (by decide) fl_X6_20 dX6_change_20 rfl rfl rfl ?_
  refine x_iload_n dX6_change_23 rfl ?_
  refine x_iload_n dX6_change_24 rfl ?_
  refine x_iast (p := y) dX6_change_25 rfl rfl rfl rfl (by omega) ?_
  refine x_vretv dX6_change_26 rfl rfl
theorem c_placeOf {x p0 : Nat} {o : Nat → Nat} (hn : n ≤ 8) (hp : p0 < n) (hx : x < 8) (ho : ∀ p, p < n → o p < 8) (hO : ∀ p, p < n → I 4 p = nI (o p)) (he : o p0 = x) (hne : ∀ p, p < p0 → o p ≠ x) : Cx LM yX6_placeOf mX6_placeOf d [.ref 0, .int (nI x)] I (xRi (fun r J => r = nI p0 ∧ J = I)) := by
  have lp : ∀ (k g : Nat), g + k = p0 → Wx LM mX6_placeOf d (xRi (fun r J => r = nI p0 ∧ J = I)) 2 [.ref 0, .int (nI x), .int (nI g)] [] I := by
    intro k
    induction k with
    | zero =>
      intro g hg
      have e : g = p0 := by omega
      subst e
      refine x_aload_n dX6_placeOf_2 rfl ?_
      refine x_getR 5 3 rfl (by decide) fl_X6_20 dX6_placeOf_3 rfl rfl rfl ?_
      refine x_iload_n dX6_placeOf_6 rfl ?_
      refine x_iald (p := g) (v := nI (o g)) dX6_placeOf_7 rfl rfl rfl rfl (by omega) (hO g hp) ?_
      refine x_iload_n dX6_placeOf_8 rfl ?_
      refine x_icmpn_eq (a := o g) (b := x) (by omega) (by omega) (tgt := 18) dX6_placeOf_9 rfl (fun c => ?_) (fun c => ?_)
      ·
        refine x_iload_n dX6_placeOf_18 rfl ?_
        refine x_ireti dX6_placeOf_19 rfl ⟨rfl, rfl⟩
      ·
        exact absurd he c
    | succ k ih =>
      intro g hg
      have hb := ho g (by omega)
      refine x_aload_n dX6_placeOf_2 rfl ?_
      refine x_getR 5 3 rfl (by decide) fl_X6_20 dX6_placeOf_3 rfl rfl rfl ?_
      refine x_iload_n dX6_placeOf_6 rfl ?_
      refine x_iald (p := g) (v := nI (o g)) dX6_placeOf_7 rfl rfl rfl rfl (by omega) (hO g (by omega)) ?_
      refine x_iload_n dX6_placeOf_8 rfl ?_
      refine x_icmpn_eq (a := o g) (b := x) (by omega) (by omega) (tgt := 18) dX6_placeOf_9 rfl (fun c => ?_) (fun c => ?_)
      ·
        exact absurd c (hne g (by omega))
      ·
        refine x_iinc (v := nI (g + 1)) (ls' := [.ref 0, .int (nI x), .int (nI (g + 1))]) dX6_placeOf_12 rfl (inc_1 _) rfl rfl ?_
        refine x_goto (tgt := 2) dX6_placeOf_15 rfl ?_
        exact ih (g + 1) (by omega)
  refine Cx.of [.ref 0, .int (nI x), .null] (by decide) rfl rfl (Nat.le_of_ble_eq_true rfl) rfl ?_
  refine x_iconst dX6_placeOf_0 ic_0 ?_
  refine x_istore_n (ls' := [.ref 0, .int (nI x), .int (nI 0)]) dX6_placeOf_1 rfl rfl ?_
  exact lp p0 0 (by omega)
/-- the first and the last place at which a member of the set lies -/
def tgF (S : Nat) : Nat → List Nat → Int32 → Int32 → Int32 × Int32
  | _, [], f, l => (f, l)
  | p, g :: w, f, l => if S.testBit g then tgF S (p + 1) w (if f < 0 then nI p else f) (nI p) else tgF S (p + 1) w f l
def togM (S : Nat) (w : List Nat) : Bool := decide ((tgF S 0 w (-6) (-6)).2 - (tgF S 0 w (-6) (-6)).1 + nI 1 = nI (pop S))
theorem c_isTogether {S : Nat} {o : Nat → Nat} (hd : 1 ≤ d) (hS : S < 1024) (ho : ∀ p, p < n → o p < 8) (hO : ∀ p, p < n → I 4 p = nI (o p)) (h0 : I 1 0 = nI n) (hn : n ≤ 8) : Cx LM yX6_isTogether mX6_isTogether d [.ref 0, .int (nI S)] I (xRi (fun r J => r = nI (togM S (seg o 0 n)).toNat ∧ J = I)) := by
  have lp : ∀ (k p : Nat) (f l : Int32), p + k = n → tgF S p (seg o p k) f l = tgF S 0 (seg o 0 n) (-6) (-6) → Wx LM mX6_isTogether d (xRi (fun r J => r = nI (togM S (seg o 0 n)).toNat ∧ J = I)) 9 [.ref 0, .int (nI S), .int f, .int l, .int (nI p)] [] I := by
    intro k
    induction k with
    | zero =>
      intro p f l hp htg
      rw [seg_0] at htg
      simp only [tgF] at htg
      refine x_iload dX6_isTogether_9 rfl ?_
      refine x_aload_n dX6_isTogether_11 rfl ?_
      refine x_getR 5 0 rfl (by decide) fl_X6_7 dX6_isTogether_12 rfl rfl rfl ?_
      refine x_iconst dX6_isTogether_15 ic_0 ?_
      refine x_iald (p := 0) (v := nI n) dX6_isTogether_16 rfl rfl rfl rfl (by omega) h0 ?_
      refine x_icmpn_ge (a := p) (b := n) (by omega) (by omega) (tgt := 54) dX6_isTogether_17 rfl (fun c => ?_) (fun c => ?_)
      ·
        refine x_iload_n dX6_isTogether_54 rfl ?_
        refine x_iload_n dX6_isTogether_55 rfl ?_
        refine x_isub (v := l - f) dX6_isTogether_56 rfl ?_
        refine x_iconst dX6_isTogether_57 ic_1 ?_
        refine x_iadd (v := (l - f) + (nI 1)) dX6_isTogether_58 rfl ?_
        refine x_iload_n dX6_isTogether_59 rfl ?_
        refine x_callSi (as := [.int (nI S)]) ml_X6_65 st_X6_bits ct_X6_bits (c_bits (d := 0) (by omega)) dX6_isTogether_60 hd rfl rfl (Nat.le_of_ble_eq_true rfl) (fun r0 J0 h0 => ?_)
        obtain ⟨rfl, hJ0⟩ := h0
        obtain rfl := hJ0.symm
        refine x_icmp_ne (tgt := 70) dX6_isTogether_63 rfl (fun c2 => ?_) (fun c2 => ?_)
        ·
          refine x_iconst dX6_isTogether_70 ic_0 ?_
          refine x_zretb (b := false) dX6_isTogether_71 rfl ⟨?_, rfl⟩
          have e : togM S (seg o 0 n) = false := by unfold togM; rw [← htg]; exact decide_eq_false c2
          rw [e]
        ·
          refine x_iconst dX6_isTogether_66 ic_1 ?_
          refine x_goto (tgt := 71) dX6_isTogether_67 rfl ?_
          refine x_zretb (b := true) dX6_isTogether_71 rfl ⟨?_, rfl⟩
          have e : togM S (seg o 0 n) = true := by unfold togM; rw [← htg]; exact decide_eq_true c2
          rw [e]
      ·
        omega
    | succ k ih =>
      intro p f l hp htg
      rw [seg_s] at htg
      simp only [tgF] at htg
      have hb := ho p (by omega)
      refine x_iload dX6_isTogether_9 rfl ?_
      refine x_aload_n dX6_isTogether_11 rfl ?_
      refine x_getR 5 0 rfl (by decide) fl_X6_7 dX6_isTogether_12 rfl rfl rfl ?_
      refine x_iconst dX6_isTogether_15 ic_0 ?_
      refine x_iald (p := 0) (v := nI n) dX6_isTogether_16 rfl rfl rfl rfl (by omega) h0 ?_
      refine x_icmpn_ge (a := p) (b := n) (by omega) (by omega) (tgt := 54) dX6_isTogether_17 rfl (fun c => ?_) (fun c => ?_)
      ·
        omega
      ·
        refine x_iload_n dX6_isTogether_20 rfl ?_
        refine x_aload_n dX6_isTogether_21 rfl ?_
        refine x_getR 5 3 rfl (by decide) fl_X6_20 dX6_isTogether_22 rfl rfl rfl ?_
        refine x_iload dX6_isTogether_25 rfl ?_
        refine x_iald (p := p) (v := nI (o p)) dX6_isTogether_27 rfl rfl rfl rfl (by omega) (hO p (by omega)) ?_
        refine x_callSi (as := [.int (nI S), .int (nI (o p))]) ml_X6_73 st_X6_has ct_X6_has (c_has (d := 0) (by omega) (by omega)) dX6_isTogether_28 hd rfl rfl (Nat.le_of_ble_eq_true rfl) (fun r0 J0 h0 => ?_)
        obtain ⟨rfl, hJ0⟩ := h0
        obtain rfl := hJ0.symm
        refine x_ifb_eq (b := S.testBit (o p)) (tgt := 48) dX6_isTogether_31 rfl (fun c2 => ?_) (fun c2 => ?_)
        ·
          refine x_iinc (v := nI (p + 1)) (ls' := [.ref 0, .int (nI S), .int f, .int l, .int (nI (p + 1))]) dX6_isTogether_48 rfl (inc_1 _) rfl rfl ?_
          refine x_goto (tgt := 9) dX6_isTogether_51 rfl ?_
          rw [c2, if_neg (by decide)] at htg
          exact ih (p + 1) _ _ (by omega) htg
        ·
          rw [c2, if_pos rfl] at htg
          refine x_iload_n dX6_isTogether_34 rfl ?_
          refine x_if_ge (tgt := 43) dX6_isTogether_35 rfl (fun c3 => ?_) (fun c3 => ?_)
          ·
            refine x_iload_n dX6_isTogether_43 rfl ?_
            refine x_istore_n (ls' := [.ref 0, .int (nI S), .int f, .int l, .int (nI p)]) dX6_isTogether_44 rfl rfl ?_
            refine x_iload dX6_isTogether_45 rfl ?_
            refine x_istore_n (ls' := [.ref 0, .int (nI S), .int f, .int (nI p), .int (nI p)]) dX6_isTogether_47 rfl rfl ?_
            refine x_iinc (v := nI (p + 1)) (ls' := [.ref 0, .int (nI S), .int f, .int (nI p), .int (nI (p + 1))]) dX6_isTogether_48 rfl (inc_1 _) rfl rfl ?_
            refine x_goto (tgt := 9) dX6_isTogether_51 rfl ?_
            rw [if_neg (by first | exact c3 | exact Int32.not_lt.mpr c3)] at htg
            exact ih (p + 1) _ _ (by omega) htg
          ·
            refine x_iload dX6_isTogether_38 rfl ?_
            refine x_goto (tgt := 44) dX6_isTogether_40 rfl ?_
            refine x_istore_n (ls' := [.ref 0, .int (nI S), .int (nI p), .int l, .int (nI p)]) dX6_isTogether_44 rfl rfl ?_
            refine x_iload dX6_isTogether_45 rfl ?_
            refine x_istore_n (ls' := [.ref 0, .int (nI S), .int (nI p), .int (nI p), .int (nI p)]) dX6_isTogether_47 rfl rfl ?_
            refine x_iinc (v := nI (p + 1)) (ls' := [.ref 0, .int (nI S), .int (nI p), .int (nI p), .int (nI (p + 1))]) dX6_isTogether_48 rfl (inc_1 _) rfl rfl ?_
            refine x_goto (tgt := 9) dX6_isTogether_51 rfl ?_
            rw [if_pos (by first | exact c3 | exact Int32.not_le.mp c3)] at htg
            exact ih (p + 1) _ _ (by omega) htg
  refine Cx.of [.ref 0, .int (nI S), .null, .null, .null] (by decide) rfl rfl (Nat.le_of_ble_eq_true rfl) rfl ?_
  refine x_bipush dX6_isTogether_0 bp_m6 ?_
  refine x_istore_n (ls' := [.ref 0, .int (nI S), .int (-6), .null, .null]) dX6_isTogether_2 rfl rfl ?_
  refine x_bipush dX6_isTogether_3 bp_m6 ?_
  refine x_istore_n (ls' := [.ref 0, .int (nI S), .int (-6), .int (-6), .null]) dX6_isTogether_5 rfl rfl ?_
  refine x_iconst dX6_isTogether_6 ic_0 ?_
  refine x_istore (ls' := [.ref 0, .int (nI S), .int (-6), .int (-6), .int (nI 0)]) dX6_isTogether_7 rfl rfl ?_
  exact lp n 0 _ _ (by omega) rfl
theorem c_swapRow {k : Nat} (hk : k + 1 < 8) : Cx LM yX6_swapRow mX6_swapRow d [.ref 0, .int (nI k)] I (xRv (fun J => J = exI I 1 (17 + k))) := by
  refine Cx.of [.ref 0, .int (nI k), .null] (by decide) rfl rfl (Nat.le_of_ble_eq_true rfl) rfl ?_
  refine x_aload_n dX6_swapRow_0 rfl ?_
  refine x_getR 5 0 rfl (by decide) fl_X6_7 dX6_swapRow_1 rfl rfl rfl ?_
  refine x_bipush dX6_swapRow_4 bp_17 ?_
  refine x_iload_n dX6_swapRow_6 rfl ?_
  refine x_iadd (v := nI (17 + k)) dX6_swapRow_7 (nI_add _ _) ?_
  refine x_iald (p := 17 + k) (v := I 1 (17 + k)) dX6_swapRow_8 rfl rfl rfl rfl (by omega) rfl ?_
  refine x_istore_n (ls' := [.ref 0, .int (nI k), .int (I 1 (17 + k))]) dX6_swapRow_9 rfl rfl ?_
  refine x_aload_n dX6_swapRow_10 rfl ?_
  refine x_getR 5 0 rfl (by decide) fl_X6_7 dX6_swapRow_11 rfl rfl rfl ?_
  refine x_bipush dX6_swapRow_14 bp_17 ?_
  refine x_iload_n dX6_swapRow_16 rfl ?_
  refine x_iadd (v := nI (17 + k)) dX6_swapRow_17 (nI_add _ _) ?_
  refine x_aload_n dX6_swapRow_18 rfl ?_
  refine x_getR 5 0 rfl (by decide) fl_X6_7 dX6_swapRow_19 rfl rfl rfl ?_
  refine x_bipush dX6_swapRow_22 bp_17 ?_
  refine x_iload_n dX6_swapRow_24 rfl ?_
  refine x_iadd (v := nI (17 + k)) dX6_swapRow_25 (nI_add _ _) ?_
  refine x_iconst dX6_swapRow_26 ic_1 ?_
  refine x_iadd (v := nI ((17 + k) + 1)) dX6_swapRow_27 (nI_add _ _) ?_
  refine x_iald (p := (17 + k) + 1) (v := I 1 ((17 + k) + 1)) dX6_swapRow_28 rfl rfl rfl rfl (by omega) rfl ?_
  refine x_iast (p := 17 + k) dX6_swapRow_29 rfl rfl rfl rfl (by omega) ?_
  refine x_aload_n dX6_swapRow_30 rfl ?_
  refine x_getR 5 0 rfl (by decide) fl_X6_7 dX6_swapRow_31 rfl rfl rfl ?_
  refine x_bipush dX6_swapRow_34 bp_17 ?_
  refine x_iload_n dX6_swapRow_36 rfl ?_
  refine x_iadd (v := nI (17 + k)) dX6_swapRow_37 (nI_add _ _) ?_
  refine x_iconst dX6_swapRow_38 ic_1 ?_
  refine x_iadd (v := nI ((17 + k) + 1)) dX6_swapRow_39 (nI_add _ _) ?_
  refine x_iload_n dX6_swapRow_40 rfl ?_
  refine x_iast (p := (17 + k) + 1) dX6_swapRow_41 rfl rfl rfl rfl (by omega) ?_
  refine x_vretv dX6_swapRow_42 rfl rfl
theorem MSt.ex (hM : MSt I n h a L) {k : Nat} (hk : k + 1 < 8) : MSt (exI I 1 (17 + k)) n h a (swp L k) := by
  refine ⟨?_, fun g hg => ?_, fun g hg => ?_, fun g hg => ?_⟩
  · rw [exI_at, if_neg (by omega), if_neg (by omega)]; exact hM.1
  · rw [exI_at, if_neg (by omega), if_neg (by omega)]; exact hM.2.1 g hg
  · rw [exI_at, if_neg (by omega), if_neg (by omega)]; exact hM.2.2.1 g hg
  · rw [exI_at, swp]
    by_cases h1 : g = k + 1
    · rw [if_pos (by omega), if_pos h1]; exact hM.2.2.2 k (by omega)
    · rw [if_neg (by omega), if_neg h1]
      by_cases h2 : g = k
      · rw [if_pos (by omega), if_pos h2]; exact hM.2.2.2 _ hk
      · rw [if_neg (by omega), if_neg h2]; exact hM.2.2.2 g hg
theorem c_rowBreaks (hd : 3 ≤ d) (hh : ∀ g, h g < 1024) (hL8 : ∀ p, p < n → L p < 8) (hM : MSt I n h a L) (hn : n ≤ 8) : Cx LM yX6_rowBreaks mX6_rowBreaks d [.ref 0] I (xRi (fun r J => r = nI (brk h (seg L 0 n)) ∧ ∀ c, c ≠ 4 → J c = I c)) := by
  refine Cx.of [.ref 0] (by decide) rfl rfl (Nat.le_of_ble_eq_true rfl) rfl ?_
  refine x_aload_n dX6_rowBreaks_0 rfl ?_
  refine x_callVv 5 ml_X6_142 in_X6_takeRow se_X6_takeRow ct_X6_takeRow rfl (c_takeRow (d := 0) hM.2.2.2) dX6_rowBreaks_1 (by omega) rfl rfl rfl rfl (Nat.le_of_ble_eq_true rfl) (fun J0 h0 => ?_)
  obtain ⟨hJ, hF⟩ := h0
  refine x_aload_n dX6_rowBreaks_4 rfl ?_
  refine x_callVi 5 ml_X6_98 in_X6_breaksNow se_X6_breaksNow ct_X6_breaksNow rfl (c_breaksNow (d := 2) (by decide) hh hL8 (fun p hp => hJ p (by omega)) (hM.kept (hF 1 (by decide))) hn) dX6_rowBreaks_5 (by omega) rfl rfl rfl rfl (Nat.le_of_ble_eq_true rfl) (fun r0 J0 h0 => ?_)
  obtain ⟨rfl, hJ0⟩ := h0
  obtain rfl := hJ0.symm
  refine x_ireti dX6_rowBreaks_8 rfl ⟨rfl, hF⟩
end MG
