/-! the class: costs -/
def rem (n S : Nat) : Nat := (ascL n S).length
def cR (hr : Nat → Nat) (S l g : Nat) : Nat := pop (nd (hr g) (if S = 0 then 0 else hr l))
def cS (fr : Nat → Nat) (S _l g : Nat) : Nat := pop (nd (fr g) S)
/-- the least cost of the ways on, with so many graves left -/
def Rst (n : Nat) (on : Nat → Nat → Nat) (c : Nat → Nat → Nat → Nat) : Nat → Nat → Nat → Nat
  | 0, _, _ => 0
  | k + 1, S, l => rf (fun m g => if (on S l).testBit g then (if Rst n on c k (S ||| 1 <<< g) g + c S l g < m then Rst n on c k (S ||| 1 <<< g) g + c S l g else m) else m) 1000000 n
def Rr (n : Nat) (on : Nat → Nat → Nat) (c : Nat → Nat → Nat → Nat) (S l : Nat) : Nat := Rst n on c (rem n S) S l
theorem rf_le {f : Nat → Nat → Nat} {b : Nat} (h : ∀ m g, f m g ≤ m) (k : Nat) : rf f b k ≤ b := by
  induction k with
  | zero => exact Nat.le_refl _
  | succ k ih => rw [rf_s]; exact Nat.le_trans (h _ _) ih
theorem Rst_le (n : Nat) (on : Nat → Nat → Nat) (c : Nat → Nat → Nat → Nat) : ∀ (k S l : Nat), Rst n on c k S l ≤ 1000000
  | 0, _, _ => Nat.zero_le _
  | k + 1, S, l => rf_le (fun m g => by split; split; omega; exact Nat.le_refl _; exact Nat.le_refl _) n
theorem shl_lt {n g : Nat} (h : g < n) : 1 <<< g < 2 ^ n := by rw [Nat.one_shiftLeft]; exact Nat.pow_lt_pow_right (by decide) h
theorem or_lt {n S g : Nat} (hS : S < 2 ^ n) (hg : g < n) : S ||| 1 <<< g < 2 ^ n := Nat.or_lt_two_pow hS (shl_lt hg)
theorem or_gt {S g : Nat} (h : S.testBit g = false) : S < S ||| 1 <<< g := by
  have h1 : S ≤ S ||| 1 <<< g := Nat.left_le_or
  rcases Nat.lt_or_ge S (S ||| 1 <<< g) with e | e
  · exact e
  · exfalso
    have : S = S ||| 1 <<< g := Nat.le_antisymm h1 e
    have h2 := bit_or1 S g g
    rw [← this, h] at h2
    simp at h2
theorem isSt_or (S g : Nat) : isSt (S ||| 1 <<< g) g = true := by
  have h2 := bit_or1 S g g
  unfold isSt
  rw [if_neg]
  · rw [h2]; simp
  · intro e; rw [e] at h2; simp at h2
theorem rem_or {n S g : Nat} (hg : g < n) (h : S.testBit g = false) : rem n (S ||| 1 <<< g) + 1 = rem n S := ascL_len (ascL_mem.mpr ⟨hg, h⟩)
theorem rem_0 {n S : Nat} (hS : S < 2 ^ n) : rem n S = 0 ↔ S = 1 <<< n - 1 := by
  rw [rem, List.length_eq_zero_iff, Nat.one_shiftLeft]
  constructor
  · intro h
    apply Nat.eq_of_testBit_eq
    intro i
    rw [Nat.testBit_two_pow_sub_one]
    by_cases hi : i < n
    · cases e : S.testBit i with
      | true => simp [hi]
      | false =>
        have : i ∈ ascL n S := ascL_mem.mpr ⟨hi, e⟩
        rw [h] at this; simp at this
    · rw [Nat.testBit_lt_two_pow (Nat.lt_of_lt_of_le hS (Nat.pow_le_pow_right (by decide) (by omega)))]; simp [hi]
  · intro h
    apply List.eq_nil_iff_forall_not_mem.mpr
    intro i hi
    obtain ⟨h1, h2⟩ := ascL_mem.mp hi
    rw [h, Nat.testBit_two_pow_sub_one] at h2
    simp [h1] at h2
theorem p2_le {n : Nat} (hn : n ≤ 8) : 2 ^ n ≤ 256 := Nat.le_trans (Nat.pow_le_pow_right (by decide) hn) (by decide)
section XK
variable {I : xMem} {n d : Nat} {h a L : Nat → Nat}
theorem c_lookAt3 {s : Nat} (hh : ∀ g, g < 8 → I 2 g = nI (h g)) : Cx LX yX3_lookAt mX3_lookAt d [.ref 22, .ref 1, .int (nI s)] I (xRv (fun J => (∀ g, g < 8 → J 23 g = nI (h g &&& s)) ∧ ∀ c, c ≠ 23 → J c = I c)) := by
  have lp : ∀ (k g : Nat) (J : xMem), g + k = 8 → (∀ p, p < g → J 23 p = nI (h p &&& s)) → (∀ c, c ≠ 23 → J c = I c) → Wx LX mX3_lookAt d (xRv (fun J => (∀ g, g < 8 → J 23 g = nI (h g &&& s)) ∧ ∀ c, c ≠ 23 → J c = I c)) 2 [.ref 22, .ref 1, .int (nI s), .int (nI g)] [] J := by
    intro k
    induction k with
    | zero =>
      intro g J hg j1 j2
      refine x_iload_n dX3_lookAt_2 rfl ?_
      refine x_bipush dX3_lookAt_3 bp_8 ?_
      refine x_icmpn_ge (a := g) (b := 8) (by omega) (by omega) (tgt := 28) dX3_lookAt_5 rfl (fun c => ?_) (fun c => ?_)
      ·
        refine x_vretv dX3_lookAt_28 rfl ⟨fun p hp => j1 p (by omega), j2⟩
      ·
        omega
    | succ k ih =>
      intro g J hg j1 j2
      refine x_iload_n dX3_lookAt_2 rfl ?_
      refine x_bipush dX3_lookAt_3 bp_8 ?_
      refine x_icmpn_ge (a := g) (b := 8) (by omega) (by omega) (tgt := 28) dX3_lookAt_5 rfl (fun c => ?_) (fun c => ?_)
      ·
        omega
      ·
        refine x_aload_n dX3_lookAt_8 rfl ?_
        refine x_getR 2 0 rfl (by decide) fl_X3_9 dX3_lookAt_9 rfl rfl rfl ?_
        refine x_iload_n dX3_lookAt_12 rfl ?_
        refine x_aload_n dX3_lookAt_13 rfl ?_
        refine x_getR 1 1 rfl (by decide) fl_X3_15 dX3_lookAt_14 rfl rfl rfl ?_
        refine x_iload_n dX3_lookAt_17 rfl ?_
        refine x_iald (p := g) (v := nI (h g)) dX3_lookAt_18 rfl rfl rfl rfl (by omega) (by rw [j2 2 (by decide)]; exact hh g (by omega)) ?_
        refine x_iload_n dX3_lookAt_19 rfl ?_
        refine x_iand (v := nI ((h g) &&& s)) dX3_lookAt_20 (nI_and _ _) ?_
        refine x_iast (p := g) dX3_lookAt_21 rfl rfl rfl rfl (by omega) ?_
        generalize hJ1 : xup J 23 g (nI ((h g) &&& s)) = J1
        refine x_iinc (v := nI (g + 1)) (ls' := [.ref 22, .ref 1, .int (nI s), .int (nI (g + 1))]) dX3_lookAt_22 rfl (inc_1 _) rfl rfl ?_
        refine x_goto (tgt := 2) dX3_lookAt_25 rfl ?_
        refine ih (g + 1) J1 (by omega) (fun p hp => ?_) (fun c hc => ?_)
        · rw [← hJ1, xup_eq]
          by_cases e : p = g
          · subst e; rw [if_pos rfl]
          · rw [if_neg e]; exact j1 p (by omega)
        · rw [← hJ1, xup_ne hc]; exact j2 c hc
  refine Cx.of [.ref 22, .ref 1, .int (nI s), .null] (by decide) rfl rfl (Nat.le_of_ble_eq_true rfl) rfl ?_
  refine x_iconst dX3_lookAt_0 ic_0 ?_
  refine x_istore_n (ls' := [.ref 22, .ref 1, .int (nI s), .int (nI 0)]) dX3_lookAt_1 rfl rfl ?_
  exact lp 8 0 I rfl (fun p hp => by omega) (fun _ _ => rfl)
theorem c_ofNext3 {hr : Nat → Nat} {S l g : Nat} (hd : 1 ≤ d) (hS : S < 2 ^ 31) (hl : l < 8) (hg : g < 8) (hh : ∀ g, hr g < 1024) (hI : ∀ g, g < 8 → I 23 g = nI (hr g)) : Cx LX yX3_ofNext mX3_ofNext d [.ref 22, .int (nI S), .int (nI l), .int (nI g)] I (xRi (fun r J => r = nI (cR hr S l g) ∧ J = I)) := by
  refine Cx.of [.ref 22, .int (nI S), .int (nI l), .int (nI g), .null] (by decide) rfl rfl (Nat.le_of_ble_eq_true rfl) rfl ?_
  refine x_iload_n dX3_ofNext_0 rfl ?_
  refine x_ifn_ne (a := S) (by omega) (tgt := 8) dX3_ofNext_1 rfl (fun c => ?_) (fun c => ?_)
  ·
    refine x_aload_n dX3_ofNext_8 rfl ?_
    refine x_getR 2 0 rfl (by decide) fl_X3_9 dX3_ofNext_9 rfl rfl rfl ?_
    refine x_iload_n dX3_ofNext_12 rfl ?_
    refine x_iald (p := l) (v := nI (hr l)) dX3_ofNext_13 rfl rfl rfl rfl (by omega) (hI l hl) ?_
    refine x_istore (ls' := [.ref 22, .int (nI S), .int (nI l), .int (nI g), .int (nI (hr l))]) dX3_ofNext_14 rfl rfl ?_
    refine x_aload_n dX3_ofNext_16 rfl ?_
    refine x_getR 2 0 rfl (by decide) fl_X3_9 dX3_ofNext_17 rfl rfl rfl ?_
    refine x_iload_n dX3_ofNext_20 rfl ?_
    refine x_iald (p := g) (v := nI (hr g)) dX3_ofNext_21 rfl rfl rfl rfl (by omega) (hI g hg) ?_
    refine x_iload dX3_ofNext_22 rfl ?_
    refine x_iconst dX3_ofNext_24 ic_m1 ?_
    refine x_ixor dX3_ofNext_25 rfl ?_
    refine x_iand (v := nI (nd (hr g) (hr l))) dX3_ofNext_26 (nI_nd _ _) ?_
    refine x_callSi (as := [.int (nI (nd (hr g) (hr l)))]) ml_X3_18 st_J6_bitCount_0f7a4 ct_J6_bitCount_0f7a4 (c_bitCount (d := 0) (nd_lt1024 (hh g))) dX3_ofNext_27 hd rfl rfl (Nat.le_of_ble_eq_true rfl) (fun r0 J0 h0 => ?_)
    obtain ⟨rfl, hJ0⟩ := h0
    obtain rfl := hJ0.symm
    refine x_ireti dX3_ofNext_30 rfl ⟨by rw [cR, if_neg c], rfl⟩
  ·
    refine x_iconst dX3_ofNext_4 ic_0 ?_
    refine x_goto (tgt := 14) dX3_ofNext_5 rfl ?_
    refine x_istore (ls' := [.ref 22, .int (nI S), .int (nI l), .int (nI g), .int (nI 0)]) dX3_ofNext_14 rfl rfl ?_
    refine x_aload_n dX3_ofNext_16 rfl ?_
    refine x_getR 2 0 rfl (by decide) fl_X3_9 dX3_ofNext_17 rfl rfl rfl ?_
    refine x_iload_n dX3_ofNext_20 rfl ?_
    refine x_iald (p := g) (v := nI (hr g)) dX3_ofNext_21 rfl rfl rfl rfl (by omega) (hI g hg) ?_
    refine x_iload dX3_ofNext_22 rfl ?_
    refine x_iconst dX3_ofNext_24 ic_m1 ?_
    refine x_ixor dX3_ofNext_25 rfl ?_
    refine x_iand (v := nI (nd (hr g) 0)) dX3_ofNext_26 (nI_nd _ _) ?_
    refine x_callSi (as := [.int (nI (nd (hr g) 0))]) ml_X3_18 st_J6_bitCount_0f7a4 ct_J6_bitCount_0f7a4 (c_bitCount (d := 0) (nd_lt1024 (hh g))) dX3_ofNext_27 hd rfl rfl (Nat.le_of_ble_eq_true rfl) (fun r0 J0 h0 => ?_)
    obtain ⟨rfl, hJ0⟩ := h0
    obtain rfl := hJ0.symm
    refine x_ireti dX3_ofNext_30 rfl ⟨by rw [cR, if_pos c], rfl⟩
/-- the graves in front of place p -/
def pas (L : Nat → Nat) : Nat → Nat
  | 0 => 0
  | p + 1 => pas L p ||| 1 <<< L p
theorem c_lookAt4 {pos : Nat → Nat} (hD : DigAt I 1 n h a L) (hn : n ≤ 8) (hL : ∀ p, p < n → L p < n ∧ pos (L p) = p) (hpos : ∀ g, g < n → pos g < n ∧ L (pos g) = g) : Cx LX yX4_lookAt mX4_lookAt d [.ref 24, .ref 1] I (xRv (fun J => (∀ g, g < n → J 25 g = nI (pas L (pos g))) ∧ ∀ c, c ≠ 25 → J c = I c)) := by
  have lp : ∀ (k p : Nat) (J : xMem), p + k = n → (∀ g, g < n → pos g < p → J 25 g = nI (pas L (pos g))) → (∀ c, c ≠ 25 → J c = I c) → Wx LX mX4_lookAt d (xRv (fun J => (∀ g, g < n → J 25 g = nI (pas L (pos g))) ∧ ∀ c, c ≠ 25 → J c = I c)) 4 [.ref 24, .ref 1, .int (nI (pas L p)), .int (nI p)] [] J := by
    intro k
    induction k with
    | zero =>
      intro p J hp j1 j2
      refine x_iload_n dX4_lookAt_4 rfl ?_
      refine x_aload_n dX4_lookAt_5 rfl ?_
      refine x_getI 1 0 (v := nI n) rfl (by decide) fl_X4_15 dX4_lookAt_6 rfl rfl rfl (by rw [j2 1 (by decide)]; exact hD.1) ?_
      refine x_icmpn_ge (a := p) (b := n) (by omega) (by omega) (tgt := 41) dX4_lookAt_9 rfl (fun c => ?_) (fun c => ?_)
      ·
        refine x_vretv dX4_lookAt_41 rfl ⟨fun g hg => j1 g hg (by have := hpos g hg; omega), j2⟩
      ·
        omega
    | succ k ih =>
      intro p J hp j1 j2
      have hb := hL p (by omega)
      refine x_iload_n dX4_lookAt_4 rfl ?_
      refine x_aload_n dX4_lookAt_5 rfl ?_
      refine x_getI 1 0 (v := nI n) rfl (by decide) fl_X4_15 dX4_lookAt_6 rfl rfl rfl (by rw [j2 1 (by decide)]; exact hD.1) ?_
      refine x_icmpn_ge (a := p) (b := n) (by omega) (by omega) (tgt := 41) dX4_lookAt_9 rfl (fun c => ?_) (fun c => ?_)
      ·
        omega
      ·
        refine x_aload_n dX4_lookAt_12 rfl ?_
        refine x_getR 3 0 rfl (by decide) fl_X4_9 dX4_lookAt_13 rfl rfl rfl ?_
        refine x_aload_n dX4_lookAt_16 rfl ?_
        refine x_getR 1 3 rfl (by decide) fl_X4_21 dX4_lookAt_17 rfl rfl rfl ?_
        refine x_iload_n dX4_lookAt_20 rfl ?_
        refine x_iald (p := p) (v := nI (L p)) dX4_lookAt_21 rfl rfl rfl rfl (by omega) (by rw [j2 4 (by decide)]; exact hD.2.2.2 p (by omega)) ?_
        refine x_iload_n dX4_lookAt_22 rfl ?_
        refine x_iast (p := L p) dX4_lookAt_23 rfl rfl rfl rfl (by omega) ?_
        generalize hJ1 : xup J 25 (L p) (nI (pas L p)) = J1
        refine x_iload_n dX4_lookAt_24 rfl ?_
        refine x_iconst dX4_lookAt_25 ic_1 ?_
        refine x_aload_n dX4_lookAt_26 rfl ?_
        refine x_getR 1 3 rfl (by decide) fl_X4_21 dX4_lookAt_27 rfl rfl rfl ?_
        refine x_iload_n dX4_lookAt_30 rfl ?_
        refine x_iald (p := p) (v := nI (L p)) dX4_lookAt_31 rfl rfl rfl rfl (by omega) (by rw [← hJ1, xup_ne (by decide), j2 4 (by decide)]; exact hD.2.2.2 p (by omega)) ?_
        refine x_ishl (v := nI (1 <<< (L p))) dX4_lookAt_32 (nI_shl _ (by omega)) ?_
        refine x_ior (v := nI ((pas L p) ||| (1 <<< (L p)))) dX4_lookAt_33 (nI_or _ _) ?_
        refine x_istore_n (ls' := [.ref 24, .ref 1, .int (nI ((pas L p) ||| (1 <<< (L p)))), .int (nI p)]) dX4_lookAt_34 rfl rfl ?_
        refine x_iinc (v := nI (p + 1)) (ls' := [.ref 24, .ref 1, .int (nI ((pas L p) ||| (1 <<< (L p)))), .int (nI (p + 1))]) dX4_lookAt_35 rfl (inc_1 _) rfl rfl ?_
        refine x_goto (tgt := 4) dX4_lookAt_38 rfl ?_
        refine ih (p + 1) J1 (by omega) (fun g hg hq => ?_) (fun c hc => ?_)
        · rw [← hJ1, xup_eq]
          by_cases e : g = L p
          · rw [if_pos e, e, hb.2]
          · rw [if_neg e]
            refine j1 g hg ?_
            have : pos g ≠ p := fun e2 => e (by rw [← (hpos g hg).2, e2])
            omega
        · rw [← hJ1, xup_ne hc]; exact j2 c hc
  refine Cx.of [.ref 24, .ref 1, .null, .null] (by decide) rfl rfl (Nat.le_of_ble_eq_true rfl) rfl ?_
  refine x_iconst dX4_lookAt_0 ic_0 ?_
  refine x_istore_n (ls' := [.ref 24, .ref 1, .int (nI 0), .null]) dX4_lookAt_1 rfl rfl ?_
  refine x_iconst dX4_lookAt_2 ic_0 ?_
  refine x_istore_n (ls' := [.ref 24, .ref 1, .int (nI 0), .int (nI 0)]) dX4_lookAt_3 rfl rfl ?_
  exact lp n 0 I (by omega) (fun g hg hq => by omega) (fun _ _ => rfl)
theorem c_ofNext4 {fr : Nat → Nat} {S l g : Nat} (hd : 1 ≤ d) (hg : g < 8) (hn : g < n) (hh : ∀ g, g < n → fr g < 1024) (hI : ∀ g, g < n → I 25 g = nI (fr g)) : Cx LX yX4_ofNext mX4_ofNext d [.ref 24, .int (nI S), .int (nI l), .int (nI g)] I (xRi (fun r J => r = nI (cS fr S l g) ∧ J = I)) := by
  refine Cx.of [.ref 24, .int (nI S), .int (nI l), .int (nI g)] (by decide) rfl rfl (Nat.le_of_ble_eq_true rfl) rfl ?_
  refine x_aload_n dX4_ofNext_0 rfl ?_
  refine x_getR 3 0 rfl (by decide) fl_X4_9 dX4_ofNext_1 rfl rfl rfl ?_
  refine x_iload_n dX4_ofNext_4 rfl ?_
  refine x_iald (p := g) (v := nI (fr g)) dX4_ofNext_5 rfl rfl rfl rfl (by omega) (hI g hn) ?_
  refine x_iload_n dX4_ofNext_6 rfl ?_
  refine x_iconst dX4_ofNext_7 ic_m1 ?_
  refine x_ixor dX4_ofNext_8 rfl ?_
  refine x_iand (v := nI (nd (fr g) S)) dX4_ofNext_9 (nI_nd _ _) ?_
  refine x_callSi (as := [.int (nI (nd (fr g) S))]) ml_X4_24 st_J6_bitCount_0f7a4 ct_J6_bitCount_0f7a4 (c_bitCount (d := 0) (nd_lt1024 (hh g hn))) dX4_ofNext_10 hd rfl rfl (Nat.le_of_ble_eq_true rfl) (fun r0 J0 h0 => ?_)
  obtain ⟨rfl, hJ0⟩ := h0
  obtain rfl := hJ0.symm
  refine x_ireti dX4_ofNext_13 rfl ⟨rfl, rfl⟩
theorem c_total {t : Nat} (h0 : I 16 0 = nI t) : Cx LX yX0_total mX0_total d [.ref 14] I (xRi (fun r J => r = nI t ∧ J = I)) := by
  refine Cx.of [.ref 14] (by decide) rfl rfl (Nat.le_of_ble_eq_true rfl) rfl ?_
  refine x_aload_n dX0_total_0 rfl ?_
  refine x_getR 0 6 rfl (by decide) fl_X0_15 dX0_total_1 rfl rfl rfl ?_
  refine x_iconst dX0_total_4 ic_0 ?_
  refine x_iald (p := 0) (v := nI t) dX0_total_5 rfl rfl rfl rfl (by omega) h0 ?_
  refine x_ireti dX0_total_6 rfl ⟨rfl, rfl⟩
end XK
