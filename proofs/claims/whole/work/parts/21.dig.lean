/-! Dig: what an image keeps; its questions -/
def DigAt (I : xMem) (b n : Nat) (h a L : Nat → Nat) : Prop := I b 0 = nI n ∧ (∀ g, g < 8 → I (b + 1) g = nI (h g)) ∧ (∀ g, g < 8 → I (b + 2) g = nI (a g)) ∧ ∀ g, g < 8 → I (b + 3) g = nI (L g)
/-- the graves at places p, p + 1 .., k of them -/
def seg (L : Nat → Nat) (p k : Nat) : List Nat := (List.range' p k).map L
theorem seg_0 (L : Nat → Nat) (p : Nat) : seg L p 0 = [] := rfl
theorem seg_s (L : Nat → Nat) (p k : Nat) : seg L p (k + 1) = L p :: seg L (p + 1) k := rfl
/-- the runs that begin, of the sorts s, behind a grave with the sorts m -/
def tr (h : Nat → Nat) (s : Nat) : Nat → List Nat → Nat
  | _, [] => 0
  | m, g :: w => pop (nd (h g &&& s) m) + tr h s (h g &&& s) w
theorem tr_le (h : Nat → Nat) (s : Nat) : ∀ (w : List Nat) (m : Nat), tr h s m w ≤ 10 * w.length
  | [], _ => Nat.zero_le _
  | g :: w, m => by simp only [tr, List.length_cons]; have := pop_le (nd (h g &&& s) m); have := tr_le h s w (h g &&& s); omega
def fnd (h : Nat → Nat) : Nat → Nat
  | 0 => 0
  | g + 1 => fnd h g ||| h g
theorem fnd_lt {h : Nat → Nat} (hh : ∀ g, h g < 1024) (k : Nat) : fnd h k < 1024 := by
  induction k with
  | zero => exact Nat.succ_pos _
  | succ k ih => exact Nat.or_lt_two_pow (n := 10) ih (hh k)
theorem and_lt1024 {x s : Nat} (h : x < 1024) : x &&& s < 1024 := Nat.lt_of_le_of_lt Nat.and_le_left h
theorem nd_le (x m : Nat) : nd x m ≤ x := by
  apply Nat.le_of_testBit
  intro i h
  rw [nd_bit] at h
  exact (Bool.and_eq_true _ _ |>.mp h).1
theorem nd_lt1024 {x m : Nat} (h : x < 1024) : nd x m < 1024 := Nat.lt_of_le_of_lt (nd_le x m) h
def al (a : Nat → Nat) : Nat → List Nat → Bool
  | _, [] => true
  | S, g :: w => decide (a g &&& S = 0) && al a (S ||| 1 <<< g) w
def cwi (h : Nat → Nat) (s : Nat) : Nat → Nat
  | 0 => 0
  | g + 1 => cwi h s g + ((h g).testBit s).toNat
theorem cwi_le (h : Nat → Nat) (s k : Nat) : cwi h s k ≤ k := by
  induction k with
  | zero => exact Nat.le_refl _
  | succ k ih => simp only [cwi]; have := Bool.toNat_le ((h k).testBit s); omega
def erl (a : Nat → Nat) (x : Nat) : Nat → Nat
  | 0 => 0
  | g + 1 => if (a g).testBit x then erl a x g ||| 1 <<< g else erl a x g
section DG
variable {I : xMem} {n d : Nat} {h a L : Nat → Nat}
theorem c_sortsFound (hD : DigAt I 1 n h a L) (hn : n ≤ 8) : Cx LX yX2_sortsFound mX2_sortsFound d [.ref 1] I (xRi (fun r J => r = nI (fnd h n) ∧ J = I)) := by
  have lp : ∀ (k g : Nat), g + k = n → Wx LX mX2_sortsFound d (xRi (fun r J => r = nI (fnd h n) ∧ J = I)) 4 [.ref 1, .int (nI (fnd h g)), .int (nI g)] [] I := by
    intro k
    induction k with
    | zero =>
      intro g hg
      refine x_iload_n dX2_sortsFound_4 rfl ?_
      refine x_aload_n dX2_sortsFound_5 rfl ?_
      refine x_getI 1 0 (v := nI n) rfl (by decide) fl_X2_9 dX2_sortsFound_6 rfl rfl rfl hD.1 ?_
      refine x_icmpn_ge (a := g) (b := n) (by omega) (by omega) (tgt := 27) dX2_sortsFound_9 rfl (fun c => ?_) (fun c => ?_)
      ·
        refine x_iload_n dX2_sortsFound_27 rfl ?_
        refine x_ireti dX2_sortsFound_28 rfl ⟨by rw [show g = n by omega], rfl⟩
      ·
        omega
    | succ k ih =>
      intro g hg
      refine x_iload_n dX2_sortsFound_4 rfl ?_
      refine x_aload_n dX2_sortsFound_5 rfl ?_
      refine x_getI 1 0 (v := nI n) rfl (by decide) fl_X2_9 dX2_sortsFound_6 rfl rfl rfl hD.1 ?_
      refine x_icmpn_ge (a := g) (b := n) (by omega) (by omega) (tgt := 27) dX2_sortsFound_9 rfl (fun c => ?_) (fun c => ?_)
      ·
        omega
      ·
        refine x_iload_n dX2_sortsFound_12 rfl ?_
        refine x_aload_n dX2_sortsFound_13 rfl ?_
        refine x_getR 1 1 rfl (by decide) fl_X2_15 dX2_sortsFound_14 rfl rfl rfl ?_
        refine x_iload_n dX2_sortsFound_17 rfl ?_
        refine x_iald (p := g) (v := nI (h g)) dX2_sortsFound_18 rfl rfl rfl rfl (by omega) (hD.2.1 g (by omega)) ?_
        refine x_ior (v := nI ((fnd h g) ||| (h g))) dX2_sortsFound_19 (nI_or _ _) ?_
        refine x_istore_n (ls' := [.ref 1, .int (nI ((fnd h g) ||| (h g))), .int (nI g)]) dX2_sortsFound_20 rfl rfl ?_
        refine x_iinc (v := nI (g + 1)) (ls' := [.ref 1, .int (nI ((fnd h g) ||| (h g))), .int (nI (g + 1))]) dX2_sortsFound_21 rfl (inc_1 _) rfl rfl ?_
        refine x_goto (tgt := 4) dX2_sortsFound_24 rfl ?_
        exact ih (g + 1) (by omega)
  refine Cx.of [.ref 1, .null, .null] (by decide) rfl rfl (Nat.le_of_ble_eq_true rfl) rfl ?_
  refine x_iconst dX2_sortsFound_0 ic_0 ?_
  refine x_istore_n (ls' := [.ref 1, .int (nI 0), .null]) dX2_sortsFound_1 rfl rfl ?_
  refine x_iconst dX2_sortsFound_2 ic_0 ?_
  refine x_istore_n (ls' := [.ref 1, .int (nI 0), .int (nI 0)]) dX2_sortsFound_3 rfl rfl ?_
  exact lp n 0 (by omega)
theorem c_gravesWith {s : Nat} (hd : 1 ≤ d) (hs : s < 32) (hh : ∀ g, h g < 1024) (hD : DigAt I 1 n h a L) (hn : n ≤ 8) : Cx LX yX2_gravesWith mX2_gravesWith d [.ref 1, .int (nI s)] I (xRi (fun r J => r = nI (cwi h s n) ∧ J = I)) := by
  have lp : ∀ (k g : Nat), g + k = n → Wx LX mX2_gravesWith d (xRi (fun r J => r = nI (cwi h s n) ∧ J = I)) 4 [.ref 1, .int (nI s), .int (nI (cwi h s g)), .int (nI g)] [] I := by
    intro k
    induction k with
    | zero =>
      intro g hg
      refine x_iload_n dX2_gravesWith_4 rfl ?_
      refine x_aload_n dX2_gravesWith_5 rfl ?_
      refine x_getI 1 0 (v := nI n) rfl (by decide) fl_X2_9 dX2_gravesWith_6 rfl rfl rfl hD.1 ?_
      refine x_icmpn_ge (a := g) (b := n) (by omega) (by omega) (tgt := 34) dX2_gravesWith_9 rfl (fun c => ?_) (fun c => ?_)
      ·
        refine x_iload_n dX2_gravesWith_34 rfl ?_
        refine x_ireti dX2_gravesWith_35 rfl ⟨by rw [show g = n by omega], rfl⟩
      ·
        omega
    | succ k ih =>
      intro g hg
      have hb := hh g
      refine x_iload_n dX2_gravesWith_4 rfl ?_
      refine x_aload_n dX2_gravesWith_5 rfl ?_
      refine x_getI 1 0 (v := nI n) rfl (by decide) fl_X2_9 dX2_gravesWith_6 rfl rfl rfl hD.1 ?_
      refine x_icmpn_ge (a := g) (b := n) (by omega) (by omega) (tgt := 34) dX2_gravesWith_9 rfl (fun c => ?_) (fun c => ?_)
      ·
        omega
      ·
        refine x_aload_n dX2_gravesWith_12 rfl ?_
        refine x_getR 1 1 rfl (by decide) fl_X2_15 dX2_gravesWith_13 rfl rfl rfl ?_
        refine x_iload_n dX2_gravesWith_16 rfl ?_
        refine x_iald (p := g) (v := nI (h g)) dX2_gravesWith_17 rfl rfl rfl rfl (by omega) (hD.2.1 g (by omega)) ?_
        refine x_iload_n dX2_gravesWith_18 rfl ?_
        refine x_callSNi (as := [.int (nI (h g)), .int (nI s)]) (fun _ h => h.1) st_X5_isMember ct_X5_isMember (c_isMember (d := 0) (by omega) hs) dX2_gravesWith_19 hd rfl rfl (Nat.le_of_ble_eq_true rfl) (fun r0 J0 h0 => ?_)
        obtain ⟨rfl, hJ0⟩ := h0
        obtain rfl := hJ0.symm
        refine x_ifb_eq (b := (h g).testBit s) (tgt := 28) dX2_gravesWith_22 rfl (fun c2 => ?_) (fun c2 => ?_)
        ·
          refine x_iinc (v := nI (g + 1)) (ls' := [.ref 1, .int (nI s), .int (nI (cwi h s g)), .int (nI (g + 1))]) dX2_gravesWith_28 rfl (inc_1 _) rfl rfl ?_
          refine x_goto (tgt := 4) dX2_gravesWith_31 rfl ?_
          have e : cwi h s (g + 1) = cwi h s g := by simp [cwi, c2]
          rw [← e]
          exact ih (g + 1) (by omega)
        ·
          refine x_iinc (v := nI ((cwi h s g) + 1)) (ls' := [.ref 1, .int (nI s), .int (nI ((cwi h s g) + 1)), .int (nI g)]) dX2_gravesWith_25 rfl (inc_1 _) rfl rfl ?_
          refine x_iinc (v := nI (g + 1)) (ls' := [.ref 1, .int (nI s), .int (nI ((cwi h s g) + 1)), .int (nI (g + 1))]) dX2_gravesWith_28 rfl (inc_1 _) rfl rfl ?_
          refine x_goto (tgt := 4) dX2_gravesWith_31 rfl ?_
          have e : cwi h s (g + 1) = cwi h s g + 1 := by simp [cwi, c2]
          rw [← e]
          exact ih (g + 1) (by omega)
  refine Cx.of [.ref 1, .int (nI s), .null, .null] (by decide) rfl rfl (Nat.le_of_ble_eq_true rfl) rfl ?_
  refine x_iconst dX2_gravesWith_0 ic_0 ?_
  refine x_istore_n (ls' := [.ref 1, .int (nI s), .int (nI 0), .null]) dX2_gravesWith_1 rfl rfl ?_
  refine x_iconst dX2_gravesWith_2 ic_0 ?_
  refine x_istore_n (ls' := [.ref 1, .int (nI s), .int (nI 0), .int (nI 0)]) dX2_gravesWith_3 rfl rfl ?_
  exact lp n 0 (by omega)
theorem c_earlierThan {x : Nat} (hd : 1 ≤ d) (hx : x < 32) (ha : ∀ g, a g < 256) (hD : DigAt I 1 n h a L) (hn : n ≤ 8) : Cx LX yX2_earlierThan mX2_earlierThan d [.ref 1, .int (nI x)] I (xRi (fun r J => r = nI (erl a x n) ∧ J = I)) := by
  have lp : ∀ (k g : Nat), g + k = n → Wx LX mX2_earlierThan d (xRi (fun r J => r = nI (erl a x n) ∧ J = I)) 4 [.ref 1, .int (nI x), .int (nI (erl a x g)), .int (nI g)] [] I := by
    intro k
    induction k with
    | zero =>
      intro g hg
      refine x_iload_n dX2_earlierThan_4 rfl ?_
      refine x_aload_n dX2_earlierThan_5 rfl ?_
      refine x_getI 1 0 (v := nI n) rfl (by decide) fl_X2_9 dX2_earlierThan_6 rfl rfl rfl hD.1 ?_
      refine x_icmpn_ge (a := g) (b := n) (by omega) (by omega) (tgt := 37) dX2_earlierThan_9 rfl (fun c => ?_) (fun c => ?_)
      ·
        refine x_iload_n dX2_earlierThan_37 rfl ?_
        refine x_ireti dX2_earlierThan_38 rfl ⟨by rw [show g = n by omega], rfl⟩
      ·
        omega
    | succ k ih =>
      intro g hg
      have hb := ha g
      refine x_iload_n dX2_earlierThan_4 rfl ?_
      refine x_aload_n dX2_earlierThan_5 rfl ?_
      refine x_getI 1 0 (v := nI n) rfl (by decide) fl_X2_9 dX2_earlierThan_6 rfl rfl rfl hD.1 ?_
      refine x_icmpn_ge (a := g) (b := n) (by omega) (by omega) (tgt := 37) dX2_earlierThan_9 rfl (fun c => ?_) (fun c => ?_)
      ·
        omega
      ·
        refine x_aload_n dX2_earlierThan_12 rfl ?_
        refine x_getR 1 2 rfl (by decide) fl_X2_19 dX2_earlierThan_13 rfl rfl rfl ?_
        refine x_iload_n dX2_earlierThan_16 rfl ?_
        refine x_iald (p := g) (v := nI (a g)) dX2_earlierThan_17 rfl rfl rfl rfl (by omega) (hD.2.2.1 g (by omega)) ?_
        refine x_iload_n dX2_earlierThan_18 rfl ?_
        refine x_callSNi (as := [.int (nI (a g)), .int (nI x)]) (fun _ h => h.1) st_X5_isMember ct_X5_isMember (c_isMember (d := 0) (by omega) hx) dX2_earlierThan_19 hd rfl rfl (Nat.le_of_ble_eq_true rfl) (fun r0 J0 h0 => ?_)
        obtain ⟨rfl, hJ0⟩ := h0
        obtain rfl := hJ0.symm
        refine x_ifb_eq (b := (a g).testBit x) (tgt := 31) dX2_earlierThan_22 rfl (fun c2 => ?_) (fun c2 => ?_)
        ·
          refine x_iinc (v := nI (g + 1)) (ls' := [.ref 1, .int (nI x), .int (nI (erl a x g)), .int (nI (g + 1))]) dX2_earlierThan_31 rfl (inc_1 _) rfl rfl ?_
          refine x_goto (tgt := 4) dX2_earlierThan_34 rfl ?_
          have e : erl a x (g + 1) = erl a x g := by simp [erl, c2]
          rw [← e]
          exact ih (g + 1) (by omega)
        ·
          refine x_iload_n dX2_earlierThan_25 rfl ?_
          refine x_iconst dX2_earlierThan_26 ic_1 ?_
          refine x_iload_n dX2_earlierThan_27 rfl ?_
          refine x_ishl (v := nI (1 <<< g)) dX2_earlierThan_28 (nI_shl _ (by omega)) ?_
          refine x_ior (v := nI ((erl a x g) ||| (1 <<< g))) dX2_earlierThan_29 (nI_or _ _) ?_
          refine x_istore_n (ls' := [.ref 1, .int (nI x), .int (nI ((erl a x g) ||| (1 <<< g))), .int (nI g)]) dX2_earlierThan_30 rfl rfl ?_
          refine x_iinc (v := nI (g + 1)) (ls' := [.ref 1, .int (nI x), .int (nI ((erl a x g) ||| (1 <<< g))), .int (nI (g + 1))]) dX2_earlierThan_31 rfl (inc_1 _) rfl rfl ?_
          refine x_goto (tgt := 4) dX2_earlierThan_34 rfl ?_
          have e : erl a x (g + 1) = erl a x g ||| 1 <<< g := by simp [erl, c2]
          rw [← e]
          exact ih (g + 1) (by omega)
  refine Cx.of [.ref 1, .int (nI x), .null, .null] (by decide) rfl rfl (Nat.le_of_ble_eq_true rfl) rfl ?_
  refine x_iconst dX2_earlierThan_0 ic_0 ?_
  refine x_istore_n (ls' := [.ref 1, .int (nI x), .int (nI 0), .null]) dX2_earlierThan_1 rfl rfl ?_
  refine x_iconst dX2_earlierThan_2 ic_0 ?_
  refine x_istore_n (ls' := [.ref 1, .int (nI x), .int (nI 0), .int (nI 0)]) dX2_earlierThan_3 rfl rfl ?_
  exact lp n 0 (by omega)
theorem c_placeInLine {x p0 : Nat} (hp : p0 < n) (hx : x < 8) (hL8 : ∀ p, p < 8 → L p < 8) (hL : ∀ p, p < n → (L p = x ↔ p = p0)) (hD : DigAt I 1 n h a L) (hn : n ≤ 8) : Cx LX yX2_placeInLine mX2_placeInLine d [.ref 1, .int (nI x)] I (xRi (fun r J => r = nI p0 ∧ J = I)) := by
  have lp : ∀ (k g : Nat), g + k = n → Wx LX mX2_placeInLine d (xRi (fun r J => r = nI p0 ∧ J = I)) 4 [.ref 1, .int (nI x), .int (nI (if p0 < g then p0 else 0)), .int (nI g)] [] I := by
    intro k
    induction k with
    | zero =>
      intro g hg
      refine x_iload_n dX2_placeInLine_4 rfl ?_
      refine x_aload_n dX2_placeInLine_5 rfl ?_
      refine x_getI 1 0 (v := nI n) rfl (by decide) fl_X2_9 dX2_placeInLine_6 rfl rfl rfl hD.1 ?_
      refine x_icmpn_ge (a := g) (b := n) (by omega) (by omega) (tgt := 30) dX2_placeInLine_9 rfl (fun c => ?_) (fun c => ?_)
      ·
        refine x_iload_n dX2_placeInLine_30 rfl ?_
        refine x_ireti dX2_placeInLine_31 rfl ⟨by rw [if_pos (by omega)], rfl⟩
      ·
        omega
    | succ k ih =>
      intro g hg
      have hb := hL8 g (by omega)
      have hq := hL g (by omega)
      refine x_iload_n dX2_placeInLine_4 rfl ?_
      refine x_aload_n dX2_placeInLine_5 rfl ?_
      refine x_getI 1 0 (v := nI n) rfl (by decide) fl_X2_9 dX2_placeInLine_6 rfl rfl rfl hD.1 ?_
      refine x_icmpn_ge (a := g) (b := n) (by omega) (by omega) (tgt := 30) dX2_placeInLine_9 rfl (fun c => ?_) (fun c => ?_)
      ·
        omega
      ·
        refine x_aload_n dX2_placeInLine_12 rfl ?_
        refine x_getR 1 3 rfl (by decide) fl_X2_22 dX2_placeInLine_13 rfl rfl rfl ?_
        refine x_iload_n dX2_placeInLine_16 rfl ?_
        refine x_iald (p := g) (v := nI (L g)) dX2_placeInLine_17 rfl rfl rfl rfl (by omega) (hD.2.2.2 g (by omega)) ?_
        refine x_iload_n dX2_placeInLine_18 rfl ?_
        refine x_icmpn_ne (a := L g) (b := x) (by omega) (by omega) (tgt := 24) dX2_placeInLine_19 rfl (fun c2 => ?_) (fun c2 => ?_)
        ·
          refine x_iinc (v := nI (g + 1)) (ls' := [.ref 1, .int (nI x), .int (nI (if p0 < g then p0 else 0)), .int (nI (g + 1))]) dX2_placeInLine_24 rfl (inc_1 _) rfl rfl ?_
          refine x_goto (tgt := 4) dX2_placeInLine_27 rfl ?_
          have e : (if p0 < g + 1 then p0 else 0) = (if p0 < g then p0 else 0) := by
            by_cases hc : p0 < g
            · rw [if_pos hc, if_pos (by omega)]
            · rw [if_neg hc, if_neg (by have := mt hq.mpr c2; omega)]
          rw [← e]
          exact ih (g + 1) (by omega)
        ·
          refine x_iload_n dX2_placeInLine_22 rfl ?_
          refine x_istore_n (ls' := [.ref 1, .int (nI x), .int (nI g), .int (nI g)]) dX2_placeInLine_23 rfl rfl ?_
          refine x_iinc (v := nI (g + 1)) (ls' := [.ref 1, .int (nI x), .int (nI g), .int (nI (g + 1))]) dX2_placeInLine_24 rfl (inc_1 _) rfl rfl ?_
          refine x_goto (tgt := 4) dX2_placeInLine_27 rfl ?_
          have e0 := hq.mp c2
          have e : (if p0 < g + 1 then p0 else 0) = g := by rw [if_pos (by omega)]; exact e0.symm
          have := ih (g + 1) (by omega)
          rw [e] at this
          exact this
  refine Cx.of [.ref 1, .int (nI x), .null, .null] (by decide) rfl rfl (Nat.le_of_ble_eq_true rfl) rfl ?_
  refine x_iconst dX2_placeInLine_0 ic_0 ?_
  refine x_istore_n (ls' := [.ref 1, .int (nI x), .int (nI 0), .null]) dX2_placeInLine_1 rfl rfl ?_
  refine x_iconst dX2_placeInLine_2 ic_0 ?_
  refine x_istore_n (ls' := [.ref 1, .int (nI x), .int (nI 0), .int (nI 0)]) dX2_placeInLine_3 rfl rfl ?_
  have := lp n 0 (by omega)
  exact this
theorem c_lineBreaks {s : Nat} (hd : 1 ≤ d) (hh : ∀ g, h g < 1024) (hL8 : ∀ p, p < n → L p < 8) (hD : DigAt I 1 n h a L) (hn : n ≤ 8) (hle : pop (fnd h n &&& s) ≤ tr h s 0 (seg L 0 n)) : Cx LX yX2_lineBreaks mX2_lineBreaks d [.ref 1, .int (nI s)] I (xRi (fun r J => r = nI (tr h s 0 (seg L 0 n) - pop (fnd h n &&& s)) ∧ J = I)) := by
  have lp : ∀ (k p rn m hr : Nat), p + k = n → rn + tr h s m (seg L p k) = tr h s 0 (seg L 0 n) → ∀ v5, Wx LX mX2_lineBreaks d (xRi (fun r J => r = nI (tr h s 0 (seg L 0 n) - pop (fnd h n &&& s)) ∧ J = I)) 7 [.ref 1, .int (nI s), .int (nI rn), .int (nI m), .int (nI p), v5] [] I := by
    intro k
    induction k with
    | zero =>
      intro p rn m hr hp hrn v5
      rw [seg_0] at hrn
      simp only [tr, Nat.add_zero] at hrn
      refine x_iload dX2_lineBreaks_7 rfl ?_
      refine x_aload_n dX2_lineBreaks_9 rfl ?_
      refine x_getI 1 0 (v := nI n) rfl (by decide) fl_X2_9 dX2_lineBreaks_10 rfl rfl rfl hD.1 ?_
      refine x_icmpn_ge (a := p) (b := n) (by omega) (by omega) (tgt := 53) dX2_lineBreaks_13 rfl (fun c => ?_) (fun c => ?_)
      ·
        refine x_iload_n dX2_lineBreaks_53 rfl ?_
        refine x_aload_n dX2_lineBreaks_54 rfl ?_
        refine x_callVi 1 ml_X2_41 in_X2_sortsFound se_X2_sortsFound ct_X2_sortsFound rfl (c_sortsFound (d := 0) hD hn) dX2_lineBreaks_55 hd rfl rfl rfl rfl (Nat.le_of_ble_eq_true rfl) (fun r0 J0 h0 => ?_)
        obtain ⟨rfl, hJ0⟩ := h0
        obtain rfl := hJ0.symm
        refine x_iload_n dX2_lineBreaks_58 rfl ?_
        refine x_iand (v := nI ((fnd h n) &&& s)) dX2_lineBreaks_59 (nI_and _ _) ?_
        refine x_callSi (as := [.int (nI ((fnd h n) &&& s))]) ml_X2_35 st_J6_bitCount_0f7a4 ct_J6_bitCount_0f7a4 (c_bitCount (d := 0) (and_lt1024 (fnd_lt hh n))) dX2_lineBreaks_60 hd rfl rfl (Nat.le_of_ble_eq_true rfl) (fun r0 J0 h0 => ?_)
        obtain ⟨rfl, hJ0⟩ := h0
        obtain rfl := hJ0.symm
        refine x_isub (v := nI (rn - (pop (fnd h n &&& s)))) dX2_lineBreaks_63 (pk_sub (by omega)) ?_
        refine x_ireti dX2_lineBreaks_64 rfl ⟨by rw [hrn], rfl⟩
      ·
        omega
    | succ k ih =>
      intro p rn m hr hp hrn v5
      rw [seg_s] at hrn
      simp only [tr] at hrn
      have hb := hL8 p (by omega)
      refine x_iload dX2_lineBreaks_7 rfl ?_
      refine x_aload_n dX2_lineBreaks_9 rfl ?_
      refine x_getI 1 0 (v := nI n) rfl (by decide) fl_X2_9 dX2_lineBreaks_10 rfl rfl rfl hD.1 ?_
      refine x_icmpn_ge (a := p) (b := n) (by omega) (by omega) (tgt := 53) dX2_lineBreaks_13 rfl (fun c => ?_) (fun c => ?_)
      ·
        omega
      ·
        refine x_aload_n dX2_lineBreaks_16 rfl ?_
        refine x_getR 1 1 rfl (by decide) fl_X2_15 dX2_lineBreaks_17 rfl rfl rfl ?_
        refine x_aload_n dX2_lineBreaks_20 rfl ?_
        refine x_getR 1 3 rfl (by decide) fl_X2_22 dX2_lineBreaks_21 rfl rfl rfl ?_
        refine x_iload dX2_lineBreaks_24 rfl ?_
        refine x_iald (p := p) (v := nI (L p)) dX2_lineBreaks_26 rfl rfl rfl rfl (by omega) (hD.2.2.2 p (by omega)) ?_
        refine x_iald (p := L p) (v := nI (h (L p))) dX2_lineBreaks_27 rfl rfl rfl rfl (by omega) (hD.2.1 _ hb) ?_
        refine x_iload_n dX2_lineBreaks_28 rfl ?_
        refine x_iand (v := nI ((h (L p)) &&& s)) dX2_lineBreaks_29 (nI_and _ _) ?_
        refine x_istore (ls' := [.ref 1, .int (nI s), .int (nI rn), .int (nI m), .int (nI p), .int (nI ((h (L p)) &&& s))]) dX2_lineBreaks_30 rfl rfl ?_
        refine x_iload_n dX2_lineBreaks_32 rfl ?_
        refine x_iload dX2_lineBreaks_33 rfl ?_
        refine x_iload_n dX2_lineBreaks_35 rfl ?_
        refine x_iconst dX2_lineBreaks_36 ic_m1 ?_
        refine x_ixor dX2_lineBreaks_37 rfl ?_
        refine x_iand (v := nI (nd ((h (L p)) &&& s) m)) dX2_lineBreaks_38 (nI_nd _ _) ?_
        refine x_callSi (as := [.int (nI (nd ((h (L p)) &&& s) m))]) ml_X2_35 st_J6_bitCount_0f7a4 ct_J6_bitCount_0f7a4 (c_bitCount (d := 0) (nd_lt1024 (and_lt1024 (hh _)))) dX2_lineBreaks_39 hd rfl rfl (Nat.le_of_ble_eq_true rfl) (fun r0 J0 h0 => ?_)
        obtain ⟨rfl, hJ0⟩ := h0
        obtain rfl := hJ0.symm
        refine x_iadd (v := nI (rn + (pop (nd (h (L p) &&& s) m)))) dX2_lineBreaks_42 (nI_add _ _) ?_
        refine x_istore_n (ls' := [.ref 1, .int (nI s), .int (nI (rn + (pop (nd (h (L p) &&& s) m)))), .int (nI m), .int (nI p), .int (nI ((h (L p)) &&& s))]) dX2_lineBreaks_43 rfl rfl ?_
        refine x_iload dX2_lineBreaks_44 rfl ?_
        refine x_istore_n (ls' := [.ref 1, .int (nI s), .int (nI (rn + (pop (nd (h (L p) &&& s) m)))), .int (nI ((h (L p)) &&& s)), .int (nI p), .int (nI ((h (L p)) &&& s))]) dX2_lineBreaks_46 rfl rfl ?_
        refine x_iinc (v := nI (p + 1)) (ls' := [.ref 1, .int (nI s), .int (nI (rn + (pop (nd (h (L p) &&& s) m)))), .int (nI ((h (L p)) &&& s)), .int (nI (p + 1)), .int (nI ((h (L p)) &&& s))]) dX2_lineBreaks_47 rfl (inc_1 _) rfl rfl ?_
        refine x_goto (tgt := 7) dX2_lineBreaks_50 rfl ?_
        exact ih (p + 1) _ _ 0 (by omega) (by omega) _
  refine Cx.of [.ref 1, .int (nI s), .null, .null, .null, .null] (by decide) rfl rfl (Nat.le_of_ble_eq_true rfl) rfl ?_
  refine x_iconst dX2_lineBreaks_0 ic_0 ?_
  refine x_istore_n (ls' := [.ref 1, .int (nI s), .int (nI 0), .null, .null, .null]) dX2_lineBreaks_1 rfl rfl ?_
  refine x_iconst dX2_lineBreaks_2 ic_0 ?_
  refine x_istore_n (ls' := [.ref 1, .int (nI s), .int (nI 0), .int (nI 0), .null, .null]) dX2_lineBreaks_3 rfl rfl ?_
  refine x_iconst dX2_lineBreaks_4 ic_0 ?_
  refine x_istore (ls' := [.ref 1, .int (nI s), .int (nI 0), .int (nI 0), .int (nI 0), .null]) dX2_lineBreaks_5 rfl rfl ?_
  exact lp n 0 0 0 0 (by omega) (by omega) _
theorem c_lineIsAllowed (ha : ∀ g, a g < 256) (hL8 : ∀ p, p < n → L p < 8) (hD : DigAt I 1 n h a L) (hn : n ≤ 8) : Cx LX yX2_lineIsAllowed mX2_lineIsAllowed d [.ref 1] I (xRi (fun r J => r = nI (al a 0 (seg L 0 n)).toNat ∧ J = I)) := by
  have lp : ∀ (k p S : Nat), p + k = n → S < 256 → al a S (seg L p k) = al a 0 (seg L 0 n) → Wx LX mX2_lineIsAllowed d (xRi (fun r J => r = nI (al a 0 (seg L 0 n)).toNat ∧ J = I)) 4 [.ref 1, .int (nI S), .int (nI p)] [] I := by
    intro k
    induction k with
    | zero =>
      intro p S hp hS hal
      rw [seg_0] at hal
      simp only [al] at hal
      refine x_iload_n dX2_lineIsAllowed_4 rfl ?_
      refine x_aload_n dX2_lineIsAllowed_5 rfl ?_
      refine x_getI 1 0 (v := nI n) rfl (by decide) fl_X2_9 dX2_lineIsAllowed_6 rfl rfl rfl hD.1 ?_
      refine x_icmpn_ge (a := p) (b := n) (by omega) (by omega) (tgt := 47) dX2_lineIsAllowed_9 rfl (fun c => ?_) (fun c => ?_)
      ·
        refine x_iconst dX2_lineIsAllowed_47 ic_1 ?_
        refine x_zretb (b := true) dX2_lineIsAllowed_48 rfl ⟨by rw [← hal], rfl⟩
      ·
        omega
    | succ k ih =>
      intro p S hp hS hal
      rw [seg_s] at hal
      simp only [al] at hal
      have hb := hL8 p (by omega)
      have hb2 := ha (L p)
      have hb3 : a (L p) &&& S ≤ a (L p) := Nat.and_le_left
      refine x_iload_n dX2_lineIsAllowed_4 rfl ?_
      refine x_aload_n dX2_lineIsAllowed_5 rfl ?_
      refine x_getI 1 0 (v := nI n) rfl (by decide) fl_X2_9 dX2_lineIsAllowed_6 rfl rfl rfl hD.1 ?_
      refine x_icmpn_ge (a := p) (b := n) (by omega) (by omega) (tgt := 47) dX2_lineIsAllowed_9 rfl (fun c => ?_) (fun c => ?_)
      ·
        omega
      ·
        refine x_aload_n dX2_lineIsAllowed_12 rfl ?_
        refine x_getR 1 2 rfl (by decide) fl_X2_19 dX2_lineIsAllowed_13 rfl rfl rfl ?_
        refine x_aload_n dX2_lineIsAllowed_16 rfl ?_
        refine x_getR 1 3 rfl (by decide) fl_X2_22 dX2_lineIsAllowed_17 rfl rfl rfl ?_
        refine x_iload_n dX2_lineIsAllowed_20 rfl ?_
        refine x_iald (p := p) (v := nI (L p)) dX2_lineIsAllowed_21 rfl rfl rfl rfl (by omega) (hD.2.2.2 p (by omega)) ?_
        refine x_iald (p := L p) (v := nI (a (L p))) dX2_lineIsAllowed_22 rfl rfl rfl rfl (by omega) (hD.2.2.1 _ hb) ?_
        refine x_iload_n dX2_lineIsAllowed_23 rfl ?_
        refine x_iand (v := nI ((a (L p)) &&& S)) dX2_lineIsAllowed_24 (nI_and _ _) ?_
        refine x_ifn_eq (a := (a (L p)) &&& S) (by omega) (tgt := 30) dX2_lineIsAllowed_25 rfl (fun c2 => ?_) (fun c2 => ?_)
        ·
          refine x_iload_n dX2_lineIsAllowed_30 rfl ?_
          refine x_iconst dX2_lineIsAllowed_31 ic_1 ?_
          refine x_aload_n dX2_lineIsAllowed_32 rfl ?_
          refine x_getR 1 3 rfl (by decide) fl_X2_22 dX2_lineIsAllowed_33 rfl rfl rfl ?_
          refine x_iload_n dX2_lineIsAllowed_36 rfl ?_
          refine x_iald (p := p) (v := nI (L p)) dX2_lineIsAllowed_37 rfl rfl rfl rfl (by omega) (hD.2.2.2 p (by omega)) ?_
          refine x_ishl (v := nI (1 <<< (L p))) dX2_lineIsAllowed_38 (nI_shl _ (by omega)) ?_
          refine x_ior (v := nI (S ||| (1 <<< (L p)))) dX2_lineIsAllowed_39 (nI_or _ _) ?_
          refine x_istore_n (ls' := [.ref 1, .int (nI (S ||| (1 <<< (L p)))), .int (nI p)]) dX2_lineIsAllowed_40 rfl rfl ?_
          refine x_iinc (v := nI (p + 1)) (ls' := [.ref 1, .int (nI (S ||| (1 <<< (L p)))), .int (nI (p + 1))]) dX2_lineIsAllowed_41 rfl (inc_1 _) rfl rfl ?_
          refine x_goto (tgt := 4) dX2_lineIsAllowed_44 rfl ?_
          refine ih (p + 1) _ (by omega) (Nat.or_lt_two_pow (n := 8) hS ?_) (by rw [← hal, decide_eq_true c2]; rfl)
          rw [Nat.shiftLeft_eq, Nat.one_mul]; exact Nat.pow_lt_pow_right (by decide) hb
        ·
          refine x_iconst dX2_lineIsAllowed_28 ic_0 ?_
          refine x_zretb (b := false) dX2_lineIsAllowed_29 rfl ⟨by rw [← hal, decide_eq_false c2]; rfl, rfl⟩
  refine Cx.of [.ref 1, .null, .null] (by decide) rfl rfl (Nat.le_of_ble_eq_true rfl) rfl ?_
  refine x_iconst dX2_lineIsAllowed_0 ic_0 ?_
  refine x_istore_n (ls' := [.ref 1, .int (nI 0), .null]) dX2_lineIsAllowed_1 rfl rfl ?_
  refine x_iconst dX2_lineIsAllowed_2 ic_0 ?_
  refine x_istore_n (ls' := [.ref 1, .int (nI 0), .int (nI 0)]) dX2_lineIsAllowed_3 rfl rfl ?_
  exact lp n 0 0 (by omega) (by omega) rfl
/-- the graves at places k and k + 1 changed -/
def swp (L : Nat → Nat) (k : Nat) : Nat → Nat := fun p => if p = k + 1 then L k else if p = k then L (k + 1) else L p
def exI (I : xMem) (c k : Nat) : xMem := xup (xup I c k (I c (k + 1))) c (k + 1) (I c k)
theorem exI_ne {c e : Nat} (k : Nat) (hc : e ≠ c) : exI I c k e = I e := by simp [exI, xup, va_up, hc]
theorem exI_at (c k p : Nat) : exI I c k c p = if p = k + 1 then I c k else if p = k then I c (k + 1) else I c p := by simp [exI, xup, va_up, upd]
theorem exI_exI (c k : Nat) : exI (exI I c k) c k = I := by
  funext e p
  by_cases he : e = c
  · subst he
    rw [exI_at, exI_at, exI_at, exI_at]
    by_cases h1 : p = k + 1
    · subst h1; simp
    · by_cases h2 : p = k
      · subst h2; simp
      · simp [h1, h2]
  · rw [exI_ne k he, exI_ne k he]
theorem DigAt.ex (hD : DigAt I 1 n h a L) {k : Nat} (hk : k + 1 < 8) : DigAt (exI I 4 k) 1 n h a (swp L k) := by
  refine ⟨?_, fun g hg => ?_, fun g hg => ?_, fun g hg => ?_⟩
  · rw [exI_ne k (by decide)]; exact hD.1
  · rw [exI_ne k (by decide)]; exact hD.2.1 g hg
  · rw [exI_ne k (by decide)]; exact hD.2.2.1 g hg
  · show exI I 4 k 4 g = _
    rw [exI_at, swp]
    by_cases h1 : g = k + 1
    · rw [if_pos h1, if_pos h1]; exact hD.2.2.2 k (by omega)
    · rw [if_neg h1, if_neg h1]
      by_cases h2 : g = k
      · rw [if_pos h2, if_pos h2]; exact hD.2.2.2 _ hk
      · rw [if_neg h2, if_neg h2]; exact hD.2.2.2 g hg
theorem c_exchange {k : Nat} (hk : k + 1 < 8) : Cx LX yX2_exchange mX2_exchange d [.ref 1, .int (nI k)] I (xRv (fun J => J = exI I 4 k)) := by
  refine Cx.of [.ref 1, .int (nI k), .null] (by decide) rfl rfl (Nat.le_of_ble_eq_true rfl) rfl ?_
  refine x_aload_n dX2_exchange_0 rfl ?_
  refine x_getR 1 3 rfl (by decide) fl_X2_22 dX2_exchange_1 rfl rfl rfl ?_
  refine x_iload_n dX2_exchange_4 rfl ?_
  refine x_iald (p := k) (v := I 4 k) dX2_exchange_5 rfl rfl rfl rfl (by omega) rfl ?_
  refine x_istore_n (ls' := [.ref 1, .int (nI k), .int (I 4 k)]) dX2_exchange_6 rfl rfl ?_
  refine x_aload_n dX2_exchange_7 rfl ?_
  refine x_getR 1 3 rfl (by decide) fl_X2_22 dX2_exchange_8 rfl rfl rfl ?_
  refine x_iload_n dX2_exchange_11 rfl ?_
  refine x_aload_n dX2_exchange_12 rfl ?_
  refine x_getR 1 3 rfl (by decide) fl_X2_22 dX2_exchange_13 rfl rfl rfl ?_
  refine x_iload_n dX2_exchange_16 rfl ?_
  refine x_iconst dX2_exchange_17 ic_1 ?_
  refine x_iadd (v := nI (k + 1)) dX2_exchange_18 (nI_add _ _) ?_
  refine x_iald (p := k + 1) (v := I 4 (k + 1)) dX2_exchange_19 rfl rfl rfl rfl (by omega) rfl ?_
  refine x_iast (p := k) dX2_exchange_20 rfl rfl rfl rfl (by omega) ?_
  refine x_aload_n dX2_exchange_21 rfl ?_
  refine x_getR 1 3 rfl (by decide) fl_X2_22 dX2_exchange_22 rfl rfl rfl ?_
  refine x_iload_n dX2_exchange_25 rfl ?_
  refine x_iconst dX2_exchange_26 ic_1 ?_
  refine x_iadd (v := nI (k + 1)) dX2_exchange_27 (nI_add _ _) ?_
  refine x_iload_n dX2_exchange_28 rfl ?_
  refine x_iast (p := k + 1) dX2_exchange_29 rfl rfl rfl rfl (by omega) ?_
  refine x_vretv dX2_exchange_30 rfl rfl
/-- of the swaps k, k + 1 .. that by which the count is least below fw, of such the first -/
def beL (f : Nat → Nat) : Nat → Nat → Nat → Int32 → Int32
  | _, 0, _, fd => fd
  | k, c + 1, fw, fd => if f k < fw then beL f (k + 1) c (f k) (nI k) else beL f (k + 1) c fw fd
/-- breaks of a line -/
def lbr (n : Nat) (h L : Nat → Nat) : Nat := tr h 1023 0 (seg L 0 n) - pop (fnd h n &&& 1023)
theorem lbr_le (n : Nat) (h L : Nat → Nat) : lbr n h L ≤ 10 * n := by
  have := tr_le h 1023 (seg L 0 n) 0
  have e : (seg L 0 n).length = n := by simp [seg]
  unfold lbr; omega
theorem c_bestExchange (hd : 2 ≤ d) (h1 : 1 ≤ n) (hh : ∀ g, h g < 1024) (hL8 : ∀ p, p < n → L p < 8) (hD : DigAt I 1 n h a L) (hn : n ≤ 8) (hle : pop (fnd h n &&& 1023) ≤ tr h 1023 0 (seg L 0 n)) (hle2 : ∀ k, k + 1 < n → pop (fnd h n &&& 1023) ≤ tr h 1023 0 (seg (swp L k) 0 n)) : Cx LX yX2_bestExchange mX2_bestExchange d [.ref 1] I (xRi (fun r J => r = beL (fun k => lbr n h (swp L k)) 0 (n - 1) (lbr n h L) (-6) ∧ J = I)) := by
  have lp : ∀ (k j fw : Nat) (fd : Int32) (v4 : Value), j + k = n - 1 → fw < 1000 → beL (fun k => lbr n h (swp L k)) j k fw fd = beL (fun k => lbr n h (swp L k)) 0 (n - 1) (lbr n h L) (-6) → Wx LX mX2_bestExchange d (xRi (fun r J => r = beL (fun k => lbr n h (swp L k)) 0 (n - 1) (lbr n h L) (-6) ∧ J = I)) 13 [.ref 1, .int (nI fw), .int fd, .int (nI j), v4] [] I := by
    intro k
    induction k with
    | zero =>
      intro j fw fd v4 hj hfw hb
      simp only [beL] at hb
      refine x_iload_n dX2_bestExchange_13 rfl ?_
      refine x_aload_n dX2_bestExchange_14 rfl ?_
      refine x_getI 1 0 (v := nI n) rfl (by decide) fl_X2_9 dX2_bestExchange_15 rfl rfl rfl hD.1 ?_
      refine x_iconst dX2_bestExchange_18 ic_1 ?_
      refine x_isub (v := nI (n - 1)) dX2_bestExchange_19 (pk_sub (by omega)) ?_
      refine x_icmpn_ge (a := j) (b := n - 1) (by omega) (by omega) (tgt := 59) dX2_bestExchange_20 rfl (fun c => ?_) (fun c => ?_)
      ·
        refine x_iload_n dX2_bestExchange_59 rfl ?_
        refine x_ireti dX2_bestExchange_60 rfl ⟨hb, rfl⟩
      ·
        omega
    | succ k ih =>
      intro j fw fd v4 hj hfw hb
      simp only [beL] at hb
      have hb1 := lbr_le n h (swp L j)
      refine x_iload_n dX2_bestExchange_13 rfl ?_
      refine x_aload_n dX2_bestExchange_14 rfl ?_
      refine x_getI 1 0 (v := nI n) rfl (by decide) fl_X2_9 dX2_bestExchange_15 rfl rfl rfl hD.1 ?_
      refine x_iconst dX2_bestExchange_18 ic_1 ?_
      refine x_isub (v := nI (n - 1)) dX2_bestExchange_19 (pk_sub (by omega)) ?_
      refine x_icmpn_ge (a := j) (b := n - 1) (by omega) (by omega) (tgt := 59) dX2_bestExchange_20 rfl (fun c => ?_) (fun c => ?_)
      ·
        omega
      ·
        refine x_aload_n dX2_bestExchange_23 rfl ?_
        refine x_iload_n dX2_bestExchange_24 rfl ?_
        refine x_callVv 1 ml_X2_48 in_X2_exchange se_X2_exchange ct_X2_exchange rfl (c_exchange (d := 0) (by omega)) dX2_bestExchange_25 (by omega) rfl rfl rfl rfl (Nat.le_of_ble_eq_true rfl) (fun J0 h0 => ?_)
        obtain rfl := h0.symm
        refine x_aload_n dX2_bestExchange_28 rfl ?_
        refine x_sipush dX2_bestExchange_29 sp_1023 ?_
        refine x_callVi 1 ml_X2_45 in_X2_lineBreaks se_X2_lineBreaks ct_X2_lineBreaks rfl (c_lineBreaks (d := 1) (by decide) hh (fun p hp => by unfold swp; split; exact hL8 _ (by omega); split; exact hL8 _ (by omega); exact hL8 _ hp) (hD.ex (by omega)) hn (hle2 j (by omega))) dX2_bestExchange_32 (by omega) rfl rfl rfl rfl (Nat.le_of_ble_eq_true rfl) (fun r0 J0 h0 => ?_)
        obtain ⟨rfl, hJ0⟩ := h0
        obtain rfl := hJ0.symm
        refine x_istore (ls' := [.ref 1, .int (nI fw), .int fd, .int (nI j), .int (nI (lbr n h (swp L j)))]) dX2_bestExchange_35 rfl rfl ?_
        refine x_aload_n dX2_bestExchange_37 rfl ?_
        refine x_iload_n dX2_bestExchange_38 rfl ?_
        refine x_callVv 1 ml_X2_48 in_X2_exchange se_X2_exchange ct_X2_exchange rfl (c_exchange (d := 0) (by omega)) dX2_bestExchange_39 (by omega) rfl rfl rfl rfl (Nat.le_of_ble_eq_true rfl) (fun J0 h0 => ?_)
        obtain rfl := h0.symm
        refine x_iload dX2_bestExchange_42 rfl ?_
        refine x_iload_n dX2_bestExchange_44 rfl ?_
        rw [exI_exI]
        refine x_icmpn_ge (a := lbr n h (swp L j)) (b := fw) (by omega) (by omega) (tgt := 53) dX2_bestExchange_45 rfl (fun c2 => ?_) (fun c2 => ?_)
        ·
          refine x_iinc (v := nI (j + 1)) (ls' := [.ref 1, .int (nI fw), .int fd, .int (nI (j + 1)), .int (nI (lbr n h (swp L j)))]) dX2_bestExchange_53 rfl (inc_1 _) rfl rfl ?_
          refine x_goto (tgt := 13) dX2_bestExchange_56 rfl ?_
          rw [if_neg (by omega)] at hb
          exact ih (j + 1) fw fd _ (by omega) hfw hb
        ·
          refine x_iload dX2_bestExchange_48 rfl ?_
          refine x_istore_n (ls' := [.ref 1, .int (nI (lbr n h (swp L j))), .int fd, .int (nI j), .int (nI (lbr n h (swp L j)))]) dX2_bestExchange_50 rfl rfl ?_
          refine x_iload_n dX2_bestExchange_51 rfl ?_
          refine x_istore_n (ls' := [.ref 1, .int (nI (lbr n h (swp L j))), .int (nI j), .int (nI j), .int (nI (lbr n h (swp L j)))]) dX2_bestExchange_52 rfl rfl ?_
          refine x_iinc (v := nI (j + 1)) (ls' := [.ref 1, .int (nI (lbr n h (swp L j))), .int (nI j), .int (nI (j + 1)), .int (nI (lbr n h (swp L j)))]) dX2_bestExchange_53 rfl (inc_1 _) rfl rfl ?_
          refine x_goto (tgt := 13) dX2_bestExchange_56 rfl ?_
          rw [if_pos c2] at hb
          exact ih (j + 1) _ _ _ (by omega) (by omega) hb
  have hb0 := lbr_le n h L
  refine Cx.of [.ref 1, .null, .null, .null, .null] (by decide) rfl rfl (Nat.le_of_ble_eq_true rfl) rfl ?_
  refine x_aload_n dX2_bestExchange_0 rfl ?_
  refine x_sipush dX2_bestExchange_1 sp_1023 ?_
  refine x_callVi 1 ml_X2_45 in_X2_lineBreaks se_X2_lineBreaks ct_X2_lineBreaks rfl (c_lineBreaks (d := 1) (by decide) hh hL8 hD hn hle) dX2_bestExchange_4 (by omega) rfl rfl rfl rfl (Nat.le_of_ble_eq_true rfl) (fun r0 J0 h0 => ?_)
  obtain ⟨rfl, hJ0⟩ := h0
  obtain rfl := hJ0.symm
  refine x_istore_n (ls' := [.ref 1, .int (nI (lbr n h L)), .null, .null, .null]) dX2_bestExchange_7 rfl rfl ?_
  refine x_bipush dX2_bestExchange_8 bp_m6 ?_
  refine x_istore_n (ls' := [.ref 1, .int (nI (lbr n h L)), .int (-6), .null, .null]) dX2_bestExchange_10 rfl rfl ?_
  refine x_iconst dX2_bestExchange_11 ic_0 ?_
  refine x_istore_n (ls' := [.ref 1, .int (nI (lbr n h L)), .int (-6), .int (nI 0), .null]) dX2_bestExchange_12 rfl rfl ?_
  exact lp (n - 1) 0 _ _ _ (by omega) (by omega) rfl
end DG
