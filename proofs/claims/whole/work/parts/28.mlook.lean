/-! the reference: all best orders are looked at -/
def sumF (f : Nat → Nat) (p k : Nat) : Nat := ((List.range' p k).map f).sum
theorem sumF_0 (f : Nat → Nat) (p : Nat) : sumF f p 0 = 0 := rfl
theorem sumF_s (f : Nat → Nat) (p k : Nat) : sumF f p (k + 1) = f p + sumF f (p + 1) k := by simp [sumF, List.range'_succ]
theorem sumF_le {f : Nat → Nat} {B : Nat} (hf : ∀ x, f x ≤ B) : ∀ (k p : Nat), sumF f p k ≤ k * B
  | 0, p => Nat.zero_le _
  | k + 1, p => by rw [sumF_s, Nat.succ_mul]; have := sumF_le hf k (p + 1); have := hf p; omega
/-- steps from the row to an order: pairs that lie the other way about -/
def stI (q : Nat → Nat) (n : Nat) (L : Nat → Nat) (x : Nat) : Nat := sumF (fun y => (decide (q (L y) < q (L x))).toNat) (x + 1) (n - 1 - x)
def stQ (q : Nat → Nat) (n : Nat) (L : Nat → Nat) : Nat := sumF (stI q n L) 0 n
def stp (n : Nat) (L : Nat → Nat) (w : List Nat) : Nat := stQ (fun g => w.idxOf g) n L
theorem stQ_le (q : Nat → Nat) (n : Nat) (L : Nat → Nat) : stQ q n L ≤ n * n := by
  refine sumF_le (fun x => ?_) n 0
  have := sumF_le (f := fun y => (decide (q (L y) < q (L x))).toNat) (B := 1) (fun y => Bool.toNat_le _) (n - 1 - x) (x + 1)
  unfold stI; omega
/-- the first of the nearest -/
def nrs (st : List Nat → Nat) : Option (List Nat) → List (List Nat) → Option (List Nat)
  | o, [] => o
  | none, w :: l => nrs st (some w) l
  | some v, w :: l => nrs st (some (if st w < st v then w else v)) l
theorem nrs_app (st : List Nat → Nat) : ∀ (l m : List (List Nat)) (o : Option (List Nat)), nrs st o (l ++ m) = nrs st (nrs st o l) m
  | [], _, o => by cases o <;> rfl
  | w :: l, m, none => by simp only [List.cons_append, nrs]; exact nrs_app st l m _
  | w :: l, m, some x => by simp only [List.cons_append, nrs]; exact nrs_app st l m _
theorem ext_full {n : Nat} : ∀ {k S : Nat} {w : List Nat}, w ∈ ext n k S → (ascL n S).length = k → ∀ g, g < n → S.testBit g = false → g ∈ w
  | 0, S, w, _, hk, g, h1, h2 => by
    have : g ∈ ascL n S := ascL_mem.mpr ⟨h1, h2⟩
    rw [List.length_eq_zero_iff.mp hk] at this; simp at this
  | k + 1, S, w, h, hk, g, h1, h2 => by
    rw [ext_s] at h
    obtain ⟨g0, hg, hw⟩ := List.mem_flatMap.mp h
    obtain ⟨v, hv, rfl⟩ := List.mem_map.mp hw
    by_cases e : g = g0
    · subst e; exact List.mem_cons_self
    · exact List.mem_cons_of_mem _ (ext_full hv (by have := ascL_len hg; omega) g h1 (by rw [bit_or1, h2]; simp [e]))
theorem perms_full {n : Nat} {w : List Nat} (h : w ∈ perms n) {g : Nat} (hg : g < n) : g ∈ w := ext_full h (by rw [ascL_0, List.length_range]) g hg (by simp)
/-- places and graves of an order -/
theorem perms_pos {n : Nat} {w : List Nat} (h : w ∈ perms n) : (∀ g, g < n → w.idxOf g < n ∧ w.getD (w.idxOf g) 0 = g) ∧ ∀ p, p < n → w.getD p 0 < n ∧ w.idxOf (w.getD p 0) = p := by
  obtain ⟨h1, h2, h3⟩ := perms_mem h
  have A : ∀ g, g < n → w.idxOf g < n ∧ w.getD (w.idxOf g) 0 = g := fun g hg => by
    have hm := List.idxOf_lt_length_of_mem (perms_full h hg)
    refine ⟨by omega, ?_⟩
    rw [List.getD_eq_getElem?_getD, List.getElem?_eq_getElem hm]; simp
  refine ⟨A, fun p hp => ?_⟩
  have hb := getD_lt h3 h1 hp
  refine ⟨hb, ?_⟩
  obtain ⟨a1, a2⟩ := A _ hb
  by_cases e : w.idxOf (w.getD p 0) = p
  · exact e
  · exact absurd a2 (getD_ne h2 h1 a1 hp e)
section MG
variable {I : xMem} {n d : Nat} {h a L : Nat → Nat}
def stepsQ (I : xMem) (n : Nat) (w : List Nat) (st : List Nat → Nat) (o : Option (List Nat)) (J : xMem) : Prop := J 0 15 = oI ((nrs st o [w]).map st) ∧ (∀ v, nrs st o [w] = some v → ∀ p, p < n → J 12 p = nI (v.getD p 0)) ∧ (∀ j, j ≠ 15 → J 0 j = I 0 j) ∧ ∀ c, c ≠ 0 → c ≠ 12 → J c = I c
theorem c_lookAtSteps {w : List Nat} {o : Option (List Nat)} (hd : 1 ≤ d) (hn : n ≤ 8) (hM : MSt I n h a L) (hL : ∀ p, p < n → L p < n) (hw : w ∈ perms n) (hO : OrdL I n w) (ho : I 0 15 = oI (o.map (stp n L))) (hv : ∀ v, o = some v → ∀ p, p < n → I 12 p = nI (v.getD p 0)) : Cx LM yX6_lookAtSteps mX6_lookAtSteps d [.ref 0] I (xRv (stepsQ I n w (stp n L) o)) := by
  obtain ⟨hpos, hord⟩ := perms_pos hw
  have hpl : ∀ x, x < n → Cx LM yX6_placeOf mX6_placeOf 0 [.ref 0, .int (nI x)] I (xRi (fun r J => r = nI (w.idxOf x) ∧ J = I)) := fun x hx => by
    obtain ⟨p1, p2⟩ := hpos x hx
    exact c_placeOf (o := fun p => w.getD p 0) hn p1 (by omega) (fun p hp => by have := (hord p hp).1; omega) hO p2 (fun p hp e => by have := (hord p (by omega)).2; rw [e] at this; omega)
  have hst := stQ_le (fun g => w.idxOf g) n L
  have hsq : n * n ≤ 64 := Nat.mul_le_mul hn hn
  have fin : ∀ (v2 v3 : Value), Wx LM mX6_lookAtSteps d (xRv (stepsQ I n w (stp n L) o)) 77 [.ref 0, .int (nI (stp n L w)), v2, v3] [] I := by
    intro v2 v3
    have hs : stp n L w < 2 ^ 31 := by have e : stp n L w = stQ (fun g => w.idxOf g) n L := rfl; omega
    refine x_aload_n dX6_lookAtSteps_77 rfl ?_
    refine x_getI 5 15 (v := oI (o.map (stp n L))) rfl (by decide) fl_X6_123 dX6_lookAtSteps_78 rfl rfl rfl ho ?_
    have kp : ∀ (o' : Option (List Nat)), nrs (stp n L) o [w] = some w → Wx LM mX6_lookAtSteps d (xRv (stepsQ I n w (stp n L) o)) 92 [.ref 0, .int (nI (stp n L w)), v2, v3] [] I := by
      intro o' hnr
      refine x_aload_n dX6_lookAtSteps_92 rfl ?_
      refine x_iload_n dX6_lookAtSteps_93 rfl ?_
      refine x_put 5 15 rfl (by decide) fl_X6_123 rfl rfl rfl rfl dX6_lookAtSteps_94 rfl rfl rfl ?_
      generalize hK : xup I 0 15 (nI (stp n L w)) = K
      refine x_aload_n dX6_lookAtSteps_97 rfl ?_
      refine x_aload_n dX6_lookAtSteps_98 rfl ?_
      refine x_getR 5 16 rfl (by decide) fl_X6_44 dX6_lookAtSteps_99 rfl rfl rfl ?_
      refine x_callVv 5 ml_X6_116 in_X6_keep se_X6_keep ct_X6_keep rfl (c_keep_12 (d := 0)) dX6_lookAtSteps_102 hd rfl rfl rfl rfl (Nat.le_of_ble_eq_true rfl) (fun J0 h0 => ?_)
      obtain ⟨hJ1, hJ2⟩ := h0
      refine x_vretv dX6_lookAtSteps_105 rfl ⟨?_, fun v e p hp => ?_, fun j hj => ?_, fun c e0 e12 => ?_⟩
      · rw [hJ2 0 (by decide), ← hK, xup_eq, if_pos rfl, hnr]; rfl
      · rw [hnr] at e; cases e
        rw [hJ1 p (by omega), ← hK, xup_ne (by decide)]; exact hO p hp
      · rw [hJ2 0 (by decide), ← hK, xup_eq, if_neg hj]
      · rw [hJ2 c e12, ← hK, xup_ne e0]
    cases hF : o with
    | none =>
      refine x_if_lt (tgt := 92) dX6_lookAtSteps_81 rfl (fun c => ?_) (fun c => ?_)
      ·
        exact hF ▸ kp none (by rw [hF]; rfl)
      ·
        exact absurd (show oI none < 0 by decide +kernel) c
    | some v =>
      have hs2 : stp n L v < 2 ^ 31 := by have := stQ_le (fun g => v.idxOf g) n L; have e : stp n L v = stQ (fun g => v.idxOf g) n L := rfl; omega
      refine x_if_lt (tgt := 92) dX6_lookAtSteps_81 rfl (fun c => ?_) (fun c => ?_)
      ·
        exact absurd c (nI_pos hs2)
      ·
        refine x_iload_n dX6_lookAtSteps_84 rfl ?_
        refine x_aload_n dX6_lookAtSteps_85 rfl ?_
        refine x_getI 5 15 (v := nI (stp n L v)) rfl (by decide) fl_X6_123 dX6_lookAtSteps_86 rfl rfl rfl (by rw [ho, hF]; rfl) ?_
        refine x_icmpn_ge (a := stp n L w) (b := stp n L v) (by omega) (by omega) (tgt := 105) dX6_lookAtSteps_89 rfl (fun c2 => ?_) (fun c2 => ?_)
        ·
          have e : nrs (stp n L) (some v) [w] = some v := by simp only [nrs]; rw [if_neg (by omega)]
          refine x_vretv dX6_lookAtSteps_105 rfl ⟨by rw [e, ho, hF], fun v' e' p hp => by rw [e] at e'; exact hv v' (by rw [hF]; exact e') p hp, fun _ _ => rfl, fun _ _ _ => rfl⟩
        ·
          have e : nrs (stp n L) (some v) [w] = some w := by simp only [nrs]; rw [if_pos c2]
          exact hF ▸ kp none (by rw [hF]; exact e)
  have inn : ∀ (k x y acc : Nat), y + k = n → x < n → x < y → acc + sumF (fun y => (decide (w.idxOf (L y) < w.idxOf (L x))).toNat) y k + sumF (stI (fun g => w.idxOf g) n L) (x + 1) (n - 1 - x) = stp n L w → (∀ acc v3, acc + sumF (stI (fun g => w.idxOf g) n L) (x + 1) (n - 1 - x) = stp n L w → Wx LM mX6_lookAtSteps d (xRv (stepsQ I n w (stp n L) o)) 4 [.ref 0, .int (nI acc), .int (nI (x + 1)), v3] [] I) → Wx LM mX6_lookAtSteps d (xRv (stepsQ I n w (stp n L) o)) 18 [.ref 0, .int (nI acc), .int (nI x), .int (nI y)] [] I := by
    intro k
    induction k with
    | zero =>
      intro x y acc hy hx hxy hac kk
      rw [sumF_0] at hac
      refine x_iload_n dX6_lookAtSteps_18 rfl ?_
      refine x_aload_n dX6_lookAtSteps_19 rfl ?_
      refine x_getR 5 0 rfl (by decide) fl_X6_7 dX6_lookAtSteps_20 rfl rfl rfl ?_
      refine x_iconst dX6_lookAtSteps_23 ic_0 ?_
      refine x_iald (p := 0) (v := nI n) dX6_lookAtSteps_24 rfl rfl rfl rfl (by omega) hM.1 ?_
      refine x_icmpn_ge (a := y) (b := n) (by omega) (by omega) (tgt := 71) dX6_lookAtSteps_25 rfl (fun c => ?_) (fun c => ?_)
      ·
        refine x_iinc (v := nI (x + 1)) (ls' := [.ref 0, .int (nI acc), .int (nI (x + 1)), .int (nI y)]) dX6_lookAtSteps_71 rfl (inc_1 _) rfl rfl ?_
        refine x_goto (tgt := 4) dX6_lookAtSteps_74 rfl ?_
        exact kk acc _ (by omega)
      ·
        omega
    | succ k ih =>
      intro x y acc hy hx hxy hac kk
      rw [sumF_s] at hac
      have b1 := hL x hx
      have b2 := hL y (by omega)
      have p1 := (hpos _ b1).1
      have p2 := (hpos _ b2).1
      refine x_iload_n dX6_lookAtSteps_18 rfl ?_
      refine x_aload_n dX6_lookAtSteps_19 rfl ?_
      refine x_getR 5 0 rfl (by decide) fl_X6_7 dX6_lookAtSteps_20 rfl rfl rfl ?_
      refine x_iconst dX6_lookAtSteps_23 ic_0 ?_
      refine x_iald (p := 0) (v := nI n) dX6_lookAtSteps_24 rfl rfl rfl rfl (by omega) hM.1 ?_
      refine x_icmpn_ge (a := y) (b := n) (by omega) (by omega) (tgt := 71) dX6_lookAtSteps_25 rfl (fun c => ?_) (fun c => ?_)
      ·
        omega
      ·
        refine x_iload_n dX6_lookAtSteps_28 rfl ?_
        refine x_aload_n dX6_lookAtSteps_29 rfl ?_
        refine x_aload_n dX6_lookAtSteps_30 rfl ?_
        refine x_getR 5 0 rfl (by decide) fl_X6_7 dX6_lookAtSteps_31 rfl rfl rfl ?_
        refine x_bipush dX6_lookAtSteps_34 bp_17 ?_
        refine x_iload_n dX6_lookAtSteps_36 rfl ?_
        refine x_iadd (v := nI (17 + x)) dX6_lookAtSteps_37 (nI_add _ _) ?_
        refine x_iald (p := 17 + x) (v := nI (L x)) dX6_lookAtSteps_38 rfl rfl rfl rfl (by omega) (hM.2.2.2 x (by omega)) ?_
        refine x_callVi 5 ml_X6_120 in_X6_placeOf se_X6_placeOf ct_X6_placeOf rfl (hpl _ b1) dX6_lookAtSteps_39 hd rfl rfl rfl rfl (Nat.le_of_ble_eq_true rfl) (fun r0 J0 h0 => ?_)
        obtain ⟨rfl, hJ0⟩ := h0
        obtain rfl := hJ0.symm
        refine x_aload_n dX6_lookAtSteps_42 rfl ?_
        refine x_aload_n dX6_lookAtSteps_43 rfl ?_
        refine x_getR 5 0 rfl (by decide) fl_X6_7 dX6_lookAtSteps_44 rfl rfl rfl ?_
        refine x_bipush dX6_lookAtSteps_47 bp_17 ?_
        refine x_iload_n dX6_lookAtSteps_49 rfl ?_
        refine x_iadd (v := nI (17 + y)) dX6_lookAtSteps_50 (nI_add _ _) ?_
        refine x_iald (p := 17 + y) (v := nI (L y)) dX6_lookAtSteps_51 rfl rfl rfl rfl (by omega) (hM.2.2.2 y (by omega)) ?_
        refine x_callVi 5 ml_X6_120 in_X6_placeOf se_X6_placeOf ct_X6_placeOf rfl (hpl _ b2) dX6_lookAtSteps_52 hd rfl rfl rfl rfl (Nat.le_of_ble_eq_true rfl) (fun r0 J0 h0 => ?_)
        obtain ⟨rfl, hJ0⟩ := h0
        obtain rfl := hJ0.symm
        refine x_icmpn_le (a := w.idxOf (L x)) (b := w.idxOf (L y)) (by omega) (by omega) (tgt := 62) dX6_lookAtSteps_55 rfl (fun c2 => ?_) (fun c2 => ?_)
        ·
          refine x_iconst dX6_lookAtSteps_62 ic_0 ?_
          refine x_iadd (v := nI (acc + 0)) dX6_lookAtSteps_63 (nI_add _ _) ?_
          refine x_istore_n (ls' := [.ref 0, .int (nI (acc + 0)), .int (nI x), .int (nI y)]) dX6_lookAtSteps_64 rfl rfl ?_
          refine x_iinc (v := nI (y + 1)) (ls' := [.ref 0, .int (nI (acc + 0)), .int (nI x), .int (nI (y + 1))]) dX6_lookAtSteps_65 rfl (inc_1 _) rfl rfl ?_
          refine x_goto (tgt := 18) dX6_lookAtSteps_68 rfl ?_
          rw [decide_eq_false (by omega)] at hac
          exact ih x (y + 1) _ (by omega) hx (by omega) (by simp at hac ⊢; omega) kk
        ·
          refine x_iconst dX6_lookAtSteps_58 ic_1 ?_
          refine x_goto (tgt := 63) dX6_lookAtSteps_59 rfl ?_
          refine x_iadd (v := nI (acc + 1)) dX6_lookAtSteps_63 (nI_add _ _) ?_
          refine x_istore_n (ls' := [.ref 0, .int (nI (acc + 1)), .int (nI x), .int (nI y)]) dX6_lookAtSteps_64 rfl rfl ?_
          refine x_iinc (v := nI (y + 1)) (ls' := [.ref 0, .int (nI (acc + 1)), .int (nI x), .int (nI (y + 1))]) dX6_lookAtSteps_65 rfl (inc_1 _) rfl rfl ?_
          refine x_goto (tgt := 18) dX6_lookAtSteps_68 rfl ?_
          rw [decide_eq_true c2] at hac
          exact ih x (y + 1) _ (by omega) hx (by omega) (by simp at hac ⊢; omega) kk
  have out : ∀ (k x acc : Nat) (v3 : Value), x + k = n → acc + sumF (stI (fun g => w.idxOf g) n L) x k = stp n L w → Wx LM mX6_lookAtSteps d (xRv (stepsQ I n w (stp n L) o)) 4 [.ref 0, .int (nI acc), .int (nI x), v3] [] I := by
    intro k
    induction k with
    | zero =>
      intro x acc v3 hx hac
      rw [sumF_0] at hac
      refine x_iload_n dX6_lookAtSteps_4 rfl ?_
      refine x_aload_n dX6_lookAtSteps_5 rfl ?_
      refine x_getR 5 0 rfl (by decide) fl_X6_7 dX6_lookAtSteps_6 rfl rfl rfl ?_
      refine x_iconst dX6_lookAtSteps_9 ic_0 ?_
      refine x_iald (p := 0) (v := nI n) dX6_lookAtSteps_10 rfl rfl rfl rfl (by omega) hM.1 ?_
      refine x_icmpn_ge (a := x) (b := n) (by omega) (by omega) (tgt := 77) dX6_lookAtSteps_11 rfl (fun c => ?_) (fun c => ?_)
      ·
        have e : acc = stp n L w := by omega
        subst e
        exact fin _ _
      ·
        omega
    | succ k ih =>
      intro x acc v3 hx hac
      rw [sumF_s] at hac
      refine x_iload_n dX6_lookAtSteps_4 rfl ?_
      refine x_aload_n dX6_lookAtSteps_5 rfl ?_
      refine x_getR 5 0 rfl (by decide) fl_X6_7 dX6_lookAtSteps_6 rfl rfl rfl ?_
      refine x_iconst dX6_lookAtSteps_9 ic_0 ?_
      refine x_iald (p := 0) (v := nI n) dX6_lookAtSteps_10 rfl rfl rfl rfl (by omega) hM.1 ?_
      refine x_icmpn_ge (a := x) (b := n) (by omega) (by omega) (tgt := 77) dX6_lookAtSteps_11 rfl (fun c => ?_) (fun c => ?_)
      ·
        omega
      ·
        refine x_iload_n dX6_lookAtSteps_14 rfl ?_
        refine x_iconst dX6_lookAtSteps_15 ic_1 ?_
        refine x_iadd (v := nI (x + 1)) dX6_lookAtSteps_16 (nI_add _ _) ?_
        refine x_istore_n (ls' := [.ref 0, .int (nI acc), .int (nI x), .int (nI (x + 1))]) dX6_lookAtSteps_17 rfl rfl ?_
        have ek : k = n - 1 - x := by omega
        subst ek
        exact inn (n - 1 - x) x (x + 1) acc (by omega) (by omega) (by omega) (by simp only [stI] at hac ⊢; omega) (fun acc v3 h => ih (x + 1) acc v3 (by omega) h)
  refine Cx.of [.ref 0, .null, .null, .null] (by decide) rfl rfl (Nat.le_of_ble_eq_true rfl) rfl ?_
  refine x_iconst dX6_lookAtSteps_0 ic_0 ?_
  refine x_istore_n (ls' := [.ref 0, .int (nI 0), .null, .null]) dX6_lookAtSteps_1 rfl rfl ?_
  refine x_iconst dX6_lookAtSteps_2 ic_0 ?_
  refine x_istore_n (ls' := [.ref 0, .int (nI 0), .int (nI 0), .null]) dX6_lookAtSteps_3 rfl rfl ?_
  exact out n 0 0 _ (by omega) (by rw [Nat.zero_add]; rfl)
/-- the graves beside place k -/
def nbo (n : Nat) (o : Nat → Nat) (k : Nat) : Nat := (if 0 < k then 1 <<< o (k - 1) else 0) ||| (if k + 1 < n then 1 <<< o (k + 1) else 0)
def p7 (pos : Nat → Nat) (k j g x : Nat) : Bool := decide ((pos g < k ∧ pos g < pos x) ∨ (pos g = k ∧ k < pos x ∧ pos x < j))
/-- the first loop of look, as far as place k: what was, and what came -/
def lkI (n : Nat) (o pos : Nat → Nat) (c6 c7 : Nat → Nat → Nat) (b8 b8' b9 : Nat → Nat) (I : xMem) (k j : Nat) (q : Bool) (J : xMem) : Prop :=
  (∀ g x, g < n → x < 8 → J 6 (8 * g + x) = nI (c6 g x + (decide ((x < k ∨ (q = true ∧ x = k)) ∧ pos g = x)).toNat)) ∧
  (∀ g x, g < n → x < n → J 7 (8 * g + x) = nI (c7 g x + (p7 pos k j g x).toNat)) ∧
  (∀ g, g < n → J 8 g = nI (if pos g < k ∨ (q = true ∧ pos g = k) then b8' g else b8 g)) ∧
  (∀ g, g < n → J 9 g = nI (if pos g < k ∨ (q = true ∧ pos g = k) then b9 g ||| nbo n o (pos g) else b9 g)) ∧
  ∀ c, c ≠ 6 → c ≠ 7 → c ≠ 8 → c ≠ 9 → J c = I c
theorem b2n (p q : Prop) [Decidable p] [Decidable q] (h : p ↔ q) : (decide p).toNat = (decide q).toNat := by rw [decide_eq_decide.mpr h]
theorem look_a {Q : Option Value → xMem → Prop} {o pos : Nat → Nat} {c6 c7 : Nat → Nat → Nat} {b8 b8' b9 : Nat → Nat} {m : Nat} (hn : n ≤ 8) (h0 : I 1 0 = nI n) (ho : ∀ p, p < n → o p < n ∧ pos (o p) = p) (hp : ∀ g, g < n → pos g < n ∧ o (pos g) = g) (hO : ∀ p, p < n → I 4 p = nI (o p)) (hm : I 0 6 = nI m) (hm2 : m < 2 ^ 31) (hb8 : ∀ g, g < n → b8' g = if m = 0 then nbo n o (pos g) else b8 g &&& nbo n o (pos g))
    (K : ∀ (v3 v4 v5 : Value) (J : xMem), lkI n o pos c6 c7 b8 b8' b9 I n 0 false J → Wx LM mX6_look d Q 160 [.ref 0, .int (nI n), .int (nI n), v3, v4, v5] [] J) :
    ∀ (t k : Nat) (v3 v4 v5 : Value) (J : xMem), k + t = n → lkI n o pos c6 c7 b8 b8' b9 I k 0 false J → Wx LM mX6_look d Q 9 [.ref 0, .int (nI n), .int (nI k), v3, v4, v5] [] J := by
  have inn : ∀ (t j k : Nat) (v4 : Value) (J : xMem), j + t = n → k < n → k < j → lkI n o pos c6 c7 b8 b8' b9 I k j true J → (∀ (v3 v4 v5 : Value) (J : xMem), lkI n o pos c6 c7 b8 b8' b9 I (k + 1) 0 false J → Wx LM mX6_look d Q 9 [.ref 0, .int (nI n), .int (nI (k + 1)), v3, v4, v5] [] J) → Wx LM mX6_look d Q 121 [.ref 0, .int (nI n), .int (nI k), .int (nI (o k)), v4, .int (nI j)] [] J := by
    intro t
    induction t with
    | zero =>
      intro j k v4 J hj hk hkj hJ kk
      refine x_iload dX6_look_121 rfl ?_
      refine x_iload_n dX6_look_123 rfl ?_
      refine x_icmpn_ge (a := j) (b := n) (by omega) (by omega) (tgt := 154) dX6_look_124 rfl (fun c => ?_) (fun c => ?_)
      ·
        refine x_iinc (v := nI (k + 1)) (ls' := [.ref 0, .int (nI n), .int (nI (k + 1)), .int (nI (o k)), v4, .int (nI j)]) dX6_look_154 rfl (inc_1 _) rfl rfl ?_
        refine x_goto (tgt := 9) dX6_look_157 rfl ?_
        refine kk _ _ _ J ⟨fun g x hg hx => ?_, fun g x hg hx => ?_, fun g hg => ?_, fun g hg => ?_, hJ.2.2.2.2⟩
        · rw [hJ.1 g x hg hx]; congr 2; exact b2n _ _ (by simp; omega)
        · rw [hJ.2.1 g x hg hx]; congr 2; simp only [p7]; exact b2n _ _ (by have := hp x hx; omega)
        · rw [hJ.2.2.1 g hg]; congr 1
          by_cases e : pos g < k + 1
          · rw [if_pos (by simp; omega), if_pos (by simp; omega)]
          · rw [if_neg (by simp; omega), if_neg (by simp; omega)]
        · rw [hJ.2.2.2.1 g hg]; congr 1
          by_cases e : pos g < k + 1
          · rw [if_pos (by simp; omega), if_pos (by simp; omega)]
          · rw [if_neg (by simp; omega), if_neg (by simp; omega)]
      ·
        omega
    | succ t ih =>
      intro j k v4 J hj hk hkj hJ kk
      have ok := ho k hk
      have oj := ho j (by omega)
      have J4 : J 4 j = nI (o j) := by rw [hJ.2.2.2.2 4 (by decide) (by decide) (by decide) (by decide)]; exact hO j (by omega)
      refine x_iload dX6_look_121 rfl ?_
      refine x_iload_n dX6_look_123 rfl ?_
      refine x_icmpn_ge (a := j) (b := n) (by omega) (by omega) (tgt := 154) dX6_look_124 rfl (fun c => ?_) (fun c => ?_)
      ·
        omega
      ·
        refine x_aload_n dX6_look_127 rfl ?_
        refine x_getR 5 10 rfl (by decide) fl_X6_29 dX6_look_128 rfl rfl rfl ?_
        refine x_bipush dX6_look_131 bp_8 ?_
        refine x_iload_n dX6_look_133 rfl ?_
        refine x_imul (v := nI (8 * (o k))) dX6_look_134 (pk_mul _ _) ?_
        refine x_aload_n dX6_look_135 rfl ?_
        refine x_getR 5 3 rfl (by decide) fl_X6_20 dX6_look_136 rfl rfl rfl ?_
        refine x_iload dX6_look_139 rfl ?_
        refine x_iald (p := j) (v := nI (o j)) dX6_look_141 rfl rfl rfl rfl (by omega) J4 ?_
        refine x_iadd (v := nI ((8 * (o k)) + (o j))) dX6_look_142 (nI_add _ _) ?_
        refine x_dup2 dX6_look_143 rfl rfl ?_
        refine x_iald (p := (8 * (o k)) + (o j)) (v := nI (c7 (o k) (o j) + (p7 pos k j (o k) (o j)).toNat)) dX6_look_144 rfl rfl rfl rfl (by omega) (hJ.2.1 _ _ ok.1 oj.1) ?_
        refine x_iconst dX6_look_145 ic_1 ?_
        refine x_iadd (v := nI ((c7 (o k) (o j) + (p7 pos k j (o k) (o j)).toNat) + 1)) dX6_look_146 (nI_add _ _) ?_
        refine x_iast (p := (8 * (o k)) + (o j)) dX6_look_147 rfl rfl rfl rfl (by omega) ?_
        generalize hK1 : xup J 7 ((8 * (o k)) + (o j)) (nI ((c7 (o k) (o j) + (p7 pos k j (o k) (o j)).toNat) + 1)) = K1
        refine x_iinc (v := nI (j + 1)) (ls' := [.ref 0, .int (nI n), .int (nI k), .int (nI (o k)), v4, .int (nI (j + 1))]) dX6_look_148 rfl (inc_1 _) rfl rfl ?_
        refine x_goto (tgt := 121) dX6_look_151 rfl ?_
        refine ih (j + 1) k _ K1 (by omega) hk (by omega) ⟨fun g x hg hx => ?_, fun g x hg hx => ?_, fun g hg => ?_, fun g hg => ?_, fun c e6 e7 e8 e9 => ?_⟩ kk
        · rw [← hK1, xup_ne (by decide)]; exact hJ.1 g x hg hx
        · rw [← hK1, xup_eq]
          by_cases e : 8 * g + x = 8 * o k + o j
          · have e1 : g = o k := by omega
            have e2 : x = o j := by omega
            subst e1; subst e2
            rw [if_pos rfl]
            congr 1
            have f1 : p7 pos k j (o k) (o j) = false := decide_eq_false (by rw [ok.2, oj.2]; omega)
            have f2 : p7 pos k (j + 1) (o k) (o j) = true := decide_eq_true (by rw [ok.2, oj.2]; omega)
            rw [f1, f2]; rfl
          · rw [if_neg e, hJ.2.1 g x hg hx]
            congr 2
            simp only [p7]
            have pg := hp g hg
            have px := hp x hx
            exact b2n _ _ ⟨fun h => by omega, fun h => by
              rcases h with h | ⟨h1, h2, h3⟩
              · exact Or.inl h
              · refine Or.inr ⟨h1, h2, ?_⟩
                by_cases e3 : pos x = j
                · exfalso; apply e; rw [← pg.2, ← px.2, h1, e3]
                · omega⟩
        · rw [← hK1, xup_ne (by decide)]; exact hJ.2.2.1 g hg
        · rw [← hK1, xup_ne (by decide)]; exact hJ.2.2.2.1 g hg
        · rw [← hK1, xup_ne e7]; exact hJ.2.2.2.2 c e6 e7 e8 e9
  intro t
  induction t with
  | zero =>
    intro k v3 v4 v5 J hk hJ
    have e : k = n := by omega
    subst e
    refine x_iload_n dX6_look_9 rfl ?_
    refine x_iload_n dX6_look_10 rfl ?_
    refine x_icmpn_ge (a := k) (b := k) (by omega) (by omega) (tgt := 160) dX6_look_11 rfl (fun c => ?_) (fun c => ?_)
    ·
      exact K _ _ _ J hJ
    ·
      omega
  | succ t ih =>
    intro k v3 v4 v5 J hk hJ
    have ok := ho k (by omega)
    have fr := hJ.2.2.2.2
    have J4 : ∀ p, p < n → J 4 p = nI (o p) := fun p hp => by rw [fr 4 (by decide) (by decide) (by decide) (by decide)]; exact hO p hp
    have J6 : J 0 6 = nI m := by rw [fr 0 (by decide) (by decide) (by decide) (by decide)]; exact hm
    -- behind the set of neighbours
    have tail : ∀ (J5 : Value), Wx LM mX6_look d Q 61 [.ref 0, .int (nI n), .int (nI k), .int (nI (o k)), v4, v5] [.int (nI (nbo n o k))] J := by
      intro _
      have stx : ∀ (x : Nat), x = b8' (o k) → Wx LM mX6_look d Q 89 [.ref 0, .int (nI n), .int (nI k), .int (nI (o k)), .int (nI (nbo n o k)), v5] [.int (nI x), .int (nI (o k)), .ref 8] J := by
        intro x ex
        refine x_iast (p := o k) dX6_look_89 rfl rfl rfl rfl (by omega) ?_
        generalize hK1 : xup J 8 (o k) (nI x) = K1
        refine x_aload_n dX6_look_90 rfl ?_
        refine x_getR 5 12 rfl (by decide) fl_X6_35 dX6_look_91 rfl rfl rfl ?_
        refine x_iload_n dX6_look_94 rfl ?_
        refine x_dup2 dX6_look_95 rfl rfl ?_
        refine x_iald (p := o k) (v := nI (b9 (o k))) dX6_look_96 rfl rfl rfl rfl (by omega) (by rw [← hK1, xup_ne (by decide), hJ.2.2.2.1 _ ok.1, if_neg (by rw [ok.2]; simp)]) ?_
        refine x_iload dX6_look_97 rfl ?_
        refine x_ior (v := nI ((b9 (o k)) ||| (nbo n o k))) dX6_look_99 (nI_or _ _) ?_
        refine x_iast (p := o k) dX6_look_100 rfl rfl rfl rfl (by omega) ?_
        generalize hK2 : xup K1 9 (o k) (nI ((b9 (o k)) ||| (nbo n o k))) = K2
        refine x_aload_n dX6_look_101 rfl ?_
        refine x_getR 5 9 rfl (by decide) fl_X6_26 dX6_look_102 rfl rfl rfl ?_
        refine x_bipush dX6_look_105 bp_8 ?_
        refine x_iload_n dX6_look_107 rfl ?_
        refine x_imul (v := nI (8 * (o k))) dX6_look_108 (pk_mul _ _) ?_
        refine x_iload_n dX6_look_109 rfl ?_
        refine x_iadd (v := nI ((8 * (o k)) + k)) dX6_look_110 (nI_add _ _) ?_
        refine x_dup2 dX6_look_111 rfl rfl ?_
        refine x_iald (p := (8 * (o k)) + k) (v := nI (c6 (o k) k)) dX6_look_112 rfl rfl rfl rfl (by omega) (by rw [← hK2, xup_ne (by decide), ← hK1, xup_ne (by decide), hJ.1 _ _ ok.1 (by omega), decide_eq_false (by simp)]; rfl) ?_
        refine x_iconst dX6_look_113 ic_1 ?_
        refine x_iadd (v := nI ((c6 (o k) k) + 1)) dX6_look_114 (nI_add _ _) ?_
        refine x_iast (p := (8 * (o k)) + k) dX6_look_115 rfl rfl rfl rfl (by omega) ?_
        generalize hK3 : xup K2 6 ((8 * (o k)) + k) (nI ((c6 (o k) k) + 1)) = K3
        refine x_iload_n dX6_look_116 rfl ?_
        refine x_iconst dX6_look_117 ic_1 ?_
        refine x_iadd (v := nI (k + 1)) dX6_look_118 (nI_add _ _) ?_
        refine x_istore (ls' := [.ref 0, .int (nI n), .int (nI k), .int (nI (o k)), .int (nI (nbo n o k)), .int (nI (k + 1))]) dX6_look_119 rfl rfl ?_
        refine inn (n - (k + 1)) (k + 1) k _ K3 (by omega) (by omega) (by omega) ⟨fun g x hg hx => ?_, fun g x hg hx => ?_, fun g hg => ?_, fun g hg => ?_, fun c e6 e7 e8 e9 => ?_⟩ (fun v3 v4 v5 J h => ih (k + 1) v3 v4 v5 J (by omega) h)
        · rw [← hK3, xup_eq]
          have pg := hp g hg
          by_cases e : 8 * g + x = 8 * o k + k
          · have e1 : g = o k := by omega
            have e2 : x = k := by omega
            subst e1; subst e2
            rw [if_pos rfl, decide_eq_true (by simp [ok.2])]; rfl
          · rw [if_neg e, ← hK2, xup_ne (by decide), ← hK1, xup_ne (by decide), hJ.1 g x hg hx]
            congr 2
            exact b2n _ _ ⟨fun h => by simp at h ⊢; omega, fun h => by
              simp at h ⊢
              refine ⟨?_, h.2⟩
              rcases h.1 with h1 | h1
              · exact h1
              · exfalso; apply e; rw [← pg.2, h.2, h1]⟩
        · rw [← hK3, xup_ne (by decide), ← hK2, xup_ne (by decide), ← hK1, xup_ne (by decide), hJ.2.1 g x hg hx]
          congr 2
          simp only [p7]
          exact b2n _ _ (by omega)
        · rw [← hK3, xup_ne (by decide), ← hK2, xup_ne (by decide), ← hK1, xup_eq]
          have pg := hp g hg
          by_cases e : g = o k
          · subst e; rw [if_pos rfl, if_pos (by simp [ok.2]), ex]
          · rw [if_neg e, hJ.2.2.1 g hg]
            congr 1
            have : pos g ≠ k := fun h => e (by rw [← pg.2, h])
            by_cases e2 : pos g < k
            · rw [if_pos (Or.inl e2), if_pos (Or.inl e2)]
            · rw [if_neg (by simp; omega), if_neg (by simp; omega)]
        · rw [← hK3, xup_ne (by decide), ← hK2, xup_eq]
          have pg := hp g hg
          by_cases e : g = o k
          · subst e; rw [if_pos rfl, if_pos (by simp [ok.2]), ok.2]
          · rw [if_neg e, ← hK1, xup_ne (by decide), hJ.2.2.2.1 g hg]
            congr 1
            have : pos g ≠ k := fun h => e (by rw [← pg.2, h])
            by_cases e2 : pos g < k
            · rw [if_pos (Or.inl e2), if_pos (Or.inl e2)]
            · rw [if_neg (by simp; omega), if_neg (by simp; omega)]
        · rw [← hK3, xup_ne e6, ← hK2, xup_ne e9, ← hK1, xup_ne e8]; exact fr c e6 e7 e8 e9
      refine x_istore (ls' := [.ref 0, .int (nI n), .int (nI k), .int (nI (o k)), .int (nI (nbo n o k)), v5]) dX6_look_61 rfl rfl ?_
      refine x_aload_n dX6_look_63 rfl ?_
      refine x_getR 5 11 rfl (by decide) fl_X6_32 dX6_look_64 rfl rfl rfl ?_
      refine x_iload_n dX6_look_67 rfl ?_
      refine x_aload_n dX6_look_68 rfl ?_
      refine x_getI 5 6 (v := nI m) rfl (by decide) fl_X6_107 dX6_look_69 rfl rfl rfl J6 ?_
      refine x_ifn_ne (a := m) (by omega) (tgt := 80) dX6_look_72 rfl (fun c => ?_) (fun c => ?_)
      ·
        refine x_aload_n dX6_look_80 rfl ?_
        refine x_getR 5 11 rfl (by decide) fl_X6_32 dX6_look_81 rfl rfl rfl ?_
        refine x_iload_n dX6_look_84 rfl ?_
        refine x_iald (p := o k) (v := nI (b8 (o k))) dX6_look_85 rfl rfl rfl rfl (by omega) (by rw [hJ.2.2.1 _ ok.1, if_neg (by rw [ok.2]; simp)]) ?_
        refine x_iload dX6_look_86 rfl ?_
        refine x_iand (v := nI ((b8 (o k)) &&& (nbo n o k))) dX6_look_88 (nI_and _ _) ?_
        exact stx _ (by rw [hb8 _ ok.1, if_neg c, ok.2])
      ·
        refine x_iload dX6_look_75 rfl ?_
        refine x_goto (tgt := 89) dX6_look_77 rfl ?_
        exact stx _ (by rw [hb8 _ ok.1, if_pos c, ok.2])
    refine x_iload_n dX6_look_9 rfl ?_
    refine x_iload_n dX6_look_10 rfl ?_
    refine x_icmpn_ge (a := k) (b := n) (by omega) (by omega) (tgt := 160) dX6_look_11 rfl (fun c => ?_) (fun c => ?_)
    ·
      omega
    ·
      refine x_aload_n dX6_look_14 rfl ?_
      refine x_getR 5 3 rfl (by decide) fl_X6_20 dX6_look_15 rfl rfl rfl ?_
      refine x_iload_n dX6_look_18 rfl ?_
      refine x_iald (p := k) (v := nI (o k)) dX6_look_19 rfl rfl rfl rfl (by omega) (J4 k (by omega)) ?_
      refine x_istore_n (ls' := [.ref 0, .int (nI n), .int (nI k), .int (nI (o k)), v4, v5]) dX6_look_20 rfl rfl ?_
      refine x_iload_n dX6_look_21 rfl ?_
      refine x_ifn_le (a := k) (by omega) (tgt := 38) dX6_look_22 rfl (fun c2 => ?_) (fun c2 => ?_)
      ·
        refine x_iconst dX6_look_38 ic_0 ?_
        refine x_iload_n dX6_look_39 rfl ?_
        refine x_iload_n dX6_look_40 rfl ?_
        refine x_iconst dX6_look_41 ic_1 ?_
        refine x_isub (v := nI (n - 1)) dX6_look_42 (pk_sub (by omega)) ?_
        refine x_icmpn_ge (a := k) (b := n - 1) (by omega) (by omega) (tgt := 59) dX6_look_43 rfl (fun c3 => ?_) (fun c3 => ?_)
        ·
          refine x_iconst dX6_look_59 ic_0 ?_
          refine x_ior (v := nI (0 ||| 0)) dX6_look_60 (nI_or _ _) ?_
          have e : nbo n o k = 0 ||| 0 := by rw [nbo, if_neg (by omega), if_neg (by omega)]
          rw [← e]
          exact tail v4
        ·
          refine x_iconst dX6_look_46 ic_1 ?_
          refine x_aload_n dX6_look_47 rfl ?_
          refine x_getR 5 3 rfl (by decide) fl_X6_20 dX6_look_48 rfl rfl rfl ?_
          refine x_iload_n dX6_look_51 rfl ?_
          refine x_iconst dX6_look_52 ic_1 ?_
          refine x_iadd (v := nI (k + 1)) dX6_look_53 (nI_add _ _) ?_
          refine x_iald (p := k + 1) (v := nI (o (k + 1))) dX6_look_54 rfl rfl rfl rfl (by omega) (J4 (k + 1) (by omega)) ?_
          refine x_ishl (v := nI (1 <<< (o (k + 1)))) dX6_look_55 (nI_shl _ (by have := (ho (k + 1) (by omega)).1; omega)) ?_
          refine x_goto (tgt := 60) dX6_look_56 rfl ?_
          refine x_ior (v := nI (0 ||| (1 <<< (o (k + 1))))) dX6_look_60 (nI_or _ _) ?_
          have e : nbo n o k = 0 ||| 1 <<< o (k + 1) := by rw [nbo, if_neg (by omega), if_pos (by omega)]
          rw [← e]
          exact tail v4
      ·
        refine x_iconst dX6_look_25 ic_1 ?_
        refine x_aload_n dX6_look_26 rfl ?_
        refine x_getR 5 3 rfl (by decide) fl_X6_20 dX6_look_27 rfl rfl rfl ?_
        refine x_iload_n dX6_look_30 rfl ?_
        refine x_iconst dX6_look_31 ic_1 ?_
        refine x_isub (v := nI (k - 1)) dX6_look_32 (pk_sub (by omega)) ?_
        refine x_iald (p := k - 1) (v := nI (o (k - 1))) dX6_look_33 rfl rfl rfl rfl (by omega) (J4 (k - 1) (by omega)) ?_
        refine x_ishl (v := nI (1 <<< (o (k - 1)))) dX6_look_34 (nI_shl _ (by have := (ho (k - 1) (by omega)).1; omega)) ?_
        refine x_goto (tgt := 39) dX6_look_35 rfl ?_
        refine x_iload_n dX6_look_39 rfl ?_
        refine x_iload_n dX6_look_40 rfl ?_
        refine x_iconst dX6_look_41 ic_1 ?_
        refine x_isub (v := nI (n - 1)) dX6_look_42 (pk_sub (by omega)) ?_
        refine x_icmpn_ge (a := k) (b := n - 1) (by omega) (by omega) (tgt := 59) dX6_look_43 rfl (fun c3 => ?_) (fun c3 => ?_)
        ·
          refine x_iconst dX6_look_59 ic_0 ?_
          refine x_ior (v := nI ((1 <<< (o (k - 1))) ||| 0)) dX6_look_60 (nI_or _ _) ?_
          have e : nbo n o k = 1 <<< o (k - 1) ||| 0 := by rw [nbo, if_pos c2, if_neg (by omega)]
          rw [← e]
          exact tail v4
        ·
          refine x_iconst dX6_look_46 ic_1 ?_
          refine x_aload_n dX6_look_47 rfl ?_
          refine x_getR 5 3 rfl (by decide) fl_X6_20 dX6_look_48 rfl rfl rfl ?_
          refine x_iload_n dX6_look_51 rfl ?_
          refine x_iconst dX6_look_52 ic_1 ?_
          refine x_iadd (v := nI (k + 1)) dX6_look_53 (nI_add _ _) ?_
          refine x_iald (p := k + 1) (v := nI (o (k + 1))) dX6_look_54 rfl rfl rfl rfl (by omega) (J4 (k + 1) (by omega)) ?_
          refine x_ishl (v := nI (1 <<< (o (k + 1)))) dX6_look_55 (nI_shl _ (by have := (ho (k + 1) (by omega)).1; omega)) ?_
          refine x_goto (tgt := 60) dX6_look_56 rfl ?_
          refine x_ior (v := nI ((1 <<< (o (k - 1))) ||| (1 <<< (o (k + 1))))) dX6_look_60 (nI_or _ _) ?_
          have e : nbo n o k = 1 <<< o (k - 1) ||| 1 <<< o (k + 1) := by rw [nbo, if_pos c2, if_pos (by omega)]
          rw [← e]
          exact tail v4
end MG
