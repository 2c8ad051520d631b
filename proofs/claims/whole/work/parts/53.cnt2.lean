/-! the class's sums are the reference's counts -/
theorem pop_or {S g : Nat} (hg : g < 10) (hb : S.testBit g = false) : pop (S ||| 1 <<< g) = pop S + 1 := by
  unfold pop
  rw [popN_sum, popN_sum]
  have e1 : sumN 10 (fun i => (S.testBit i).toNat) + 1 = sumN 10 (fun i => (S.testBit i).toNat + if i = g then 1 else 0) := by
    rw [sumN_add, sumN_one (f := fun _ => 1) hg]
  rw [e1]
  apply sumN_congr
  intro i _
  rw [bit_or1]
  by_cases e : i = g
  · subst e; rw [hb]; simp
  · simp [e]
theorem msk_pop {n : Nat} (hn : n ≤ 10) : ∀ (k : Nat) {u : List Nat}, u.length = k → u.Nodup → (∀ g ∈ u, g < n) → pop (msk u) = u.length ∧ rem n (msk u) + u.length = n
  | 0, u, hk, _, _ => by
    have := List.eq_nil_of_length_eq_zero hk
    subst this
    exact ⟨by decide, rem_00 n⟩
  | k + 1, u, hk, hu, hm => by
    rcases List.eq_nil_or_concat u with rfl | ⟨v, g, rfl⟩
    · simp at hk
    · rw [List.concat_eq_append] at *
      have hd := List.nodup_append.mp hu
      have hgv : g ∉ v := fun hx => hd.2.2 g hx g (by simp) rfl
      have hgn : g < n := hm g (by simp)
      have hb : (msk v).testBit g = false := by rw [msk_bit]; exact decide_eq_false hgv
      obtain ⟨i1, i2⟩ := msk_pop hn k (u := v) (by simpa using hk) hd.1 (fun x hx => hm x (by simp [hx]))
      rw [msk_app, pop_or (by omega) hb, List.length_append, List.length_singleton]
      have := rem_or hgn hb
      omega
theorem idx_at {u v : List Nat} {x : Nat} (hx : x ∉ u) : (u ++ x :: v).idxOf x = u.length := by
  rw [List.idxOf_append, if_neg hx]; simp
theorem spl_fst {x : Nat} : ∀ (w : List Nat), x ∈ w → ∃ u v, w = u ++ x :: v ∧ x ∉ u
  | [], hx => by simp at hx
  | y :: w, hx => by
    by_cases e : y = x
    · subst e; exact ⟨[], w, rfl, by simp⟩
    · have hx2 : x ∈ w := by
        rcases List.mem_cons.mp hx with h | h
        · exact absurd h.symm e
        · exact h
      obtain ⟨u, v, e2, hu⟩ := spl_fst w hx2
      refine ⟨y :: u, v, by rw [e2]; rfl, ?_⟩
      intro hm
      rcases List.mem_cons.mp hm with h1 | h1
      · exact e h1.symm
      · exact hu h1
theorem split_idx {w : List Nat} {x : Nat} (hx : x ∈ w) : ∃ u v, w = u ++ x :: v ∧ u.length = w.idxOf x ∧ x ∉ u := by
  obtain ⟨u, v, rfl, hu⟩ := spl_fst w hx
  exact ⟨u, v, rfl, (idx_at hu).symm, hu⟩
/-- the graves as far as y -/
def fy (y : Nat) (w : List Nat) : Nat := msk (w.take (w.idxOf y + 1))
section CN
variable {n : Nat} {h a : Nat → Nat}
theorem thrY (hn : n ≤ 8) {S y : Nat} (q : List Nat → Bool) (hS : S < 2 ^ n) (hy : y < n) (hb : S.testBit y = true) : (bests n h a).countP (fun w => q (w.drop (w.idxOf y + 1)) && decide (fy y w = S)) = tN0 n h a S y * (pth n (onA n h a) (rem n S) S y).countP q := by
  have hrl := rem_le n S
  have ht := thr_count (h := h) (a := a) hn (n - rem n S) S y q (by omega) hS hy (isSt_of hb) (by omega)
  rw [show n - (n - rem n S) = rem n S by omega] at ht
  rw [← ht]
  apply countP_cg
  intro w hw
  obtain ⟨m1, m2, m3⟩ := perms_mem (bests_mem hw)
  obtain ⟨u, v, hwe, hu, hyu⟩ := split_idx (perms_full (bests_mem hw) hy)
  have hfy : fy y w = msk (u ++ [y]) := by
    unfold fy; rw [← hu, hwe, (tk rfl).2.2.1]
  have hndu : (u ++ [y]).Nodup ∧ ∀ g ∈ u ++ [y], g < n := by
    constructor
    · have := (tk (u := u) (v := v) (x := y) rfl).2.2.1
      rw [← this, ← hwe]; exact List.Sublist.nodup (List.take_sublist _ _) m2
    · intro g hg; apply m3; rw [hwe]; simp at hg ⊢; rcases hg with h1 | h1 <;> simp [h1]
  have hrm := (msk_pop (n := n) (by omega) _ rfl hndu.1 hndu.2).2
  rw [List.length_append, List.length_singleton] at hrm
  by_cases hc : n - rem n S = w.idxOf y + 1
  · unfold thr
    rw [hc]
    have : lsu (w.take (w.idxOf y + 1)) = y := by rw [← hu, hwe, (tk rfl).2.2.1]; simp [lsu]
    rw [this]
    show _ = ((decide (fy y w = S) && q (w.drop (w.idxOf y + 1))) && decide (y = y))
    rw [decide_eq_true rfl, Bool.and_true, Bool.and_comm]
  · have e1 : decide (fy y w = S) = false := by
      apply decide_eq_false
      intro e
      rw [hfy] at e; rw [e] at hrm; omega
    have e2 : thr S y (n - rem n S) q w = false := by
      cases e : thr S y (n - rem n S) q w with
      | false => rfl
      | true =>
        exfalso
        unfold thr at e
        simp only [Bool.and_eq_true, decide_eq_true_eq] at e
        cases ec : n - rem n S with
        | zero =>
          rw [ec] at e
          have h1 : msk (List.take 0 w) = 0 := by simp [msk]
          rw [h1] at e
          rw [← e.1.1, Nat.zero_testBit] at hb; cases hb
        | succ c =>
          rw [ec] at e
          obtain ⟨u', x, v', hw', hu'⟩ := split_at m1 (show c < n by omega)
          have hl := e.2
          rw [hw', (tk hu').2.2.1] at hl
          have hl : x = y := by simpa [lsu] using hl
          subst hl
          have hxu : x ∉ u' := by
            intro hx
            rw [hw'] at m2
            exact (List.nodup_append.mp m2).2.2 x hx x List.mem_cons_self rfl
          have := idx_at (v := v') hxu
          rw [← hw', hu'] at this
          omega
    rw [e1, e2, Bool.and_false]
theorem fy_lt {y : Nat} {w : List Nat} (hw : w ∈ perms n) : fy y w < 2 ^ n := msk_lt (fun g hg => (perms_mem hw).2.2 g (List.mem_of_mem_take hg))
theorem fy_bit {y x : Nat} {w : List Nat} (hw : w ∈ perms n) (hx : x < n) (hy : y < n) : (fy y w).testBit x = decide (w.idxOf x ≤ w.idxOf y) := by
  unfold fy
  rw [msk_bit]
  apply decide_eq_decide.mpr
  obtain ⟨m1, m2, m3⟩ := perms_mem hw
  obtain ⟨u, v, hwe, hu, hyu⟩ := split_idx (perms_full hw hy)
  rw [← hu, hwe, (tk rfl).2.2.1]
  constructor
  · intro hm
    rw [show u ++ y :: v = (u ++ [y]) ++ v by simp, List.idxOf_append, if_pos hm]
    have := List.idxOf_lt_length_of_mem hm
    rw [List.length_append, List.length_singleton] at this
    omega
  · intro hle
    apply Classical.byContradiction
    intro hm
    rw [show u ++ y :: v = (u ++ [y]) ++ v by simp, List.idxOf_append, if_neg hm, List.length_append, List.length_singleton] at hle
    omega
theorem fy_pop (hn : n ≤ 8) {y : Nat} {w : List Nat} (hw : w ∈ perms n) (hy : y < n) : pop (fy y w) = w.idxOf y + 1 := by
  obtain ⟨m1, m2, m3⟩ := perms_mem hw
  have hl := List.idxOf_lt_length_of_mem (perms_full hw hy)
  unfold fy
  rw [(msk_pop (n := n) (by omega) _ rfl (List.Sublist.nodup (List.take_sublist _ _) m2) (fun g hg => m3 g (List.mem_of_mem_take hg))).1, List.length_take]
  omega
theorem Wr_cnt {on : Nat → Nat → Nat} {S l : Nat} : Wr n on S l = (pth n on (rem n S) S l).countP (fun _ => true) := by
  rw [Wr, Wst_len, List.countP_true]
/-- a sum over sets, as a count of best orders -/
theorem sumS (hn : n ≤ 8) {y : Nat} {P : Nat → Bool} (hy : y < n) (q : List Nat → Bool) (f : Nat → Nat) (hf : ∀ S, S < 2 ^ n → S.testBit y = true → P S = true → f S = tN0 n h a S y * (pth n (onA n h a) (rem n S) S y).countP q) : rf (fun s S => if S.testBit y && P S then s + f S else s) 0 (2 ^ n) = (bests n h a).countP (fun w => P (fy y w) && q (w.drop (w.idxOf y + 1))) := by
  have e1 : rf (fun s S => if S.testBit y && P S then s + f S else s) 0 (2 ^ n) = rf (fun s S => s + (bests n h a).countP (fun w => (P (fy y w) && q (w.drop (w.idxOf y + 1))) && decide (fy y w = S))) 0 (2 ^ n) := by
    apply rf_congr
    intro s S hS
    cases eb : S.testBit y with
    | false =>
      rw [Bool.false_and, if_neg (by decide)]
      symm
      suffices hz : (bests n h a).countP (fun w => (P (fy y w) && q (w.drop (w.idxOf y + 1))) && decide (fy y w = S)) = 0 by rw [hz]; rfl
      apply List.countP_eq_zero.mpr
      intro w hw hc
      simp only [Bool.and_eq_true, decide_eq_true_eq] at hc
      have := fy_bit (bests_mem hw) hy hy
      rw [hc.2, eb, decide_eq_true (Nat.le_refl _)] at this
      cases this
    | true =>
      rw [Bool.true_and]
      cases eP : P S with
      | false =>
        rw [if_neg (by decide)]
        symm
        suffices hz : (bests n h a).countP (fun w => (P (fy y w) && q (w.drop (w.idxOf y + 1))) && decide (fy y w = S)) = 0 by rw [hz]; rfl
        apply List.countP_eq_zero.mpr
        intro w hw hc
        simp only [Bool.and_eq_true, decide_eq_true_eq] at hc
        rw [hc.2, eP] at hc
        cases hc.1.1
      | true =>
        rw [if_pos rfl, hf S hS eb eP, ← thrY hn q hS hy eb]
        congr 1
        apply countP_cg
        intro w _
        by_cases e : fy y w = S
        · rw [e, eP, Bool.true_and]
        · rw [decide_eq_false e, Bool.and_false, Bool.and_false]
  rw [e1, part_at]
  apply countP_cg
  intro w hw
  rw [decide_eq_true (fy_lt (bests_mem hw)), Bool.and_true]
theorem owA_eq (hn : n ≤ 8) {g p : Nat} (hg : g < n) : owA n h a g p (2 ^ n) = cAt (bests n h a) g p := by
  unfold owA cAt
  rw [sumS (n := n) (h := h) (a := a) hn (y := g) (P := fun S => decide (pop S = p + 1)) hg (fun _ => true) (fun S => tN0 n h a S g * wN n h a S g) (fun S _ _ _ => congrArg (_ * ·) Wr_cnt)]
  apply countP_cg
  intro w hw
  rw [fy_pop hn (bests_mem hw) hg, Bool.and_true]
  apply decide_eq_decide.mpr; omega
theorem owF_eq (hn : n ≤ 8) {x y : Nat} (hx : x < n) (hy : y < n) (hne : x ≠ y) : owF n h a x y (2 ^ n) = cBf (bests n h a) x y := by
  unfold owF cBf
  have e0 : rf (fun s S => if S.testBit x && S.testBit y then s + tN0 n h a S y * wN n h a S y else s) 0 (2 ^ n) = rf (fun s S => if S.testBit y && S.testBit x then s + tN0 n h a S y * wN n h a S y else s) 0 (2 ^ n) := by
    apply rf_congr; intro s S _; rw [Bool.and_comm]
  rw [e0, sumS (n := n) (h := h) (a := a) hn (y := y) (P := fun S => S.testBit x) hy (fun _ => true) (fun S => tN0 n h a S y * wN n h a S y) (fun S _ _ _ => congrArg (_ * ·) Wr_cnt)]
  apply countP_cg
  intro w hw
  rw [fy_bit (bests_mem hw) hx hy, Bool.and_true]
  apply decide_eq_decide.mpr
  have hwp := bests_mem hw
  have : w.idxOf x ≠ w.idxOf y := by
    intro e
    have h1 := List.getElem_idxOf (List.idxOf_lt_length_of_mem (perms_full hwp hx))
    have h2 := List.getElem_idxOf (List.idxOf_lt_length_of_mem (perms_full hwp hy))
    apply hne
    rw [← h1, ← h2]; simp only [e]
  omega
/-- y lies directly behind x -/
def nxw (x y : Nat) (w : List Nat) : Bool := decide ((w.drop (w.idxOf x + 1)).headD 99 = y)
theorem owN_eq (hn : n ≤ 8) {x y : Nat} (hx : x < n) (hy : y < n) : owN n h a x y (2 ^ n) = (bests n h a).countP (nxw x y) := by
  unfold owN
  have e0 : rf (fun s S => if S.testBit x && (onB n h a S x).testBit y then s + tN0 n h a S x * wN n h a (S ||| 1 <<< y) y else s) 0 (2 ^ n) = rf (fun s S => if S.testBit x && true then s + (if (onA n h a S x).testBit y then tN0 n h a S x * wN n h a (S ||| 1 <<< y) y else 0) else s) 0 (2 ^ n) := by
    apply rf_congr
    intro s S _
    cases eb : S.testBit x with
    | false => simp
    | true =>
      simp only [Bool.true_and, if_true]
      unfold onB on2
      rw [isSt_of eb, Bool.true_and]
      by_cases ht : Tr n (onA n h a) (t01 n h a) S x = 0
      · rw [decide_eq_true ht, if_pos rfl, Nat.zero_testBit, if_neg (by decide)]
        show s = s + (if _ then tN0 n h a S x * _ else 0)
        rw [show tN0 n h a S x = 0 from ht, Nat.zero_mul]; simp
      · rw [decide_eq_false ht, if_neg (show ¬ (false = true) by decide)]
        split <;> rfl
  rw [e0, sumS (n := n) (h := h) (a := a) hn (y := x) (P := fun _ => true) hx (fun v => decide (v.headD 99 = y)) (fun S => if (onA n h a S x).testBit y then tN0 n h a S x * wN n h a (S ||| 1 <<< y) y else 0)]
  · apply countP_cg
    intro w _
    rw [Bool.true_and]; rfl
  · intro S hS hb _
    cases ek : rem n S with
    | zero =>
      have : (onA n h a S x).testBit y = false := by
        cases e : (onA n h a S x).testBit y with
        | false => rfl
        | true =>
          obtain ⟨h1, h2⟩ := onA_ob e
          have := rem_or h1 h2; omega
      rw [this, if_neg (by decide)]
      have : (pth n (onA n h a) 0 S x).countP (fun v => decide (v.headD 99 = y)) = 0 := by
        apply List.countP_eq_zero.mpr
        intro v hv
        simp [pth] at hv; subst hv
        simp; omega
      rw [this, Nat.mul_zero]
    | succ k =>
      have hp := pth_hd (on := onA n h a) (k := k) (S := S) (l := x) hy (fun _ => true)
      have e2 : (pth n (onA n h a) (k + 1) S x).countP (fun v => decide (v.headD 99 = y)) = (pth n (onA n h a) (k + 1) S x).countP (fun v => decide (v.headD 99 = y) && true) := countP_cg (fun v _ => by simp)
      rw [e2, hp]
      cases e : (onA n h a S x).testBit y with
      | false => simp
      | true =>
        obtain ⟨h1, h2⟩ := onA_ob e
        have := rem_or h1 h2
        rw [if_pos rfl, if_pos rfl]; show _ * Wr n _ _ _ = _; rw [Wr_cnt, show rem n (S ||| 1 <<< y) = k by omega]
theorem nbw_bit {g q : Nat} {w : List Nat} (hn : n ≤ 8) (hw : w ∈ perms n) (hg : g < n) (hq : q < n) (hne : q ≠ g) : (nbw n w g).testBit q = (nxw g q w || nxw q g w) ∧ ¬ (nxw g q w = true ∧ nxw q g w = true) := by
  obtain ⟨m1, m2, m3⟩ := perms_mem hw
  have key : ∀ x y, x < n → y < n → (nxw x y w = true ↔ w.idxOf y = w.idxOf x + 1) := by
    intro x y hx hy
    obtain ⟨u, v, hwe, hu, hxu⟩ := split_idx (perms_full hw hx)
    unfold nxw
    rw [decide_eq_true_eq, ← hu, hwe, (tk rfl).2.2.2]
    rw [hwe] at m2
    cases v with
    | nil =>
      simp only [List.headD_nil]
      constructor
      · intro e; omega
      · intro e
        have := List.idxOf_lt_length_of_mem (perms_full hw hy)
        rw [hwe, List.length_append, List.length_singleton] at this
        omega
    | cons z v =>
      simp only [List.headD_cons]
      have hz : z ∉ u ++ [x] := by
        intro hz
        rw [show u ++ x :: z :: v = (u ++ [x]) ++ z :: v by simp] at m2
        exact (List.nodup_append.mp m2).2.2 z hz z List.mem_cons_self rfl
      have hzi := idx_at (v := v) hz
      rw [show (u ++ [x]) ++ z :: v = u ++ x :: z :: v by simp, List.length_append, List.length_singleton] at hzi
      constructor
      · intro e; subst e; exact hzi
      · intro e
        have hzm : z ∈ w := by rw [hwe]; simp
        have h1 := List.getElem_idxOf (List.idxOf_lt_length_of_mem hzm)
        have h2 := List.getElem_idxOf (List.idxOf_lt_length_of_mem (perms_full hw hy))
        rw [← h1, ← h2]
        have : w.idxOf z = w.idxOf y := by rw [hwe, hzi, e]
        simp only [this]
  have k1 := key g q hg hq
  have k2 := key q g hq hg
  have li : ∀ x, x < n → w.idxOf x < n := fun x hx => by have := List.idxOf_lt_length_of_mem (perms_full hw hx); omega
  have ge : ∀ p x, p < n → x < n → (w.getD p 0 = x ↔ p = w.idxOf x) := by
    intro p x hp hx
    have h1 := List.getElem_idxOf (List.idxOf_lt_length_of_mem (perms_full hw hx))
    have hpw : w.getD p 0 = w[p]'(by omega) := by simp [List.getD_eq_getElem?_getD, List.getElem?_eq_getElem (show p < w.length by omega)]
    rw [hpw]
    constructor
    · intro e
      exact (List.getElem_inj (List.idxOf_lt_length_of_mem (perms_full hw hx) |> fun _ => m2)).mp (by rw [e, h1])
    · intro e; subst e; exact h1
  constructor
  · rw [Bool.eq_iff_iff, Bool.or_eq_true, k1, k2]
    unfold nbw nbo
    rw [Nat.testBit_or, Bool.or_eq_true]
    have hg1 := li g hg
    have hq1 := li q hq
    constructor
    · rintro (e | e)
      · by_cases h0 : 0 < w.idxOf g
        · rw [if_pos h0, sh_bit, decide_eq_true_eq] at e
          have := (ge (w.idxOf g - 1) q (by omega) hq).mp e.symm
          right; omega
        · rw [if_neg h0] at e; simp at e
      · by_cases h0 : w.idxOf g + 1 < n
        · rw [if_pos h0, sh_bit, decide_eq_true_eq] at e
          have := (ge (w.idxOf g + 1) q (by omega) hq).mp e.symm
          left; omega
        · rw [if_neg h0] at e; simp at e
    · rintro (e | e)
      · right
        rw [if_pos (by omega), sh_bit]
        exact decide_eq_true ((ge (w.idxOf g + 1) q (by omega) hq).mpr e.symm).symm
      · left
        rw [if_pos (by omega), sh_bit]
        exact decide_eq_true ((ge (w.idxOf g - 1) q (by omega) hq).mpr (by omega)).symm
  · rintro ⟨e1, e2⟩
    have := k1.mp e1; have := k2.mp e2; omega
theorem countP_or {α : Type} {V : List α} {p q r : α → Bool} (hh : ∀ w ∈ V, r w = (p w || q w) ∧ ¬ (p w = true ∧ q w = true)) : V.countP p + V.countP q = V.countP r := by
  induction V with
  | nil => rfl
  | cons w V ih =>
    rw [List.countP_cons, List.countP_cons, List.countP_cons]
    have := ih (fun x hx => hh x (List.mem_cons_of_mem _ hx))
    obtain ⟨e1, e2⟩ := hh w List.mem_cons_self
    rw [e1]
    cases ep : p w <;> cases eq : q w
    · simp; omega
    · simp; omega
    · simp; omega
    · exact absurd ⟨ep, eq⟩ e2
theorem ow_nb (hn : n ≤ 8) {g q : Nat} (hg : g < n) (hq : q < n) (hne : q ≠ g) : owN n h a g q (2 ^ n) + owN n h a q g (2 ^ n) = (bests n h a).countP (fun w => (nbw n w g).testBit q) := by
  rw [owN_eq hn hg hq, owN_eq hn hq hg]
  exact countP_or (fun w hw => nbw_bit hn (bests_mem hw) hg hq hne)
theorem nbw_own {g q : Nat} {w : List Nat} (hw : w ∈ perms n) (hg : g < n) (hq : ¬ (q < n ∧ q ≠ g)) : (nbw n w g).testBit q = false := by
  obtain ⟨m1, m2, m3⟩ := perms_mem hw
  have hi := List.idxOf_lt_length_of_mem (perms_full hw hg)
  have ge : ∀ p, p < n → p ≠ w.idxOf g → w.getD p 0 < n ∧ w.getD p 0 ≠ g := by
    intro p hp hne
    refine ⟨getD_lt m3 m1 hp, ?_⟩
    intro e
    have := getD_ne m2 m1 hp (show w.idxOf g < n by omega) hne
    apply this
    rw [e]
    simp [List.getD_eq_getElem?_getD, List.getElem?_eq_getElem hi]
  cases e : (nbw n w g).testBit q with
  | false => rfl
  | true =>
    exfalso
    apply hq
    unfold nbw nbo at e
    rw [Nat.testBit_or, Bool.or_eq_true] at e
    rcases e with e | e
    · by_cases h0 : 0 < w.idxOf g
      · rw [if_pos h0, sh_bit, decide_eq_true_eq] at e
        rw [e]; exact ge _ (by omega) (by omega)
      · rw [if_neg h0] at e; simp at e
    · by_cases h0 : w.idxOf g + 1 < n
      · rw [if_pos h0, sh_bit, decide_eq_true_eq] at e
        rw [e]; exact ge _ h0 (by omega)
      · rw [if_neg h0] at e; simp at e
theorem bAn_bit {g q : Nat} : ∀ (V : List (List Nat)) (s : Nat), (V.foldl (fun s w => s ||| nbw n w g) s).testBit q = (s.testBit q || V.any (fun w => (nbw n w g).testBit q))
  | [], s => by simp
  | w :: V, s => by rw [List.foldl_cons, bAn_bit V, Nat.testBit_or, List.any_cons, Bool.or_assoc]
theorem bAl_bit {g q : Nat} : ∀ (V : List (List Nat)) (s : Nat), (V.foldl (fun s w => s &&& nbw n w g) s).testBit q = (s.testBit q && V.all (fun w => (nbw n w g).testBit q))
  | [], s => by simp
  | w :: V, s => by rw [List.foldl_cons, bAl_bit V, Nat.testBit_and, List.all_cons, Bool.and_assoc]
theorem nbF_bit {g t k q : Nat} : (nbF n h a g t k).testBit q = (decide (q < k) && (!decide (q = g) && decide (t ≤ owN n h a g q (2 ^ n) + owN n h a q g (2 ^ n)))) := rf_bits k q
theorem nbF_any (hn : n ≤ 8) {g : Nat} (hg : g < n) : nbF n h a g 1 n = bAn n (bests n h a) g := by
  apply Nat.eq_of_testBit_eq
  intro q
  rw [nbF_bit, bAn, bAn_bit, Nat.zero_testBit, Bool.false_or]
  by_cases hq : q < n ∧ q ≠ g
  · rw [decide_eq_true hq.1, decide_eq_false hq.2, ow_nb hn hg hq.1 hq.2, Bool.not_false, Bool.true_and, Bool.true_and, Bool.eq_iff_iff, decide_eq_true_eq, List.any_eq_true]
    exact List.countP_pos_iff
  · have e1 : (bests n h a).any (fun w => (nbw n w g).testBit q) = false := by
      rw [List.any_eq_false]; intro w hw; rw [nbw_own (bests_mem hw) hg hq]; decide
    rw [e1]
    by_cases h1 : q < n
    · have : q = g := by omega
      simp [this]
    · simp [h1]
theorem nbF_all (hn : n ≤ 8) {g : Nat} (hg : g < n) (hV : bests n h a ≠ []) : nbF n h a g (bests n h a).length n = bAl n (bests n h a) g := by
  apply Nat.eq_of_testBit_eq
  intro q
  have e0 : (bAl n (bests n h a) g).testBit q = (bests n h a).all (fun w => (nbw n w g).testBit q) := by
    cases e : bests n h a with
    | nil => exact absurd e hV
    | cons w V => simp only [bAl]; rw [bAl_bit, List.all_cons]
  rw [nbF_bit, e0]
  by_cases hq : q < n ∧ q ≠ g
  · rw [decide_eq_true hq.1, decide_eq_false hq.2, ow_nb hn hg hq.1 hq.2, Bool.not_false, Bool.true_and, Bool.true_and, Bool.eq_iff_iff, decide_eq_true_eq, List.all_eq_true]
    have hle := List.countP_le_length (p := fun w => (nbw n w g).testBit q) (l := bests n h a)
    constructor
    · intro h1; exact List.countP_eq_length.mp (by omega)
    · intro h1; rw [List.countP_eq_length.mpr h1]; exact Nat.le_refl _
  · obtain ⟨w, hw⟩ := List.exists_mem_of_ne_nil _ hV
    have e1 : (bests n h a).all (fun w => (nbw n w g).testBit q) = false := by
      rw [List.all_eq_false]; exact ⟨w, hw, by rw [nbw_own (bests_mem hw) hg hq]; decide⟩
    rw [e1]
    by_cases h1 : q < n
    · have : q = g := by omega
      simp [this]
    · simp [h1]
end CN
