/-! how many best orders go through a state -/
def msk (u : List Nat) : Nat := u.foldl (fun S g => S ||| 1 <<< g) 0
theorem msk_app (u : List Nat) (g : Nat) : msk (u ++ [g]) = msk u ||| 1 <<< g := by simp [msk]
theorem mskF_bit : ∀ (u : List Nat) (S i : Nat), (u.foldl (fun S g => S ||| 1 <<< g) S).testBit i = (S.testBit i || decide (i ∈ u))
  | [], S, i => by simp
  | g :: u, S, i => by
    rw [List.foldl_cons, mskF_bit u, bit_or1]
    cases S.testBit i <;> simp
theorem msk_bit (u : List Nat) (i : Nat) : (msk u).testBit i = decide (i ∈ u) := by
  unfold msk; rw [mskF_bit]; simp
theorem msk_lt {n : Nat} {u : List Nat} (h : ∀ g ∈ u, g < n) : msk u < 2 ^ n := by
  apply Nat.lt_pow_two_of_testBit
  intro i hi
  rw [msk_bit]
  apply decide_eq_false
  intro hm; have := h i hm; omega
def lsu (u : List Nat) : Nat := u.getLastD 0
theorem isSt_msk (u : List Nat) : isSt (msk u) (lsu u) = true := by
  rcases List.eq_nil_or_concat u with rfl | ⟨v, g, rfl⟩
  · rfl
  · rw [List.concat_eq_append, msk_app]
    have : lsu (v ++ [g]) = g := by simp [lsu]
    rw [this]; exact isSt_or _ _
theorem part_at {α : Type} (V : List α) (p : α → Bool) (φ : α → Nat) : ∀ n, rf (fun s l => s + V.countP (fun w => p w && decide (φ w = l))) 0 n = V.countP (fun w => p w && decide (φ w < n))
  | 0 => by
    rw [rf_0]; symm; apply List.countP_eq_zero.mpr; intro w _; simp
  | n + 1 => by
    rw [rf_s, part_at V p φ n]
    induction V with
    | nil => rfl
    | cons w V ih =>
      rw [List.countP_cons, List.countP_cons, List.countP_cons]
      have : (if (p w && decide (φ w < n)) = true then 1 else 0) + (if (p w && decide (φ w = n)) = true then 1 else 0) = (if (p w && decide (φ w < n + 1)) = true then 1 else 0) := by
        cases p w with
        | false => simp
        | true =>
          simp only [Bool.true_and, decide_eq_true_eq]
          by_cases h1 : φ w < n
          · rw [if_pos h1, if_neg (by omega), if_pos (by omega)]
          · by_cases h2 : φ w = n
            · rw [if_neg h1, if_pos h2, if_pos (by omega)]
            · rw [if_neg h1, if_neg h2, if_neg (by omega)]
      omega
theorem countP_cg {α : Type} {V : List α} {p q : α → Bool} (h : ∀ w ∈ V, p w = q w) : V.countP p = V.countP q := List.countP_congr (fun w hw => by rw [h w hw])
theorem split_at {w : List Nat} {n c : Nat} (hl : w.length = n) (hc : c < n) : ∃ u x v, w = u ++ x :: v ∧ u.length = c := by
  refine ⟨w.take c, w[c]'(by omega), w.drop (c + 1), ?_, by rw [List.length_take]; omega⟩
  rw [← List.drop_eq_getElem_cons (by omega), List.take_append_drop]
theorem tk {u v : List Nat} {x c : Nat} (h : u.length = c) : (u ++ x :: v).take c = u ∧ (u ++ x :: v).drop c = x :: v ∧ (u ++ x :: v).take (c + 1) = u ++ [x] ∧ (u ++ x :: v).drop (c + 1) = v := by
  subst h
  refine ⟨by simp, by simp, ?_, ?_⟩
  · rw [List.take_append]; simp [List.take_of_length_le]
  · rw [List.drop_append]; simp [List.drop_of_length_le]
theorem pth_hd {n : Nat} {on : Nat → Nat → Nat} {k S l g : Nat} (hg : g < n) (q : List Nat → Bool) : (pth n on (k + 1) S l).countP (fun v => decide (v.headD 99 = g) && q v.tail) = if (on S l).testBit g then (pth n on k (S ||| 1 <<< g) g).countP q else 0 := by
  rw [pth_s]
  have key : ∀ j, j ≤ n → (blk n on k S l j).countP (fun v => decide (v.headD 99 = g) && q v.tail) = if g < j then (if (on S l).testBit g then (pth n on k (S ||| 1 <<< g) g).countP q else 0) else 0 := by
    intro j
    induction j with
    | zero => intro _; rfl
    | succ j ih =>
      intro hj
      rw [blk_s, List.countP_append, ih (by omega)]
      have e : (if (on S l).testBit j = true then (pth n on k (S ||| 1 <<< j) j).map (j :: ·) else []).countP (fun v => decide (v.headD 99 = g) && q v.tail) = if j = g then (if (on S l).testBit g then (pth n on k (S ||| 1 <<< g) g).countP q else 0) else 0 := by
        by_cases e1 : j = g
        · subst e1
          rw [if_pos rfl]
          split
          · rw [List.countP_map]
            apply countP_cg
            intro w _
            simp
          · rfl
        · rw [if_neg e1]
          split
          · rw [List.countP_map]
            apply List.countP_eq_zero.mpr
            intro w _
            simp [e1]
          · rfl
      rw [e]
      generalize (if (on S l).testBit g = true then (pth n on k (S ||| 1 <<< g) g).countP q else 0) = X
      by_cases h1 : g < j
      · rw [if_pos h1, if_neg (show ¬ j = g by omega), if_pos (show g < j + 1 by omega)]; omega
      · by_cases h2 : j = g
        · rw [if_neg h1, if_pos h2, if_pos (show g < j + 1 by omega)]; omega
        · rw [if_neg h1, if_neg h2, if_neg (show ¬ g < j + 1 by omega)]
  rw [key n (Nat.le_refl _), if_pos hg]
theorem rf_mul {p : Nat → Bool} {f : Nat → Nat} (x : Nat) : ∀ k, rf (fun s q => s + (if p q then f q * x else 0)) 0 k = rf (fun s q => if p q then s + f q else s) 0 k * x
  | 0 => by simp [rf_0]
  | k + 1 => by
    rw [rf_s, rf_s, rf_mul x k]
    cases p k with
    | true => simp only [if_true]; rw [Nat.add_mul]
    | false => simp
section CN
variable {n : Nat} {h a : Nat → Nat}
theorem bests_mem {w : List Nat} (hw : w ∈ bests n h a) : w ∈ perms n := (List.mem_filter.mp hw).1
/-- through (S, l), and on by q -/
def thr (S l c : Nat) (q : List Nat → Bool) (w : List Nat) : Bool := (decide (msk (w.take c) = S) && q (w.drop c)) && decide (lsu (w.take c) = l)
theorem thr_count (hn : n ≤ 8) : ∀ (c S l : Nat) (q : List Nat → Bool), c ≤ n → S < 2 ^ n → l < n → isSt S l = true → rem n S + c = n → (bests n h a).countP (thr S l c q) = tN0 n h a S l * (pth n (onA n h a) (n - c) S l).countP q
  | 0, S, l, q, _, hS, hl, hst, hr => by
    have hS0 : S = 0 := by
      apply Nat.eq_of_testBit_eq
      intro i
      rw [Nat.zero_testBit]
      by_cases hi : i < n
      · cases e : S.testBit i with
        | false => rfl
        | true =>
          exfalso
          have h1 : (ascL n S).length < (List.range n).length := by
            apply List.length_filter_lt_length_iff_exists.mpr
            exact ⟨i, List.mem_range.mpr hi, by simp [e]⟩
          rw [List.length_range] at h1
          have : rem n S = (ascL n S).length := rfl
          omega
      · exact Nat.testBit_lt_two_pow (Nat.lt_of_lt_of_le hS (Nat.pow_le_pow_right (by decide) (by omega)))
    subst hS0
    have hl0 : l = 0 := by simpa [isSt] using hst
    subst hl0
    show _ = Tr n (onA n h a) (t01 n h a) 0 0 * _
    rw [Tr_0, Nat.sub_zero, ← bests_pth hn]
    have e1 : (bests n h a).countP (thr 0 0 0 q) = (bests n h a).countP q := countP_cg (fun w _ => by simp [thr, msk, lsu])
    rw [e1]
    unfold t01
    by_cases ht : 0 < tot n h a
    · rw [if_pos ht, Nat.one_mul]
    · rw [if_neg ht, Nat.zero_mul]
      have : bests n h a = [] := by rw [tot_len hn] at ht; exact List.eq_nil_of_length_eq_zero (by omega)
      rw [this]; rfl
  | c + 1, S', g, q, hc, hS', hg, hst, hr => by
    have hne : S' ≠ 0 := by
      intro e; subst e; rw [rem_00] at hr; omega
    have hb : S'.testBit g = true := by unfold isSt at hst; rwa [if_neg hne] at hst
    have hb0 : (nd S' (1 <<< g)).testBit g = false := nd_g
    have hor : nd S' (1 <<< g) ||| 1 <<< g = S' := or_nd hb
    have hSlt : nd S' (1 <<< g) < 2 ^ n := Nat.lt_trans (nd_lt hb) hS'
    have hrem : rem n (nd S' (1 <<< g)) + c = n := by
      have := rem_or hg hb0; rw [hor] at this; omega
    -- the condition, one step earlier
    have e1 : (bests n h a).countP (thr S' g (c + 1) q) = (bests n h a).countP (fun w => (decide (msk (w.take c) = nd S' (1 <<< g)) && (decide ((w.drop c).headD 99 = g) && q (w.drop c).tail)) && decide (lsu (w.take c) < n)) := by
      apply countP_cg
      intro w hw
      obtain ⟨m1, m2, m3⟩ := perms_mem (bests_mem hw)
      obtain ⟨u, x, v, rfl, hu⟩ := split_at m1 (show c < n by omega)
      obtain ⟨t1, t2, t3, t4⟩ := tk (x := x) (v := v) hu
      unfold thr
      rw [t1, t2, t3, t4, msk_app, List.headD_cons, List.tail_cons]
      have hx : x ∉ u := by
        intro hx
        have := List.nodup_append.mp m2
        exact this.2.2 x hx x List.mem_cons_self rfl
      have hlu : lsu u < n := by
        rcases List.eq_nil_or_concat u with rfl | ⟨v', g', rfl⟩
        · show 0 < n; omega
        · have : lsu (v'.concat g') = g' := by simp [lsu]
          rw [this]; apply m3; simp
      have hla : lsu (u ++ [x]) = x := by simp [lsu]
      rw [hla, decide_eq_true hlu, Bool.and_true]
      by_cases hxg : x = g
      · subst hxg
        have : (msk u ||| 1 <<< x = S') ↔ msk u = nd S' (1 <<< x) := by
          constructor
          · intro e; rw [← e, nd_or (by rw [msk_bit]; exact decide_eq_false hx)]
          · intro e; rw [e, hor]
        have e3 : decide (msk u ||| 1 <<< x = S') = decide (msk u = nd S' (1 <<< x)) := decide_eq_decide.mpr this
        rw [e3]
        simp
      · simp [hxg]
    rw [e1, ← part_at (bests n h a) (fun w => decide (msk (w.take c) = nd S' (1 <<< g)) && (decide ((w.drop c).headD 99 = g) && q (w.drop c).tail)) (fun w => lsu (w.take c)) n]
    have e2 : rf (fun s l => s + (bests n h a).countP (fun w => (decide (msk (w.take c) = nd S' (1 <<< g)) && (decide ((w.drop c).headD 99 = g) && q (w.drop c).tail)) && decide (lsu (w.take c) = l))) 0 n = rf (fun s l => s + (if isSt (nd S' (1 <<< g)) l && (onA n h a (nd S' (1 <<< g)) l).testBit g then tN0 n h a (nd S' (1 <<< g)) l * (pth n (onA n h a) (n - (c + 1)) S' g).countP q else 0)) 0 n := by
      apply rf_congr
      intro s l hl
      congr 1
      cases e : isSt (nd S' (1 <<< g)) l with
      | false =>
        rw [Bool.false_and, if_neg (by decide)]
        apply List.countP_eq_zero.mpr
        intro w _ hw
        simp only [Bool.and_eq_true, decide_eq_true_eq] at hw
        have := isSt_msk (w.take c)
        rw [hw.1.1, hw.2, e] at this
        cases this
      | true =>
        have ih := thr_count hn c (nd S' (1 <<< g)) l (fun v => decide (v.headD 99 = g) && q v.tail) (by omega) hSlt hl e hrem
        rw [Bool.true_and]
        refine Eq.trans ih ?_
        rw [show n - c = (n - (c + 1)) + 1 by omega, pth_hd hg, hor]
        split <;> simp
    rw [e2, rf_mul]
    congr 1
    show _ = Tr n (onA n h a) (t01 n h a) S' g
    rw [Tr_step hg hb]
    rfl
end CN
