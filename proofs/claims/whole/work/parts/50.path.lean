/-! ways through states, as lists -/
def pth (n : Nat) (on : Nat → Nat → Nat) : Nat → Nat → Nat → List (List Nat)
  | 0, _, _ => [[]]
  | k + 1, S, l => (List.range n).flatMap (fun g => if (on S l).testBit g then (pth n on k (S ||| 1 <<< g) g).map (g :: ·) else [])
def ct (c : Nat → Nat → Nat → Nat) : Nat → Nat → List Nat → Nat
  | _, _, [] => 0
  | S, l, g :: w => c S l g + ct c (S ||| 1 <<< g) g w
def mnf (m x : Nat) : Nat := if x < m then x else m
def mn (l : List Nat) : Nat := l.foldl mnf 1000000
theorem mnf_min (m x : Nat) : mnf m x = min m x := by unfold mnf; split <;> omega
theorem mn_fold : ∀ (r : List Nat) (m : Nat), m ≤ 1000000 → r.foldl mnf m = min m (mn r)
  | [], m, h => by simp only [mn, List.foldl_nil]; omega
  | x :: r, m, h => by
    simp only [mn, List.foldl_cons]
    rw [mn_fold r (mnf m x) (by rw [mnf_min]; omega), mn_fold r (mnf 1000000 x) (by rw [mnf_min]; omega), mnf_min, mnf_min]
    omega
theorem mn_le (l : List Nat) : mn l ≤ 1000000 := by
  have := mn_fold l 1000000 (Nat.le_refl _)
  have e : mn l = l.foldl mnf 1000000 := rfl
  omega
theorem mn_cons (x : Nat) (l : List Nat) : mn (x :: l) = min x (mn l) := by
  have h := mn_le l
  show l.foldl mnf (mnf 1000000 x) = _
  rw [mn_fold l _ (by rw [mnf_min]; omega), mnf_min]; omega
theorem mn_app (l r : List Nat) : mn (l ++ r) = min (mn l) (mn r) := by
  show (l ++ r).foldl mnf 1000000 = _
  rw [List.foldl_append]
  exact mn_fold r (mn l) (mn_le l)
theorem mn_add (c : Nat) : ∀ X : List Nat, mn (X.map (fun x => c + x)) = min 1000000 (c + mn X)
  | [] => by show 1000000 = min 1000000 (c + 1000000); omega
  | x :: X => by rw [List.map_cons, mn_cons, mn_cons, mn_add c X]; have := mn_le X; omega
theorem mn_mem : ∀ {l : List Nat}, mn l < 1000000 → mn l ∈ l
  | [], h => absurd h (by decide)
  | x :: l, h => by
    rw [mn_cons] at h ⊢
    rcases Nat.le_total x (mn l) with e | e
    · rw [Nat.min_eq_left e]; exact List.mem_cons_self
    · rw [Nat.min_eq_right e] at h ⊢; exact List.mem_cons_of_mem _ (mn_mem h)
theorem mn_lb : ∀ {l : List Nat} {x : Nat}, x ∈ l → mn l ≤ x
  | y :: l, x, h => by
    rw [mn_cons]
    rcases List.mem_cons.mp h with rfl | h
    · omega
    · have := mn_lb h; omega
theorem flatMap_cg {α β : Type} {f g : α → List β} : ∀ {l : List α}, (∀ x ∈ l, f x = g x) → l.flatMap f = l.flatMap g
  | [], _ => rfl
  | x :: l, h => by rw [List.flatMap_cons, List.flatMap_cons, h x List.mem_cons_self, flatMap_cg (fun y hy => h y (List.mem_cons_of_mem _ hy))]
/-- the blocks of the next graves below j -/
def blk (n : Nat) (on : Nat → Nat → Nat) (k S l j : Nat) : List (List Nat) := (List.range j).flatMap (fun g => if (on S l).testBit g then (pth n on k (S ||| 1 <<< g) g).map (g :: ·) else [])
theorem blk_s (n : Nat) (on : Nat → Nat → Nat) (k S l j : Nat) : blk n on k S l (j + 1) = blk n on k S l j ++ (if (on S l).testBit j then (pth n on k (S ||| 1 <<< j) j).map (j :: ·) else []) := by
  unfold blk; rw [List.range_succ, List.flatMap_append]; simp
theorem pth_s (n : Nat) (on : Nat → Nat → Nat) (k S l : Nat) : pth n on (k + 1) S l = blk n on k S l n := rfl
theorem Rst_mn (n : Nat) (on : Nat → Nat → Nat) (c : Nat → Nat → Nat → Nat) : ∀ (k S l : Nat), Rst n on c k S l = mn ((pth n on k S l).map (ct c S l))
  | 0, S, l => by simp only [Rst, pth, List.map_cons, List.map_nil, ct]; rfl
  | k + 1, S, l => by
    rw [pth_s]
    simp only [Rst]
    have key : ∀ j, rf (fun m g => if (on S l).testBit g then (if Rst n on c k (S ||| 1 <<< g) g + c S l g < m then Rst n on c k (S ||| 1 <<< g) g + c S l g else m) else m) 1000000 j = mn ((blk n on k S l j).map (ct c S l)) := by
      intro j
      induction j with
      | zero => rfl
      | succ j ih =>
        rw [rf_s, ih, blk_s, List.map_append, mn_app]
        have hle := mn_le ((blk n on k S l j).map (ct c S l))
        cases e : (on S l).testBit j with
        | false => simp only [Bool.false_eq_true, if_false, List.map_nil]; show _ = min _ 1000000; omega
        | true =>
          simp only [if_true]
          rw [Rst_mn n on c k (S ||| 1 <<< j) j, List.map_map]
          have : (List.map (ct c S l ∘ fun x => j :: x) (pth n on k (S ||| 1 <<< j) j)) = ((pth n on k (S ||| 1 <<< j) j).map (ct c (S ||| 1 <<< j) j)).map (fun x => c S l j + x) := by
            rw [List.map_map]; rfl
          rw [this, mn_add]
          split <;> omega
    exact key n
theorem Wst_len (n : Nat) (on : Nat → Nat → Nat) : ∀ (k S l : Nat), Wst n on k S l = (pth n on k S l).length
  | 0, S, l => rfl
  | k + 1, S, l => by
    rw [pth_s]
    simp only [Wst]
    have key : ∀ j, rf (fun s g => if (on S l).testBit g then s + Wst n on k (S ||| 1 <<< g) g else s) 0 j = (blk n on k S l j).length := by
      intro j
      induction j with
      | zero => rfl
      | succ j ih =>
        rw [rf_s, ih, blk_s, List.length_append]
        cases e : (on S l).testBit j with
        | false => simp
        | true => simp only [if_true, List.length_map]; rw [Wst_len n on k (S ||| 1 <<< j) j]
    exact key n
theorem mem_blk {n : Nat} {on : Nat → Nat → Nat} {k S l j : Nat} {w : List Nat} : w ∈ blk n on k S l j ↔ ∃ g v, g < j ∧ (on S l).testBit g = true ∧ v ∈ pth n on k (S ||| 1 <<< g) g ∧ w = g :: v := by
  unfold blk
  rw [List.mem_flatMap]
  constructor
  · rintro ⟨g, hg, hw⟩
    cases e : (on S l).testBit g with
    | false => rw [e] at hw; simp at hw
    | true =>
      rw [e, if_pos rfl] at hw
      obtain ⟨v, hv, rfl⟩ := List.mem_map.mp hw
      exact ⟨g, v, List.mem_range.mp hg, e, hv, rfl⟩
  · rintro ⟨g, v, h1, h2, h3, rfl⟩
    exact ⟨g, List.mem_range.mpr h1, by rw [h2, if_pos rfl]; exact List.mem_map.mpr ⟨v, h3, rfl⟩⟩
theorem pth_len {n : Nat} {on : Nat → Nat → Nat} : ∀ {k S l : Nat} {w : List Nat}, w ∈ pth n on k S l → w.length = k
  | 0, S, l, w, h => by simp [pth] at h; subst h; rfl
  | k + 1, S, l, w, h => by
    rw [pth_s] at h
    obtain ⟨g, v, -, -, hv, rfl⟩ := mem_blk.mp h
    simp [pth_len hv]
theorem ct_le {c : Nat → Nat → Nat → Nat} (hc : ∀ S l g, c S l g ≤ 10) : ∀ (w : List Nat) (S l : Nat), ct c S l w ≤ 10 * w.length
  | [], _, _ => Nat.zero_le _
  | g :: w, S, l => by simp only [ct, List.length_cons]; have := hc S l g; have := ct_le hc w (S ||| 1 <<< g) g; omega
/-- ways by the allowed next graves are the allowed orders -/
theorem pth_O (n : Nat) (a : Nat → Nat) : ∀ (k S l : Nat), pth n (onO n a) k S l = (ext n k S).filter (al a S)
  | 0, S, l => rfl
  | k + 1, S, l => by
    simp only [pth, ext]
    rw [List.filter_flatMap]
    apply flatMap_cg
    intro g hg
    have hg := List.mem_range.mp hg
    unfold onO
    rw [on0_bit, decide_eq_true hg, Bool.true_and]
    cases e : S.testBit g with
    | true => simp
    | false =>
      simp only [Bool.not_false, Bool.true_and, Bool.false_eq_true, if_false]
      rw [List.filter_map]
      by_cases e2 : a g &&& S = 0
      · rw [decide_eq_true e2, if_pos rfl]
        have ih := pth_O n a k (S ||| 1 <<< g) g
        unfold onO at ih
        rw [ih]
        congr 1
        apply List.filter_congr
        intro w _
        simp [al, e2]
      · rw [decide_eq_false e2, if_neg (by decide)]
        symm
        rw [List.map_eq_nil_iff, List.filter_eq_nil_iff]
        intro w _
        simp [al, e2]
/-- keeping the next graves by which the least cost is met keeps the cheapest ways -/
theorem pth_K {n : Nat} {on : Nat → Nat → Nat} {c : Nat → Nat → Nat → Nat} (hn : n ≤ 8) (hc : ∀ S l g, c S l g ≤ 10) (hob : ∀ S l g, (on S l).testBit g = true → g < n ∧ S.testBit g = false) : ∀ (k S l : Nat), k ≤ 8 → isSt S l = true → rem n S = k → pth n (on1 n on c) k S l = (pth n on k S l).filter (fun w => decide (ct c S l w = Rr n on c S l))
  | 0, S, l, _, _, hk => by
    have : Rr n on c S l = 0 := by rw [Rr, hk]; rfl
    simp [pth, ct, this]
  | k + 1, S, l, hk8, hst, hk => by
    have hR : Rr n on c S l = mn ((pth n on (k + 1) S l).map (ct c S l)) := by rw [Rr, hk, Rst_mn]
    have hRg : ∀ g, (on S l).testBit g = true → Rr n on c (S ||| 1 <<< g) g = mn ((pth n on k (S ||| 1 <<< g) g).map (ct c (S ||| 1 <<< g) g)) := by
      intro g hg
      obtain ⟨h1, h2⟩ := hob S l g hg
      have := rem_or h1 h2
      rw [Rr, show rem n (S ||| 1 <<< g) = k by omega, Rst_mn]
    simp only [pth]
    rw [List.filter_flatMap]
    apply flatMap_cg
    intro g hg
    have hgn := List.mem_range.mp hg
    have eb : (on1 n on c S l).testBit g = (decide (Rr n on c S l < 1000000) && ((on S l).testBit g && decide (Rr n on c (S ||| 1 <<< g) g + c S l g = Rr n on c S l))) := by
      unfold on1; rw [if_pos hst, onK_bit, decide_eq_true hgn, Bool.true_and]
    rw [eb]
    cases e : (on S l).testBit g with
    | false => simp
    | true =>
      obtain ⟨h1, h2⟩ := hob S l g e
      have hrem := rem_or h1 h2
      have ih := pth_K hn hc hob k (S ||| 1 <<< g) g (by omega) (isSt_or S g) (by omega)
      rw [if_pos rfl, List.filter_map, Bool.true_and]
      -- each way costs less than a million
      have hlt : ∀ v ∈ pth n on k (S ||| 1 <<< g) g, ct c (S ||| 1 <<< g) g v + c S l g < 1000000 := by
        intro v hv
        have := ct_le hc v (S ||| 1 <<< g) g
        rw [pth_len hv] at this
        have := hc S l g
        omega
      have hge : ∀ v ∈ pth n on k (S ||| 1 <<< g) g, Rr n on c (S ||| 1 <<< g) g ≤ ct c (S ||| 1 <<< g) g v := by
        intro v hv; rw [hRg g e]; exact mn_lb (List.mem_map.mpr ⟨v, hv, rfl⟩)
      have hge2 : ∀ v ∈ pth n on k (S ||| 1 <<< g) g, Rr n on c S l ≤ c S l g + ct c (S ||| 1 <<< g) g v := by
        intro v hv; rw [hR]
        refine mn_lb (List.mem_map.mpr ⟨g :: v, ?_, rfl⟩)
        rw [pth_s]; exact mem_blk.mpr ⟨g, v, h1, e, hv, rfl⟩
      by_cases hq : Rr n on c S l < 1000000 ∧ Rr n on c (S ||| 1 <<< g) g + c S l g = Rr n on c S l
      · rw [decide_eq_true hq.1, decide_eq_true hq.2, Bool.true_and, if_pos rfl, ih]
        congr 1
        apply List.filter_congr
        intro v hv
        simp only [Function.comp, ct]
        exact decide_eq_decide.mpr (by omega)
      · have ef : (decide (Rr n on c S l < 1000000) && decide (Rr n on c (S ||| 1 <<< g) g + c S l g = Rr n on c S l)) = false := by
          rw [Bool.and_eq_false_iff]
          by_cases h3 : Rr n on c S l < 1000000
          · exact Or.inr (decide_eq_false (fun h4 => hq ⟨h3, h4⟩))
          · exact Or.inl (decide_eq_false h3)
        rw [ef, if_neg (by decide)]
        symm
        rw [List.map_eq_nil_iff, List.filter_eq_nil_iff]
        intro v hv
        simp only [Function.comp, ct, decide_eq_true_eq]
        intro h4
        have h4 : c S l g + ct c (S ||| 1 <<< g) g v = Rr n on c S l := of_decide_eq_true h4
        apply hq
        have a1 := hlt v hv
        have a2 := hge v hv
        -- the block's least is in the block
        have a3 : mn ((pth n on k (S ||| 1 <<< g) g).map (ct c (S ||| 1 <<< g) g)) < 1000000 := by rw [← hRg g e]; omega
        obtain ⟨u, hu, eu⟩ := List.mem_map.mp (mn_mem a3)
        have a4 := hge2 u hu
        rw [← hRg g e] at eu
        exact ⟨by omega, by omega⟩
