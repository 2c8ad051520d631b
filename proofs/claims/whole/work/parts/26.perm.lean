/-! all orders, in their order -/
def ext (n : Nat) : Nat → Nat → List (List Nat)
  | 0, _ => [[]]
  | k + 1, S => (List.range n).flatMap (fun g => if S.testBit g then [] else (ext n k (S ||| 1 <<< g)).map (g :: ·))
def perms (n : Nat) : List (List Nat) := ext n n 0
def ascL (n S : Nat) : List Nat := (List.range n).filter (fun g => !S.testBit g)
theorem flatMap_if {α : Type} (p : Nat → Bool) (f : Nat → List α) : ∀ l : List Nat, l.flatMap (fun g => if p g then [] else f g) = (l.filter (fun g => !p g)).flatMap f
  | [] => rfl
  | x :: l => by
    rw [List.flatMap_cons, flatMap_if p f l]
    cases h : p x with
    | true => simp [h]
    | false => simp [h]
theorem ext_s (n k S : Nat) : ext n (k + 1) S = (ascL n S).flatMap (fun g => (ext n k (S ||| 1 <<< g)).map (g :: ·)) := flatMap_if _ _ _
theorem ascL_mem {n S g : Nat} : g ∈ ascL n S ↔ g < n ∧ S.testBit g = false := by simp [ascL]
theorem bit_or1 (S g i : Nat) : (S ||| 1 <<< g).testBit i = (S.testBit i || decide (i = g)) := by
  rw [Nat.testBit_or]
  congr 1
  rw [Nat.one_shiftLeft, Nat.testBit_two_pow]
  by_cases h : g = i
  · subst h; simp
  · simp [h, Ne.symm h]
theorem ascL_or (n S g : Nat) : ascL n (S ||| 1 <<< g) = (ascL n S).filter (fun i => i ≠ g) := by
  simp only [ascL, List.filter_filter]
  apply List.filter_congr
  intro i _
  rw [bit_or1]
  cases S.testBit i <;> simp
theorem filter_ne_len {l : List Nat} (hn : l.Nodup) {g : Nat} (hg : g ∈ l) : (l.filter (fun i => i ≠ g)).length + 1 = l.length := by
  induction l with
  | nil => simp at hg
  | cons x l ih =>
    obtain ⟨h1, h2⟩ := List.nodup_cons.mp hn
    by_cases e : x = g
    · subst e
      have : (x :: l).filter (fun i => i ≠ x) = l := by
        rw [List.filter_cons_of_neg (by simp)]
        apply List.filter_eq_self.mpr
        intro a ha
        simp only [ne_eq, decide_not, Bool.not_eq_eq_eq_not, Bool.not_true, decide_eq_false_iff_not]
        intro e; subst e; exact h1 ha
      rw [this]; rfl
    · rw [List.filter_cons_of_pos (by simpa using e)]
      have := ih h2 (by rcases List.mem_cons.mp hg with h | h; exact absurd h.symm e; exact h)
      simp only [List.length_cons]; omega
theorem ascL_nodup (n S : Nat) : (ascL n S).Nodup := List.Pairwise.filter _ List.nodup_range
theorem ascL_len {n S g : Nat} (h : g ∈ ascL n S) : (ascL n (S ||| 1 <<< g)).length + 1 = (ascL n S).length := by
  rw [ascL_or]; exact filter_ne_len (ascL_nodup n S) h
/-- each is followed by its next -/
def Ch : List (List Nat) → Prop
  | [] => True
  | [_] => True
  | x :: y :: l => nxt x = some y ∧ Ch (y :: l)
theorem Ch_map {g : Nat} : ∀ {l : List (List Nat)}, Ch l → Ch (l.map (g :: ·))
  | [], _ => trivial
  | [_], _ => trivial
  | x :: y :: l, h => ⟨by simp only [nxt]; rw [h.1], Ch_map (l := y :: l) h.2⟩
theorem Ch_app : ∀ {l m : List (List Nat)}, Ch l → Ch m → (∀ x y, l.getLast? = some x → m.head? = some y → nxt x = some y) → Ch (l ++ m)
  | [], _, _, h, _ => h
  | [x], [], _, _, _ => trivial
  | [x], y :: m, _, h, hb => ⟨hb x y rfl rfl, h⟩
  | x :: y :: l, m, h, h2, hb => ⟨h.1, Ch_app (l := y :: l) h.2 h2 (fun a b ha hm => hb a b (by simpa using ha) hm)⟩
def adj (f : Nat → Nat → Bool) : List Nat → Bool
  | [] => true
  | [_] => true
  | x :: y :: l => f x y && adj f (y :: l)
def bnd (n S : Nat) : Bool := adj (fun g g' => decide (nxt (g :: (ascL n (S ||| 1 <<< g)).reverse) = some (g' :: ascL n (S ||| 1 <<< g')))) (ascL n S) && decide (nxt (ascL n S).reverse = none)
theorem bnd_ok : ∀ n, n < 9 → ∀ S, S < 256 → bnd n S = true := by decide +kernel
theorem blocks (n S : Nat) (E : Nat → List (List Nat)) : ∀ (gs : List Nat), gs ≠ [] → adj (fun g g' => decide (nxt (g :: (ascL n (S ||| 1 <<< g)).reverse) = some (g' :: ascL n (S ||| 1 <<< g')))) gs = true → (∀ g ∈ gs, Ch (E g) ∧ (E g).head? = some (ascL n (S ||| 1 <<< g)) ∧ (E g).getLast? = some (ascL n (S ||| 1 <<< g)).reverse) →
    Ch (gs.flatMap (fun g => (E g).map (g :: ·))) ∧ (gs.flatMap (fun g => (E g).map (g :: ·))).head? = (gs.head?).map (fun g => g :: ascL n (S ||| 1 <<< g)) ∧ (gs.flatMap (fun g => (E g).map (g :: ·))).getLast? = (gs.getLast?).map (fun g => g :: (ascL n (S ||| 1 <<< g)).reverse)
  | [], h, _, _ => absurd rfl h
  | [g], _, _, h => by
    obtain ⟨h1, h2, h3⟩ := h g List.mem_cons_self
    simp only [List.flatMap_cons, List.flatMap_nil, List.append_nil]
    exact ⟨Ch_map h1, by simp [h2], by simp [h3]⟩
  | g :: g' :: gs, _, ha, h => by
    obtain ⟨h1, h2, h3⟩ := h g List.mem_cons_self
    simp only [adj, Bool.and_eq_true, decide_eq_true_eq] at ha
    obtain ⟨i1, i2, i3⟩ := blocks n S E (g' :: gs) (by simp) ha.2 (fun x hx => h x (List.mem_cons_of_mem _ hx))
    rw [List.flatMap_cons]
    refine ⟨Ch_app (Ch_map h1) i1 (fun x y hx hy => ?_), ?_, ?_⟩
    · rw [i2] at hy
      rw [List.getLast?_map, h3] at hx
      simp at hx hy
      rw [← hx, ← hy]; exact ha.1
    · rw [List.head?_append, List.head?_map, h2]; rfl
    · rw [List.getLast?_append, i3]
      cases hg : (g' :: gs).getLast? with
      | none => simp at hg
      | some z => simp [List.getLast?_cons_cons, hg]
theorem ascL_head {n S g : Nat} (h : (ascL n S).head? = some g) : g :: ascL n (S ||| 1 <<< g) = ascL n S := by
  rw [ascL_or]
  cases e : ascL n S with
  | nil => rw [e] at h; simp at h
  | cons x l =>
    rw [e] at h
    simp at h
    subst h
    have hn := ascL_nodup n S
    rw [e] at hn
    obtain ⟨h1, _⟩ := List.nodup_cons.mp hn
    rw [List.filter_cons_of_neg (by simp)]
    congr 1
    apply List.filter_eq_self.mpr
    intro a ha
    simp only [ne_eq, decide_not, Bool.not_eq_eq_eq_not, Bool.not_true, decide_eq_false_iff_not]
    intro e2; subst e2; exact h1 ha
theorem ascL_last {n S g : Nat} (h : (ascL n S).getLast? = some g) : g :: (ascL n (S ||| 1 <<< g)).reverse = (ascL n S).reverse := by
  rw [ascL_or]
  have hn := ascL_nodup n S
  generalize ascL n S = l at h hn
  obtain ⟨l', rfl⟩ := List.getLast?_eq_some_iff.mp h
  rw [List.filter_append, List.filter_cons_of_neg (by simp), List.filter_nil, List.append_nil, List.reverse_append]
  simp only [List.reverse_cons, List.reverse_nil, List.nil_append, List.cons_append]
  congr 2
  apply List.filter_eq_self.mpr
  intro a ha
  simp only [ne_eq, decide_not, Bool.not_eq_eq_eq_not, Bool.not_true, decide_eq_false_iff_not]
  intro e2; subst e2
  have := (List.nodup_append.mp hn).2.2 a ha a (by simp)
  exact this rfl
theorem ext_ch {n : Nat} (hn : n < 9) : ∀ (k S : Nat), S < 256 → (ascL n S).length = k → Ch (ext n k S) ∧ (ext n k S).head? = some (ascL n S) ∧ (ext n k S).getLast? = some (ascL n S).reverse
  | 0, S, _, hk => by
    have e : ascL n S = [] := List.length_eq_zero_iff.mp hk
    rw [e]; exact ⟨trivial, rfl, rfl⟩
  | k + 1, S, hS, hk => by
    have hb := bnd_ok n hn S hS
    simp only [bnd, Bool.and_eq_true] at hb
    have hne : ascL n S ≠ [] := by intro e; rw [e] at hk; simp at hk
    rw [ext_s]
    obtain ⟨b1, b2, b3⟩ := blocks n S (fun g => ext n k (S ||| 1 <<< g)) (ascL n S) hne hb.1 (fun g hg => by
      have hg2 := ascL_mem.mp hg
      refine ext_ch hn k (S ||| 1 <<< g) (Nat.or_lt_two_pow (n := 8) hS ?_) (by have := ascL_len hg; omega)
      rw [Nat.shiftLeft_eq, Nat.one_mul]; exact Nat.pow_lt_pow_right (by decide) (by omega))
    refine ⟨b1, ?_, ?_⟩
    · rw [b2]
      cases hh : (ascL n S).head? with
      | none => exact absurd (List.head?_eq_none_iff.mp hh) hne
      | some g => simp only [Option.map_some]; rw [ascL_head hh]
    · rw [b3]
      cases hh : (ascL n S).getLast? with
      | none => exact absurd (List.getLast?_eq_none_iff.mp hh) hne
      | some g => simp only [Option.map_some]; rw [ascL_last hh]
theorem ascL_0 (n : Nat) : ascL n 0 = List.range n := by
  unfold ascL; apply List.filter_eq_self.mpr; intro a _; simp
theorem Ch_next : ∀ {l : List (List Nat)}, Ch l → (∀ x, l.getLast? = some x → nxt x = none) → ∀ {u : List (List Nat)} {x : List Nat} {v : List (List Nat)}, l = u ++ x :: v → nxt x = v.head?
  | [], _, _, u, x, v, h => by simp at h
  | [y], _, hl, u, x, v, h => by
    cases u with
    | nil =>
      simp at h
      obtain ⟨rfl, rfl⟩ := h
      exact hl y rfl
    | cons a u => simp at h
  | y :: z :: l, hc, hl, u, x, v, h => by
    cases u with
    | nil =>
      simp at h
      obtain ⟨rfl, rfl⟩ := h
      exact hc.1
    | cons a u =>
      simp only [List.cons_append, List.cons.injEq] at h
      exact Ch_next (l := z :: l) hc.2 (fun w hw => hl w (by simpa using hw)) h.2
theorem perms_ch {n : Nat} (hn : n < 9) : Ch (perms n) ∧ (perms n).head? = some (List.range n) ∧ (perms n).getLast? = some (List.range n).reverse := by
  have := ext_ch hn n 0 (by decide) (by rw [ascL_0, List.length_range])
  rw [ascL_0] at this
  exact this
/-- the next order of a perms' member is the one behind it -/
theorem perms_next {n : Nat} (hn : n < 9) {u : List (List Nat)} {x : List Nat} {v : List (List Nat)} (h : perms n = u ++ x :: v) : nxt x = v.head? := by
  obtain ⟨h1, h2, h3⟩ := perms_ch hn
  refine Ch_next h1 (fun y hy => ?_) h
  rw [h3] at hy
  cases hy
  have hb := bnd_ok n hn 0 (by decide)
  simp only [bnd, Bool.and_eq_true, decide_eq_true_eq] at hb
  rw [ascL_0] at hb
  exact hb.2
/-- what the members are: so many graves, none twice, none of S -/
theorem ext_mem {n : Nat} : ∀ {k S : Nat} {w : List Nat}, w ∈ ext n k S → w.length = k ∧ w.Nodup ∧ ∀ g ∈ w, g < n ∧ S.testBit g = false
  | 0, S, w, h => by simp [ext] at h; subst h; simp
  | k + 1, S, w, h => by
    rw [ext_s] at h
    obtain ⟨g, hg, hw⟩ := List.mem_flatMap.mp h
    obtain ⟨v, hv, rfl⟩ := List.mem_map.mp hw
    obtain ⟨h1, h2, h3⟩ := ext_mem hv
    have hg2 := ascL_mem.mp hg
    refine ⟨by simp [h1], List.nodup_cons.mpr ⟨fun hm => ?_, h2⟩, fun x hx => ?_⟩
    · have := (h3 g hm).2; rw [bit_or1] at this; simp at this
    · rcases List.mem_cons.mp hx with rfl | hx
      · exact hg2
      · have := h3 x hx; rw [bit_or1] at this
        exact ⟨this.1, by have := this.2; simp at this; exact this.1⟩
theorem perms_mem {n : Nat} {w : List Nat} (h : w ∈ perms n) : w.length = n ∧ w.Nodup ∧ ∀ g ∈ w, g < n := by
  obtain ⟨h1, h2, h3⟩ := ext_mem h
  exact ⟨h1, h2, fun g hg => (h3 g hg).1⟩
