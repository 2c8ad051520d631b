/-! breaks: by runs that begin, and sort by sort -/
def sumN : Nat → (Nat → Nat) → Nat
  | 0, _ => 0
  | k + 1, f => sumN k f + f k
theorem sumN_congr {f g : Nat → Nat} : ∀ {k : Nat}, (∀ i, i < k → f i = g i) → sumN k f = sumN k g
  | 0, _ => rfl
  | k + 1, h => by simp only [sumN]; rw [sumN_congr (fun i hi => h i (by omega)), h k (by omega)]
theorem sumN_add (f g : Nat → Nat) : ∀ k, sumN k (fun i => f i + g i) = sumN k f + sumN k g
  | 0 => rfl
  | k + 1 => by simp only [sumN]; rw [sumN_add f g k]; omega
theorem sumN_0 : ∀ k, sumN k (fun _ => 0) = 0
  | 0 => rfl
  | k + 1 => by simp only [sumN]; rw [sumN_0 k]
theorem sumN_sub {f g : Nat → Nat} : ∀ {k : Nat}, (∀ i, i < k → g i ≤ f i) → sumN k (fun i => f i - g i) = sumN k f - sumN k g ∧ sumN k g ≤ sumN k f
  | 0, _ => ⟨rfl, Nat.le_refl _⟩
  | k + 1, h => by
    obtain ⟨h1, h2⟩ := sumN_sub (f := f) (g := g) (k := k) (fun i hi => h i (by omega))
    have := h k (by omega)
    simp only [sumN]; rw [h1]; omega
theorem popN_sum (x : Nat) : ∀ k, popN k x = sumN k (fun i => (x.testBit i).toNat)
  | 0 => rfl
  | k + 1 => by simp only [popN, sumN]; rw [popN_sum x k]
theorem rf_sumN (f : Nat → Nat) : ∀ k, rf (fun t s => t + f s) 0 k = sumN k f
  | 0 => rfl
  | k + 1 => by rw [rf_s, rf_sumN f k]; rfl
theorem sumN_one {f : Nat → Nat} {j : Nat} : ∀ {k : Nat}, j < k → sumN k (fun i => if i = j then f i else 0) = f j := by
  intro k
  induction k with
  | zero => intro h; omega
  | succ k ih =>
    intro h
    simp only [sumN]
    by_cases e : k = j
    · subst e
      rw [if_pos rfl, sumN_congr (g := fun _ => 0) (fun i hi => if_neg (by omega)), sumN_0]; omega
    · rw [if_neg e, ih (by omega)]; rfl
theorem tr_sum (h : Nat → Nat) (s : Nat) : ∀ (w : List Nat) (m : Nat), tr h s m w = sumN 10 (fun i => if s.testBit i then rs h i (m.testBit i) w else 0)
  | [], m => by simp only [tr, rs]; rw [sumN_congr (g := fun _ => 0) (fun i _ => by split <;> rfl), sumN_0]
  | g :: w, m => by
    simp only [tr, rs]
    rw [tr_sum h s w (h g &&& s), pop, popN_sum, ← sumN_add]
    apply sumN_congr
    intro i _
    rw [nd_bit, Nat.testBit_and]
    cases e : s.testBit i with
    | false => simp
    | true => simp
theorem rs_none {h : Nat → Nat} {i : Nat} : ∀ {w : List Nat} {b : Bool}, (∀ g ∈ w, (h g).testBit i = false) → rs h i b w = 0
  | [], _, _ => rfl
  | g :: w, b, hn => by
    simp only [rs]
    rw [hn g List.mem_cons_self, rs_none (fun x hx => hn x (List.mem_cons_of_mem _ hx))]; rfl
theorem rs_some {h : Nat → Nat} {i : Nat} : ∀ {w : List Nat}, (∃ g ∈ w, (h g).testBit i = true) → 0 < rs h i false w
  | [], hs => by obtain ⟨g, hg, _⟩ := hs; simp at hg
  | g :: w, hs => by
    simp only [rs]
    cases e : (h g).testBit i with
    | true => simp; omega
    | false =>
      obtain ⟨x, hx, hb⟩ := hs
      rcases List.mem_cons.mp hx with rfl | hx
      · rw [e] at hb; cases hb
      · have := rs_some (h := h) ⟨x, hx, hb⟩; simpa using this
theorem fnd_bit {h : Nat → Nat} {i : Nat} : ∀ {n : Nat}, (fnd h n).testBit i = true ↔ ∃ g, g < n ∧ (h g).testBit i = true
  | 0 => by simp [fnd]
  | n + 1 => by
    simp only [fnd]
    rw [Nat.testBit_or, Bool.or_eq_true, fnd_bit]
    constructor
    · rintro (⟨g, h1, h2⟩ | h2)
      · exact ⟨g, by omega, h2⟩
      · exact ⟨n, by omega, h2⟩
    · rintro ⟨g, h1, h2⟩
      by_cases e : g = n
      · subst e; exact Or.inr h2
      · exact Or.inl ⟨g, by omega, h2⟩
theorem fnd_rs {h : Nat → Nat} {n i : Nat} {w : List Nat} (hc : ∀ g, g ∈ w ↔ g < n) : rs h i false w - 1 = rs h i false w - ((fnd h n).testBit i).toNat ∧ ((fnd h n).testBit i).toNat ≤ rs h i false w := by
  cases e : (fnd h n).testBit i with
  | true =>
    obtain ⟨g, h1, h2⟩ := fnd_bit.mp e
    have := rs_some (h := h) (i := i) (w := w) ⟨g, (hc g).mpr h1, h2⟩
    exact ⟨rfl, this⟩
  | false =>
    have : rs h i false w = 0 := rs_none (fun g hg => by
      cases e2 : (h g).testBit i with
      | false => rfl
      | true => rw [fnd_bit.mpr ⟨g, (hc g).mp hg, e2⟩] at e; cases e)
    rw [this]; exact ⟨rfl, Nat.le_refl _⟩
theorem brk_sum (h : Nat → Nat) (w : List Nat) : brk h w = sumN 10 (fun i => rs h i false w - 1) := rf_sumN _ 10
theorem b1023 : ∀ i, i < 10 → (1023 : Nat).testBit i = true := by decide
/-- breaks of an order, by the runs that begin -/
theorem brk_tr {h : Nat → Nat} {n : Nat} {w : List Nat} (hc : ∀ g, g ∈ w ↔ g < n) : brk h w = tr h 1023 0 w - pop (fnd h n &&& 1023) ∧ pop (fnd h n &&& 1023) ≤ tr h 1023 0 w := by
  have e1 : tr h 1023 0 w = sumN 10 (fun i => rs h i false w) := by
    rw [tr_sum]; apply sumN_congr; intro i hi; rw [if_pos (b1023 i hi), Nat.zero_testBit]
  have e2 : pop (fnd h n &&& 1023) = sumN 10 (fun i => ((fnd h n).testBit i).toNat) := by
    rw [pop, popN_sum]; apply sumN_congr; intro i hi; rw [Nat.testBit_and, b1023 i hi, Bool.and_true]
  have e3 : brk h w = sumN 10 (fun i => rs h i false w - ((fnd h n).testBit i).toNat) := by
    rw [brk_sum]; apply sumN_congr; intro i _; exact (fnd_rs hc).1
  rw [e1, e2, e3]
  exact sumN_sub (fun i _ => (fnd_rs hc).2)
theorem sh_bit (s i : Nat) : (1 <<< s).testBit i = decide (i = s) := by
  rw [Nat.one_shiftLeft, Nat.testBit_two_pow]; exact decide_eq_decide.mpr ⟨Eq.symm, Eq.symm⟩
theorem tr_one {h : Nat → Nat} {s : Nat} (hs : s < 10) (w : List Nat) : tr h (1 <<< s) 0 w = rs h s false w := by
  rw [tr_sum, sumN_congr (g := fun i => if i = s then rs h i false w else 0) (fun i _ => by rw [sh_bit]; by_cases e : i = s <;> simp [e]), sumN_one hs]
theorem pop_one {x s : Nat} (hs : s < 10) : pop (x &&& 1 <<< s) = (x.testBit s).toNat := by
  rw [pop, popN_sum, sumN_congr (g := fun i => if i = s then (x.testBit i).toNat else 0) (fun i _ => by rw [Nat.testBit_and, sh_bit]; by_cases e : i = s <;> simp [e]), sumN_one hs]
/-- breaks of a sort -/
theorem fS_tr {h : Nat → Nat} {n s : Nat} {w : List Nat} (hs : s < 10) (hc : ∀ g, g ∈ w ↔ g < n) : fS h s w = tr h (1 <<< s) 0 w - pop (fnd h n &&& 1 <<< s) ∧ pop (fnd h n &&& 1 <<< s) ≤ tr h (1 <<< s) 0 w := by
  rw [tr_one hs, pop_one hs, fS]
  exact fnd_rs hc
theorem perms_cov {n : Nat} {w : List Nat} (h : w ∈ perms n) : ∀ g, g ∈ w ↔ g < n := fun g => ⟨(perms_mem h).2.2 g, perms_full h⟩
theorem row_cov {T : ST} (hT : TOk T) : ∀ g, g ∈ rw0 T ↔ g < T.1 := by
  intro g
  constructor
  · intro h
    obtain ⟨i, hi, rfl⟩ := seg_mem.mp h
    rw [Nat.zero_add]; exact hT.2.2.2.2.1 i hi
  · intro h
    obtain ⟨p, hp, e⟩ := row_full hT h
    exact seg_mem.mpr ⟨p, hp, by rw [Nat.zero_add, e]⟩
theorem ct_R {h : Nat → Nat} {s : Nat} : ∀ (w : List Nat) (S l : Nat), ct (cR (fun g => h g &&& s)) S l w = tr h s (if S = 0 then 0 else h l &&& s) w
  | [], _, _ => rfl
  | g :: w, S, l => by
    have hne : ¬ (S ||| 1 <<< g) = 0 := fun e => by
      have := bit_or1 S g g
      rw [e] at this; simp at this
    simp only [ct, tr]
    rw [ct_R w (S ||| 1 <<< g) g, if_neg hne]
    rfl
theorem cR_le (hr : Nat → Nat) (S l g : Nat) : cR hr S l g ≤ 10 := pop_le _
theorem cS_le (fr : Nat → Nat) (S l g : Nat) : cS fr S l g ≤ 10 := pop_le _
theorem fwm_some {f t : List Nat → Nat} {F : Nat} : ∀ (l : List (List Nat)) (m : Nat), (∀ w ∈ l, f w + F = t w) → m + F ≤ 1000000 → ∃ m', fwm f (some m) l = some m' ∧ m' + F = min (m + F) (mn (l.map t))
  | [], m, _, h => ⟨m, rfl, by show m + F = min (m + F) 1000000; omega⟩
  | w :: l, m, ht, h => by
    have h1 := ht w List.mem_cons_self
    obtain ⟨m', e1, e2⟩ := fwm_some l (if f w < m then f w else m) (fun v hv => ht v (List.mem_cons_of_mem _ hv)) (by split <;> omega)
    refine ⟨m', e1, ?_⟩
    rw [e2, List.map_cons, mn_cons]
    split <;> omega
/-- the least over a list, with a part taken off -/
theorem fwm_mn {f t : List Nat → Nat} {F : Nat} {l : List (List Nat)} (hl : l ≠ []) (ht : ∀ w ∈ l, f w + F = t w ∧ t w < 1000000) : fwm f none l = some (mn (l.map t) - F) ∧ F ≤ mn (l.map t) ∧ mn (l.map t) < 1000000 := by
  cases l with
  | nil => exact absurd rfl hl
  | cons w l =>
    have h1 := ht w List.mem_cons_self
    obtain ⟨m', e1, e2⟩ := fwm_some (f := f) (t := t) (F := F) l (f w) (fun v hv => (ht v (List.mem_cons_of_mem _ hv)).1) (by omega)
    have e3 : mn ((w :: l).map t) = m' + F := by rw [List.map_cons, mn_cons, e2]; omega
    rw [e3]
    refine ⟨?_, by omega, ?_⟩
    · show fwm f (some (f w)) l = _
      rw [e1]; congr 1; omega
    · have := mn_lb (l := (w :: l).map t) (List.mem_map.mpr ⟨w, List.mem_cons_self, rfl⟩)
      omega
theorem rem_00 (n : Nat) : rem n 0 = n := by rw [rem, ascL_0, List.length_range]
section BR
variable {n : Nat} {h a : Nat → Nat}
def R0 (n : Nat) (h a : Nat → Nat) : Nat := Rr n (onO n a) (cR (hrA h)) 0 0
theorem R0_mn : R0 n h a = mn ((fea n a).map (tr h 1023 0)) := by
  unfold R0
  rw [Rr, rem_00, Rst_mn, pth_O]
  show mn ((fea n a).map _) = _
  congr 1
  apply List.map_congr_left
  intro w _
  rw [show cR (hrA h) = cR (fun g => h g &&& 1023) from rfl, ct_R, if_pos rfl]
theorem tr_lt (hn : n ≤ 8) {w : List Nat} (hw : w ∈ fea n a) (s : Nat) : tr h s 0 w ≤ 80 := by
  have h1 := tr_le h s w 0
  have h2 := (perms_mem (List.mem_filter.mp hw).1).1
  omega
theorem few_R (hn : n ≤ 8) (hf : fea n a ≠ []) : fewB n h a = some (R0 n h a - pop (fnd h n &&& 1023)) ∧ pop (fnd h n &&& 1023) ≤ R0 n h a ∧ R0 n h a < 1000000 := by
  rw [R0_mn]
  exact fwm_mn hf (fun w hw => by
    have hb := brk_tr (h := h) (perms_cov (List.mem_filter.mp hw).1)
    have := tr_lt (h := h) hn hw 1023
    omega)
theorem few_none : fewB n h a = none ↔ fea n a = [] := by
  unfold fewB
  cases e : fea n a with
  | nil => simp [fwm]
  | cons w l =>
    have : ∀ (l : List (List Nat)) (m : Nat), fwm (brk h) (some m) l ≠ none := by
      intro l
      induction l with
      | nil => intro m; simp [fwm]
      | cons w l ih => intro m; exact ih _
    simp only [fwm, List.cons_ne_nil, iff_false]
    exact this l _
/-- the class's ways are the reference's best orders -/
theorem bests_pth (hn : n ≤ 8) : bests n h a = pth n (onA n h a) n 0 0 := by
  unfold onA
  rw [pth_K (n := n) (on := onO n a) (c := cR (hrA h)) hn (cR_le _) (fun S l g hb => onO_ob hb) n 0 0 hn rfl (rem_00 n), pth_O, List.filter_filter]
  unfold bests
  apply List.filter_congr
  intro w hw
  unfold isB
  rw [Bool.and_comm]
  cases e : al a 0 w with
  | false => simp
  | true =>
    have hwf : w ∈ fea n a := List.mem_filter.mpr ⟨hw, e⟩
    have hne : fea n a ≠ [] := List.ne_nil_of_mem hwf
    obtain ⟨f1, f2, f3⟩ := few_R (h := h) hn hne
    have hb := brk_tr (h := h) (perms_cov hw)
    rw [Bool.and_true, Bool.and_true, f1, show cR (hrA h) = cR (fun g => h g &&& 1023) from rfl, ct_R, if_pos rfl]
    apply decide_eq_decide.mpr
    rw [show Rr n (onO n a) (cR (fun g => h g &&& 1023)) 0 0 = R0 n h a from rfl, Option.some.injEq]
    have := hb.2
    omega
theorem tot_len (hn : n ≤ 8) : tot n h a = (bests n h a).length := by
  rw [bests_pth hn, tot, Wr, rem_00, Wst_len]
theorem bests_nil (hn : n ≤ 8) : bests n h a = [] ↔ fea n a = [] := by
  constructor
  · intro hb
    cases e : fea n a with
    | nil => rfl
    | cons w0 l =>
      exfalso
      have hne : fea n a ≠ [] := by rw [e]; simp
      obtain ⟨f1, f2, f3⟩ := few_R (h := h) hn hne
      have hm : R0 n h a ∈ (fea n a).map (tr h 1023 0) := by rw [R0_mn]; rw [R0_mn] at f3; exact mn_mem f3
      obtain ⟨w, hw, ew⟩ := List.mem_map.mp hm
      have hwp := (List.mem_filter.mp hw).1
      have : w ∈ bests n h a := by
        refine List.mem_filter.mpr ⟨hwp, ?_⟩
        unfold isB
        rw [(List.mem_filter.mp hw).2, f1, Bool.true_and]
        apply decide_eq_true
        have hb := brk_tr (h := h) (perms_cov hwp)
        rw [hb.1, ew]
      rw [hb] at this; simp at this
  · intro hf
    apply List.filter_eq_nil_iff.mpr
    intro w hw hb
    unfold isB at hb
    rw [few_none.mpr hf] at hb
    simp at hb
theorem tot_0 (hn : n ≤ 8) : tot n h a = 0 ↔ fewB n h a = none := by
  rw [tot_len hn, List.length_eq_zero_iff, bests_nil hn, few_none]
end BR
