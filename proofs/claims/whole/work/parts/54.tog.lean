/-! graves that lie together -/
theorem nI_subv {a b : Nat} (h : b ≤ a) : nI a - nI b = nI (a - b) := by
  have e : nI a = nI (a - b) + nI b := by rw [nI_add]; congr 1; omega
  rw [e, Int32.add_sub_cancel]
def okT (X : Nat) : Nat → List Nat → Bool
  | _, [] => true
  | S, g :: w => (!partB X S || X.testBit g) && okT X (S ||| 1 <<< g) w
theorem bar_bit' {X S x g : Nat} : (bar X S x).testBit g = (x.testBit g && (!partB X S || X.testBit g)) := by
  unfold bar
  cases partB X S with
  | true => rw [if_pos rfl, Nat.testBit_and]; simp
  | false => simp
theorem pth_T (n : Nat) (h a : Nat → Nat) (X : Nat) : ∀ (k S l : Nat), pth n (onT n h a X) k S l = (pth n (onB n h a) k S l).filter (okT X S)
  | 0, S, l => rfl
  | k + 1, S, l => by
    simp only [pth]
    rw [List.filter_flatMap]
    apply flatMap_cg
    intro g hg
    have e0 : (onT n h a X S l).testBit g = ((onB n h a S l).testBit g && (!partB X S || X.testBit g)) := bar_bit'
    rw [e0]
    cases e : (onB n h a S l).testBit g with
    | false => simp
    | true =>
      rw [Bool.true_and, if_pos rfl, List.filter_map]
      cases e2 : (!partB X S || X.testBit g) with
      | true =>
        rw [if_pos rfl, pth_T n h a X k (S ||| 1 <<< g) g]
        congr 1
        apply List.filter_congr
        intro w _
        simp only [Function.comp, okT]
        rw [e2, Bool.true_and]
      | false =>
        rw [if_neg (by decide)]
        symm
        rw [List.map_eq_nil_iff, List.filter_eq_nil_iff]
        intro w _
        simp only [Function.comp, okT]
        rw [e2]; simp
theorem rf_pos {p : Nat → Bool} {f : Nat → Nat} {j : Nat} (hp : p j = true) (hf : 0 < f j) : ∀ k, j < k → 0 < rf (fun s q => if p q then s + f q else s) 0 k
  | 0, h => by omega
  | k + 1, h => by
    rw [rf_s]
    by_cases e : j = k
    · subst e; rw [hp, if_pos rfl]; omega
    · have := rf_pos (f := f) hp hf k (by omega)
      split <;> omega
section TG
variable {n : Nat} {h a : Nat → Nat}
theorem Tr_on {S l g : Nat} (hl : l < n) (hst : isSt S l = true) (ht : 0 < tN0 n h a S l) (hb : (onA n h a S l).testBit g = true) : 0 < tN0 n h a (S ||| 1 <<< g) g := by
  obtain ⟨h1, h2⟩ := onA_ob hb
  show 0 < Tr n _ _ _ _
  rw [Tr_step h1 (by rw [bit_or1]; simp), nd_or h2]
  exact rf_pos (p := fun q => isSt S q && (onA n h a S q).testBit g) (f := fun q => tN0 n h a S q) (j := l) (by rw [hst, hb]; rfl) ht n hl
theorem pth_B1 : ∀ (k S l : Nat), l < n → isSt S l = true → 0 < tN0 n h a S l → pth n (onB n h a) k S l = pth n (onA n h a) k S l
  | 0, S, l, _, _, _ => rfl
  | k + 1, S, l, hl, hst, ht => by
    simp only [pth]
    have e0 : onB n h a S l = onA n h a S l := by
      unfold onB on2
      rw [if_neg]
      rw [hst, Bool.true_and, decide_eq_true_eq]
      intro e
      have : tN0 n h a S l = 0 := e
      omega
    rw [e0]
    apply flatMap_cg
    intro g hg
    cases e : (onA n h a S l).testBit g with
    | false => rfl
    | true =>
      rw [pth_B1 k (S ||| 1 <<< g) g (List.mem_range.mp hg) (isSt_or S g) (Tr_on hl hst ht e)]
theorem pth_sub {k S l : Nat} {w : List Nat} (hw : w ∈ pth n (onB n h a) k S l) : w ∈ pth n (onA n h a) k S l := by
  induction k generalizing S l w with
  | zero => exact hw
  | succ k ih =>
    rw [pth_s] at hw ⊢
    obtain ⟨g, v, h1, h2, h3, rfl⟩ := mem_blk.mp hw
    exact mem_blk.mpr ⟨g, v, h1, onB_sub h2, ih h3, rfl⟩
theorem bests_B (h1 : 1 ≤ n) (hn : n ≤ 8) : pth n (onB n h a) n 0 0 = bests n h a := by
  rw [bests_pth hn]
  by_cases ht : 0 < tot n h a
  · apply pth_B1 n 0 0 (by omega) rfl
    show 0 < Tr n _ _ _ _
    rw [Tr_0, t01, if_pos ht]; decide
  · have : bests n h a = [] := by rw [tot_len hn] at ht; exact List.eq_nil_of_length_eq_zero (by omega)
    rw [bests_pth hn] at this
    rw [this]
    apply List.eq_nil_iff_forall_not_mem.mpr
    intro w hw
    have := pth_sub hw
    rw [‹pth n (onA n h a) n 0 0 = []›] at this
    simp at this
end TG
/-- how far the last member lies -/
def LI (X : Nat) : List Nat → Nat
  | [] => 0
  | g :: w => if 0 < LI X w then LI X w + 1 else if X.testBit g then 1 else 0
def cn (X : Nat) (w : List Nat) : Nat := w.countP (fun g => X.testBit g)
theorem cn_c (X g : Nat) (w : List Nat) : cn X (g :: w) = cn X w + if X.testBit g then 1 else 0 := by unfold cn; rw [List.countP_cons]
theorem cn_LI (X : Nat) : ∀ w, cn X w ≤ LI X w ∧ LI X w ≤ w.length ∧ (cn X w = 0 → LI X w = 0)
  | [] => ⟨Nat.le_refl _, Nat.le_refl _, fun _ => rfl⟩
  | g :: w => by
    obtain ⟨h1, h2, h3⟩ := cn_LI X w
    rw [cn_c]
    simp only [LI, List.length_cons]
    cases X.testBit g with
    | true => simp only [if_true]; split <;> omega
    | false => simp only [Bool.false_eq_true, if_false]; split <;> omega
theorem tgF_in (X : Nat) : ∀ (w : List Nat) (p f l : Nat), f < 2 ^ 31 → tgF X p w (nI f) (nI l) = (nI f, nI (if LI X w = 0 then l else p + LI X w - 1))
  | [], p, f, l, _ => by simp [tgF, LI]
  | g :: w, p, f, l, hf => by
    have e2 : tgF X p (g :: w) (nI f) (nI l) = if X.testBit g then tgF X (p + 1) w (nI f) (nI p) else tgF X (p + 1) w (nI f) (nI l) := by
      simp only [tgF]; rw [if_neg (nI_pos hf)]
    rw [e2]
    have e3 : LI X (g :: w) = if 0 < LI X w then LI X w + 1 else if X.testBit g then 1 else 0 := rfl
    by_cases e : X.testBit g = true
    · rw [if_pos e, tgF_in X w (p + 1) f p hf]
      rw [if_pos e] at e3
      congr 2
      by_cases h0 : LI X w = 0
      · rw [if_neg (by omega)] at e3
        rw [if_pos h0, if_neg (by omega)]; omega
      · rw [if_pos (by omega)] at e3
        rw [if_neg h0, if_neg (by omega)]; omega
    · rw [if_neg e, tgF_in X w (p + 1) f l hf]
      rw [if_neg e] at e3
      congr 2
      by_cases h0 : LI X w = 0
      · rw [if_neg (by omega)] at e3
        rw [if_pos h0, if_pos (by omega)]
      · rw [if_pos (by omega)] at e3
        rw [if_neg h0, if_neg (by omega)]; omega
/-- what is left in the list is what S has not -/
def lft (X S : Nat) (w : List Nat) : Prop := ∀ g, X.testBit g = true → (g ∈ w ↔ S.testBit g = false)
theorem lft_s {X S g : Nat} {w : List Nat} (hl : lft X S (g :: w)) (hn : (g :: w).Nodup) : lft X (S ||| 1 <<< g) w := by
  intro x hx
  rw [bit_or1]
  have := hl x hx
  have hgw : g ∉ w := (List.nodup_cons.mp hn).1
  by_cases e : x = g
  · subst e; simp [hgw]
  · rw [List.mem_cons] at this
    simp only [e, false_or] at this
    simp [e, this]
theorem part_iff {X S : Nat} {w : List Nat} (hl : lft X S w) : partB X S = true ↔ S &&& X ≠ 0 ∧ 0 < cn X w := by
  unfold partB
  rw [Bool.not_eq_true', Bool.or_eq_false_iff, decide_eq_false_iff_not, decide_eq_false_iff_not]
  have : (S &&& X = X) ↔ cn X w = 0 := by
    unfold cn
    rw [List.countP_eq_zero]
    constructor
    · intro e g hg hb
      have h1 := (hl g hb).mp hg
      have : (S &&& X).testBit g = false := by rw [Nat.testBit_and, h1]; rfl
      rw [e, hb] at this; cases this
    · intro hz
      apply Nat.eq_of_testBit_eq
      intro i
      rw [Nat.testBit_and]
      cases e : X.testBit i with
      | false => simp
      | true =>
        rw [Bool.and_true]
        cases e2 : S.testBit i with
        | true => rfl
        | false => exact absurd e (hz i ((hl i e).mpr e2))
  rw [this]; omega
theorem okT_in (X : Nat) : ∀ (w : List Nat) (S : Nat), w.Nodup → lft X S w → S &&& X ≠ 0 → (okT X S w = true ↔ LI X w = cn X w)
  | [], S, _, _, _ => by simp [okT, LI, cn]
  | g :: w, S, hnd, hl, hb => by
    have hb2 : (S ||| 1 <<< g) &&& X ≠ 0 := by
      obtain ⟨i, hi⟩ := Nat.exists_testBit_of_ne_zero hb
      intro e
      have : ((S ||| 1 <<< g) &&& X).testBit i = true := by
        rw [Nat.testBit_and] at hi ⊢
        rw [bit_or1]
        simp only [Bool.and_eq_true] at hi ⊢
        exact ⟨by rw [hi.1]; rfl, hi.2⟩
      rw [e] at this; simp at this
    have ih := okT_in X w (S ||| 1 <<< g) (List.nodup_cons.mp hnd).2 (lft_s hl hnd) hb2
    have hp := part_iff hl
    obtain ⟨c1, c2, c3⟩ := cn_LI X w
    have hcc := cn_c X g w
    simp only [okT]
    rw [Bool.and_eq_true, ih]
    cases e : X.testBit g with
    | true =>
      rw [e, if_pos rfl] at hcc
      have : LI X (g :: w) = LI X w + 1 := by
        simp only [LI, e, if_true]; split <;> omega
      rw [this, hcc]
      simp
    | false =>
      rw [e, if_neg (by decide)] at hcc
      rw [Bool.or_false, Bool.not_eq_true']
      have hp2 : partB X S = false ↔ ¬ (0 < cn X w) := by
        rw [← Bool.not_eq_true, hp, hcc]
        simp [hb]
      rw [hp2, hcc]
      have : LI X (g :: w) = if 0 < LI X w then LI X w + 1 else 0 := by simp [LI, e]
      rw [this]
      split <;> omega
theorem okT_out (X : Nat) : ∀ (w : List Nat) (S p : Nat), w.Nodup → lft X S w → S &&& X = 0 → 0 < cn X w → p + w.length < 1000 → (okT X S w = true ↔ (tgF X p w (-6) (-6)).2 - (tgF X p w (-6) (-6)).1 + nI 1 = nI (cn X w))
  | [], S, p, _, _, _, hc, _ => by simp [cn] at hc
  | g :: w, S, p, hnd, hl, hb, hc, hp => by
    rw [List.length_cons] at hp
    have hcc := cn_c X g w
    have hpf : partB X S = false := by unfold partB; rw [hb]; simp
    simp only [okT]
    rw [hpf, Bool.not_false, Bool.true_or, Bool.true_and]
    obtain ⟨c1, c2, c3⟩ := cn_LI X w
    cases e : X.testBit g with
    | true =>
      rw [e, if_pos rfl] at hcc
      have hb2 : (S ||| 1 <<< g) &&& X ≠ 0 := by
        intro e2
        have : ((S ||| 1 <<< g) &&& X).testBit g = true := by rw [Nat.testBit_and, bit_or1, e]; simp
        rw [e2] at this; simp at this
      rw [okT_in X w (S ||| 1 <<< g) (List.nodup_cons.mp hnd).2 (lft_s hl hnd) hb2]
      simp only [tgF, e, if_true]
      rw [if_pos (by decide), tgF_in X w (p + 1) p p (by omega), hcc]
      simp only
      have hle : p ≤ (if LI X w = 0 then p else p + 1 + LI X w - 1) := by split <;> omega
      rw [nI_subv hle, nI_add, nI_eq (by split <;> omega) (by omega)]
      split <;> omega
    | false =>
      rw [e, if_neg (by decide), Nat.add_zero] at hcc
      have hb2 : (S ||| 1 <<< g) &&& X = 0 := by
        apply Nat.eq_of_testBit_eq
        intro i
        have hbi : (S &&& X).testBit i = false := by rw [hb]; simp
        rw [Nat.testBit_and] at hbi
        rw [Nat.testBit_and, bit_or1, Nat.zero_testBit]
        by_cases ei : i = g
        · subst ei; rw [e]; simp
        · simp only [ei, decide_false, Bool.or_false]; exact hbi
      rw [okT_out X w (S ||| 1 <<< g) (p + 1) (List.nodup_cons.mp hnd).2 (lft_s hl hnd) hb2 (by omega) (by omega)]
      simp only [tgF, e, Bool.false_eq_true, if_false]
      rw [hcc]
theorem msk_filter {X n : Nat} {w : List Nat} (hc : ∀ g, g ∈ w ↔ g < n) (hX : X < 2 ^ n) : msk (w.filter (fun g => X.testBit g)) = X := by
  apply Nat.eq_of_testBit_eq
  intro i
  rw [msk_bit, Bool.eq_iff_iff, decide_eq_true_eq, List.mem_filter, hc]
  constructor
  · intro h; exact h.2
  · intro h
    refine ⟨?_, h⟩
    apply Classical.byContradiction
    intro hi
    have : X.testBit i = false := Nat.testBit_lt_two_pow (Nat.lt_of_lt_of_le hX (Nat.pow_le_pow_right (by decide) (by omega)))
    rw [this] at h; cases h
theorem pop_cn {X n : Nat} {w : List Nat} (hn : n ≤ 8) (hw : w ∈ perms n) (hX : X < 2 ^ n) : pop X = cn X w := by
  obtain ⟨m1, m2, m3⟩ := perms_mem hw
  have := (msk_pop (n := n) (u := w.filter (fun g => X.testBit g)) (by omega) _ rfl (List.Pairwise.filter _ m2) (fun g hg => m3 g (List.mem_filter.mp hg).1)).1
  rw [msk_filter (perms_cov hw) hX] at this
  rw [this]
  exact List.countP_eq_length_filter.symm
theorem togM_ok {X n : Nat} {w : List Nat} (hn : n ≤ 8) (hw : w ∈ perms n) (h0 : 0 < X) (hX : X < 2 ^ n) : togM X w = okT X 0 w := by
  obtain ⟨m1, m2, m3⟩ := perms_mem hw
  have hlf : lft X 0 w := by
    intro g hg
    rw [perms_cov hw]
    simp only [Nat.zero_testBit, iff_true]
    apply Classical.byContradiction
    intro hi
    rw [Nat.testBit_lt_two_pow (Nat.lt_of_lt_of_le hX (Nat.pow_le_pow_right (by decide) (by omega)))] at hg
    cases hg
  have hc : 0 < cn X w := by
    obtain ⟨i, hi⟩ := Nat.exists_testBit_of_ne_zero (show X ≠ 0 by omega)
    apply List.countP_pos_iff.mpr
    exact ⟨i, (hlf i hi).mpr (by simp), hi⟩
  rw [Bool.eq_iff_iff, okT_out X w 0 0 m2 hlf (by simp) hc (by omega)]
  unfold togM
  rw [decide_eq_true_eq, pop_cn hn hw hX]
section TG
variable {n : Nat} {h a : Nat → Nat}
theorem tog_eq (h1 : 1 ≤ n) (hn : n ≤ 8) {X : Nat} (h0 : 0 < X) (hX : X < 2 ^ n) : Wr n (onT n h a X) 0 0 = (bests n h a).countP (togM X) := by
  rw [Wr, rem_00, Wst_len, pth_T, bests_B h1 hn, ← List.countP_eq_length_filter]
  apply countP_cg
  intro w hw
  rw [togM_ok hn (bests_mem hw) h0 hX]
theorem fol_bit {S g : Nat} : (fol n h a S).testBit g = true ↔ ∃ q, q < n ∧ isSt S q = true ∧ (onB n h a S q).testBit g = true := by
  have key : ∀ k, (rf (fun s q => if isSt S q then s ||| onB n h a S q else s) 0 k).testBit g = true ↔ ∃ q, q < k ∧ isSt S q = true ∧ (onB n h a S q).testBit g = true := by
    intro k
    induction k with
    | zero => simp [rf_0]
    | succ k ih =>
      rw [rf_s]
      constructor
      · intro hb
        cases e : isSt S k with
        | false =>
          rw [e, if_neg (by decide)] at hb
          obtain ⟨q, h1, h2, h3⟩ := ih.mp hb
          exact ⟨q, by omega, h2, h3⟩
        | true =>
          rw [e, if_pos rfl, Nat.testBit_or, Bool.or_eq_true] at hb
          rcases hb with hb | hb
          · obtain ⟨q, h1, h2, h3⟩ := ih.mp hb
            exact ⟨q, by omega, h2, h3⟩
          · exact ⟨k, by omega, e, hb⟩
      · rintro ⟨q, h1, h2, h3⟩
        by_cases e : q = k
        · subst e; rw [h2, if_pos rfl, Nat.testBit_or, h3, Bool.or_true]
        · have := ih.mpr ⟨q, by omega, h2, h3⟩
          split
          · rw [Nat.testBit_or, this, Bool.true_or]
          · exact this
  exact key n
theorem okT_app {X : Nat} : ∀ {u : List Nat} {S g : Nat} {v : List Nat}, okT X S (u ++ g :: v) = true → partB X (u.foldl (fun S g => S ||| 1 <<< g) S) = true → X.testBit g = true
  | [], S, g, v, h, hp => by
    simp only [List.nil_append, okT, Bool.and_eq_true, List.foldl_nil] at h hp
    rw [hp] at h; simpa using h.1
  | x :: u, S, g, v, h, hp => by
    simp only [List.cons_append, okT, Bool.and_eq_true] at h
    exact okT_app h.2 hp
/-- from a state on a cheapest way the ways go on -/
theorem W_pos (hn : n ≤ 8) {S l g : Nat} (hst : isSt S l = true) (hb : (onA n h a S l).testBit g = true) : 0 < wN n h a (S ||| 1 <<< g) g := by
  obtain ⟨h1, h2⟩ := onA_ob hb
  have hR : Rr n (onO n a) (cR (hrA h)) (S ||| 1 <<< g) g < 1000000 := by
    unfold onA on1 at hb
    rw [if_pos hst, onK_bit] at hb
    simp only [Bool.and_eq_true, decide_eq_true_eq] at hb
    omega
  have hr := rem_or h1 h2
  have hrl := rem_le n S
  show 0 < Wr n _ _ _
  rw [Wr, Wst_len]
  unfold onA
  rw [pth_K (n := n) (on := onO n a) (c := cR (hrA h)) hn (cR_le _) (fun S l g hb => onO_ob hb) _ _ _ (by omega) (isSt_or S g) rfl]
  rw [Rr, Rst_mn] at hR
  obtain ⟨w, hw, ew⟩ := List.mem_map.mp (mn_mem hR)
  apply List.length_pos_iff_exists_mem.mpr
  refine ⟨w, List.mem_filter.mpr ⟨hw, decide_eq_true ?_⟩⟩
  rw [ew, Rr, Rst_mn]
theorem okT_path {X : Nat} (hall : ∀ S, S < 2 ^ n → ∀ q, q < n → isSt S q = true → ∀ g, (onB n h a S q).testBit g = true → partB X S = true → X.testBit g = true) : ∀ (k S l : Nat) (w : List Nat), S < 2 ^ n → l < n → isSt S l = true → w ∈ pth n (onB n h a) k S l → okT X S w = true
  | 0, S, l, w, _, _, _, hw => by simp [pth] at hw; subst hw; rfl
  | k + 1, S, l, w, hS, hl, hst, hw => by
    rw [pth_s] at hw
    obtain ⟨g, v, h1, h2, h3, rfl⟩ := mem_blk.mp hw
    simp only [okT]
    rw [okT_path hall k (S ||| 1 <<< g) g v (or_lt hS h1) h1 (isSt_or S g) h3, Bool.and_true]
    cases e : partB X S with
    | false => rfl
    | true => rw [hall S hS l hl hst g h2 e]; rfl
theorem ltA_iff {X : Nat} : ltA n h a X = true ↔ ∀ S, S < 2 ^ n → ∀ q, q < n → isSt S q = true → ∀ g, (onB n h a S q).testBit g = true → partB X S = true → X.testBit g = true := by
  unfold ltA
  rw [List.all_eq_true]
  constructor
  · intro hh S hS q hq hst g hb hp
    have := of_decide_eq_true (hh S (List.mem_range.mpr hS))
    unfold prt at this
    rw [hp, if_pos rfl] at this
    have hf := fol_bit.mpr ⟨q, hq, hst, hb⟩
    have h2 : (nd (fol n h a S) X).testBit g = false := by rw [this]; simp
    rw [nd_bit, hf, Bool.true_and] at h2
    cases e : X.testBit g with
    | true => rfl
    | false => rw [e] at h2; cases h2
  · intro hh S hS
    have hS := List.mem_range.mp hS
    apply decide_eq_true
    unfold prt
    cases e : partB X S with
    | false => rfl
    | true =>
      rw [if_pos rfl]
      apply Nat.eq_of_testBit_eq
      intro g
      rw [nd_bit, Nat.zero_testBit]
      cases e2 : (fol n h a S).testBit g with
      | false => rfl
      | true =>
        obtain ⟨q, h1, h2, h3⟩ := fol_bit.mp e2
        rw [hh S hS q h1 h2 g h3 e]; rfl
theorem ltA_eq (h1 : 1 ≤ n) (hn : n ≤ 8) {X : Nat} (h0 : 0 < X) (hX : X < 2 ^ n) : ltA n h a X = (bests n h a).all (togM X) := by
  rw [Bool.eq_iff_iff, ltA_iff, List.all_eq_true]
  constructor
  · intro hh w hw
    rw [togM_ok hn (bests_mem hw) h0 hX]
    rw [← bests_B h1 hn] at hw
    exact okT_path hh n 0 0 w (Nat.two_pow_pos n) (by omega) rfl hw
  · intro hh S hS q hq hst g hb hp
    have hA := onB_sub hb
    have hT : 0 < tN0 n h a S q := by
      unfold onB on2 at hb
      split at hb
      · simp at hb
      · rename_i hc
        rw [hst, Bool.true_and, decide_eq_true_eq] at hc
        exact Nat.pos_of_ne_zero hc
    have hW := W_pos hn hst hA
    obtain ⟨g1, g2⟩ := onA_ob hA
    have hr := rem_or g1 g2
    have hrl := rem_le n S
    have ht := thr_count (h := h) (a := a) hn (n - rem n S) S q (fun v => decide (v.headD 99 = g) && true) (by omega) hS hq hst (by omega)
    rw [show n - (n - rem n S) = rem n (S ||| 1 <<< g) + 1 by omega, pth_hd g1 (fun _ => true), hA, if_pos rfl, ← Wr_cnt] at ht
    have hpos : 0 < (bests n h a).countP (thr S q (n - rem n S) (fun v => decide (v.headD 99 = g) && true)) := by rw [ht]; exact Nat.mul_pos hT hW
    obtain ⟨w, hw, hth⟩ := List.countP_pos_iff.mp hpos
    have hok := hh w hw
    rw [togM_ok hn (bests_mem hw) h0 hX] at hok
    unfold thr at hth
    simp only [Bool.and_eq_true, decide_eq_true_eq, Bool.and_true] at hth
    obtain ⟨u, x, v, rfl, hu⟩ := split_at (perms_mem (bests_mem hw)).1 (show n - rem n S < n by omega)
    obtain ⟨t1, t2, -, -⟩ := tk (x := x) (v := v) hu
    rw [t1, t2, List.headD_cons] at hth
    have := okT_app hok (show partB X (msk u) = true by rw [hth.1.1]; exact hp)
    rw [← hth.1.2]; exact this
theorem range_filter {k m : Nat} (p : Nat → Bool) (hk : k ≤ m) : (List.range m).filter (fun S => decide (S < k) && p S) = (List.range k).filter p := by
  obtain ⟨j, rfl⟩ := Nat.exists_eq_add_of_le hk
  rw [List.range_add, List.filter_append]
  have e1 : ((List.range j).map (fun x => k + x)).filter (fun S => decide (S < k) && p S) = [] := by
    rw [List.filter_eq_nil_iff]
    intro x hx
    obtain ⟨y, _, rfl⟩ := List.mem_map.mp hx
    rw [decide_eq_false (show ¬ k + y < k by omega)]; simp
  rw [e1, List.append_nil]
  apply List.filter_congr
  intro x hx
  rw [decide_eq_true (List.mem_range.mp hx), Bool.true_and]
theorem pop_pos {x : Nat} (hp : 1 < pop x) : 0 < x := by
  rcases Nat.eq_zero_or_pos x with rfl | h
  · exact absurd hp (by decide)
  · exact h
end TG
theorem clmp_eq {T : ST} (hT : TOk T) : clL T.1 T.2.1 T.2.2.1 = clmp T := by
  obtain ⟨t1, t2, -⟩ := hT
  unfold clmp clL
  have e1 : (List.range 256).filter (clB T) = (List.range 256).filter (fun S => decide (S < 2 ^ T.1) && ((fewB T.1 T.2.1 T.2.2.1).isSome && (decide (1 < pop S) && (bst T).all (togM S)))) := by
    apply List.filter_congr
    intro S _
    unfold clB
    rw [Nat.one_shiftLeft]
    cases (fewB T.1 T.2.1 T.2.2.1).isSome <;> cases decide (S < 2 ^ T.1) <;> simp
  rw [e1, range_filter _ (p2_le t2)]
  apply List.filter_congr
  intro S hS
  have hS := List.mem_range.mp hS
  unfold clC
  have e2 : decide (0 < tot T.1 T.2.1 T.2.2.1) = (fewB T.1 T.2.1 T.2.2.1).isSome := by
    have := tot_0 (h := T.2.1) (a := T.2.2.1) t2
    rw [Bool.eq_iff_iff, decide_eq_true_eq, Option.isSome_iff_ne_none, ne_eq, ← this]
    omega
  rw [e2]
  by_cases hp : 1 < pop S
  · rw [ltA_eq t1 t2 (pop_pos hp) hS]; rfl
  · rw [decide_eq_false hp]; simp
