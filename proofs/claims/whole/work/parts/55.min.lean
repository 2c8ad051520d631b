/-! minima, steps and ranks -/
section MI
variable {n : Nat} {h a : Nat → Nat}
theorem cwi_pos {s : Nat} : ∀ {n : Nat}, 0 < cwi h s n ↔ (fnd h n).testBit s = true
  | 0 => by simp [cwi, fnd]
  | n + 1 => by
    have ih := cwi_pos (s := s) (n := n)
    simp only [cwi, fnd]
    rw [Nat.testBit_or, Bool.or_eq_true, ← ih]
    cases (h n).testBit s <;> simp
theorem fS_min (h1 : 1 ≤ n) (hn : n ≤ 8) {s : Nat} (hs : s < 10) : (if tot n h a = 0 then (-6 : Int32) else nI (Rr n (onB n h a) (cR (fun g => h g &&& 1 <<< s)) 0 0) - nI (if 0 < cwi h s n then 1 else 0)) = oI (fwm (fS h s) none (bests n h a)) := by
  by_cases ht : tot n h a = 0
  · rw [if_pos ht]
    have : bests n h a = [] := by rw [tot_len hn] at ht; exact List.eq_nil_of_length_eq_zero ht
    rw [this]; rfl
  · rw [if_neg ht]
    have hV : bests n h a ≠ [] := by
      intro e; apply ht; rw [tot_len hn, e]; rfl
    have eF : (if 0 < cwi h s n then 1 else 0) = pop (fnd h n &&& 1 <<< s) := by
      rw [pop_one hs]
      have := cwi_pos (h := h) (s := s) (n := n)
      cases e : (fnd h n).testBit s with
      | true => rw [if_pos (this.mpr e)]; rfl
      | false => rw [if_neg (fun hc => by rw [this.mp hc] at e; cases e)]; rfl
    obtain ⟨f1, f2, f3⟩ := fwm_mn (f := fS h s) (t := tr h (1 <<< s) 0) (F := pop (fnd h n &&& 1 <<< s)) hV (fun w hw => by
      have hb := fS_tr (h := h) hs (perms_cov (bests_mem hw))
      have h2 := tr_le h (1 <<< s) w 0
      have h3 := (perms_mem (bests_mem hw)).1
      omega)
    have eR : Rr n (onB n h a) (cR (fun g => h g &&& 1 <<< s)) 0 0 = mn ((bests n h a).map (tr h (1 <<< s) 0)) := by
      rw [Rr, rem_00, Rst_mn, bests_B h1 hn]
      congr 1
      apply List.map_congr_left
      intro w _
      rw [ct_R, if_pos rfl]
    rw [eF, eR, f1, nI_subv f2]
    rfl
end MI
/-! steps -/
theorem sum_cov (f : Nat → Nat) : ∀ {w : List Nat} {n : Nat}, w.Nodup → (∀ g ∈ w, g < n) → (w.map f).sum = sumN n (fun g => if g ∈ w then f g else 0)
  | [], n, _, _ => by
    rw [sumN_congr (g := fun _ => 0) (fun i _ => by simp), sumN_0]; rfl
  | x :: w, n, hd, hm => by
    have hx := hm x List.mem_cons_self
    rw [List.map_cons, List.sum_cons, sum_cov f (List.nodup_cons.mp hd).2 (fun g hg => hm g (List.mem_cons_of_mem _ hg)), ← sumN_one (f := f) hx, ← sumN_add]
    apply sumN_congr
    intro i _
    have hxw := (List.nodup_cons.mp hd).1
    by_cases e : i = x
    · subst e; rw [if_pos rfl, if_neg hxw, if_pos List.mem_cons_self]; rfl
    · rw [if_neg e, Nat.zero_add]
      by_cases e2 : i ∈ w
      · rw [if_pos e2, if_pos (List.mem_cons_of_mem _ e2)]
      · rw [if_neg e2, if_neg (by simp [e, e2])]
theorem sum_all {f : Nat → Nat} {w : List Nat} {n : Nat} (hd : w.Nodup) (hc : ∀ g, g ∈ w ↔ g < n) : (w.map f).sum = sumN n f := by
  rw [sum_cov f hd (fun g hg => (hc g).mp hg)]
  apply sumN_congr
  intro i hi
  rw [if_pos ((hc i).mpr hi)]
theorem sumN_swap (f : Nat → Nat → Nat) (m : Nat) : ∀ k, sumN k (fun i => sumN m (f i)) = sumN m (fun j => sumN k (fun i => f i j))
  | 0 => by
    show 0 = _
    exact (sumN_0 m).symm
  | k + 1 => by
    show sumN k (fun i => sumN m (f i)) + sumN m (f k) = _
    rw [sumN_swap f m k, ← sumN_add]
    rfl
theorem sumN_cut {f : Nat → Nat} {n : Nat} : ∀ {m : Nat}, n ≤ m → (∀ i, n ≤ i → f i = 0) → sumN m f = sumN n f := by
  intro m
  induction m with
  | zero => intro h _; have : n = 0 := by omega
            subst this; rfl
  | succ m ih =>
    intro hm hz
    by_cases e : n = m + 1
    · subst e; rfl
    · show sumN m f + f m = _
      rw [ih (by omega) hz, hz m (by omega)]; rfl
theorem sumF_N (f : Nat → Nat) (n : Nat) : ∀ (k p : Nat), p + k = n → sumF f p k = sumN n (fun i => if p ≤ i then f i else 0)
  | 0, p, h => by
    rw [sumF_0, sumN_congr (g := fun _ => 0) (fun i hi => if_neg (by omega)), sumN_0]
  | k + 1, p, h => by
    rw [sumF_s, sumF_N f n k (p + 1) (by omega), ← sumN_one (f := f) (show p < n by omega), ← sumN_add]
    apply sumN_congr
    intro i _
    by_cases e : i = p
    · subst e; rw [if_pos rfl, if_neg (by omega), if_pos (Nat.le_refl _)]; rfl
    · rw [if_neg e]
      by_cases e2 : p + 1 ≤ i
      · rw [if_pos e2, if_pos (by omega)]; omega
      · rw [if_neg e2, if_neg (by omega)]
section ST
variable {n : Nat} {L pos : Nat → Nat}
theorem pas_bit : ∀ (p i : Nat), (pas L p).testBit i = true ↔ ∃ j, j < p ∧ L j = i
  | 0, i => by simp [pas]
  | p + 1, i => by
    simp only [pas]
    rw [bit_or1, Bool.or_eq_true, pas_bit p i, decide_eq_true_eq]
    constructor
    · rintro (⟨j, h1, h2⟩ | h)
      · exact ⟨j, by omega, h2⟩
      · exact ⟨p, by omega, h.symm⟩
    · rintro ⟨j, h1, h2⟩
      by_cases e : j = p
      · subst e; exact Or.inr h2.symm
      · exact Or.inl ⟨j, by omega, h2⟩
theorem pas_pos (hL : ∀ p, p < n → L p < n ∧ pos (L p) = p) (hpos : ∀ g, g < n → pos g < n ∧ L (pos g) = g) {g i : Nat} (hg : g < n) : (pas L (pos g)).testBit i = decide (i < n ∧ pos i < pos g) := by
  rw [Bool.eq_iff_iff, pas_bit, decide_eq_true_eq]
  have := (hpos g hg).1
  constructor
  · rintro ⟨j, h1, rfl⟩
    have := hL j (by omega)
    exact ⟨this.1, by omega⟩
  · rintro ⟨h1, h2⟩
    exact ⟨pos i, h2, (hpos i h1).2⟩
theorem ct_S {fr : Nat → Nat} {W : List Nat} (hW : W.Nodup) : ∀ (w u : List Nat) (l : Nat), u ++ w = W → ct (cS fr) (msk u) l w = (w.map (fun g => sumN 10 (fun i => ((fr g).testBit i && !decide (W.idxOf i < W.idxOf g)).toNat))).sum
  | [], u, l, _ => rfl
  | g :: w, u, l, he => by
    simp only [ct]
    rw [← msk_app, ct_S hW w (u ++ [g]) g (by simp [he]), List.map_cons, List.sum_cons]
    congr 1
    unfold cS pop
    rw [popN_sum]
    apply sumN_congr
    intro i _
    rw [nd_bit, msk_bit]
    have hgu : g ∉ u := by
      intro hx
      rw [← he] at hW
      exact (List.nodup_append.mp hW).2.2 g hx g List.mem_cons_self rfl
    have e1 : W.idxOf g = u.length := by rw [← he, idx_at hgu]
    have e2 : (i ∈ u) ↔ W.idxOf i < W.idxOf g := by
      rw [e1, ← he]
      rw [List.idxOf_append]
      by_cases hi : i ∈ u
      · rw [if_pos hi]; simp only [hi, true_iff]; exact List.idxOf_lt_length_of_mem hi
      · rw [if_neg hi]; simp only [hi, false_iff]; omega
    rw [decide_eq_decide.mpr e2]
theorem ct_stp (hn : n ≤ 8) (hL : ∀ p, p < n → L p < n ∧ pos (L p) = p) (hpos : ∀ g, g < n → pos g < n ∧ L (pos g) = g) {w : List Nat} (hw : w ∈ perms n) : ct (cS (fun g => pas L (pos g))) 0 0 w = stp n L w := by
  obtain ⟨m1, m2, m3⟩ := perms_mem hw
  have inj : ∀ i g, i < n → g < n → w.idxOf i = w.idxOf g → i = g := by
    intro i g hi hg e
    have h1 := List.getElem_idxOf (List.idxOf_lt_length_of_mem (perms_full hw hi))
    have h2 := List.getElem_idxOf (List.idxOf_lt_length_of_mem (perms_full hw hg))
    rw [← h1, ← h2]; simp only [e]
  -- the class's sum
  have e1 : ct (cS (fun g => pas L (pos g))) 0 0 w = sumN n (fun g => sumN n (fun i => (decide (pos i < pos g ∧ w.idxOf g < w.idxOf i)).toNat)) := by
    have := ct_S (fr := fun g => pas L (pos g)) m2 w [] 0 rfl
    rw [show msk [] = 0 from rfl] at this
    rw [this, sum_all m2 (perms_cov hw)]
    apply sumN_congr
    intro g hg
    rw [sumN_cut (n := n) (by omega) (fun i hi => by rw [pas_pos hL hpos hg, decide_eq_false (by omega)]; rfl)]
    apply sumN_congr
    intro i hi
    rw [pas_pos hL hpos hg]
    congr 1
    rw [Bool.eq_iff_iff, Bool.and_eq_true, Bool.not_eq_true', decide_eq_true_eq, decide_eq_false_iff_not, decide_eq_true_eq]
    constructor
    · rintro ⟨⟨-, h1⟩, h2⟩
      refine ⟨h1, ?_⟩
      have : w.idxOf i ≠ w.idxOf g := fun e => by have := inj i g hi hg e; subst this; omega
      omega
    · rintro ⟨h1, h2⟩
      exact ⟨⟨hi, h1⟩, by omega⟩
  -- the row as a list
  have hd : (seg L 0 n).Nodup := by
    unfold seg
    rw [List.nodup_iff_pairwise_ne, List.pairwise_map]
    refine List.Pairwise.imp_of_mem ?_ (List.nodup_range' (s := 0) (n := n) (step := 1) |> fun x => x)
    intro a b ha hb hne he
    have ha := (List.mem_range'_1.mp ha).2
    have hb := (List.mem_range'_1.mp hb).2
    apply hne
    have h1 := (hL a (by omega)).2
    have h2 := (hL b (by omega)).2
    rw [← h1, ← h2, he]
  have hc : ∀ g, g ∈ seg L 0 n ↔ g < n := by
    intro g
    constructor
    · intro hg
      obtain ⟨i, hi, rfl⟩ := seg_mem.mp hg
      rw [Nat.zero_add]; exact (hL i hi).1
    · intro hg
      exact seg_mem.mpr ⟨pos g, (hpos g hg).1, by rw [Nat.zero_add]; exact (hpos g hg).2.symm⟩
  have reidx : ∀ f : Nat → Nat, sumF (fun x => f (L x)) 0 n = sumN n f := by
    intro f
    have h1 : sumF (fun x => f (L x)) 0 n = ((seg L 0 n).map f).sum := by
      unfold sumF seg; rw [List.map_map]; rfl
    rw [h1]; exact sum_all hd hc
  have sumF_cg : ∀ (f g : Nat → Nat), (∀ x, x < n → f x = g x) → sumF f 0 n = sumF g 0 n := by
    intro f g hfg
    rw [sumF_N f n n 0 (by omega), sumF_N g n n 0 (by omega)]
    apply sumN_congr
    intro i hi
    rw [hfg i hi]
  have e2 : stp n L w = sumN n (fun g => sumN n (fun i => (decide (pos g < pos i ∧ w.idxOf i < w.idxOf g)).toNat)) := by
    unfold stp stQ
    rw [← reidx]
    apply sumF_cg
    intro x hx
    rw [← reidx, stI, sumF_N _ n (n - 1 - x) (x + 1) (by omega), sumF_N _ n n 0 (by omega)]
    apply sumN_congr
    intro y hy
    rw [if_pos (Nat.zero_le _), (hL x hx).2, (hL y hy).2]
    by_cases e : x + 1 ≤ y
    · rw [if_pos e]; congr 1; apply decide_eq_decide.mpr; omega
    · rw [if_neg e, decide_eq_false (by omega)]; rfl
  rw [e1, e2, sumN_swap]
end ST
/-! the first of the nearest -/
theorem nrs_some {st : List Nat → Nat} : ∀ (l : List (List Nat)) (v : List Nat), (∀ w ∈ v :: l, st w < 1000000) → nrs st (some v) l = ((v :: l).filter (fun w => decide (st w = mn ((v :: l).map st)))).head?
  | [], v, hb => by
    have h1 := hb v List.mem_cons_self
    simp only [nrs, List.map_cons, List.map_nil, mn_cons]
    rw [List.filter_cons, if_pos]
    · rfl
    · apply decide_eq_true; show st v = min (st v) 1000000; omega
  | w :: l, v, hb => by
    have hv := hb v List.mem_cons_self
    have hw := hb w (by simp)
    simp only [nrs]
    by_cases e : st w < st v
    · rw [if_pos e, nrs_some l w (fun x hx => hb x (List.mem_cons_of_mem _ hx))]
      have em : mn ((v :: w :: l).map st) = mn ((w :: l).map st) := by
        rw [List.map_cons, mn_cons]
        have := mn_lb (l := (w :: l).map st) (x := st w) (by simp)
        omega
      rw [em, List.filter_cons (x := v), if_neg]
      rw [decide_eq_true_eq]
      have := mn_lb (l := (w :: l).map st) (x := st w) (by simp)
      omega
    · rw [if_neg e, nrs_some l v (fun x hx => hb x (by rcases List.mem_cons.mp hx with h | h; simp [h]; simp [h]))]
      have em : mn ((v :: w :: l).map st) = mn ((v :: l).map st) := by
        rw [List.map_cons, List.map_cons, mn_cons, mn_cons, List.map_cons, mn_cons]; omega
      rw [em]
      by_cases ev : st v = mn ((v :: l).map st)
      · rw [List.filter_cons, if_pos (decide_eq_true ev), List.filter_cons, if_pos (decide_eq_true ev)]; rfl
      · have hlt : mn ((v :: l).map st) < st v := by
          have := mn_lb (l := (v :: l).map st) (x := st v) (by simp)
          omega
        rw [List.filter_cons, if_neg (by rw [decide_eq_true_eq]; omega), List.filter_cons, if_neg (by rw [decide_eq_true_eq]; omega), List.filter_cons, if_neg (by rw [decide_eq_true_eq]; omega)]
theorem nrs_head {st : List Nat → Nat} {V : List (List Nat)} (hb : ∀ w ∈ V, st w < 1000000) : nrs st none V = (V.filter (fun w => decide (st w = mn (V.map st)))).head? := by
  cases V with
  | nil => rfl
  | cons v l => exact nrs_some l v hb
theorem lstM_bit {S : Nat} (hS : S < 256) (h0 : S ≠ 0) : S.testBit (lstM S) = true ∧ ∀ g, g < lstM S → S.testBit g = false := by
  unfold lstM
  cases e : (List.range 8).find? (fun g => S.testBit g) with
  | none =>
    exfalso
    obtain ⟨i, hi⟩ := Nat.exists_testBit_of_ne_zero h0
    have h8 : i < 8 := by
      apply Classical.byContradiction
      intro hc
      rw [Nat.testBit_lt_two_pow (Nat.lt_of_lt_of_le hS (Nat.pow_le_pow_right (n := 2) (i := 8) (by decide) (by omega)))] at hi; cases hi
    have := List.find?_eq_none.mp e i (List.mem_range.mpr h8)
    exact this hi
  | some g =>
    have h1 := List.find?_some e
    refine ⟨by simpa using h1, ?_⟩
    intro j hj
    simp only [Option.getD_some] at hj
    have hg : g < 8 := by have := List.mem_of_find?_eq_some e; simpa using this
    obtain ⟨-, as, bs, hab, hno⟩ := List.find?_eq_some_iff_append.mp e
    have hjm : j ∈ as := by
      have e1 : (List.range 8)[j]? = some j := by rw [List.getElem?_range (by omega)]
      have hlen : as.length = g := by
        have e2 : (List.range 8)[as.length]? = some g := by rw [hab]; simp
        have hl : as.length < 8 := by
          have := congrArg List.length hab
          simp at this; omega
        rw [List.getElem?_range hl] at e2
        simpa using e2
      rw [hab, List.getElem?_append_left (by omega)] at e1
      exact List.mem_of_getElem? e1
    have := hno j hjm
    simpa using this
section GO
variable {n : Nat} {on : Nat → Nat → Nat} {c : Nat → Nat → Nat → Nat}
def gp (on' : Nat → Nat → Nat) : Nat → Nat → Nat → List Nat
  | 0, _, _ => []
  | k + 1, S, l => lstM (on' S l) :: gp on' k (S ||| 1 <<< lstM (on' S l)) (lstM (on' S l))
theorem blk_nil {k S l j : Nat} (hno : ∀ g, g < j → (on S l).testBit g = false) : blk n on k S l j = [] := by
  apply List.eq_nil_iff_forall_not_mem.mpr
  intro w hw
  obtain ⟨g, v, h1, h2, -, -⟩ := mem_blk.mp hw
  rw [hno g h1] at h2; cases h2
theorem blk_head {k S l j g0 : Nat} {v : List Nat} (hno : ∀ g, g < g0 → (on S l).testBit g = false) (hb : (on S l).testBit g0 = true) (hv : (pth n on k (S ||| 1 <<< g0) g0).head? = some v) : ∀ j, g0 < j → (blk n on k S l j).head? = some (g0 :: v)
  | 0, h => by omega
  | j + 1, h => by
    rw [blk_s]
    by_cases e : g0 = j
    · subst e
      rw [blk_nil hno, List.nil_append, hb, if_pos rfl, List.head?_map, hv]; rfl
    · have ih := blk_head (j := j) hno hb hv j (by omega)
      rw [List.head?_append, ih]; rfl
theorem pth_head (h1 : 1 ≤ n) (hn : n ≤ 8) (hc : ∀ S l g, c S l g ≤ 10) (hob : ∀ S l g, (on S l).testBit g = true → g < n ∧ S.testBit g = false) : ∀ (k S l : Nat), isSt S l = true → rem n S = k → Rr n on c S l < 1000000 → (pth n (on1 n on c) k S l).head? = some (gp (on1 n on c) k S l)
  | 0, S, l, _, _, _ => rfl
  | k + 1, S, l, hst, hk, hR => by
    have hne : pth n (on1 n on c) (k + 1) S l ≠ [] := by
      have hrl := rem_le n S
      rw [pth_K hn hc hob (k + 1) S l (by omega) hst hk]
      have hR2 := hR
      rw [Rr, hk, Rst_mn] at hR2
      obtain ⟨w, hw, ew⟩ := List.mem_map.mp (mn_mem hR2)
      apply List.ne_nil_of_mem (a := w)
      refine List.mem_filter.mpr ⟨hw, decide_eq_true ?_⟩
      rw [ew, Rr, hk, Rst_mn]
    obtain ⟨w, hw⟩ := List.exists_mem_of_ne_nil _ hne
    rw [pth_s] at hw
    obtain ⟨g, v, g1, g2, -, -⟩ := mem_blk.mp hw
    have hlt : on1 n on c S l < 256 := by unfold on1; rw [if_pos hst]; exact onK_lt hn
    have hn0 : on1 n on c S l ≠ 0 := by intro e; rw [e] at g2; simp at g2
    obtain ⟨b1, b2⟩ := lstM_bit hlt hn0
    have b3 := b1
    have e3 : on1 n on c S l = onK n on c S l := by unfold on1; rw [if_pos hst]
    rw [e3, onK_bit] at b3
    simp only [Bool.and_eq_true, decide_eq_true_eq] at b3
    rw [← e3] at b3
    obtain ⟨o1, o2⟩ := hob _ _ _ b3.2.2.1
    have hr := rem_or o1 o2
    have ih := pth_head h1 hn hc hob k _ _ (isSt_or S (lstM (on1 n on c S l))) (by omega) (by omega)
    rw [pth_s]
    exact blk_head (j := n) b2 b1 ih n o1
theorem gp_len (on' : Nat → Nat → Nat) : ∀ k S l, (gp on' k S l).length = k
  | 0, _, _ => rfl
  | k + 1, S, l => by simp only [gp, List.length_cons]; rw [gp_len on' k]
theorem gp_goF (h1 : 1 ≤ n) : ∀ (k p : Nat), gp (on1 n on c) k (goF n on c p).1 (goF n on c p).2 = seg (fun p => (goF n on c (p + 1)).2) p k
  | 0, _ => rfl
  | k + 1, p => by
    obtain ⟨-, -, hst⟩ := goF_ok (n := n) (on := on) (c := c) h1 p
    have e : on1 n on c (goF n on c p).1 (goF n on c p).2 = onK n on c (goF n on c p).1 (goF n on c p).2 := by unfold on1; rw [if_pos hst]
    simp only [gp]
    rw [seg_s, e]
    exact congrArg _ (gp_goF h1 k (p + 1))
end GO
section NR
variable {n : Nat} {h a L pos : Nat → Nat}
theorem near_eq (h1 : 1 ≤ n) (hn : n ≤ 8) (hL : ∀ p, p < n → L p < n ∧ pos (L p) = p) (hpos : ∀ g, g < n → pos g < n ∧ L (pos g) = g) (hV : bests n h a ≠ []) : nrs (stp n L) none (bests n h a) = some (seg (fun p => (goF n (onB n h a) (cS (fun g => pas L (pos g))) (p + 1)).2) 0 n) ∧ Rr n (onB n h a) (cS (fun g => pas L (pos g))) 0 0 = stp n L (seg (fun p => (goF n (onB n h a) (cS (fun g => pas L (pos g))) (p + 1)).2) 0 n) ∧ seg (fun p => (goF n (onB n h a) (cS (fun g => pas L (pos g))) (p + 1)).2) 0 n ∈ bests n h a := by
  have hst : ∀ w ∈ bests n h a, stp n L w < 1000000 := fun w _ => by
    have := stQ_le (fun g => w.idxOf g) n L
    have hsq : n * n ≤ 64 := Nat.mul_le_mul hn hn
    unfold stp; omega
  have eR : Rr n (onB n h a) (cS (fun g => pas L (pos g))) 0 0 = mn ((bests n h a).map (stp n L)) := by
    rw [Rr, rem_00, Rst_mn, bests_B h1 hn]
    congr 1
    apply List.map_congr_left
    intro w hw
    exact ct_stp hn hL hpos (bests_mem hw)
  have hR : Rr n (onB n h a) (cS (fun g => pas L (pos g))) 0 0 < 1000000 := by
    rw [eR]
    obtain ⟨w, hw⟩ := List.exists_mem_of_ne_nil _ hV
    have := mn_lb (l := (bests n h a).map (stp n L)) (List.mem_map.mpr ⟨w, hw, rfl⟩)
    have := hst w hw
    omega
  have hh := pth_head (n := n) (on := onB n h a) (c := cS (fun g => pas L (pos g))) h1 hn (cS_le _) (fun S l g hb => onB_ob hb) n 0 0 rfl (rem_00 n) hR
  have hg := gp_goF (n := n) (on := onB n h a) (c := cS (fun g => pas L (pos g))) h1 n 0
  have hK := pth_K (n := n) (on := onB n h a) (c := cS (fun g => pas L (pos g))) hn (cS_le _) (fun S l g hb => onB_ob hb) n 0 0 hn rfl (rem_00 n)
  rw [show (goF n (onB n h a) (cS (fun g => pas L (pos g))) 0).1 = 0 from rfl, show (goF n (onB n h a) (cS (fun g => pas L (pos g))) 0).2 = 0 from rfl] at hg
  rw [hg, hK, bests_B h1 hn] at hh
  have ef : (bests n h a).filter (fun w => decide (ct (cS (fun g => pas L (pos g))) 0 0 w = Rr n (onB n h a) (cS (fun g => pas L (pos g))) 0 0)) = (bests n h a).filter (fun w => decide (stp n L w = mn ((bests n h a).map (stp n L)))) := by
    apply List.filter_congr
    intro w hw
    rw [ct_stp hn hL hpos (bests_mem hw), eR]
  rw [ef] at hh
  have hm := List.mem_of_mem_head? (Option.mem_def.mpr hh)
  obtain ⟨q1, q2⟩ := List.mem_filter.mp hm
  refine ⟨by rw [nrs_head hst]; exact hh, ?_, q1⟩
  rw [eR]; exact (of_decide_eq_true q2).symm
end NR
/-! the i-th order -/
section GA
variable {n : Nat} {h a : Nat → Nat}
theorem gaI_blk {k S l lf : Nat} {on on' : Nat → Nat → Nat} (he : on' S l = on S l) (wn : Nat → Nat → Nat) (hw : ∀ g, (on S l).testBit g = true → wn (S ||| 1 <<< g) g = (pth n on k (S ||| 1 <<< g) g).length) : ∀ j, (lf < (blk n on k S l j).length → ∃ g v lf', rf (gaI (fun g => wn (S ||| 1 <<< g) g) (on' S l)) (none, lf) j = (some g, lf') ∧ (on S l).testBit g = true ∧ (blk n on k S l j)[lf]? = some (g :: v) ∧ (pth n on k (S ||| 1 <<< g) g)[lf']? = some v) ∧ (¬ lf < (blk n on k S l j).length → rf (gaI (fun g => wn (S ||| 1 <<< g) g) (on' S l)) (none, lf) j = (none, lf - (blk n on k S l j).length))
  | 0 => ⟨fun h => absurd h (by show ¬ lf < 0; omega), fun _ => rfl⟩
  | j + 1 => by
    obtain ⟨i1, i2⟩ := gaI_blk (lf := lf) he wn hw j
    rw [blk_s, List.length_append, rf_s]
    have el : (if (on' S l).testBit j = true then wn (S ||| 1 <<< j) j else 0) = (if (on S l).testBit j = true then (pth n on k (S ||| 1 <<< j) j).map (j :: ·) else []).length := by
      rw [he]
      cases e : (on S l).testBit j with
      | true => rw [if_pos rfl, if_pos rfl, hw j e, List.length_map]
      | false => rfl
    by_cases h1 : lf < (blk n on k S l j).length
    · obtain ⟨g, v, lf', a1, a2, a3, a4⟩ := i1 h1
      refine ⟨fun _ => ⟨g, v, lf', by rw [a1]; rfl, a2, by rw [List.getElem?_append_left h1]; exact a3, a4⟩, fun hc => absurd (Nat.lt_of_lt_of_le h1 (Nat.le_add_right _ _)) hc⟩
    · have e0 := i2 h1
      rw [e0]
      simp only [gaI]
      rw [el]
      generalize hb : (if (on S l).testBit j = true then (pth n on k (S ||| 1 <<< j) j).map (j :: ·) else []) = B
      constructor
      · intro hlt
        rw [if_pos (by omega)]
        cases e : (on S l).testBit j with
        | false =>
          rw [e, if_neg (by decide)] at hb
          subst hb
          simp at hlt; omega
        | true =>
          rw [e, if_pos rfl] at hb
          have hl2 : lf - (blk n on k S l j).length < (pth n on k (S ||| 1 <<< j) j).length := by
            have : B.length = (pth n on k (S ||| 1 <<< j) j).length := by rw [← hb, List.length_map]
            omega
          obtain ⟨v, hv⟩ : ∃ v, (pth n on k (S ||| 1 <<< j) j)[lf - (blk n on k S l j).length]? = some v := ⟨_, List.getElem?_eq_getElem hl2⟩
          refine ⟨j, v, lf - (blk n on k S l j).length, rfl, e, ?_, hv⟩
          rw [List.getElem?_append_right (by omega), ← hb, List.getElem?_map, hv]; rfl
      · intro hlt
        rw [if_neg (by omega)]
        congr 1; omega
theorem gaF_eq (h1 : 1 ≤ n) (hn : n ≤ 8) {i : Nat} {w : List Nat} (hi : (bests n h a)[i]? = some w) : ∀ p, p ≤ n → ∃ u v, w = u ++ v ∧ u.length = p ∧ lsu u = (gaF n (onB n h a) (wN n h a) i p).2.1 ∧ isSt (gaF n (onB n h a) (wN n h a) i p).1 (gaF n (onB n h a) (wN n h a) i p).2.1 = true ∧ (gaF n (onB n h a) (wN n h a) i p).2.1 < n ∧ 0 < tN0 n h a (gaF n (onB n h a) (wN n h a) i p).1 (gaF n (onB n h a) (wN n h a) i p).2.1 ∧ rem n (gaF n (onB n h a) (wN n h a) i p).1 + p = n ∧ (pth n (onA n h a) (n - p) (gaF n (onB n h a) (wN n h a) i p).1 (gaF n (onB n h a) (wN n h a) i p).2.1)[(gaF n (onB n h a) (wN n h a) i p).2.2]? = some v
  | 0, _ => by
    refine ⟨[], w, rfl, rfl, rfl, rfl, h1, ?_, rem_00 n, ?_⟩
    · show 0 < Tr n _ _ 0 0
      rw [Tr_0, t01, if_pos]
      · decide
      · rw [tot_len hn]
        have := (List.getElem?_eq_some_iff.mp hi).1
        omega
    · show (pth n (onA n h a) (n - 0) 0 0)[i]? = some w
      rw [Nat.sub_zero, ← bests_pth hn]; exact hi
  | p + 1, hp => by
    obtain ⟨u, v, e1, e2, e3, e4, e5, e6, e7, e8⟩ := gaF_eq h1 hn hi p (by omega)
    simp only [gaF]
    generalize gaF n (onB n h a) (wN n h a) i p = q at e3 e4 e5 e6 e7 e8 ⊢
    obtain ⟨S, l, lf⟩ := q
    dsimp only at e3 e4 e5 e6 e7 e8 ⊢
    have eon : onB n h a S l = onA n h a S l := by
      unfold onB on2
      rw [if_neg]
      rw [e4, Bool.true_and, decide_eq_true_eq]
      exact Nat.pos_iff_ne_zero.mp e6
    rw [show n - p = (n - (p + 1)) + 1 by omega, pth_s] at e8
    obtain ⟨b1, -⟩ := gaI_blk (n := n) (k := n - (p + 1)) (S := S) (l := l) (lf := lf) (on := onA n h a) (on' := onB n h a) eon (wN n h a) (fun g hg => by
      obtain ⟨o1, o2⟩ := onA_ob hg
      have := rem_or o1 o2
      show Wr n _ _ _ = _
      rw [Wr, Wst_len, show rem n (S ||| 1 <<< g) = n - (p + 1) by omega]) n
    obtain ⟨g, v', lf', a1, a2, a3, a4⟩ := b1 (List.getElem?_eq_some_iff.mp e8).1
    rw [e8] at a3
    have ev : v = g :: v' := by simpa using a3
    obtain ⟨o1, o2⟩ := onA_ob a2
    have hr := rem_or o1 o2
    rw [a1]
    dsimp only [Option.getD_some]
    refine ⟨u ++ [g], v', by rw [e1, ev]; simp, by simp [e2], by simp [lsu], isSt_or S g, o1, Tr_on e5 e4 e6 a2, by omega, a4⟩
theorem gaF_at (h1 : 1 ≤ n) (hn : n ≤ 8) {i p : Nat} {w : List Nat} (hi : (bests n h a)[i]? = some w) (hp : p < n) : (gaF n (onB n h a) (wN n h a) i (p + 1)).2.1 = w.getD p 0 := by
  obtain ⟨u, v, e1, e2, e3, -⟩ := gaF_eq h1 hn hi (p + 1) (by omega)
  rw [← e3, e1]
  rcases List.eq_nil_or_concat u with rfl | ⟨u', g, rfl⟩
  · simp at e2
  · have : u'.length = p := by simpa using e2
    subst this
    simp [lsu]
end GA
