/-! the next order -/
def lastGt (g : Nat) : List Nat → Option Nat
  | [] => none
  | x :: v => match lastGt g v with
    | some j => some (j + 1)
    | none => if g < x then some 0 else none
/-- the next order, as the reference makes it -/
def nxt : List Nat → Option (List Nat)
  | [] => none
  | g :: v => match nxt v with
    | some v' => some (g :: v')
    | none => match lastGt g v with
      | some j => some (v.getD j 0 :: (v.set j g).reverse)
      | none => none
theorem lastGt_no {g : Nat} : ∀ {v : List Nat}, (∀ x ∈ v, ¬ g < x) → lastGt g v = none
  | [], _ => rfl
  | x :: v, h => by
    simp only [lastGt]
    rw [lastGt_no (fun y hy => h y (List.mem_cons_of_mem _ hy)), if_neg (h x List.mem_cons_self)]
theorem seg_mem {o : Nat → Nat} {q m x : Nat} : x ∈ seg o q m ↔ ∃ i, i < m ∧ x = o (q + i) := by
  simp only [seg, List.mem_map, List.mem_range'_1]
  constructor
  · rintro ⟨i, ⟨h1, h2⟩, rfl⟩; exact ⟨i - q, by omega, by rw [show q + (i - q) = i by omega]⟩
  · rintro ⟨i, h1, rfl⟩; exact ⟨q + i, ⟨by omega, by omega⟩, rfl⟩
theorem lastGt_seg {o : Nat → Nat} {g : Nat} : ∀ (m q j : Nat), j < m → g < o (q + j) → (∀ i, j < i → i < m → ¬ g < o (q + i)) → lastGt g (seg o q m) = some j
  | 0, q, j, h, _, _ => by omega
  | m + 1, q, 0, h, h1, h2 => by
    rw [seg_s]; simp only [lastGt]
    rw [lastGt_no (fun x hx => by
      obtain ⟨i, hi, rfl⟩ := seg_mem.mp hx
      rw [show q + 1 + i = q + (i + 1) by omega]
      exact h2 (i + 1) (by omega) (by omega))]
    exact if_pos h1
  | m + 1, q, j + 1, h, h1, h2 => by
    rw [seg_s]; simp only [lastGt]
    rw [lastGt_seg m (q + 1) j (by omega) (by rw [show q + 1 + j = q + (j + 1) by omega]; exact h1) (fun i hi hm => by rw [show q + 1 + i = q + (i + 1) by omega]; exact h2 (i + 1) (by omega) (by omega))]
theorem desc_lt {o : Nat → Nat} {q : Nat} : ∀ (m : Nat), (∀ i, i + 1 < m → o (q + i + 1) < o (q + i)) → ∀ i, 0 < i → i < m → o (q + i) < o q
  | 0, _, i, _, h => by omega
  | m + 1, hd, i, h0, hi => by
    induction i with
    | zero => omega
    | succ i ih =>
      by_cases e : i = 0
      · subst e; exact hd 0 (by omega)
      · exact Nat.lt_trans (hd i (by omega)) (ih (by omega) (by omega))
theorem nxt_desc {o : Nat → Nat} : ∀ (m q : Nat), (∀ i, i + 1 < m → o (q + i + 1) < o (q + i)) → nxt (seg o q m) = none
  | 0, q, _ => rfl
  | m + 1, q, hd => by
    rw [seg_s]; simp only [nxt]
    rw [nxt_desc m (q + 1) (fun i hi => by have := hd (i + 1) (by omega); rw [show q + 1 + i + 1 = q + (i + 1) + 1 by omega, show q + 1 + i = q + (i + 1) by omega]; exact this)]
    rw [lastGt_no (fun x hx => by
      obtain ⟨i, hi, rfl⟩ := seg_mem.mp hx
      have := desc_lt (m + 1) hd (i + 1) (by omega) (by omega)
      rw [show q + 1 + i = q + (i + 1) by omega]; omega)]
theorem nxt_pre {x y : List Nat} (h : nxt x = some y) : ∀ u : List Nat, nxt (u ++ x) = some (u ++ y)
  | [] => h
  | g :: u => by simp only [List.cons_append, nxt]; rw [nxt_pre h u]
theorem seg_app (o : Nat → Nat) (q m k : Nat) : seg o q (m + k) = seg o q m ++ seg o (q + m) k := by
  simp only [seg]; rw [← List.map_append, List.range'_append_1]
theorem seg_congr {o o' : Nat → Nat} {q m : Nat} (h : ∀ i, i < m → o (q + i) = o' (q + i)) : seg o q m = seg o' q m := by
  apply List.map_congr_left
  intro i hi
  have := List.mem_range'_1.mp hi
  have e := h (i - q) (by omega)
  rwa [show q + (i - q) = i by omega] at e
theorem seg_at {o : Nat → Nat} {q m i : Nat} (h : i < m) : (seg o q m)[i]? = some (o (q + i)) := by
  simp [seg, h]
/-- the swap of k and j, and the turning about of what lies behind k -/
def nxF (o : Nat → Nat) (n k j : Nat) : Nat → Nat := fun p => if p < k then o p else if p = k then o j else (fun q => if q = j then o k else o q) (n + k - p)
theorem nxF_lt {o : Nat → Nat} {n k j p : Nat} (h : p < k) : nxF o n k j p = o p := if_pos h
theorem nxF_k {o : Nat → Nat} {n k j : Nat} : nxF o n k j k = o j := by unfold nxF; rw [if_neg (Nat.lt_irrefl _), if_pos rfl]
theorem nxF_gt {o : Nat → Nat} {n k j p : Nat} (h : k < p) : nxF o n k j p = if n + k - p = j then o k else o (n + k - p) := by unfold nxF; rw [if_neg (by omega), if_neg (by omega)]
theorem nxt_seg {o : Nat → Nat} {n k j : Nat} (hk : k + 1 < n) (hj : k < j) (hjn : j < n) (hd : ∀ i, k < i → i + 1 < n → o (i + 1) < o i) (h1 : o k < o j) (h2 : ∀ i, j < i → i < n → ¬ o k < o i) : nxt (seg o 0 n) = some (seg (nxF o n k j) 0 n) := by
  obtain ⟨m, rfl⟩ : ∃ m, n = k + (m + 1) := ⟨n - k - 1, by omega⟩
  rw [seg_app o 0 k (m + 1), seg_app (nxF o (k + (m + 1)) k j) 0 k (m + 1)]
  have e0 : seg o 0 k = seg (nxF o (k + (m + 1)) k j) 0 k := seg_congr (fun i hi => (nxF_lt (by omega)).symm)
  rw [← e0]
  refine nxt_pre ?_ _
  rw [Nat.zero_add, seg_s]
  simp only [nxt]
  rw [nxt_desc m (k + 1) (fun i hi => by have := hd (k + 1 + i) (by omega) (by omega); exact this)]
  rw [lastGt_seg m (k + 1) (j - (k + 1)) (by omega) (by rw [show k + 1 + (j - (k + 1)) = j by omega]; exact h1) (fun i hi hm => h2 _ (by omega) (by omega))]
  have hjs : (seg o (k + 1) m).getD (j - (k + 1)) 0 = o j := by
    rw [List.getD_eq_getElem?_getD, seg_at (by omega), show k + 1 + (j - (k + 1)) = j by omega]; rfl
  simp only [hjs]
  rw [seg_s]
  rw [nxF_k]
  congr 2
  apply List.ext_getElem?
  intro i
  by_cases hi : i < m
  · rw [seg_at hi, List.getElem?_reverse (by rw [List.length_set, seg_len]; exact hi), List.length_set, seg_len, List.getElem?_set]
    rw [nxF_gt (by omega)]
    by_cases hq : j - (k + 1) = m - 1 - i
    · rw [if_pos hq, seg_len, if_pos (by omega), if_pos (by omega)]
    · rw [if_neg hq, seg_at (by omega), if_neg (by omega)]
      congr 2; omega
  · rw [List.getElem?_eq_none (by rw [List.length_reverse, List.length_set, seg_len]; omega), List.getElem?_eq_none (by rw [seg_len]; omega)]
theorem dec_raw (x : Int32) : x + Int32.ofInt (-1) = x - nI 1 := by
  have e : Int32.ofInt (-1) = - nI 1 := by decide +kernel
  rw [e, Int32.sub_eq_add_neg]
section MG
variable {I : xMem} {n d : Nat}
def goQ (I : xMem) (n : Nat) (o : Nat → Nat) (r : Int32) (J : xMem) : Prop := (nxt (seg o 0 n) = none ∧ r = nI 0 ∧ J = I) ∨ ∃ o' : Nat → Nat, nxt (seg o 0 n) = some (seg o' 0 n) ∧ r = nI 1 ∧ (∀ p, p < n → J 4 p = nI (o' p)) ∧ ∀ c, c ≠ 4 → J c = I c
theorem c_goOn {o : Nat → Nat} (hd : 1 ≤ d) (h1 : 1 ≤ n) (hn : n ≤ 8) (h0 : I 1 0 = nI n) (ho : ∀ p, p < n → o p < 8) (hO : ∀ p, p < n → I 4 p = nI (o p)) (hne : ∀ p q, p < n → q < n → p ≠ q → o p ≠ o q) : Cx LM yX6_goOn mX6_goOn d [.ref 0] I (xRi (goQ I n o)) := by
  -- the turning about
  have lp3 : ∀ (t k j a b : Nat) (v3 : Value) (J : xMem), b < a + t → k + 1 < n → k < j → j < n → (∀ i, k < i → i + 1 < n → o (i + 1) < o i) → o k < o j → (∀ i, j < i → i < n → ¬ o k < o i) → a + b = n + k → k < a → (∀ p, p < n → J 4 p = nI (if p < a ∨ b < p then nxF o n k j p else (if p = j then o k else o p))) → (∀ c, c ≠ 4 → J c = I c) → Wx LM mX6_goOn d (xRi (goQ I n o)) 83 [.ref 0, .int (nI (n - 1)), .int (nI k), v3, .int (nI a), .int (nI b)] [] J := by
    intro t
    induction t with
    | zero =>
      intro k j a b v3 J hab hk hj hjn hdd hg hg2 hs hka hJ hF
      refine x_iload dX6_goOn_83 rfl ?_
      refine x_iload dX6_goOn_85 rfl ?_
      refine x_icmpn_ge (a := a) (b := b) (by omega) (by omega) (tgt := 107) dX6_goOn_87 rfl (fun c => ?_) (fun c => ?_)
      ·
        refine x_iconst dX6_goOn_107 ic_1 ?_
        refine x_zretb (b := true) dX6_goOn_108 rfl (Or.inr ⟨nxF o n k j, nxt_seg hk hj hjn hdd hg hg2, rfl, fun p hp => by rw [hJ p hp, if_pos (by omega)], hF⟩)
      ·
        omega
    | succ t ih =>
      intro k j a b v3 J hab hk hj hjn hdd hg hg2 hs hka hJ hF
      refine x_iload dX6_goOn_83 rfl ?_
      refine x_iload dX6_goOn_85 rfl ?_
      refine x_icmpn_ge (a := a) (b := b) (by omega) (by omega) (tgt := 107) dX6_goOn_87 rfl (fun c => ?_) (fun c => ?_)
      ·
        refine x_iconst dX6_goOn_107 ic_1 ?_
        refine x_zretb (b := true) dX6_goOn_108 rfl (Or.inr ⟨nxF o n k j, nxt_seg hk hj hjn hdd hg hg2, rfl, ?_, hF⟩)
        intro p hp
        rw [hJ p hp]
        by_cases e : p < a ∨ b < p
        · rw [if_pos e]
        · rw [if_neg e]
          congr 1
          rw [nxF_gt (by omega), show n + k - p = p by omega]
      ·
        refine x_aload_n dX6_goOn_90 rfl ?_
        refine x_iload dX6_goOn_91 rfl ?_
        refine x_iload dX6_goOn_93 rfl ?_
        refine x_callVv 5 ml_X6_83 in_X6_change se_X6_change ct_X6_change rfl (c_change (d := 0) (by omega) (by omega)) dX6_goOn_95 hd rfl rfl rfl rfl (Nat.le_of_ble_eq_true rfl) (fun J0 h0 => ?_)
        obtain rfl := h0.symm
        refine x_iinc (v := nI (a + 1)) (ls' := [.ref 0, .int (nI (n - 1)), .int (nI k), v3, .int (nI (a + 1)), .int (nI b)]) dX6_goOn_98 rfl (inc_1 _) rfl rfl ?_
        refine x_iinc (v := nI (b - 1)) (ls' := [.ref 0, .int (nI (n - 1)), .int (nI k), v3, .int (nI (a + 1)), .int (nI (b - 1))]) dX6_goOn_101 rfl (dec_1 (by omega)) rfl rfl ?_
        refine x_goto (tgt := 83) dX6_goOn_104 rfl ?_
        refine ih k j (a + 1) (b - 1) _ _ (by omega) hk hj hjn hdd hg hg2 (by omega) (by omega) (fun p hp => ?_) (fun c hc => by rw [xup_ne hc, xup_ne hc]; exact hF c hc)
        have ea : n + k - a = b := by omega
        have eb : n + k - b = a := by omega
        have Ja := hJ a (by omega)
        have Jb := hJ b (by omega)
        rw [if_neg (by omega)] at Ja Jb
        rw [xup_eq, xup_eq]
        by_cases e1 : p = b
        · subst e1
          rw [if_pos rfl, if_pos (by omega), Ja]
          congr 1
          rw [nxF_gt (by omega), eb]
        · rw [if_neg e1]
          by_cases e2 : p = a
          · subst e2
            rw [if_pos rfl, if_pos (by omega), Jb]
            congr 1
            rw [nxF_gt (by omega), ea]
          · rw [if_neg e2, hJ p hp]
            by_cases e3 : p < a ∨ b < p
            · rw [if_pos e3, if_pos (by omega)]
            · rw [if_neg e3, if_neg (show ¬ (p < a + 1 ∨ b - 1 < p) by omega)]
  have lp2 : ∀ (t k j : Nat), k + 1 + t = j → j < n → k + 1 < n → (∀ i, k < i → i + 1 < n → o (i + 1) < o i) → o k < o (k + 1) → (∀ i, j < i → i < n → ¬ o k < o i) → Wx LM mX6_goOn d (xRi (goQ I n o)) 48 [.ref 0, .int (nI (n - 1)), .int (nI k), .int (nI j), .null, .null] [] I := by
    intro t
    induction t with
    | zero =>
      intro k j ht hjn hk hdd hg hg2
      have e : j = k + 1 := by omega
      subst e
      have hb := ho k (by omega)
      have hb2 := ho (k + 1) (by omega)
      refine x_aload_n dX6_goOn_48 rfl ?_
      refine x_getR 5 3 rfl (by decide) fl_X6_20 dX6_goOn_49 rfl rfl rfl ?_
      refine x_iload_n dX6_goOn_52 rfl ?_
      refine x_iald (p := k + 1) (v := nI (o (k + 1))) dX6_goOn_53 rfl rfl rfl rfl (by omega) (hO (k + 1) (by omega)) ?_
      refine x_aload_n dX6_goOn_54 rfl ?_
      refine x_getR 5 3 rfl (by decide) fl_X6_20 dX6_goOn_55 rfl rfl rfl ?_
      refine x_iload_n dX6_goOn_58 rfl ?_
      refine x_iald (p := k) (v := nI (o k)) dX6_goOn_59 rfl rfl rfl rfl (by omega) (hO k (by omega)) ?_
      refine x_icmpn_ge (a := o (k + 1)) (b := o k) (by omega) (by omega) (tgt := 69) dX6_goOn_60 rfl (fun c => ?_) (fun c => ?_)
      ·
        refine x_aload_n dX6_goOn_69 rfl ?_
        refine x_iload_n dX6_goOn_70 rfl ?_
        refine x_iload_n dX6_goOn_71 rfl ?_
        refine x_callVv 5 ml_X6_83 in_X6_change se_X6_change ct_X6_change rfl (c_change (d := 0) (by omega) (by omega)) dX6_goOn_72 hd rfl rfl rfl rfl (Nat.le_of_ble_eq_true rfl) (fun J0 h0 => ?_)
        obtain rfl := h0.symm
        refine x_iload_n dX6_goOn_75 rfl ?_
        refine x_iconst dX6_goOn_76 ic_1 ?_
        refine x_iadd (v := nI (k + 1)) dX6_goOn_77 (nI_add _ _) ?_
        refine x_istore (ls' := [.ref 0, .int (nI (n - 1)), .int (nI k), .int (nI (k + 1)), .int (nI (k + 1)), .null]) dX6_goOn_78 rfl rfl ?_
        refine x_iload_n dX6_goOn_80 rfl ?_
        refine x_istore (ls' := [.ref 0, .int (nI (n - 1)), .int (nI k), .int (nI (k + 1)), .int (nI (k + 1)), .int (nI (n - 1))]) dX6_goOn_81 rfl rfl ?_
        refine lp3 n k (k + 1) (k + 1) (n - 1) _ _ (by omega) hk (by omega) (by omega) hdd hg hg2 (by omega) (by omega) (fun p hp => ?_) (fun c hc => by rw [xup_ne hc, xup_ne hc])
        rw [xup_eq, xup_eq]
        by_cases e1 : p = k + 1
        · subst e1
          rw [if_pos rfl, hO k (by omega), if_neg (by omega), if_pos rfl]
        · rw [if_neg e1]
          by_cases e2 : p = k
          · subst e2
            rw [if_pos rfl, hO _ hjn, if_pos (by omega)]
            rw [nxF_k]
          · rw [if_neg e2, hO p hp]
            by_cases e3 : p < k
            · rw [if_pos (by omega), nxF_lt e3]
            · rw [if_neg (by omega), if_neg e1]
      ·
        omega
    | succ t ih =>
      intro k j ht hjn hk hdd hg hg2
      have hb := ho k (by omega)
      have hb2 := ho j (by omega)
      refine x_aload_n dX6_goOn_48 rfl ?_
      refine x_getR 5 3 rfl (by decide) fl_X6_20 dX6_goOn_49 rfl rfl rfl ?_
      refine x_iload_n dX6_goOn_52 rfl ?_
      refine x_iald (p := j) (v := nI (o j)) dX6_goOn_53 rfl rfl rfl rfl (by omega) (hO j (by omega)) ?_
      refine x_aload_n dX6_goOn_54 rfl ?_
      refine x_getR 5 3 rfl (by decide) fl_X6_20 dX6_goOn_55 rfl rfl rfl ?_
      refine x_iload_n dX6_goOn_58 rfl ?_
      refine x_iald (p := k) (v := nI (o k)) dX6_goOn_59 rfl rfl rfl rfl (by omega) (hO k (by omega)) ?_
      refine x_icmpn_ge (a := o j) (b := o k) (by omega) (by omega) (tgt := 69) dX6_goOn_60 rfl (fun c => ?_) (fun c => ?_)
      ·
        have hg3 : o k < o j := by have := hne k j (by omega) hjn (by omega); omega
        refine x_aload_n dX6_goOn_69 rfl ?_
        refine x_iload_n dX6_goOn_70 rfl ?_
        refine x_iload_n dX6_goOn_71 rfl ?_
        refine x_callVv 5 ml_X6_83 in_X6_change se_X6_change ct_X6_change rfl (c_change (d := 0) (by omega) (by omega)) dX6_goOn_72 hd rfl rfl rfl rfl (Nat.le_of_ble_eq_true rfl) (fun J0 h0 => ?_)
        obtain rfl := h0.symm
        refine x_iload_n dX6_goOn_75 rfl ?_
        refine x_iconst dX6_goOn_76 ic_1 ?_
        refine x_iadd (v := nI (k + 1)) dX6_goOn_77 (nI_add _ _) ?_
        refine x_istore (ls' := [.ref 0, .int (nI (n - 1)), .int (nI k), .int (nI j), .int (nI (k + 1)), .null]) dX6_goOn_78 rfl rfl ?_
        refine x_iload_n dX6_goOn_80 rfl ?_
        refine x_istore (ls' := [.ref 0, .int (nI (n - 1)), .int (nI k), .int (nI j), .int (nI (k + 1)), .int (nI (n - 1))]) dX6_goOn_81 rfl rfl ?_
        refine lp3 n k j (k + 1) (n - 1) _ _ (by omega) hk (by omega) (by omega) hdd hg3 hg2 (by omega) (by omega) (fun p hp => ?_) (fun c hc => by rw [xup_ne hc, xup_ne hc])
        rw [xup_eq, xup_eq]
        by_cases e1 : p = j
        · subst e1
          rw [if_pos rfl, hO k (by omega), if_neg (by omega), if_pos rfl]
        · rw [if_neg e1]
          by_cases e2 : p = k
          · subst e2
            rw [if_pos rfl, hO _ hjn, if_pos (by omega)]
            rw [nxF_k]
          · rw [if_neg e2, hO p hp]
            by_cases e3 : p < k
            · rw [if_pos (by omega), nxF_lt e3]
            · rw [if_neg (by omega), if_neg e1]
      ·
        refine x_iinc (v := nI (j - 1)) (ls' := [.ref 0, .int (nI (n - 1)), .int (nI k), .int (nI (j - 1)), .null, .null]) dX6_goOn_63 rfl (dec_1 (by omega)) rfl rfl ?_
        refine x_goto (tgt := 48) dX6_goOn_66 rfl ?_
        refine ih k (j - 1) (by omega) (by omega) hk hdd hg (fun i hi hin => ?_)
        by_cases e : i = j
        · subst e; omega
        · exact hg2 i (by omega) hin
  have lp1 : ∀ (K : Nat), K < n → (∀ i, K ≤ i → i + 1 < n → o (i + 1) < o i) → Wx LM mX6_goOn d (xRi (goQ I n o)) 13 [.ref 0, .int (nI (n - 1)), .int (nI K - nI 1), .null, .null, .null] [] I := by
    intro K
    induction K with
    | zero =>
      intro hK hdd
      rw [show nI 0 - nI 1 = (-1) by decide +kernel]
      refine x_iload_n dX6_goOn_13 rfl ?_
      refine x_if_lt (tgt := 40) dX6_goOn_14 rfl (fun c => ?_) (fun c => ?_)
      ·
        refine x_iload_n dX6_goOn_40 rfl ?_
        refine x_if_ge (tgt := 46) dX6_goOn_41 rfl (fun c2 => ?_) (fun c2 => ?_)
        ·
          exact absurd c2 (by decide +kernel)
        ·
          refine x_iconst dX6_goOn_44 ic_0 ?_
          refine x_zretb (b := false) dX6_goOn_45 rfl (Or.inl ⟨nxt_desc n 0 (fun i hi => by rw [Nat.zero_add]; exact hdd i (Nat.zero_le _) hi), rfl, rfl⟩)
      ·
        exact absurd (by decide +kernel) c
    | succ K ih =>
      intro hK hdd
      have hb := ho K (by omega)
      have hb2 := ho (K + 1) hK
      rw [pk_sub (by omega), show K + 1 - 1 = K by omega]
      refine x_iload_n dX6_goOn_13 rfl ?_
      refine x_ifn_lt (a := K) (by omega) (tgt := 40) dX6_goOn_14 rfl (fun c => ?_) (fun c => ?_)
      ·
        exact absurd c id
      ·
        refine x_aload_n dX6_goOn_17 rfl ?_
        refine x_getR 5 3 rfl (by decide) fl_X6_20 dX6_goOn_18 rfl rfl rfl ?_
        refine x_iload_n dX6_goOn_21 rfl ?_
        refine x_iald (p := K) (v := nI (o K)) dX6_goOn_22 rfl rfl rfl rfl (by omega) (hO K (by omega)) ?_
        refine x_aload_n dX6_goOn_23 rfl ?_
        refine x_getR 5 3 rfl (by decide) fl_X6_20 dX6_goOn_24 rfl rfl rfl ?_
        refine x_iload_n dX6_goOn_27 rfl ?_
        refine x_iconst dX6_goOn_28 ic_1 ?_
        refine x_iadd (v := nI (K + 1)) dX6_goOn_29 (nI_add _ _) ?_
        refine x_iald (p := K + 1) (v := nI (o (K + 1))) dX6_goOn_30 rfl rfl rfl rfl (by omega) (hO (K + 1) hK) ?_
        refine x_icmpn_le (a := o K) (b := o (K + 1)) (by omega) (by omega) (tgt := 40) dX6_goOn_31 rfl (fun c2 => ?_) (fun c2 => ?_)
        ·
          refine x_iload_n dX6_goOn_40 rfl ?_
          refine x_ifn_ge (a := K) (by omega) (tgt := 46) dX6_goOn_41 rfl (fun c3 => ?_) (fun c3 => ?_)
          ·
            refine x_iload_n dX6_goOn_46 rfl ?_
            refine x_istore_n (ls' := [.ref 0, .int (nI (n - 1)), .int (nI K), .int (nI (n - 1)), .null, .null]) dX6_goOn_47 rfl rfl ?_
            have := hne K (K + 1) (by omega) hK (by omega)
            exact lp2 (n - 1 - (K + 1)) K (n - 1) (by omega) (by omega) hK (fun i hi hin => hdd i (by omega) hin) (by omega) (fun i hi hin => by omega)
          ·
            exact absurd c3 id
        ·
          refine x_iinc (v := nI K - nI 1) (ls' := [.ref 0, .int (nI (n - 1)), .int (nI K - nI 1), .null, .null, .null]) dX6_goOn_34 rfl (dec_raw _) rfl rfl ?_
          refine x_goto (tgt := 13) dX6_goOn_37 rfl ?_
          refine ih (by omega) (fun i hi hin => ?_)
          by_cases e : i = K
          · subst e; exact c2
          · exact hdd i (by omega) hin
  refine Cx.of [.ref 0, .null, .null, .null, .null, .null] (by decide) rfl rfl (Nat.le_of_ble_eq_true rfl) rfl ?_
  refine x_aload_n dX6_goOn_0 rfl ?_
  refine x_getR 5 0 rfl (by decide) fl_X6_7 dX6_goOn_1 rfl rfl rfl ?_
  refine x_iconst dX6_goOn_4 ic_0 ?_
  refine x_iald (p := 0) (v := nI n) dX6_goOn_5 rfl rfl rfl rfl (by omega) h0 ?_
  refine x_iconst dX6_goOn_6 ic_1 ?_
  refine x_isub (v := nI (n - 1)) dX6_goOn_7 (pk_sub (by omega)) ?_
  refine x_istore_n (ls' := [.ref 0, .int (nI (n - 1)), .null, .null, .null, .null]) dX6_goOn_8 rfl rfl ?_
  refine x_iload_n dX6_goOn_9 rfl ?_
  refine x_iconst dX6_goOn_10 ic_1 ?_
  refine x_isub (v := nI (n - 1) - nI 1) dX6_goOn_11 rfl ?_
  refine x_istore_n (ls' := [.ref 0, .int (nI (n - 1)), .int (nI (n - 1) - nI 1), .null, .null, .null]) dX6_goOn_12 rfl rfl ?_
  exact lp1 (n - 1) (by omega) (fun i hi hin => by omega)
end MG
