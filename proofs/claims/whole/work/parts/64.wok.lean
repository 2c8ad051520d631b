/-! states stay states -/
section WK
variable {W : WS}
theorem WOk_1 {T : ST} (hW : WOk W) (hT : TOk T) : WOk (T, W.2) := ⟨hT, hW.2⟩
theorem WOk_many {x : Int32} (hW : WOk W) : WOk (spMany x W).2 := by
  unfold spMany
  cases e : inB x (nI 1) (nI 8) with
  | false => exact hW
  | true =>
    have hx := of_decide_eq_true e
    rw [nI_toInt (by decide), nI_toInt (by decide)] at hx
    refine WOk_1 hW ⟨?_, ?_, fun g => ?_, fun g => ?_, fun p hp => hp, fun p q _ _ h => h, fun p hp => hp⟩
    · unfold tN; omega
    · show tN x ≤ 8; unfold tN; omega
    · show szH (tN x) W.1.2.1 g < 1024
      unfold szH; have := hW.1.2.2.1 g; split <;> omega
    · show szA (tN x) W.1.2.2.1 g < 256
      unfold szA
      have := hW.1.2.2.2.1 g
      have h2 : W.1.2.2.1 g &&& (1 <<< tN x - 1) ≤ W.1.2.2.1 g := Nat.and_le_left
      split <;> omega
theorem fup_lt {f : Nat → Nat} {k v B : Nat} (hf : ∀ g, f g < B) (hv : v < B) : ∀ g, fup f k v g < B := fun g => by
  unfold fup; split
  · exact hv
  · exact hf g
theorem WOk_find {g s on : Int32} (hW : WOk W) : WOk (spFind g s on W).2 := by
  unfold spFind
  cases e : (inR g W.1.1 && inR s 10) with
  | false => exact hW
  | true =>
    rw [if_pos rfl]
    cases e2 : inR on 2 with
    | false => exact hW
    | true =>
      rw [if_pos rfl]
      rw [Bool.and_eq_true] at e
      obtain ⟨j, hj, rfl⟩ := inR_of e.1
      obtain ⟨k, hk, rfl⟩ := inR_of e.2
      obtain ⟨q, hq, rfl⟩ := inR_of e2
      have hn := hW.1.2.1
      rw [tN_nI (by omega), tN_nI (by omega), tN_nI (by omega)]
      exact WOk_1 hW ⟨hW.1.1, hW.1.2.1, fup_lt hW.1.2.2.1 (wmem_lt (k := 10) (hW.1.2.2.1 j) hk hq), hW.1.2.2.2⟩
theorem WOk_ahead {x y on : Int32} (hW : WOk W) : WOk (spAhead x y on W).2 := by
  unfold spAhead
  cases e : (inR x W.1.1 && inR y W.1.1) with
  | false => exact hW
  | true =>
    rw [if_pos rfl]
    cases e2 : (inR on 2 && decide (¬ x = y)) with
    | false => exact hW
    | true =>
      rw [if_pos rfl]
      rw [Bool.and_eq_true] at e e2
      obtain ⟨j, hj, rfl⟩ := inR_of e.1
      obtain ⟨k, hk, rfl⟩ := inR_of e.2
      obtain ⟨q, hq, rfl⟩ := inR_of e2.1
      have hn := hW.1.2.1
      rw [tN_nI (by omega), tN_nI (by omega), tN_nI (by omega)]
      exact WOk_1 hW ⟨hW.1.1, hW.1.2.1, hW.1.2.2.1, fup_lt hW.1.2.2.2.1 (wmem_lt (k := 8) (hW.1.2.2.2.1 j) (by omega) hq), hW.1.2.2.2.2⟩
theorem WOk_swap {k : Int32} (hW : WOk W) : WOk (spSwap k W).2 := by
  unfold spSwap
  cases e : inR k (W.1.1 - 1) with
  | false => exact hW
  | true =>
    obtain ⟨j, hj, rfl⟩ := inR_of e
    have hn := hW.1.2.1
    rw [if_pos rfl, tN_nI (by omega)]
    exact WOk_1 hW (TOk_swp (n := W.1.1) (h := W.1.2.1) (a := W.1.2.2.1) (L := W.1.2.2.2) hW.1 (by omega))
theorem WOk_clF : ∀ (f : Nat) (W : WS), WOk W → WOk (clF f W).2
  | 0, _, h => h
  | f + 1, W, h => by
    rw [clF_s]
    split
    · exact h
    · exact WOk_clF f _ (WOk_better h)
theorem WOk_climb (hW : WOk W) : WOk (spClimb W).2 := WOk_clF 1000 W hW
theorem nrs_mem {st : List Nat → Nat} : ∀ (l : List (List Nat)) (o : Option (List Nat)) (w : List Nat), nrs st o l = some w → w ∈ l ∨ o = some w
  | [], o, w, h => by simp only [nrs] at h; exact Or.inr h
  | v :: l, none, w, h => by
    simp only [nrs] at h
    rcases nrs_mem l _ w h with h1 | h1
    · exact Or.inl (List.mem_cons_of_mem _ h1)
    · rw [Option.some.inj h1]; exact Or.inl List.mem_cons_self
  | v :: l, some x, w, h => by
    simp only [nrs] at h
    rcases nrs_mem l _ w h with h1 | h1
    · exact Or.inl (List.mem_cons_of_mem _ h1)
    · have h2 := Option.some.inj h1
      split at h2
      · rw [← h2]; exact Or.inl List.mem_cons_self
      · rw [← h2]; exact Or.inr rfl
theorem WOk_settle (hW : WOk W) : WOk (spSettle W).2 := by
  unfold spSettle
  cases e : nrst W.1 with
  | none => exact hW
  | some w =>
    have hm : w ∈ bst W.1 := by
      rcases nrs_mem _ _ w e with h1 | h1
      · exact h1
      · cases h1
    obtain ⟨m1, m2, m3⟩ := perms_mem (bests_mem hm)
    refine WOk_1 hW ⟨hW.1.1, hW.1.2.1, hW.1.2.2.1, hW.1.2.2.2.1, fun p hp => ?_, fun p q hp hq h => ?_, fun p hp => ?_⟩
    · show (if p < W.1.1 then w.getD p 0 else _) < W.1.1
      rw [if_pos hp]; exact getD_lt m3 m1 hp
    · have h : (if p < W.1.1 then w.getD p 0 else W.1.2.2.2 p) = (if q < W.1.1 then w.getD q 0 else W.1.2.2.2 q) := h
      rw [if_pos hp, if_pos hq] at h
      apply Classical.byContradiction
      intro hne
      exact getD_ne m2 m1 hp hq hne h
    · show (if p < W.1.1 then w.getD p 0 else _) < 8
      have hn := hW.1.2.1
      by_cases hpn : p < W.1.1
      · rw [if_pos hpn]; have := getD_lt m3 m1 hpn; omega
      · rw [if_neg hpn]; exact hW.1.2.2.2.2.2.2 p hp
theorem WOk_image {k : Int32} (hW : WOk W) : WOk (spImage k W).2 := by
  unfold spImage
  split
  · exact ⟨hW.1, fun _ => hW.1, hW.2.2⟩
  · split
    · exact ⟨hW.1, hW.2.1, fun _ => hW.1⟩
    · exact hW
theorem WOk_restore {k : Int32} (hW : WOk W) : WOk (spRestore k W).2 := by
  unfold spRestore
  split
  · cases e : W.2.1.1 with
    | true => exact ⟨hW.2.1 e, hW.2.1, hW.2.2⟩
    | false => exact hW
  · split
    · cases e : W.2.2.1 with
      | true => exact ⟨hW.2.2 e, hW.2.1, hW.2.2⟩
      | false => exact hW
    · exact hW
end WK
