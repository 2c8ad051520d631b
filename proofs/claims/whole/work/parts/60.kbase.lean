/-! the class: what its calls share -/
def GOk (J : xMem) (T : ST) : Prop := ∃ w, nrst T = some w ∧ w ∈ bst T ∧ J 14 4 = nI (stp T.1 T.2.2.2 w) ∧ ∀ p, p < T.1 → J 21 p = nI (w.getD p 0)
def BKn (J : xMem) (T : ST) : Prop := BOk J T.1 T.2.1 T.2.2.1 ∧ (J 14 3 = (-6) ∨ CLk J T.1 T.2.1 T.2.2.1)
def DgT (J : xMem) (b : Nat) (T : ST) : Prop := DigAt J b T.1 T.2.1 T.2.2.1 T.2.2.2
/-- the class's memory of a state -/
def CR (J : xMem) (W : WS) : Prop := DgT J 1 W.1 ∧ J 0 2 = nI (W.2.1.1.toNat + 2 * W.2.2.1.toNat) ∧ (W.2.1.1 = true → DgT J 6 W.2.1.2) ∧ (W.2.2.1 = true → DgT J 10 W.2.2.2) ∧ (J 0 4 = nI 0 ∨ (J 0 4 = nI 1 ∧ BKn J W.1)) ∧ (J 0 5 = nI 0 ∨ (J 0 5 = nI 1 ∧ J 0 4 = nI 1 ∧ GOk J W.1))
theorem n01 : ¬ nI 0 = nI 1 := by decide +kernel
section KB
variable {I J : xMem} {W : WS} {T : ST}
theorem DgT.fr {b : Nat} (hD : DgT I b T) (h0 : J b = I b) (h1 : J (b + 1) = I (b + 1)) (h2 : J (b + 2) = I (b + 2)) (h3 : J (b + 3) = I (b + 3)) : DgT J b T := by
  unfold DgT DigAt; rw [h0, h1, h2, h3]; exact hD
theorem BKn.fr (hB : BKn I T) (h14 : ∀ j, j ≠ 4 → J 14 j = I 14 j) (h15 : J 15 = I 15) (h16 : J 16 = I 16) (h17 : J 17 = I 17) (h19 : J 19 = I 19) (h20 : J 20 = I 20) : BKn J T := by
  refine ⟨hB.1.kept (fun j _ h => h14 j h) h15 h16 h17 h19, ?_⟩
  unfold CLk; rw [h14 3 (by decide), h20]; exact hB.2
theorem GOk.fr (hG : GOk I T) (h14 : J 14 4 = I 14 4) (h21 : J 21 = I 21) : GOk J T := by
  unfold GOk; rw [h14, h21]; exact hG
theorem CR.bok (hR : CR I W) (h4 : I 0 4 = nI 1) : BKn I W.1 := by
  rcases hR.2.2.2.2.1 with e | e
  · rw [h4] at e; exact absurd e.symm n01
  · exact e.2
/-- the images of a state, kept -/
theorem CR.im (hR : CR I W) {T : ST} (hD : DgT J 1 T) (h2 : J 0 2 = I 0 2) (hf : ∀ c, 6 ≤ c → c ≤ 13 → J c = I c) (hb : J 0 4 = nI 0 ∨ (J 0 4 = nI 1 ∧ BKn J T)) (hw : J 0 5 = nI 0 ∨ (J 0 5 = nI 1 ∧ J 0 4 = nI 1 ∧ GOk J T)) : CR J (T, W.2) :=
  ⟨hD, by rw [h2]; exact hR.2.1, fun k => (hR.2.2.1 k).fr (hf 6 (by decide) (by decide)) (hf 7 (by decide) (by decide)) (hf 8 (by decide) (by decide)) (hf 9 (by decide) (by decide)), fun k => (hR.2.2.2.1 k).fr (hf 10 (by decide) (by decide)) (hf 11 (by decide) (by decide)) (hf 12 (by decide) (by decide)) (hf 13 (by decide) (by decide)), hb, hw⟩
theorem CR.scr (hR : CR I W) (hf : ∀ c, c ≠ 18 → c ≠ 23 → c ≠ 25 → J c = I c) : CR J W := by
  have f : ∀ c, c ≤ 17 → J c = I c := fun c hc => hf c (by omega) (by omega) (by omega)
  refine hR.im (T := W.1) (hR.1.fr (f 1 (by decide)) (f 2 (by decide)) (f 3 (by decide)) (f 4 (by decide))) (by rw [f 0 (by decide)]) (fun c _ h => f c (by omega)) ?_ ?_
  · rw [f 0 (by decide)]
    exact hR.2.2.2.2.1.imp id (fun e => ⟨e.1, e.2.fr (fun j _ => by rw [f 14 (by decide)]) (f 15 (by decide)) (f 16 (by decide)) (f 17 (by decide)) (hf 19 (by decide) (by decide) (by decide)) (hf 20 (by decide) (by decide) (by decide))⟩)
  · rw [f 0 (by decide)]
    exact hR.2.2.2.2.2.imp id (fun e => ⟨e.1, e.2.1, e.2.2.fr (by rw [f 14 (by decide)]) (hf 21 (by decide) (by decide) (by decide))⟩)
/-- the graves changed: nothing is known any more -/
theorem CR.st (hR : CR I W) {T : ST} (hD : DgT J 1 T) (h2 : J 0 2 = I 0 2) (h4 : J 0 4 = nI 0) (h5 : J 0 5 = nI 0) (hf : ∀ c, 6 ≤ c → c ≤ 13 → J c = I c) : CR J (T, W.2) := hR.im hD h2 hf (Or.inl h4) (Or.inl h5)
/-- only the row changed -/
theorem CR.row (hR : CR I W) {L' : Nat → Nat} (hD : DigAt J 1 W.1.1 W.1.2.1 W.1.2.2.1 L') (h0 : ∀ j, j ≠ 5 → J 0 j = I 0 j) (h5 : J 0 5 = nI 0) (hf : ∀ c, 6 ≤ c → J c = I c) : CR J (setL W L') := by
  refine hR.im (T := (W.1.1, W.1.2.1, W.1.2.2.1, L')) hD (h0 2 (by decide)) (fun c h _ => hf c h) ?_ (Or.inl h5)
  rw [h0 4 (by decide)]
  refine hR.2.2.2.2.1.imp id (fun e => ⟨e.1, ?_⟩)
  have := e.2.fr (J := J) (fun j _ => by rw [hf 14 (by decide)]) (hf 15 (by decide)) (hf 16 (by decide)) (hf 17 (by decide)) (hf 19 (by decide)) (hf 20 (by decide))
  exact this
theorem c_forgetBest {d : Nat} : Cx LX yX5_forgetBest mX5_forgetBest d [.ref 0] I (xRv (fun J => J = xup (xup I 0 4 (nI 0)) 0 5 (nI 0))) := by
  refine Cx.of [.ref 0] (by decide) rfl rfl (Nat.le_of_ble_eq_true rfl) rfl ?_
  refine x_aload_n dX5_forgetBest_0 rfl ?_
  refine x_iconst dX5_forgetBest_1 ic_0 ?_
  refine x_put 4 4 rfl (by decide) fl_X5_31 rfl rfl (narZ (by decide)) (fitZ (by decide)) dX5_forgetBest_2 rfl rfl rfl ?_
  refine x_aload_n dX5_forgetBest_5 rfl ?_
  refine x_iconst dX5_forgetBest_6 ic_0 ?_
  refine x_put 4 5 rfl (by decide) fl_X5_35 rfl rfl (narZ (by decide)) (fitZ (by decide)) dX5_forgetBest_7 rfl rfl rfl ?_
  refine x_vretv dX5_forgetBest_10 rfl rfl
theorem fg_0 : xup (xup I 0 4 (nI 0)) 0 5 (nI 0) 0 4 = nI 0 ∧ xup (xup I 0 4 (nI 0)) 0 5 (nI 0) 0 5 = nI 0 ∧ xup (xup I 0 4 (nI 0)) 0 5 (nI 0) 0 2 = I 0 2 := by
  simp only [xup_eq]; exact ⟨rfl, rfl, rfl⟩
theorem fg_c {c : Nat} (hc : c ≠ 0) : xup (xup I 0 4 (nI 0)) 0 5 (nI 0) c = I c := by rw [xup_ne hc, xup_ne hc]
theorem c_knownBest (hW : WOk W) (hR : CR I W) : Cx LX yX5_knownBest mX5_knownBest 5 [.ref 0] I (xRr (fun r J => r = 14 ∧ CR J W ∧ J 0 4 = nI 1)) := by
  obtain ⟨⟨n, h, a, L⟩, im⟩ := W
  have h1 : 1 ≤ n := hW.1.1
  have hn : n ≤ 8 := hW.1.2.1
  have hh : ∀ g, h g < 1024 := hW.1.2.2.1
  have ha : ∀ g, a g < 256 := hW.1.2.2.2.1
  have hL : ∀ p, p < n → L p < n := hW.1.2.2.2.2.1
  have hinj : ∀ p q, p < n → q < n → L p = L q → p = q := hW.1.2.2.2.2.2.1
  have hL8 : ∀ p, p < 8 → L p < 8 := hW.1.2.2.2.2.2.2
  have hD : DigAt I 1 n h a L := hR.1
  rcases hR.2.2.2.2.1 with e | ⟨e, eb⟩
  ·
    refine Cx.of [.ref 0] (by decide) rfl rfl (Nat.le_of_ble_eq_true rfl) rfl ?_
    refine x_aload_n dX5_knownBest_0 rfl ?_
    refine x_getI 4 4 (v := nI 0) rfl (by decide) fl_X5_31 dX5_knownBest_1 rfl rfl rfl e ?_
    refine x_ifn_ne (a := 0) (by omega) (tgt := 23) dX5_knownBest_4 rfl (fun c => ?_) (fun c => ?_)
    ·
      exact absurd rfl c
    ·
      refine x_aload_n dX5_knownBest_7 rfl ?_
      refine x_getR 4 3 rfl (by decide) fl_X5_27 dX5_knownBest_8 rfl rfl rfl ?_
      refine x_aload_n dX5_knownBest_11 rfl ?_
      refine x_getR 4 0 rfl (by decide) fl_X5_12 dX5_knownBest_12 rfl rfl rfl ?_
      refine x_callVv 0 ml_X5_183 in_X0_search se_X0_search ct_X0_search rfl (c_search (d := 4) (by decide) h1 hn hh ha hD) dX5_knownBest_15 (by decide) rfl rfl rfl rfl (Nat.le_of_ble_eq_true rfl) (fun J0 h0 => ?_)
      obtain ⟨b1, b2, bf⟩ := h0
      refine x_aload_n dX5_knownBest_18 rfl ?_
      refine x_iconst dX5_knownBest_19 ic_1 ?_
      refine x_put 4 4 rfl (by decide) fl_X5_31 rfl rfl (narZ (by decide)) (fitZ (by decide)) dX5_knownBest_20 rfl rfl rfl ?_
      refine x_aload_n dX5_knownBest_23 rfl ?_
      refine x_getR 4 3 rfl (by decide) fl_X5_27 dX5_knownBest_24 rfl rfl rfl ?_
      have f : ∀ c, c ≤ 13 → J0 c = I c := fun c hc => bf c (by omega) (by omega) (by omega) (by omega) (by omega) (by omega) (by omega)
      refine x_aretr dX5_knownBest_27 rfl ?_
      refine ⟨rfl, ?_, by rw [xup_eq, if_pos rfl]⟩
      have g0 : ∀ j, j ≠ 4 → xup J0 0 4 (nI 1) 0 j = I 0 j := fun j hj => by rw [xup_eq, if_neg hj, f 0 (by decide)]
      have gc : ∀ c, c ≠ 0 → xup J0 0 4 (nI 1) c = J0 c := fun c hc => xup_ne hc
      refine hR.im (T := (n, h, a, L)) (hR.1.fr ?_ ?_ ?_ ?_) (g0 2 (by decide)) (fun c h1 h2 => by rw [gc c (by omega), f c (by omega)]) (Or.inr ⟨by rw [xup_eq, if_pos rfl], ?_⟩) (Or.inl ?_)
      · rw [gc 1 (by decide), f 1 (by decide)]
      · show xup J0 0 4 (nI 1) 2 = I 2; rw [gc 2 (by decide), f 2 (by decide)]
      · show xup J0 0 4 (nI 1) 3 = I 3; rw [gc 3 (by decide), f 3 (by decide)]
      · show xup J0 0 4 (nI 1) 4 = I 4; rw [gc 4 (by decide), f 4 (by decide)]
      · have hb : BKn J0 (n, h, a, L) := ⟨b1, Or.inl b2⟩
        exact hb.fr (fun j _ => by rw [gc 14 (by decide)]) (gc 15 (by decide)) (gc 16 (by decide)) (gc 17 (by decide)) (gc 19 (by decide)) (gc 20 (by decide))
      · rw [g0 5 (by decide)]
        rcases hR.2.2.2.2.2 with e5 | ⟨-, e4, -⟩
        · exact e5
        · rw [e] at e4; exact absurd e4 n01
  ·
    refine Cx.of [.ref 0] (by decide) rfl rfl (Nat.le_of_ble_eq_true rfl) rfl ?_
    refine x_aload_n dX5_knownBest_0 rfl ?_
    refine x_getI 4 4 (v := nI 1) rfl (by decide) fl_X5_31 dX5_knownBest_1 rfl rfl rfl e ?_
    refine x_ifn_ne (a := 1) (by omega) (tgt := 23) dX5_knownBest_4 rfl (fun c => ?_) (fun c => ?_)
    ·
      refine x_aload_n dX5_knownBest_23 rfl ?_
      refine x_getR 4 3 rfl (by decide) fl_X5_27 dX5_knownBest_24 rfl rfl rfl ?_
      refine x_aretr dX5_knownBest_27 rfl ⟨rfl, hR, e⟩
    ·
      exact absurd c (by decide)
theorem plOf_ok (hT : TOk T) : (∀ p, p < T.1 → T.2.2.2 p < T.1 ∧ plOf T (T.2.2.2 p) = p) ∧ ∀ g, g < T.1 → plOf T g < T.1 ∧ T.2.2.2 (plOf T g) = g := by
  refine ⟨fun p hp => ⟨hT.2.2.2.2.1 p hp, idx_row hT hp⟩, fun g hg => ?_⟩
  obtain ⟨p, hp, rfl⟩ := row_full hT hg
  rw [plOf, idx_row hT hp]
  exact ⟨hp, rfl⟩
theorem seg_getD2 {f : Nat → Nat} {n p : Nat} (hp : p < n) : (seg f 0 n).getD p 0 = f p := by
  rw [List.getD_eq_getElem?_getD, seg_at hp, Nat.zero_add]; rfl
theorem c_knowWay (hW : WOk W) (hR : CR I W) (h4 : I 0 4 = nI 1) (hV : bst W.1 ≠ []) : Cx LX yX5_knowWay mX5_knowWay 5 [.ref 0, .ref 14] I (xRv (fun J => CR J W ∧ J 0 4 = nI 1 ∧ GOk J W.1)) := by
  obtain ⟨⟨n, h, a, L⟩, im⟩ := W
  have h1 : 1 ≤ n := hW.1.1
  have hn : n ≤ 8 := hW.1.2.1
  have hh : ∀ g, h g < 1024 := hW.1.2.2.1
  have ha : ∀ g, a g < 256 := hW.1.2.2.2.1
  have hL : ∀ p, p < n → L p < n := hW.1.2.2.2.2.1
  have hinj : ∀ p q, p < n → q < n → L p = L q → p = q := hW.1.2.2.2.2.2.1
  have hL8 : ∀ p, p < 8 → L p < 8 := hW.1.2.2.2.2.2.2
  have hD : DigAt I 1 n h a L := hR.1
  have hB := hR.bok h4
  obtain ⟨o1, o2⟩ := plOf_ok hW.1
  rcases hR.2.2.2.2.2 with e | ⟨e, -, eg⟩
  ·
    refine Cx.of [.ref 0, .ref 14] (by decide) rfl rfl (Nat.le_of_ble_eq_true rfl) rfl ?_
    refine x_aload_n dX5_knowWay_0 rfl ?_
    refine x_getI 4 5 (v := nI 0) rfl (by decide) fl_X5_35 dX5_knowWay_1 rfl rfl rfl e ?_
    refine x_ifn_ne (a := 0) (by omega) (tgt := 20) dX5_knowWay_4 rfl (fun c => ?_) (fun c => ?_)
    ·
      exact absurd rfl c
    ·
      refine x_aload_n dX5_knowWay_7 rfl ?_
      refine x_aload_n dX5_knowWay_8 rfl ?_
      refine x_getR 4 0 rfl (by decide) fl_X5_12 dX5_knowWay_9 rfl rfl rfl ?_
      refine x_callVv 0 ml_X5_186 in_X0_seekGoal se_X0_seekGoal ct_X0_seekGoal rfl (c_seekGoal (d := 4) (pos := plOf (n, h, a, L)) (by decide) h1 hn o1 o2 hD hB.1) dX5_knowWay_12 (by decide) rfl rfl rfl rfl (Nat.le_of_ble_eq_true rfl) (fun J0 h0 => ?_)
      obtain ⟨b1, b2, b3, bf⟩ := h0
      refine x_aload_n dX5_knowWay_15 rfl ?_
      refine x_iconst dX5_knowWay_16 ic_1 ?_
      refine x_put 4 5 rfl (by decide) fl_X5_35 rfl rfl (narZ (by decide)) (fitZ (by decide)) dX5_knowWay_17 rfl rfl rfl ?_
      have f : ∀ c, c ≤ 13 → J0 c = I c := fun c hc => bf c (by omega) (by omega) (by omega) (by omega)
      have g0 : ∀ j, j ≠ 5 → xup J0 0 5 (nI 1) 0 j = I 0 j := fun j hj => by rw [xup_eq, if_neg hj, f 0 (by decide)]
      have gc : ∀ c, c ≠ 0 → xup J0 0 5 (nI 1) c = J0 c := fun c hc => xup_ne hc
      obtain ⟨n1, n2, n3⟩ := near_eq (n := n) (h := h) (a := a) (L := L) (pos := plOf (n, h, a, L)) h1 hn o1 o2 hV
      have hG : GOk (xup J0 0 5 (nI 1)) (n, h, a, L) := by
        refine ⟨_, n1, n3, ?_, fun p hp => ?_⟩
        · rw [gc 14 (by decide), b1, n2]
        · rw [gc 21 (by decide), b2 p hp, seg_getD2 hp]
      have h4' : xup J0 0 5 (nI 1) 0 4 = nI 1 := by rw [g0 4 (by decide)]; exact h4
      refine x_vretv dX5_knowWay_20 rfl ?_
      refine ⟨?_, h4', hG⟩
      refine hR.im (T := (n, h, a, L)) (hR.1.fr ?_ ?_ ?_ ?_) (g0 2 (by decide)) (fun c h1 h2 => by rw [gc c (by omega), f c (by omega)]) (Or.inr ⟨h4', ?_⟩) (Or.inr ⟨by rw [xup_eq, if_pos rfl], h4', hG⟩)
      · rw [gc 1 (by decide), f 1 (by decide)]
      · show xup J0 0 5 (nI 1) 2 = I 2; rw [gc 2 (by decide), f 2 (by decide)]
      · show xup J0 0 5 (nI 1) 3 = I 3; rw [gc 3 (by decide), f 3 (by decide)]
      · show xup J0 0 5 (nI 1) 4 = I 4; rw [gc 4 (by decide), f 4 (by decide)]
      · exact hB.fr (fun j hj => by rw [gc 14 (by decide), b3 j hj]) (by rw [gc 15 (by decide)]; exact bf 15 (by decide) (by decide) (by decide) (by decide)) (by rw [gc 16 (by decide)]; exact bf 16 (by decide) (by decide) (by decide) (by decide)) (by rw [gc 17 (by decide)]; exact bf 17 (by decide) (by decide) (by decide) (by decide)) (by rw [gc 19 (by decide)]; exact bf 19 (by decide) (by decide) (by decide) (by decide)) (by rw [gc 20 (by decide)]; exact bf 20 (by decide) (by decide) (by decide) (by decide))
  ·
    refine Cx.of [.ref 0, .ref 14] (by decide) rfl rfl (Nat.le_of_ble_eq_true rfl) rfl ?_
    refine x_aload_n dX5_knowWay_0 rfl ?_
    refine x_getI 4 5 (v := nI 1) rfl (by decide) fl_X5_35 dX5_knowWay_1 rfl rfl rfl e ?_
    refine x_ifn_ne (a := 1) (by omega) (tgt := 20) dX5_knowWay_4 rfl (fun c => ?_) (fun c => ?_)
    ·
      refine x_vretv dX5_knowWay_20 rfl ⟨hR, h4, eg⟩
    ·
      exact absurd c (by decide)
theorem fnd_1023 {h : Nat → Nat} {n : Nat} (hh : ∀ g, h g < 1024) : fnd h n &&& 1023 = fnd h n := by
  rw [show (1023 : Nat) = 2 ^ 10 - 1 by decide, Nat.and_two_pow_sub_one_eq_mod]
  exact Nat.mod_eq_of_lt (fnd_lt hh n)
/-- the fewest breaks, where there are best orders -/
theorem few_at {n : Nat} {h a : Nat → Nat} (hn : n ≤ 8) (hh : ∀ g, h g < 1024) (hB : BOk I n h a) (ht : tot n h a ≠ 0) : ∃ m, fewB n h a = some m ∧ I 14 2 = nI m ∧ m < 2 ^ 31 := by
  have hf : fea n a ≠ [] := fun e => ht ((tot_0 hn).mpr (few_none.mpr e))
  obtain ⟨f1, f2, f3⟩ := few_R (h := h) hn hf
  refine ⟨_, f1, ?_, by omega⟩
  rw [hB.2.2.1, fnd_1023 hh, nI_subv (by rw [fnd_1023 hh] at f2; exact f2)]
  rfl
theorem tot_at {n : Nat} {h a : Nat → Nat} (h1 : 1 ≤ n) (hB : BOk I n h a) : I 16 0 = nI (tot n h a) := by
  have := hB.2.2.2.2.1 0 0 (Nat.two_pow_pos n) (by omega) rfl
  exact this
theorem tot_lt {n : Nat} {h a : Nat → Nat} (hn : n ≤ 8) : tot n h a ≤ 16777216 := by rw [tot_len hn]; exact bests_len hn
theorem c_lineIsBest (hW : WOk W) (hR : CR I W) : Cx LX yX5_lineIsBest mX5_lineIsBest 6 [.ref 0] I (xRi (fun r J => r = nI (isB W.1.1 W.1.2.1 W.1.2.2.1 (rw0 W.1)).toNat ∧ CR J W)) := by
  obtain ⟨⟨n, h, a, L⟩, im⟩ := W
  have h1 : 1 ≤ n := hW.1.1
  have hn : n ≤ 8 := hW.1.2.1
  have hh : ∀ g, h g < 1024 := hW.1.2.2.1
  have ha : ∀ g, a g < 256 := hW.1.2.2.2.1
  have hL : ∀ p, p < n → L p < n := hW.1.2.2.2.2.1
  have hinj : ∀ p q, p < n → q < n → L p = L q → p = q := hW.1.2.2.2.2.2.1
  have hL8 : ∀ p, p < 8 → L p < 8 := hW.1.2.2.2.2.2.2
  have htl := tot_lt (n := n) (h := h) (a := a) hn
  have hcov := row_cov hW.1
  obtain ⟨k1, k2⟩ := brk_tr (h := h) (n := n) hcov
  have hbl := brk_le h (rw0 (n, h, a, L))
  have hrl : (rw0 (n, h, a, L)).length = n := seg_len _ _ _
  refine Cx.of [.ref 0, .null] (by decide) rfl rfl (Nat.le_of_ble_eq_true rfl) rfl ?_
  refine x_aload_n dX5_lineIsBest_0 rfl ?_
  refine x_callVr 4 ml_X5_91 in_X5_knownBest se_X5_knownBest ct_X5_knownBest rfl (c_knownBest hW hR) dX5_lineIsBest_1 (by decide) rfl rfl rfl rfl (Nat.le_of_ble_eq_true rfl) (fun r0 J0 h0 => ?_)
  obtain ⟨rfl, r1, r4⟩ := h0
  refine x_astore_n (ls' := [.ref 0, .ref 14]) dX5_lineIsBest_4 rfl rfl ?_
  refine x_aload_n dX5_lineIsBest_5 rfl ?_
  refine x_callVi 0 ml_X5_99 in_X0_total se_X0_total ct_X0_total rfl (c_total (d := 0) (tot_at h1 (r1.bok r4).1)) dX5_lineIsBest_6 (by decide) rfl rfl rfl rfl (Nat.le_of_ble_eq_true rfl) (fun r0 J0 h0 => ?_)
  obtain ⟨rfl, hJ0⟩ := h0
  obtain rfl := hJ0.symm
  have hB : BOk J0 n h a := (r1.bok r4).1
  have hD : DigAt J0 1 n h a L := r1.1
  refine x_ifn_le (a := tot n h a) (by omega) (tgt := 43) dX5_lineIsBest_9 rfl (fun c => ?_) (fun c => ?_)
  ·
    refine x_iconst dX5_lineIsBest_43 ic_0 ?_
    refine x_zretb (b := false) dX5_lineIsBest_44 rfl ?_
    refine ⟨?_, r1⟩
    have := (tot_0 hn).mp c
    unfold isB; rw [this]; simp
  ·
    obtain ⟨m, m1, m2, m3⟩ := few_at hn hh hB (by omega)
    refine x_aload_n dX5_lineIsBest_12 rfl ?_
    refine x_getR 4 0 rfl (by decide) fl_X5_12 dX5_lineIsBest_13 rfl rfl rfl ?_
    refine x_callVi 1 ml_X5_143 in_X2_lineIsAllowed se_X2_lineIsAllowed ct_X2_lineIsAllowed rfl (c_lineIsAllowed (d := 0) ha (fun p hp => by have := hL p hp; omega) hD hn) dX5_lineIsBest_16 (by decide) rfl rfl rfl rfl (Nat.le_of_ble_eq_true rfl) (fun r0 J0 h0 => ?_)
    obtain ⟨rfl, hJ0⟩ := h0
    obtain rfl := hJ0.symm
    refine x_ifb_eq (b := al a 0 (seg L 0 n)) (tgt := 43) dX5_lineIsBest_19 rfl (fun c2 => ?_) (fun c2 => ?_)
    ·
      refine x_iconst dX5_lineIsBest_43 ic_0 ?_
      refine x_zretb (b := false) dX5_lineIsBest_44 rfl ?_
      refine ⟨?_, r1⟩
      unfold isB
      rw [show al a 0 (rw0 (n, h, a, L)) = false from c2]; rfl
    ·
      refine x_aload_n dX5_lineIsBest_22 rfl ?_
      refine x_getR 4 0 rfl (by decide) fl_X5_12 dX5_lineIsBest_23 rfl rfl rfl ?_
      refine x_sipush dX5_lineIsBest_26 sp_1023 ?_
      refine x_callVi 1 ml_X5_88 in_X2_lineBreaks se_X2_lineBreaks ct_X2_lineBreaks rfl (c_lineBreaks (d := 1) (by decide) hh (fun p hp => by have := hL p hp; omega) hD hn k2) dX5_lineIsBest_29 (by decide) rfl rfl rfl rfl (Nat.le_of_ble_eq_true rfl) (fun r0 J0 h0 => ?_)
      obtain ⟨rfl, hJ0⟩ := h0
      obtain rfl := hJ0.symm
      refine x_aload_n dX5_lineIsBest_32 rfl ?_
      refine x_getI 0 2 (v := nI m) rfl (by decide) fl_X5_103 dX5_lineIsBest_33 rfl rfl rfl m2 ?_
      have eb : tr h 1023 0 (seg L 0 n) - pop (fnd h n &&& 1023) = brk h (rw0 (n, h, a, L)) := k1.symm
      rw [eb]
      refine x_icmp_ne (tgt := 43) dX5_lineIsBest_36 rfl (fun c3 => ?_) (fun c3 => ?_)
      ·
        refine x_iconst dX5_lineIsBest_43 ic_0 ?_
        refine x_zretb (b := false) dX5_lineIsBest_44 rfl ?_
        refine ⟨?_, r1⟩
        unfold isB
        rw [show al a 0 (rw0 (n, h, a, L)) = true from c2, m1, decide_eq_false (fun e => c3 (by rw [Option.some.inj e]))]; rfl
      ·
        refine x_iconst dX5_lineIsBest_39 ic_1 ?_
        refine x_goto (tgt := 44) dX5_lineIsBest_40 rfl ?_
        refine x_zretb (b := true) dX5_lineIsBest_44 rfl ?_
        refine ⟨?_, r1⟩
        unfold isB
        rw [show al a 0 (rw0 (n, h, a, L)) = true from c2, m1]
        have : brk h (rw0 (n, h, a, L)) = m := by
          have e : nI (brk h (rw0 (n, h, a, L))) = nI m := c3
          exact (nI_eq (by omega) m3).mp e
        rw [this, decide_eq_true rfl]; rfl
theorem beL_cg {f g : Nat → Nat} : ∀ (c k fw : Nat) (fd : Int32), (∀ j, k ≤ j → j < k + c → f j = g j) → beL f k c fw fd = beL g k c fw fd
  | 0, _, _, _, _ => rfl
  | c + 1, k, fw, fd, he => by
    simp only [beL]
    rw [he k (Nat.le_refl _) (by omega), beL_cg c (k + 1) _ _ (fun j h1 h2 => he j (by omega) (by omega)), beL_cg c (k + 1) _ _ (fun j h1 h2 => he j (by omega) (by omega))]
theorem c_makeBestSwap (hW : WOk W) (hR : CR I W) : Cx LX yX5_makeBestSwap mX5_makeBestSwap 6 [.ref 0] I (xRi (fun r J => r = (spBetter W).1 ∧ CR J (spBetter W).2)) := by
  obtain ⟨⟨n, h, a, L⟩, im⟩ := W
  have h1 : 1 ≤ n := hW.1.1
  have hn : n ≤ 8 := hW.1.2.1
  have hh : ∀ g, h g < 1024 := hW.1.2.2.1
  have ha : ∀ g, a g < 256 := hW.1.2.2.2.1
  have hL : ∀ p, p < n → L p < n := hW.1.2.2.2.2.1
  have hinj : ∀ p q, p < n → q < n → L p = L q → p = q := hW.1.2.2.2.2.2.1
  have hL8 : ∀ p, p < 8 → L p < 8 := hW.1.2.2.2.2.2.2
  have hD : DigAt I 1 n h a L := hR.1
  have hl8 : ∀ p, p < n → L p < 8 := fun p hp => by have := hL p hp; omega
  have hsw : ∀ k, k + 1 < n → brk h (seg (swp L k) 0 n) = lbr n h (swp L k) ∧ pop (fnd h n &&& 1023) ≤ tr h 1023 0 (seg (swp L k) 0 n) := fun k hk => brk_tr (h := h) (n := n) (row_cov (TOk_swp hW.1 hk))
  have hrw : brk h (seg L 0 n) = lbr n h L ∧ pop (fnd h n &&& 1023) ≤ tr h 1023 0 (seg L 0 n) := brk_tr (h := h) (n := n) (row_cov hW.1)
  have eb : beL (fun k => lbr n h (swp L k)) 0 (n - 1) (lbr n h L) (-6) = bsw (n, h, a, L) := by
    show _ = beL (fun k => brk h (seg (swp L k) 0 n)) 0 (n - 1) (brk h (seg L 0 n)) (-6)
    rw [hrw.1]
    exact beL_cg _ _ _ _ (fun j _ hj => (hsw j (by omega)).1.symm)
  refine Cx.of [.ref 0, .null] (by decide) rfl rfl (Nat.le_of_ble_eq_true rfl) rfl ?_
  refine x_aload_n dX5_makeBestSwap_0 rfl ?_
  refine x_getR 4 0 rfl (by decide) fl_X5_12 dX5_makeBestSwap_1 rfl rfl rfl ?_
  refine x_callVi 1 ml_X5_189 in_X2_bestExchange se_X2_bestExchange ct_X2_bestExchange rfl (c_bestExchange (d := 2) (by decide) h1 hh hl8 hD hn hrw.2 (fun k hk => (hsw k hk).2)) dX5_makeBestSwap_4 (by decide) rfl rfl rfl rfl (Nat.le_of_ble_eq_true rfl) (fun r0 J0 h0 => ?_)
  obtain ⟨rfl, hJ0⟩ := h0
  obtain rfl := hJ0.symm
  rw [eb]
  have hor := beL_or (fun k => brk h (seg (swp L k) 0 n)) (n - 1) 0 (brk h (seg L 0 n)) (-6)
  rw [show beL (fun k => brk h (seg (swp L k) 0 n)) 0 (n - 1) (brk h (seg L 0 n)) (-6) = bsw (n, h, a, L) from rfl] at hor
  rcases hor with e | ⟨j, -, hj, e, -⟩
  · have e2 : spBetter ((n, h, a, L), im) = ((-6), ((n, h, a, L), im)) := by
      unfold spBetter; dsimp only; rw [e]; rfl
    rw [e, e2]
    refine x_istore_n (ls' := [.ref 0, .int (-6)]) dX5_makeBestSwap_7 rfl rfl ?_
    refine x_iload_n dX5_makeBestSwap_8 rfl ?_
    refine x_bipush dX5_makeBestSwap_9 bp_m6 ?_
    refine x_icmp_eq (tgt := 27) dX5_makeBestSwap_11 rfl (fun c => ?_) (fun c => ?_)
    ·
      refine x_iload_n dX5_makeBestSwap_27 rfl ?_
      refine x_ireti dX5_makeBestSwap_28 rfl ⟨rfl, hR⟩
    ·
      exact absurd rfl c
  · have e2 : spBetter ((n, h, a, L), im) = (nI j, setL ((n, h, a, L), im) (swp L j)) := by
      unfold spBetter; dsimp only; rw [e, swI, if_neg (nI_pos (by omega)), tN_nI (by omega)]
    rw [e, e2]
    refine x_istore_n (ls' := [.ref 0, .int (nI j)]) dX5_makeBestSwap_7 rfl rfl ?_
    refine x_iload_n dX5_makeBestSwap_8 rfl ?_
    refine x_bipush dX5_makeBestSwap_9 bp_m6 ?_
    refine x_icmp_eq (tgt := 27) dX5_makeBestSwap_11 rfl (fun c => ?_) (fun c => ?_)
    ·
      have : (nI j).toInt = (-6 : Int32).toInt := by rw [c]
      rw [nI_toInt (by omega)] at this
      exact absurd this (by show ¬ (j : Int) = -6; omega)
    ·
      refine x_aload_n dX5_makeBestSwap_14 rfl ?_
      refine x_getR 4 0 rfl (by decide) fl_X5_12 dX5_makeBestSwap_15 rfl rfl rfl ?_
      refine x_iload_n dX5_makeBestSwap_18 rfl ?_
      refine x_callVv 1 ml_X5_150 in_X2_exchange se_X2_exchange ct_X2_exchange rfl (c_exchange (d := 0) (k := j) (by omega)) dX5_makeBestSwap_19 (by decide) rfl rfl rfl rfl (Nat.le_of_ble_eq_true rfl) (fun J0 h0 => ?_)
      obtain rfl := h0.symm
      refine x_aload_n dX5_makeBestSwap_22 rfl ?_
      refine x_iconst dX5_makeBestSwap_23 ic_0 ?_
      refine x_put 4 5 rfl (by decide) fl_X5_35 rfl rfl (narZ (by decide)) (fitZ (by decide)) dX5_makeBestSwap_24 rfl rfl rfl ?_
      refine x_iload_n dX5_makeBestSwap_27 rfl ?_
      refine x_ireti dX5_makeBestSwap_28 rfl ?_
      refine ⟨rfl, hR.row (L' := swp L j) ?_ (fun q hq => ?_) ?_ (fun c hc => ?_)⟩
      · have hx := hD.ex (k := j) (by omega)
        have := DgT.fr (T := (n, h, a, swp L j)) (J := xup (exI I 4 j) 0 5 (nI 0)) hx (xup_ne (by decide)) (xup_ne (by decide)) (xup_ne (by decide)) (xup_ne (by decide))
        exact this
      · rw [xup_eq, if_neg hq, exI_ne _ (by decide)]
      · rw [xup_eq, if_pos rfl]
      · rw [xup_ne (by omega), exI_ne _ (by omega)]
end KB
