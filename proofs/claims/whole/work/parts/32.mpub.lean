/-! the reference: its calls -/
theorem out_ne {x : Int32} {n j : Nat} (h : inR x n = false) (hj : j < n) (hn : n < 2 ^ 31) : ¬ x = nI j := fun e => by
  rw [e, inR_nI hn hj] at h; cases h
theorem nIe {a b : Nat} (ha : a < 2 ^ 31) (hb : b < 2 ^ 31) (h : a ≠ b) : ¬ nI a = nI b := fun e => h ((nI_eq ha hb).mp e)
theorem inB_4 {x : Int32} : inB x (nI 0) (nI 3) = inR x 4 := inB_R (n := 4) (by decide) (by decide)
theorem inB_3 {x : Int32} : inB x (nI 0) (nI 2) = inR x 3 := inB_R (n := 3) (by decide) (by decide)
theorem inB_2 {x : Int32} : inB x (nI 0) (nI 1) = inR x 2 := inB_R (n := 2) (by decide) (by decide)
theorem idx_row {T : ST} (hT : TOk T) {p : Nat} (hp : p < T.1) : (rw0 T).idxOf (T.2.2.2 p) = p := by
  have hlen : (rw0 T).length = T.1 := seg_len _ _ _
  have hat : ∀ q, q < T.1 → (rw0 T)[q]? = some (T.2.2.2 q) := fun q hq => by rw [rw0, seg_at hq, Nat.zero_add]
  have hm : T.2.2.2 p ∈ rw0 T := List.mem_of_getElem? (hat p hp)
  have hl := List.idxOf_lt_length_of_mem hm
  have h2 : (rw0 T)[(rw0 T).idxOf (T.2.2.2 p)]? = some (T.2.2.2 p) := by rw [List.getElem?_eq_getElem hl]; simp
  rw [hat _ (by omega)] at h2
  exact hT.2.2.2.2.2.1 _ _ (by omega) hp (Option.some.inj h2)
/-- every grave lies somewhere -/
theorem row_full {T : ST} (hT : TOk T) {g : Nat} (hg : g < T.1) : ∃ p, p < T.1 ∧ T.2.2.2 p = g := by
  have hnd : (rw0 T).Nodup := by
    rw [rw0, seg]
    refine List.Pairwise.map _ (fun a b (h : a ∈ List.range' 0 T.1 ∧ b ∈ List.range' 0 T.1 ∧ a ≠ b) => ?_) ?_ (R := fun a b => a ∈ List.range' 0 T.1 ∧ b ∈ List.range' 0 T.1 ∧ a ≠ b)
    · intro e
      have h1 := List.mem_range'_1.mp h.1
      have h2 := List.mem_range'_1.mp h.2.1
      exact h.2.2 (hT.2.2.2.2.2.1 a b (by omega) (by omega) e)
    · exact List.Pairwise.imp_of_mem (fun ha hb h => ⟨ha, hb, h⟩) (List.nodup_range' 1 (by decide))
  have key : ∀ (l : List Nat) (m : Nat), l.Nodup → (∀ x ∈ l, x < m) → m ≤ l.length → ∀ g, g < m → g ∈ l := by
    intro l m
    induction m generalizing l with
    | zero => intro _ _ _ g hg; omega
    | succ m ih =>
      intro hn hb hl g hg
      by_cases hmm : m ∈ l
      · by_cases e : g = m
        · subst e; exact hmm
        · have h1 := filter_ne_len hn hmm
          have := ih (l.filter (fun i => i ≠ m)) (List.Pairwise.filter _ hn) (fun x hx => by
            have h2 := List.mem_filter.mp hx
            have h3 := hb x h2.1
            have h4 : x ≠ m := by simpa using h2.2
            omega) (by omega) g (by omega)
          exact (List.mem_filter.mp this).1
      · exfalso
        have : ∀ (l : List Nat) (m : Nat), l.Nodup → (∀ x ∈ l, x < m) → l.length ≤ m := by
          intro l m
          induction m generalizing l with
          | zero => intro _ hb; cases l with
            | nil => simp
            | cons x l => have := hb x List.mem_cons_self; omega
          | succ m ih2 =>
            intro hn hb
            by_cases hm : m ∈ l
            · have h1 := filter_ne_len hn hm
              have := ih2 (l.filter (fun i => i ≠ m)) (List.Pairwise.filter _ hn) (fun x hx => by
                have h2 := List.mem_filter.mp hx
                have h3 := hb x h2.1
                have h4 : x ≠ m := by simpa using h2.2
                omega)
              omega
            · have := ih2 l hn (fun x hx => by have := hb x hx; have : x ≠ m := fun e => hm (e ▸ hx); omega)
              omega
        have := this l m hn (fun x hx => by have := hb x hx; have : x ≠ m := fun e => hmm (e ▸ hx); omega)
        omega
  have hm := key (rw0 T) T.1 hnd (fun x hx => by
    obtain ⟨i, hi, rfl⟩ := seg_mem.mp hx
    rw [Nat.zero_add]; exact hT.2.2.2.2.1 i hi) (by rw [rw0, seg_len]; exact Nat.le_refl _) g hg
  obtain ⟨i, hi, e⟩ := seg_mem.mp hm
  exact ⟨i, hi, by rw [e, Nat.zero_add]⟩
section MP
variable {I : xMem} {W : WS}
theorem m_least (hW : WOk W) (hR : MR I W) : Cx LM yX6_least mX6_least 8 [.ref 0] I (xRi (fun r J => r = spLeast W ∧ MR J W)) := by
  obtain ⟨⟨n, h, a, L⟩, im⟩ := W
  have h1 : 1 ≤ n := hW.1.1
  have hn : n ≤ 8 := hW.1.2.1
  have hh : ∀ g, h g < 1024 := hW.1.2.2.1
  have ha : ∀ g, a g < 256 := hW.1.2.2.2.1
  have hL : ∀ p, p < n → L p < n := hW.1.2.2.2.2.1
  have hinj : ∀ p q, p < n → q < n → L p = L q → p = q := hW.1.2.2.2.2.2.1
  have hL8 : ∀ p, p < 8 → L p < 8 := hW.1.2.2.2.2.2.2
  have hM : MSt I n h a L := hR.1
  have hF : I 0 4 = nI 0 ∨ (I 0 4 = nI 1 ∧ I 0 5 = oI (fewB n h a)) := hR.2.1
  refine Cx.of [.ref 0] (by decide) rfl rfl (Nat.le_of_ble_eq_true rfl) rfl ?_
  refine x_aload_n dX6_least_0 rfl ?_
  refine x_callVv 5 ml_X6_104 in_X6_layFewest se_X6_layFewest ct_X6_layFewest rfl (c_layFewest (d := 3) (by decide) h1 hn hh ha hM hF) dX6_least_1 (by decide) rfl rfl rfl rfl (Nat.le_of_ble_eq_true rfl) (fun J0 h0 => ?_)
  obtain ⟨f4, f5, f0, ff⟩ := h0
  refine x_aload_n dX6_least_4 rfl ?_
  refine x_getI 5 5 (v := oI (fewB n h a)) rfl (by decide) fl_X6_87 dX6_least_5 rfl rfl rfl f5 ?_
  refine x_ireti dX6_least_8 rfl ⟨rfl, hR.base ⟨f4, f5, ff 1 (by decide) (by decide), ff 2 (by decide) (by decide), ff 3 (by decide) (by decide)⟩⟩
theorem m_best (hW : WOk W) (hR : MR I W) : Cx LM yX6_best mX6_best 8 [.ref 0] I (xRi (fun r J => r = spBest W ∧ MR J W)) := by
  obtain ⟨⟨n, h, a, L⟩, im⟩ := W
  have h1 : 1 ≤ n := hW.1.1
  have hn : n ≤ 8 := hW.1.2.1
  have hh : ∀ g, h g < 1024 := hW.1.2.2.1
  have ha : ∀ g, a g < 256 := hW.1.2.2.2.1
  have hL : ∀ p, p < n → L p < n := hW.1.2.2.2.2.1
  have hinj : ∀ p q, p < n → q < n → L p = L q → p = q := hW.1.2.2.2.2.2.1
  have hL8 : ∀ p, p < 8 → L p < 8 := hW.1.2.2.2.2.2.2
  have hM : MSt I n h a L := hR.1
  have hF : I 0 4 = nI 0 ∨ (I 0 4 = nI 1 ∧ I 0 5 = oI (fewB n h a)) := hR.2.1
  refine Cx.of [.ref 0] (by decide) rfl rfl (Nat.le_of_ble_eq_true rfl) rfl ?_
  refine x_aload_n dX6_best_0 rfl ?_
  refine x_iconst dX6_best_1 ic_0 ?_
  refine x_callVv 5 ml_X6_132 in_X6_lookAtAll se_X6_lookAtAll ct_X6_lookAtAll rfl (c_lookAtAll (d := 4) (x := nI 0) (by decide) h1 hn hh ha hL hM hF) dX6_best_2 (by decide) rfl rfl rfl rfl (Nat.le_of_ble_eq_true rfl) (fun J0 h0 => ?_)
  obtain ⟨q1, q2⟩ := h0
  refine x_aload_n dX6_best_5 rfl ?_
  refine x_getI 5 6 (v := nI (bests n h a).length) rfl (by decide) fl_X6_107 dX6_best_6 rfl rfl rfl q1.1 ?_
  refine x_ireti dX6_best_9 rfl ⟨rfl, hR.base q2⟩
theorem m_row {p : Int32} (hW : WOk W) (hR : MR I W) : Cx LM yX6_row mX6_row 8 [.ref 0, .int p] I (xRi (fun r J => r = spRow p W ∧ MR J W)) := by
  obtain ⟨⟨n, h, a, L⟩, im⟩ := W
  have h1 : 1 ≤ n := hW.1.1
  have hn : n ≤ 8 := hW.1.2.1
  have hh : ∀ g, h g < 1024 := hW.1.2.2.1
  have ha : ∀ g, a g < 256 := hW.1.2.2.2.1
  have hL : ∀ p, p < n → L p < n := hW.1.2.2.2.2.1
  have hinj : ∀ p q, p < n → q < n → L p = L q → p = q := hW.1.2.2.2.2.2.1
  have hL8 : ∀ p, p < 8 → L p < 8 := hW.1.2.2.2.2.2.2
  have hM : MSt I n h a L := hR.1
  have hF : I 0 4 = nI 0 ∨ (I 0 4 = nI 1 ∧ I 0 5 = oI (fewB n h a)) := hR.2.1
  refine Cx.of [.ref 0, .int p] (by decide) rfl rfl (Nat.le_of_ble_eq_true rfl) rfl ?_
  refine x_iload_n dX6_row_0 rfl ?_
  refine x_iconst dX6_row_1 ic_0 ?_
  refine x_aload_n dX6_row_2 rfl ?_
  refine x_getR 5 0 rfl (by decide) fl_X6_7 dX6_row_3 rfl rfl rfl ?_
  refine x_iconst dX6_row_6 ic_0 ?_
  refine x_iald (p := 0) (v := nI n) dX6_row_7 rfl rfl rfl rfl (by omega) hM.1 ?_
  refine x_iconst dX6_row_8 ic_1 ?_
  refine x_isub (v := nI (n - 1)) dX6_row_9 (pk_sub (by omega)) ?_
  refine x_callSi (as := [.int p, .int (nI 0), .int (nI (n - 1))]) ml_X6_50 st_X6_in ct_X6_in (c_in (d := 0)) dX6_row_10 (by decide) rfl rfl (Nat.le_of_ble_eq_true rfl) (fun r0 J0 h0 => ?_)
  obtain ⟨rfl, hJ0⟩ := h0
  obtain rfl := hJ0.symm
  rw [inB_R h1 (by omega)]
  refine x_ifb_eq (b := inR p n) (tgt := 28) dX6_row_13 rfl (fun c => ?_) (fun c => ?_)
  ·
    refine x_bipush dX6_row_28 bp_m2 ?_
    refine x_ireti dX6_row_30 rfl ⟨(if_neg (by rw [c]; decide)).symm, hR⟩
  ·
    obtain ⟨j, hj, rfl⟩ := inR_of c
    refine x_aload_n dX6_row_16 rfl ?_
    refine x_getR 5 0 rfl (by decide) fl_X6_7 dX6_row_17 rfl rfl rfl ?_
    refine x_bipush dX6_row_20 bp_17 ?_
    refine x_iload_n dX6_row_22 rfl ?_
    refine x_iadd (v := nI (17 + j)) dX6_row_23 (nI_add _ _) ?_
    refine x_iald (p := 17 + j) (v := nI (L j)) dX6_row_24 rfl rfl rfl rfl (by omega) (hM.2.2.2 j (by omega)) ?_
    refine x_goto (tgt := 30) dX6_row_25 rfl ?_
    refine x_ireti dX6_row_30 rfl ⟨by rw [spRow]; dsimp only; rw [if_pos c, tN_nI (by omega)], hR⟩
theorem m_alike {x y : Int32} (hW : WOk W) (hR : MR I W) : Cx LM yX6_alike mX6_alike 8 [.ref 0, .int x, .int y] I (xRi (fun r J => r = spAlike x y W ∧ MR J W)) := by
  obtain ⟨⟨n, h, a, L⟩, im⟩ := W
  have h1 : 1 ≤ n := hW.1.1
  have hn : n ≤ 8 := hW.1.2.1
  have hh : ∀ g, h g < 1024 := hW.1.2.2.1
  have ha : ∀ g, a g < 256 := hW.1.2.2.2.1
  have hL : ∀ p, p < n → L p < n := hW.1.2.2.2.2.1
  have hinj : ∀ p q, p < n → q < n → L p = L q → p = q := hW.1.2.2.2.2.2.1
  have hL8 : ∀ p, p < 8 → L p < 8 := hW.1.2.2.2.2.2.2
  have hM : MSt I n h a L := hR.1
  have hF : I 0 4 = nI 0 ∨ (I 0 4 = nI 1 ∧ I 0 5 = oI (fewB n h a)) := hR.2.1
  refine Cx.of [.ref 0, .int x, .int y] (by decide) rfl rfl (Nat.le_of_ble_eq_true rfl) rfl ?_
  refine x_aload_n dX6_alike_0 rfl ?_
  refine x_iload_n dX6_alike_1 rfl ?_
  refine x_callVi 5 ml_X6_58 in_X6_isGrave se_X6_isGrave ct_X6_isGrave rfl (cm_isGrave (d := 1) (by decide) h1 hn hM.1) dX6_alike_2 (by decide) rfl rfl rfl rfl (Nat.le_of_ble_eq_true rfl) (fun r0 J0 h0 => ?_)
  obtain ⟨rfl, hJ0⟩ := h0
  obtain rfl := hJ0.symm
  refine x_ifb_eq (b := inR x n) (tgt := 39) dX6_alike_5 rfl (fun c => ?_) (fun c => ?_)
  ·
    refine x_iconst dX6_alike_39 ic_m1 ?_
    refine x_ireti dX6_alike_40 rfl ⟨by rw [spAlike]; dsimp only; rw [c]; rfl, hR⟩
  ·
    obtain ⟨j, hj, rfl⟩ := inR_of c
    refine x_aload_n dX6_alike_8 rfl ?_
    refine x_iload_n dX6_alike_9 rfl ?_
    refine x_callVi 5 ml_X6_58 in_X6_isGrave se_X6_isGrave ct_X6_isGrave rfl (cm_isGrave (d := 1) (by decide) h1 hn hM.1) dX6_alike_10 (by decide) rfl rfl rfl rfl (Nat.le_of_ble_eq_true rfl) (fun r0 J0 h0 => ?_)
    obtain ⟨rfl, hJ0⟩ := h0
    obtain rfl := hJ0.symm
    refine x_ifb_eq (b := inR y n) (tgt := 39) dX6_alike_13 rfl (fun c2 => ?_) (fun c2 => ?_)
    ·
      refine x_iconst dX6_alike_39 ic_m1 ?_
      refine x_ireti dX6_alike_40 rfl ⟨by rw [spAlike]; dsimp only; rw [c, c2]; rfl, hR⟩
    ·
      obtain ⟨k, hk, rfl⟩ := inR_of c2
      refine x_aload_n dX6_alike_16 rfl ?_
      refine x_getR 5 0 rfl (by decide) fl_X6_7 dX6_alike_17 rfl rfl rfl ?_
      refine x_iconst dX6_alike_20 ic_1 ?_
      refine x_iload_n dX6_alike_21 rfl ?_
      refine x_iadd (v := nI (1 + j)) dX6_alike_22 (nI_add _ _) ?_
      refine x_iald (p := 1 + j) (v := nI (h j)) dX6_alike_23 rfl rfl rfl rfl (by omega) (hM.2.1 j (by omega)) ?_
      refine x_aload_n dX6_alike_24 rfl ?_
      refine x_getR 5 0 rfl (by decide) fl_X6_7 dX6_alike_25 rfl rfl rfl ?_
      refine x_iconst dX6_alike_28 ic_1 ?_
      refine x_iload_n dX6_alike_29 rfl ?_
      refine x_iadd (v := nI (1 + k)) dX6_alike_30 (nI_add _ _) ?_
      refine x_iald (p := 1 + k) (v := nI (h k)) dX6_alike_31 rfl rfl rfl rfl (by omega) (hM.2.1 k (by omega)) ?_
      refine x_iand (v := nI ((h j) &&& (h k))) dX6_alike_32 (nI_and _ _) ?_
      refine x_callSi (as := [.int (nI ((h j) &&& (h k)))]) ml_X6_65 st_X6_bits ct_X6_bits (c_bits (d := 0) (by have := and_lt1024 (s := h k) (hh j); omega)) dX6_alike_33 (by decide) rfl rfl (Nat.le_of_ble_eq_true rfl) (fun r0 J0 h0 => ?_)
      obtain ⟨rfl, hJ0⟩ := h0
      obtain rfl := hJ0.symm
      refine x_goto (tgt := 40) dX6_alike_36 rfl ?_
      refine x_ireti dX6_alike_40 rfl ⟨by rw [spAlike]; dsimp only; rw [c, c2, tN_nI (by omega), tN_nI (by omega)]; rfl, hR⟩
theorem m_grave {g what : Int32} (hW : WOk W) (hR : MR I W) : Cx LM yX6_grave mX6_grave 8 [.ref 0, .int g, .int what] I (xRi (fun r J => r = spGrave g what W ∧ MR J W)) := by
  obtain ⟨⟨n, h, a, L⟩, im⟩ := W
  have h1 : 1 ≤ n := hW.1.1
  have hn : n ≤ 8 := hW.1.2.1
  have hh : ∀ g, h g < 1024 := hW.1.2.2.1
  have ha : ∀ g, a g < 256 := hW.1.2.2.2.1
  have hL : ∀ p, p < n → L p < n := hW.1.2.2.2.2.1
  have hinj : ∀ p q, p < n → q < n → L p = L q → p = q := hW.1.2.2.2.2.2.1
  have hL8 : ∀ p, p < 8 → L p < 8 := hW.1.2.2.2.2.2.2
  have hM : MSt I n h a L := hR.1
  have hF : I 0 4 = nI 0 ∨ (I 0 4 = nI 1 ∧ I 0 5 = oI (fewB n h a)) := hR.2.1
  refine Cx.of [.ref 0, .int g, .int what, .null, .null] (by decide) rfl rfl (Nat.le_of_ble_eq_true rfl) rfl ?_
  refine x_aload_n dX6_grave_0 rfl ?_
  refine x_iload_n dX6_grave_1 rfl ?_
  refine x_callVi 5 ml_X6_58 in_X6_isGrave se_X6_isGrave ct_X6_isGrave rfl (cm_isGrave (d := 1) (by decide) h1 hn hM.1) dX6_grave_2 (by decide) rfl rfl rfl rfl (Nat.le_of_ble_eq_true rfl) (fun r0 J0 h0 => ?_)
  obtain ⟨rfl, hJ0⟩ := h0
  obtain rfl := hJ0.symm
  refine x_ifb_ne (b := inR g n) (tgt := 10) dX6_grave_5 rfl (fun c => ?_) (fun c => ?_)
  ·
    obtain ⟨j, hj, rfl⟩ := inR_of c
    refine x_iload_n dX6_grave_10 rfl ?_
    refine x_iconst dX6_grave_11 ic_0 ?_
    refine x_iconst dX6_grave_12 ic_3 ?_
    refine x_callSi (as := [.int what, .int (nI 0), .int (nI 3)]) ml_X6_50 st_X6_in ct_X6_in (c_in (d := 0)) dX6_grave_13 (by decide) rfl rfl (Nat.le_of_ble_eq_true rfl) (fun r0 J0 h0 => ?_)
    obtain ⟨rfl, hJ0⟩ := h0
    obtain rfl := hJ0.symm
    rw [inB_4]
    refine x_ifb_ne (b := inR what 4) (tgt := 22) dX6_grave_16 rfl (fun c2 => ?_) (fun c2 => ?_)
    ·
      obtain ⟨q, hq, rfl⟩ := inR_of c2
      have fin : ∀ v4, Wx LM mX6_grave 8 (xRi (fun r J => r = spGrave (nI j) (nI q) ((n, h, a, L), im) ∧ MR J ((n, h, a, L), im))) 72 [.ref 0, .int (nI j), .int (nI q), .int (nI (erl a j n)), v4] [] I := by
        intro v4
        obtain ⟨p0, hp0, ep0⟩ := row_full hW.1 (g := j) hj
        have ep0 : L p0 = j := ep0
        have hpl : plOf (n, h, a, L) j = p0 := by rw [← ep0]; exact idx_row hW.1 hp0
        refine x_iload_n dX6_grave_72 rfl ?_
        refine x_ifn_ne (a := q) (by omega) (tgt := 87) dX6_grave_73 rfl (fun d1 => ?_) (fun d1 => ?_)
        ·
          refine x_iload_n dX6_grave_87 rfl ?_
          refine x_iconst dX6_grave_88 ic_1 ?_
          refine x_icmpn_ne (a := q) (b := 1) (by omega) (by omega) (tgt := 104) dX6_grave_89 rfl (fun d2 => ?_) (fun d2 => ?_)
          ·
            refine x_iload_n dX6_grave_104 rfl ?_
            refine x_iconst dX6_grave_105 ic_2 ?_
            refine x_icmpn_ne (a := q) (b := 2) (by omega) (by omega) (tgt := 113) dX6_grave_106 rfl (fun d3 => ?_) (fun d3 => ?_)
            ·
              refine x_aload_n dX6_grave_113 rfl ?_
              refine x_iload_n dX6_grave_114 rfl ?_
              refine x_callVi 5 ml_X6_77 in_X6_placeInRow se_X6_placeInRow ct_X6_placeInRow rfl (c_placeInRow (d := 0) (p0 := p0) hp0 (by omega) hL8 (fun p hp => ⟨fun e => hinj p p0 hp hp0 (by rw [e, ep0]), fun e => by rw [e, ep0]⟩) hM hn) dX6_grave_115 (by decide) rfl rfl rfl rfl (Nat.le_of_ble_eq_true rfl) (fun r0 J0 h0 => ?_)
              obtain ⟨rfl, hJ0⟩ := h0
              obtain rfl := hJ0.symm
              refine x_ireti dX6_grave_118 rfl ⟨by rw [spGrave]; dsimp only; rw [c, if_pos rfl, if_neg (nIe (by omega) (by omega) d1), if_neg (nIe (by omega) (by omega) d2), if_neg (nIe (by omega) (by omega) d3), show q = 3 by omega, if_pos rfl, tN_nI (by omega), hpl], hR⟩
            ·
              refine x_iload_n dX6_grave_109 rfl ?_
              refine x_goto (tgt := 118) dX6_grave_110 rfl ?_
              refine x_ireti dX6_grave_118 rfl ⟨by rw [spGrave]; dsimp only; rw [c, if_pos rfl, if_neg (nIe (by omega) (by omega) d1), if_neg (nIe (by omega) (by omega) d2), d3, if_pos rfl, tN_nI (by omega)], hR⟩
          ·
            refine x_aload_n dX6_grave_92 rfl ?_
            refine x_getR 5 0 rfl (by decide) fl_X6_7 dX6_grave_93 rfl rfl rfl ?_
            refine x_bipush dX6_grave_96 bp_9 ?_
            refine x_iload_n dX6_grave_98 rfl ?_
            refine x_iadd (v := nI (9 + j)) dX6_grave_99 (nI_add _ _) ?_
            refine x_iald (p := 9 + j) (v := nI (a j)) dX6_grave_100 rfl rfl rfl rfl (by omega) (hM.2.2.1 j (by omega)) ?_
            refine x_goto (tgt := 118) dX6_grave_101 rfl ?_
            refine x_ireti dX6_grave_118 rfl ⟨by rw [spGrave]; dsimp only; rw [c, if_pos rfl, if_neg (nIe (by omega) (by omega) d1), d2, if_pos rfl, tN_nI (by omega)], hR⟩
        ·
          refine x_aload_n dX6_grave_76 rfl ?_
          refine x_getR 5 0 rfl (by decide) fl_X6_7 dX6_grave_77 rfl rfl rfl ?_
          refine x_iconst dX6_grave_80 ic_1 ?_
          refine x_iload_n dX6_grave_81 rfl ?_
          refine x_iadd (v := nI (1 + j)) dX6_grave_82 (nI_add _ _) ?_
          refine x_iald (p := 1 + j) (v := nI (h j)) dX6_grave_83 rfl rfl rfl rfl (by omega) (hM.2.1 j (by omega)) ?_
          refine x_goto (tgt := 118) dX6_grave_84 rfl ?_
          refine x_ireti dX6_grave_118 rfl ⟨by rw [spGrave]; dsimp only; rw [c, if_pos rfl, d1, if_pos rfl, tN_nI (by omega)], hR⟩
      have lp : ∀ (k g : Nat), g + k = n → Wx LM mX6_grave 8 (xRi (fun r J => r = spGrave (nI j) (nI q) ((n, h, a, L), im) ∧ MR J ((n, h, a, L), im))) 27 [.ref 0, .int (nI j), .int (nI q), .int (nI (erl a j g)), .int (nI g)] [] I := by
        intro k
        induction k with
        | zero =>
          intro g hg
          have e : g = n := by omega
          subst e
          refine x_iload dX6_grave_27 rfl ?_
          refine x_aload_n dX6_grave_29 rfl ?_
          refine x_getR 5 0 rfl (by decide) fl_X6_7 dX6_grave_30 rfl rfl rfl ?_
          refine x_iconst dX6_grave_33 ic_0 ?_
          refine x_iald (p := 0) (v := nI g) dX6_grave_34 rfl rfl rfl rfl (by omega) hM.1 ?_
          refine x_icmpn_ge (a := g) (b := g) (by omega) (by omega) (tgt := 72) dX6_grave_35 rfl (fun e1 => ?_) (fun e1 => ?_)
          ·
            exact fin _
          ·
            omega
        | succ k ih =>
          intro g hg
          have hb := ha g
          refine x_iload dX6_grave_27 rfl ?_
          refine x_aload_n dX6_grave_29 rfl ?_
          refine x_getR 5 0 rfl (by decide) fl_X6_7 dX6_grave_30 rfl rfl rfl ?_
          refine x_iconst dX6_grave_33 ic_0 ?_
          refine x_iald (p := 0) (v := nI n) dX6_grave_34 rfl rfl rfl rfl (by omega) hM.1 ?_
          refine x_icmpn_ge (a := g) (b := n) (by omega) (by omega) (tgt := 72) dX6_grave_35 rfl (fun e1 => ?_) (fun e1 => ?_)
          ·
            omega
          ·
            refine x_iload_n dX6_grave_38 rfl ?_
            refine x_aload_n dX6_grave_39 rfl ?_
            refine x_getR 5 0 rfl (by decide) fl_X6_7 dX6_grave_40 rfl rfl rfl ?_
            refine x_bipush dX6_grave_43 bp_9 ?_
            refine x_iload dX6_grave_45 rfl ?_
            refine x_iadd (v := nI (9 + g)) dX6_grave_47 (nI_add _ _) ?_
            refine x_iald (p := 9 + g) (v := nI (a g)) dX6_grave_48 rfl rfl rfl rfl (by omega) (hM.2.2.1 g (by omega)) ?_
            refine x_iload_n dX6_grave_49 rfl ?_
            refine x_callSi (as := [.int (nI (a g)), .int (nI j)]) ml_X6_73 st_X6_has ct_X6_has (c_has (d := 0) (by omega) (by omega)) dX6_grave_50 (by decide) rfl rfl (Nat.le_of_ble_eq_true rfl) (fun r0 J0 h0 => ?_)
            obtain ⟨rfl, hJ0⟩ := h0
            obtain rfl := hJ0.symm
            refine x_ifb_eq (b := (a g).testBit j) (tgt := 63) dX6_grave_53 rfl (fun e2 => ?_) (fun e2 => ?_)
            ·
              refine x_iconst dX6_grave_63 ic_0 ?_
              refine x_ior (v := nI ((erl a j g) ||| 0)) dX6_grave_64 (nI_or _ _) ?_
              refine x_istore_n (ls' := [.ref 0, .int (nI j), .int (nI q), .int (nI ((erl a j g) ||| 0)), .int (nI g)]) dX6_grave_65 rfl rfl ?_
              refine x_iinc (v := nI (g + 1)) (ls' := [.ref 0, .int (nI j), .int (nI q), .int (nI ((erl a j g) ||| 0)), .int (nI (g + 1))]) dX6_grave_66 rfl (inc_1 _) rfl rfl ?_
              refine x_goto (tgt := 27) dX6_grave_69 rfl ?_
              have e : erl a j (g + 1) = erl a j g ||| 0 := by simp [erl, e2]
              rw [← e]
              exact ih (g + 1) (by omega)
            ·
              refine x_iconst dX6_grave_56 ic_1 ?_
              refine x_iload dX6_grave_57 rfl ?_
              refine x_ishl (v := nI (1 <<< g)) dX6_grave_59 (nI_shl _ (by omega)) ?_
              refine x_goto (tgt := 64) dX6_grave_60 rfl ?_
              refine x_ior (v := nI ((erl a j g) ||| (1 <<< g))) dX6_grave_64 (nI_or _ _) ?_
              refine x_istore_n (ls' := [.ref 0, .int (nI j), .int (nI q), .int (nI ((erl a j g) ||| (1 <<< g))), .int (nI g)]) dX6_grave_65 rfl rfl ?_
              refine x_iinc (v := nI (g + 1)) (ls' := [.ref 0, .int (nI j), .int (nI q), .int (nI ((erl a j g) ||| (1 <<< g))), .int (nI (g + 1))]) dX6_grave_66 rfl (inc_1 _) rfl rfl ?_
              refine x_goto (tgt := 27) dX6_grave_69 rfl ?_
              have e : erl a j (g + 1) = erl a j g ||| 1 <<< g := by simp [erl, e2]
              rw [← e]
              exact ih (g + 1) (by omega)
      refine x_iconst dX6_grave_22 ic_0 ?_
      refine x_istore_n (ls' := [.ref 0, .int (nI j), .int (nI q), .int (nI 0), .null]) dX6_grave_23 rfl rfl ?_
      refine x_iconst dX6_grave_24 ic_0 ?_
      refine x_istore (ls' := [.ref 0, .int (nI j), .int (nI q), .int (nI 0), .int (nI 0)]) dX6_grave_25 rfl rfl ?_
      exact lp n 0 (by omega)
    ·
      refine x_bipush dX6_grave_19 bp_m2 ?_
      refine x_ireti dX6_grave_21 rfl ⟨by rw [spGrave]; dsimp only; rw [c, if_pos rfl, if_neg (out_ne c2 (by decide) (by decide)), if_neg (out_ne c2 (by decide) (by decide)), if_neg (out_ne c2 (by decide) (by decide)), if_neg (out_ne c2 (by decide) (by decide))], hR⟩
  ·
    refine x_iconst dX6_grave_8 ic_m1 ?_
    refine x_ireti dX6_grave_9 rfl ⟨by rw [spGrave]; dsimp only; rw [c]; rfl, hR⟩
end MP
