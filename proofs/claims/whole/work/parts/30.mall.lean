/-! the reference: all orders are gone through -/
theorem ext_len {n : Nat} : ∀ (k S : Nat), (ext n k S).length ≤ n ^ k
  | 0, S => by simp [ext]
  | k + 1, S => by
    rw [ext_s, List.length_flatMap]
    have h1 : ∀ (l : List Nat), (l.map (fun g => ((ext n k (S ||| 1 <<< g)).map (g :: ·)).length)).sum ≤ l.length * n ^ k := by
      intro l
      induction l with
      | nil => simp
      | cons g l ih => simp only [List.map_cons, List.sum_cons, List.length_cons, Nat.succ_mul, List.length_map]; have := ext_len (n := n) k (S ||| 1 <<< g); simp only [List.length_map] at ih; omega
    refine Nat.le_trans (h1 _) ?_
    rw [Nat.pow_succ, Nat.mul_comm]
    refine Nat.mul_le_mul_left _ ?_
    have := List.length_filter_le (fun g => !S.testBit g) (List.range n)
    rw [List.length_range] at this
    exact this
theorem perms_len {n : Nat} (hn : n ≤ 8) : (perms n).length ≤ 16777216 := by
  refine Nat.le_trans (ext_len n 0) (Nat.le_trans (Nat.pow_le_pow_left hn n) (Nat.le_trans (Nat.pow_le_pow_right (by decide) hn) (by decide)))
theorem fewB_lt {n : Nat} {h a : Nat → Nat} (hn : n ≤ 8) : ∀ m, fewB n h a = some m → m < 2 ^ 31 := by
  intro m hm
  have := fwm_bd (f := brk h) (B := 80) (fea n a) none m (fun w hw => by
    have h1 := (perms_mem (n := n) (List.mem_filter.mp hw).1).1
    have := brk_le h w
    omega) (fun y hy => by cases hy) hm
  omega
section MG
variable {I : xMem} {n d : Nat} {h a L : Nat → Nat}
theorem g_isBest {w : List Nat} (hd : 3 ≤ d) (hn : n ≤ 8) (hh : ∀ g, h g < 1024) (ha : ∀ g, a g < 256) (hw : w ∈ perms n) (hO : OrdL I n w) (hM : MSt I n h a L) (hf : I 0 5 = oI (fewB n h a)) : Cx LM yX6_isBest mX6_isBest d [.ref 0] I (xRi (fun r J => r = nI (isB n h a w).toNat ∧ J = I)) :=
  c_isBest hd hn hh ha (fewB_lt hn) hM hf (g_isAllowed ha hw hO hM hn) (g_breaksNow (by decide) hh hw hO hM hn) (by have := (perms_mem hw).1; omega)
def Base (I : xMem) (n : Nat) (h a : Nat → Nat) (J : xMem) : Prop := J 0 4 = nI 1 ∧ J 0 5 = oI (fewB n h a) ∧ J 1 = I 1 ∧ J 2 = I 2 ∧ J 3 = I 3
def allQ (I : xMem) (n : Nat) (h a L : Nat → Nat) (x : Int32) (J : xMem) : Prop := Acc J n h L x (bests n h a) ∧ Base I n h a J
theorem filt_1 {p : List Nat → Bool} {u : List (List Nat)} {w : List Nat} (h : p w = true) : (u ++ [w]).filter p = u.filter p ++ [w] := by simp [List.filter_append, h]
theorem filt_0 {p : List Nat → Bool} {u : List (List Nat)} {w : List Nat} (h : p w = false) : (u ++ [w]).filter p = u.filter p := by simp [List.filter_append, h]
theorem c_lookAtAll {x : Int32} (hd : 4 ≤ d) (h1 : 1 ≤ n) (hn : n ≤ 8) (hh : ∀ g, h g < 1024) (ha : ∀ g, a g < 256) (hL : ∀ p, p < n → L p < n) (hM : MSt I n h a L) (hf : I 0 4 = nI 0 ∨ (I 0 4 = nI 1 ∧ I 0 5 = oI (fewB n h a))) : Cx LM yX6_lookAtAll mX6_lookAtAll d [.ref 0, .int x] I (xRv (allQ I n h a L x)) := by
  have body : ∀ (u v : List (List Nat)) (w : List Nat) (J : xMem), perms n = u ++ w :: v → OrdL J n w → Base I n h a J → Acc J n h L x (u.filter (isB n h a)) → (∀ (J : xMem), OrdL J n w → Base I n h a J → Acc J n h L x ((u ++ [w]).filter (isB n h a)) → Wx LM mX6_lookAtAll d (xRv (allQ I n h a L x)) 119 [.ref 0, .int x, .int (nI 1)] [] J) → Wx LM mX6_lookAtAll d (xRv (allQ I n h a L x)) 104 [.ref 0, .int x, .int (nI 1)] [] J := by
    intro u v w J hP hO hB hA kk
    have hw : w ∈ perms n := by rw [hP]; simp
    have hMJ : MSt J n h a L := hM.kept hB.2.2.1
    have hul : (u.filter (isB n h a)).length < 20000000 := by
      have e1 := List.length_filter_le (isB n h a) u
      have e2 := perms_len hn
      rw [hP, List.length_append] at e2
      omega
    refine x_iload_n dX6_lookAtAll_104 rfl ?_
    refine x_ifn_eq (a := 1) (by decide) (tgt := 127) dX6_lookAtAll_105 rfl (fun c => ?_) (fun c => ?_)
    ·
      exact absurd c (by decide)
    ·
      refine x_aload_n dX6_lookAtAll_108 rfl ?_
      refine x_callVi 5 ml_X6_126 in_X6_isBest se_X6_isBest ct_X6_isBest rfl (g_isBest (d := 3) (by decide) hn hh ha hw hO hMJ hB.2.1) dX6_lookAtAll_109 hd rfl rfl rfl rfl (Nat.le_of_ble_eq_true rfl) (fun r0 J0 h0 => ?_)
      obtain ⟨rfl, hJ0⟩ := h0
      obtain rfl := hJ0.symm
      refine x_ifb_eq (b := isB n h a w) (tgt := 119) dX6_lookAtAll_112 rfl (fun c2 => ?_) (fun c2 => ?_)
      ·
        exact kk J hO hB (by rw [filt_0 c2]; exact hA)
      ·
        refine x_aload_n dX6_lookAtAll_115 rfl ?_
        refine x_callVv 5 ml_X6_129 in_X6_look se_X6_look ct_X6_look rfl (c_look (d := 3) (w := w) (by decide) hn hh hMJ hL hw hO (fun v hv => (perms_mem (n := n) (by rw [hP]; exact List.mem_append_left _ (List.mem_filter.mp hv).1)).1) hul hA) dX6_lookAtAll_116 hd rfl rfl rfl rfl (Nat.le_of_ble_eq_true rfl) (fun J0 h0 => ?_)
        obtain ⟨q1, q2, q3, q4, q5, q6, q7, _⟩ := h0
        exact kk J0 (fun p hp => by rw [q7]; exact hO p hp) ⟨by rw [q2]; exact hB.1, by rw [q3]; exact hB.2.1, by rw [q4]; exact hB.2.2.1, by rw [q5]; exact hB.2.2.2.1, by rw [q6]; exact hB.2.2.2.2⟩ (by rw [filt_1 c2]; exact q1)
  have lp : ∀ (v u : List (List Nat)) (w : List Nat) (J : xMem), perms n = u ++ w :: v → OrdL J n w → Base I n h a J → Acc J n h L x (u.filter (isB n h a)) → Wx LM mX6_lookAtAll d (xRv (allQ I n h a L x)) 104 [.ref 0, .int x, .int (nI 1)] [] J := by
    intro v
    induction v with
    | nil =>
      intro u w J hP hO hB hA
      refine body u [] w J hP hO hB hA ?_
      clear hO hB hA
      intro J hO hB hA
      refine x_aload_n dX6_lookAtAll_119 rfl ?_
      refine x_callVi 5 ml_X6_101 in_X6_goOn se_X6_goOn ct_X6_goOn rfl (g_goOn (d := 1) (by decide) h1 hn (hM.kept hB.2.2.1).1 hP hO) dX6_lookAtAll_120 (by omega) rfl rfl rfl rfl (Nat.le_of_ble_eq_true rfl) (fun r0 J0 h0 => ?_)
      obtain ⟨_, rfl, rfl⟩ | ⟨y, v', hv, _⟩ := h0
      ·
        refine x_istore_n (ls' := [.ref 0, .int x, .int (nI 0)]) dX6_lookAtAll_123 rfl rfl ?_
        refine x_goto (tgt := 104) dX6_lookAtAll_124 rfl ?_
        refine x_iload_n dX6_lookAtAll_104 rfl ?_
        refine x_ifn_eq (a := 0) (by decide) (tgt := 127) dX6_lookAtAll_105 rfl (fun c3 => ?_) (fun c3 => ?_)
        ·
          refine x_vretv dX6_lookAtAll_127 rfl ⟨by rw [bests, hP]; exact hA, hB⟩
        ·
          exact absurd rfl c3
      · cases hv
    | cons y v ih =>
      intro u w J hP hO hB hA
      refine body u (y :: v) w J hP hO hB hA ?_
      clear hO hB hA
      intro J hO hB hA
      refine x_aload_n dX6_lookAtAll_119 rfl ?_
      refine x_callVi 5 ml_X6_101 in_X6_goOn se_X6_goOn ct_X6_goOn rfl (g_goOn (d := 1) (by decide) h1 hn (hM.kept hB.2.2.1).1 hP hO) dX6_lookAtAll_120 (by omega) rfl rfl rfl rfl (Nat.le_of_ble_eq_true rfl) (fun r0 J0 h0 => ?_)
      obtain ⟨hv, _⟩ | ⟨y', v', hv, rfl, hO', hF'⟩ := h0
      · cases hv
      ·
        refine x_istore_n (ls' := [.ref 0, .int x, .int (nI 1)]) dX6_lookAtAll_123 rfl rfl ?_
        refine x_goto (tgt := 104) dX6_lookAtAll_124 rfl ?_
        obtain ⟨rfl, rfl⟩ := List.cons.inj hv
        refine ih (u ++ [w]) y J0 (by rw [hP]; simp) hO' ?_ ?_
        · unfold Base; rw [hF' 0 (by decide), hF' 1 (by decide), hF' 2 (by decide), hF' 3 (by decide)]; exact hB
        · unfold Acc; rw [hF' 0 (by decide), hF' 12 (by decide), hF' 5 (by decide), hF' 6 (by decide), hF' 7 (by decide), hF' 8 (by decide), hF' 9 (by decide), hF' 10 (by decide)]; exact hA
  have lpC : ∀ (t k : Nat) (J : xMem), k + t = 10 → Base I n h a J → J 0 6 = nI 0 → J 0 7 = x → J 0 15 = (-6) → (∀ q, q < 64 → J 6 q = nI 0 ∧ J 7 q = nI 0) → (∀ q, q < 8 → J 8 q = nI 0 ∧ J 9 q = nI 0) → (∀ q, q < k → J 10 q = (-6)) → Wx LM mX6_lookAtAll d (xRv (allQ I n h a L x)) 78 [.ref 0, .int x, .int (nI k)] [] J := by
    intro t
    induction t with
    | zero =>
      intro k J hk hB e6 e7 e15 z6 z8 z10
      refine x_iload_n dX6_lookAtAll_78 rfl ?_
      refine x_bipush dX6_lookAtAll_79 bp_10 ?_
      refine x_icmpn_ge (a := k) (b := 10) (by omega) (by omega) (tgt := 98) dX6_lookAtAll_81 rfl (fun c => ?_) (fun c => ?_)
      ·
        refine x_aload_n dX6_lookAtAll_98 rfl ?_
        refine x_callVv 5 ml_X6_91 in_X6_begin se_X6_begin ct_X6_begin rfl (c_begin (d := 0)) dX6_lookAtAll_99 (by omega) rfl rfl rfl rfl (Nat.le_of_ble_eq_true rfl) (fun J0 h0 => ?_)
        obtain ⟨hJ1, hJ2⟩ := h0
        refine x_iconst dX6_lookAtAll_102 ic_1 ?_
        refine x_istore_n (ls' := [.ref 0, .int x, .int (nI 1)]) dX6_lookAtAll_103 rfl rfl ?_
        obtain ⟨v, hv⟩ := perms_first (n := n) (by omega)
        refine lp v [] (List.range n) J0 (by rw [hv]; rfl) (fun p hp => ?_) ?_ ?_
        · rw [hJ1 p (by omega), List.getD_eq_getElem?_getD, List.getElem?_range hp]; rfl
        · unfold Base; rw [hJ2 0 (by decide), hJ2 1 (by decide), hJ2 2 (by decide), hJ2 3 (by decide)]; exact hB
        · unfold Acc; rw [hJ2 0 (by decide), hJ2 12 (by decide), hJ2 5 (by decide), hJ2 6 (by decide), hJ2 7 (by decide), hJ2 8 (by decide), hJ2 9 (by decide), hJ2 10 (by decide)]
          exact ⟨e6, e7, e15, fun v hv => by simp [nrs] at hv, fun i w hi => by simp at hi, fun g k hg hk => (z6 _ (by omega)).1, fun g k hg hk => (z6 _ (by omega)).2, fun g hg => (z8 g (by omega)).1, fun g hg => (z8 g (by omega)).2, fun s hs => z10 s (by omega)⟩
      ·
        omega
    | succ t ih =>
      intro k J hk hB e6 e7 e15 z6 z8 z10
      refine x_iload_n dX6_lookAtAll_78 rfl ?_
      refine x_bipush dX6_lookAtAll_79 bp_10 ?_
      refine x_icmpn_ge (a := k) (b := 10) (by omega) (by omega) (tgt := 98) dX6_lookAtAll_81 rfl (fun c => ?_) (fun c => ?_)
      ·
        omega
      ·
        refine x_aload_n dX6_lookAtAll_84 rfl ?_
        refine x_getR 5 13 rfl (by decide) fl_X6_38 dX6_lookAtAll_85 rfl rfl rfl ?_
        refine x_iload_n dX6_lookAtAll_88 rfl ?_
        refine x_bipush dX6_lookAtAll_89 bp_m6 ?_
        refine x_iast (p := k) dX6_lookAtAll_91 rfl rfl rfl rfl (by omega) ?_
        generalize hK : xup J 10 k (-6) = K
        refine x_iinc (v := nI (k + 1)) (ls' := [.ref 0, .int x, .int (nI (k + 1))]) dX6_lookAtAll_92 rfl (inc_1 _) rfl rfl ?_
        refine x_goto (tgt := 78) dX6_lookAtAll_95 rfl ?_
        refine ih (k + 1) K (by omega) ?_ ?_ ?_ ?_ ?_ ?_ (fun q hq => ?_)
        · unfold Base; rw [← hK, xup_ne (by decide), xup_ne (by decide), xup_ne (by decide), xup_ne (by decide)]; exact hB
        · rw [← hK, xup_ne (by decide)]; exact e6
        · rw [← hK, xup_ne (by decide)]; exact e7
        · rw [← hK, xup_ne (by decide)]; exact e15
        · rw [← hK, xup_ne (by decide), xup_ne (by decide)]; exact z6
        · rw [← hK, xup_ne (by decide), xup_ne (by decide)]; exact z8
        · rw [← hK, xup_eq]
          by_cases e : q = k
          · rw [if_pos e]
          · rw [if_neg e]; exact z10 q (by omega)
  have lpB : ∀ (t k : Nat) (J : xMem), k + t = 8 → Base I n h a J → J 0 6 = nI 0 → J 0 7 = x → J 0 15 = (-6) → (∀ q, q < 64 → J 6 q = nI 0 ∧ J 7 q = nI 0) → (∀ q, q < k → J 8 q = nI 0 ∧ J 9 q = nI 0) → Wx LM mX6_lookAtAll d (xRv (allQ I n h a L x)) 50 [.ref 0, .int x, .int (nI k)] [] J := by
    intro t
    induction t with
    | zero =>
      intro k J hk hB e6 e7 e15 z6 z8
      refine x_iload_n dX6_lookAtAll_50 rfl ?_
      refine x_bipush dX6_lookAtAll_51 bp_8 ?_
      refine x_icmpn_ge (a := k) (b := 8) (by omega) (by omega) (tgt := 76) dX6_lookAtAll_53 rfl (fun c => ?_) (fun c => ?_)
      ·
        refine x_iconst dX6_lookAtAll_76 ic_0 ?_
        refine x_istore_n (ls' := [.ref 0, .int x, .int (nI 0)]) dX6_lookAtAll_77 rfl rfl ?_
        exact lpC 10 0 J rfl hB e6 e7 e15 z6 (fun q hq => z8 q (by omega)) (fun q hq => by omega)
      ·
        omega
    | succ t ih =>
      intro k J hk hB e6 e7 e15 z6 z8
      refine x_iload_n dX6_lookAtAll_50 rfl ?_
      refine x_bipush dX6_lookAtAll_51 bp_8 ?_
      refine x_icmpn_ge (a := k) (b := 8) (by omega) (by omega) (tgt := 76) dX6_lookAtAll_53 rfl (fun c => ?_) (fun c => ?_)
      ·
        omega
      ·
        refine x_aload_n dX6_lookAtAll_56 rfl ?_
        refine x_getR 5 11 rfl (by decide) fl_X6_32 dX6_lookAtAll_57 rfl rfl rfl ?_
        refine x_iload_n dX6_lookAtAll_60 rfl ?_
        refine x_iconst dX6_lookAtAll_61 ic_0 ?_
        refine x_iast (p := k) dX6_lookAtAll_62 rfl rfl rfl rfl (by omega) ?_
        generalize hK : xup J 8 k (nI 0) = K
        refine x_aload_n dX6_lookAtAll_63 rfl ?_
        refine x_getR 5 12 rfl (by decide) fl_X6_35 dX6_lookAtAll_64 rfl rfl rfl ?_
        refine x_iload_n dX6_lookAtAll_67 rfl ?_
        refine x_iconst dX6_lookAtAll_68 ic_0 ?_
        refine x_iast (p := k) dX6_lookAtAll_69 rfl rfl rfl rfl (by omega) ?_
        generalize hMM : xup K 9 k (nI 0) = M
        refine x_iinc (v := nI (k + 1)) (ls' := [.ref 0, .int x, .int (nI (k + 1))]) dX6_lookAtAll_70 rfl (inc_1 _) rfl rfl ?_
        refine x_goto (tgt := 50) dX6_lookAtAll_73 rfl ?_
        refine ih (k + 1) M (by omega) ?_ ?_ ?_ ?_ ?_ (fun q hq => ⟨?_, ?_⟩)
        · unfold Base; rw [← hMM, xup_ne (by decide), xup_ne (by decide), xup_ne (by decide), xup_ne (by decide), ← hK, xup_ne (by decide), xup_ne (by decide), xup_ne (by decide), xup_ne (by decide)]; exact hB
        · rw [← hMM, xup_ne (by decide), ← hK, xup_ne (by decide)]; exact e6
        · rw [← hMM, xup_ne (by decide), ← hK, xup_ne (by decide)]; exact e7
        · rw [← hMM, xup_ne (by decide), ← hK, xup_ne (by decide)]; exact e15
        · rw [← hMM, xup_ne (by decide), xup_ne (by decide), ← hK, xup_ne (by decide), xup_ne (by decide)]; exact z6
        · rw [← hMM, xup_ne (by decide), ← hK, xup_eq]
          by_cases e : q = k
          · rw [if_pos e]
          · rw [if_neg e]; exact (z8 q (by omega)).1
        · rw [← hMM, xup_eq]
          by_cases e : q = k
          · rw [if_pos e]
          · rw [if_neg e, ← hK, xup_ne (by decide)]; exact (z8 q (by omega)).2
  have lpA : ∀ (t k : Nat) (J : xMem), k + t = 64 → Base I n h a J → J 0 6 = nI 0 → J 0 7 = x → J 0 15 = (-6) → (∀ q, q < k → J 6 q = nI 0 ∧ J 7 q = nI 0) → Wx LM mX6_lookAtAll d (xRv (allQ I n h a L x)) 22 [.ref 0, .int x, .int (nI k)] [] J := by
    intro t
    induction t with
    | zero =>
      intro k J hk hB e6 e7 e15 z6
      refine x_iload_n dX6_lookAtAll_22 rfl ?_
      refine x_bipush dX6_lookAtAll_23 bp_64 ?_
      refine x_icmpn_ge (a := k) (b := 64) (by omega) (by omega) (tgt := 48) dX6_lookAtAll_25 rfl (fun c => ?_) (fun c => ?_)
      ·
        refine x_iconst dX6_lookAtAll_48 ic_0 ?_
        refine x_istore_n (ls' := [.ref 0, .int x, .int (nI 0)]) dX6_lookAtAll_49 rfl rfl ?_
        exact lpB 8 0 J rfl hB e6 e7 e15 (fun q hq => z6 q (by omega)) (fun q hq => by omega)
      ·
        omega
    | succ t ih =>
      intro k J hk hB e6 e7 e15 z6
      refine x_iload_n dX6_lookAtAll_22 rfl ?_
      refine x_bipush dX6_lookAtAll_23 bp_64 ?_
      refine x_icmpn_ge (a := k) (b := 64) (by omega) (by omega) (tgt := 48) dX6_lookAtAll_25 rfl (fun c => ?_) (fun c => ?_)
      ·
        omega
      ·
        refine x_aload_n dX6_lookAtAll_28 rfl ?_
        refine x_getR 5 9 rfl (by decide) fl_X6_26 dX6_lookAtAll_29 rfl rfl rfl ?_
        refine x_iload_n dX6_lookAtAll_32 rfl ?_
        refine x_iconst dX6_lookAtAll_33 ic_0 ?_
        refine x_iast (p := k) dX6_lookAtAll_34 rfl rfl rfl rfl (by omega) ?_
        generalize hK : xup J 6 k (nI 0) = K
        refine x_aload_n dX6_lookAtAll_35 rfl ?_
        refine x_getR 5 10 rfl (by decide) fl_X6_29 dX6_lookAtAll_36 rfl rfl rfl ?_
        refine x_iload_n dX6_lookAtAll_39 rfl ?_
        refine x_iconst dX6_lookAtAll_40 ic_0 ?_
        refine x_iast (p := k) dX6_lookAtAll_41 rfl rfl rfl rfl (by omega) ?_
        generalize hMM : xup K 7 k (nI 0) = M
        refine x_iinc (v := nI (k + 1)) (ls' := [.ref 0, .int x, .int (nI (k + 1))]) dX6_lookAtAll_42 rfl (inc_1 _) rfl rfl ?_
        refine x_goto (tgt := 22) dX6_lookAtAll_45 rfl ?_
        refine ih (k + 1) M (by omega) ?_ ?_ ?_ ?_ (fun q hq => ⟨?_, ?_⟩)
        · unfold Base; rw [← hMM, xup_ne (by decide), xup_ne (by decide), xup_ne (by decide), xup_ne (by decide), ← hK, xup_ne (by decide), xup_ne (by decide), xup_ne (by decide), xup_ne (by decide)]; exact hB
        · rw [← hMM, xup_ne (by decide), ← hK, xup_ne (by decide)]; exact e6
        · rw [← hMM, xup_ne (by decide), ← hK, xup_ne (by decide)]; exact e7
        · rw [← hMM, xup_ne (by decide), ← hK, xup_ne (by decide)]; exact e15
        · rw [← hMM, xup_ne (by decide), ← hK, xup_eq]
          by_cases e : q = k
          · rw [if_pos e]
          · rw [if_neg e]; exact (z6 q (by omega)).1
        · rw [← hMM, xup_eq]
          by_cases e : q = k
          · rw [if_pos e]
          · rw [if_neg e, ← hK, xup_ne (by decide)]; exact (z6 q (by omega)).2
  refine Cx.of [.ref 0, .int x, .null] (by decide) rfl rfl (Nat.le_of_ble_eq_true rfl) rfl ?_
  refine x_aload_n dX6_lookAtAll_0 rfl ?_
  refine x_callVv 5 ml_X6_104 in_X6_layFewest se_X6_layFewest ct_X6_layFewest rfl (c_layFewest (d := 3) (by decide) h1 hn hh ha hM hf) dX6_lookAtAll_1 hd rfl rfl rfl rfl (Nat.le_of_ble_eq_true rfl) (fun J0 h0 => ?_)
  obtain ⟨f4, f5, f0, ff⟩ := h0
  refine x_aload_n dX6_lookAtAll_4 rfl ?_
  refine x_iconst dX6_lookAtAll_5 ic_0 ?_
  refine x_put 5 6 rfl (by decide) fl_X6_107 rfl rfl rfl rfl dX6_lookAtAll_6 rfl rfl rfl ?_
  generalize hK : xup J0 0 6 (nI 0) = K
  refine x_aload_n dX6_lookAtAll_9 rfl ?_
  refine x_iload_n dX6_lookAtAll_10 rfl ?_
  refine x_put 5 7 rfl (by decide) fl_X6_113 rfl rfl rfl rfl dX6_lookAtAll_11 rfl rfl rfl ?_
  generalize hK2 : xup K 0 7 x = K2
  refine x_aload_n dX6_lookAtAll_14 rfl ?_
  refine x_bipush dX6_lookAtAll_15 bp_m6 ?_
  refine x_put 5 15 rfl (by decide) fl_X6_123 rfl rfl rfl rfl dX6_lookAtAll_17 rfl rfl rfl ?_
  generalize hK3 : xup K2 0 15 (-6) = K3
  refine x_iconst dX6_lookAtAll_20 ic_0 ?_
  refine x_istore_n (ls' := [.ref 0, .int x, .int (nI 0)]) dX6_lookAtAll_21 rfl rfl ?_
  refine lpA 64 0 K3 rfl ⟨?_, ?_, ?_, ?_, ?_⟩ ?_ ?_ ?_ (fun q hq => by omega)
  · rw [← hK3, xup_eq, if_neg (by decide), ← hK2, xup_eq, if_neg (by decide), ← hK, xup_eq, if_neg (by decide)]; exact f4
  · rw [← hK3, xup_eq, if_neg (by decide), ← hK2, xup_eq, if_neg (by decide), ← hK, xup_eq, if_neg (by decide)]; exact f5
  · rw [← hK3, xup_ne (by decide), ← hK2, xup_ne (by decide), ← hK, xup_ne (by decide)]; exact ff 1 (by decide) (by decide)
  · rw [← hK3, xup_ne (by decide), ← hK2, xup_ne (by decide), ← hK, xup_ne (by decide)]; exact ff 2 (by decide) (by decide)
  · rw [← hK3, xup_ne (by decide), ← hK2, xup_ne (by decide), ← hK, xup_ne (by decide)]; exact ff 3 (by decide) (by decide)
  · rw [← hK3, xup_eq, if_neg (by decide), ← hK2, xup_eq, if_neg (by decide), ← hK, xup_eq, if_pos rfl]
  · rw [← hK3, xup_eq, if_neg (by decide), ← hK2, xup_eq, if_pos rfl]
  · rw [← hK3, xup_eq, if_pos rfl]
end MG
