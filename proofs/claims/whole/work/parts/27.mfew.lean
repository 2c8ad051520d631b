/-! the reference: the fewest breaks; the best swap -/
def oI (o : Option Nat) : Int32 := match o with
  | none => (-6)
  | some m => nI m
/-- the least of f, over a list, beside what was found before -/
def fwm (f : List Nat → Nat) : Option Nat → List (List Nat) → Option Nat
  | o, [] => o
  | none, w :: l => fwm f (some (f w)) l
  | some m, w :: l => fwm f (some (if f w < m then f w else m)) l
theorem fwm_app (f : List Nat → Nat) : ∀ (l m : List (List Nat)) (o : Option Nat), fwm f o (l ++ m) = fwm f (fwm f o l) m
  | [], _, o => by cases o <;> rfl
  | w :: l, m, none => by simp only [List.cons_append, fwm]; exact fwm_app f l m _
  | w :: l, m, some x => by simp only [List.cons_append, fwm]; exact fwm_app f l m _
theorem fwm_le {f : List Nat → Nat} {B : Nat} (hf : ∀ w, f w ≤ B) : ∀ (l : List (List Nat)) (o : Option Nat) (x : Nat), (∀ y, o = some y → y ≤ B) → fwm f o l = some x → x ≤ B
  | [], o, x, h, e => by cases o <;> simp [fwm] at e; exact h x (by rw [e])
  | w :: l, none, x, h, e => fwm_le hf l _ x (fun y hy => by cases hy; exact hf w) e
  | w :: l, some m, x, h, e => fwm_le hf l _ x (fun y hy => by cases hy; split; exact hf w; exact h m rfl) e
/-- the orders that are allowed -/
def fea (n : Nat) (a : Nat → Nat) : List (List Nat) := (perms n).filter (fun w => al a 0 w)
def fewB (n : Nat) (h a : Nat → Nat) : Option Nat := fwm (brk h) none (fea n a)
def isB (n : Nat) (h a : Nat → Nat) (w : List Nat) : Bool := al a 0 w && decide (fewB n h a = some (brk h w))
/-- the best orders, in their order -/
def bests (n : Nat) (h a : Nat → Nat) : List (List Nat) := (perms n).filter (isB n h a)
theorem rs_len (h : Nat → Nat) (s : Nat) (w : List Nat) : rs h s false w - 1 ≤ w.length := by have := rs_le h s w false; omega
theorem brk_le (h : Nat → Nat) (w : List Nat) : brk h w ≤ 10 * w.length := by
  have key : ∀ k, rf (fun t s => t + (rs h s false w - 1)) 0 k ≤ k * w.length := by
    intro k
    induction k with
    | zero => exact Nat.zero_le _
    | succ k ih => rw [rf_s, Nat.succ_mul]; have := rs_len h k w; omega
  exact key 10
theorem seg_getD {w : List Nat} {n : Nat} (hw : w.length = n) : seg (fun p => w.getD p 0) 0 n = w := by
  subst hw
  apply List.ext_getElem?
  intro i
  by_cases hi : i < w.length
  · rw [seg_at hi, Nat.zero_add, List.getElem?_eq_getElem hi, List.getD_eq_getElem?_getD, List.getElem?_eq_getElem hi]; rfl
  · rw [List.getElem?_eq_none (by rw [seg_len]; omega), List.getElem?_eq_none (by omega)]
def OrdL (J : xMem) (n : Nat) (w : List Nat) : Prop := ∀ p, p < n → J 4 p = nI (w.getD p 0)
theorem getD_lt {w : List Nat} {B n : Nat} (h : ∀ g ∈ w, g < B) (hl : w.length = n) {p : Nat} (hp : p < n) : w.getD p 0 < B := by
  rw [List.getD_eq_getElem?_getD, List.getElem?_eq_getElem (by omega)]
  exact h _ (List.getElem_mem _)
theorem getD_ne {w : List Nat} {n : Nat} (hn : w.Nodup) (hl : w.length = n) {p q : Nat} (hp : p < n) (hq : q < n) (h : p ≠ q) : w.getD p 0 ≠ w.getD q 0 := by
  rw [List.getD_eq_getElem?_getD, List.getD_eq_getElem?_getD, List.getElem?_eq_getElem (by omega), List.getElem?_eq_getElem (by omega)]
  intro e
  exact h ((List.getElem_inj hn).mp (by simpa using e))
theorem oI_neg {o : Option Nat} (h : ∀ m, o = some m → m < 2 ^ 31) : (oI o < 0) ↔ o = none := by
  cases o with
  | none => exact ⟨fun _ => rfl, fun _ => by decide +kernel⟩
  | some m => exact ⟨fun e => absurd e (nI_pos (h m rfl)), fun e => by cases e⟩
section MG
variable {I : xMem} {n d : Nat} {h a L : Nat → Nat}
theorem g_goOn {u v : List (List Nat)} {w : List Nat} (hd : 1 ≤ d) (h1 : 1 ≤ n) (hn : n ≤ 8) (h0 : I 1 0 = nI n) (hP : perms n = u ++ w :: v) (hO : OrdL I n w) : Cx LM yX6_goOn mX6_goOn d [.ref 0] I (xRi (fun r J => (v = [] ∧ r = nI 0 ∧ J = I) ∨ ∃ y v', v = y :: v' ∧ r = nI 1 ∧ OrdL J n y ∧ ∀ c, c ≠ 4 → J c = I c)) := by
  have hm := perms_mem (n := n) (w := w) (by rw [hP]; simp)
  have hnx := perms_next (by omega) hP
  refine Cx.mono (c_goOn (o := fun p => w.getD p 0) hd h1 hn h0 (fun p hp => by have := getD_lt hm.2.2 hm.1 hp; omega) hO (fun p q hp hq e => getD_ne hm.2.1 hm.1 hp hq e)) ?_
  rintro x J ⟨r, rfl, hq⟩
  refine ⟨r, rfl, ?_⟩
  rcases hq with ⟨e1, e2, e3⟩ | ⟨o', e1, e2, e3, e4⟩
  · rw [seg_getD hm.1, hnx] at e1
    exact Or.inl ⟨List.head?_eq_none_iff.mp e1, e2, e3⟩
  · rw [seg_getD hm.1, hnx] at e1
    cases v with
    | nil => simp at e1
    | cons y v' =>
      simp at e1
      have hy := perms_mem (n := n) (w := y) (by rw [hP]; simp)
      refine Or.inr ⟨y, v', rfl, e2, fun p hp => ?_, e4⟩
      rw [e3 p hp, e1, List.getD_eq_getElem?_getD, seg_at hp, Nat.zero_add]; rfl
theorem g_isAllowed {w : List Nat} (ha : ∀ g, a g < 256) (hw : w ∈ perms n) (hO : OrdL I n w) (hM : MSt I n h a L) (hn : n ≤ 8) : Cx LM yX6_isAllowed mX6_isAllowed d [.ref 0] I (xRi (fun r J => r = nI (al a 0 w).toNat ∧ J = I)) := by
  have hm := perms_mem hw
  have := c_isAllowed (d := d) (o := fun p => w.getD p 0) ha (fun p hp => by have := getD_lt hm.2.2 hm.1 hp; omega) hO hM hn
  rw [seg_getD hm.1] at this
  exact this
theorem g_breaksNow {w : List Nat} (hd : 2 ≤ d) (hh : ∀ g, h g < 1024) (hw : w ∈ perms n) (hO : OrdL I n w) (hM : MSt I n h a L) (hn : n ≤ 8) : Cx LM yX6_breaksNow mX6_breaksNow d [.ref 0] I (xRi (fun r J => r = nI (brk h w) ∧ J = I)) := by
  have hm := perms_mem hw
  have := c_breaksNow (d := d) (o := fun p => w.getD p 0) hd hh (fun p hp => by have := getD_lt hm.2.2 hm.1 hp; omega) hO hM hn
  rw [seg_getD hm.1] at this
  exact this
theorem g_begin : Cx LM yX6_begin mX6_begin d [.ref 0] I (xRv (fun J => OrdL J n (List.range n) ∨ 8 < n)) := by
  refine Cx.mono (c_begin (I := I) (d := d)) ?_
  rintro v J ⟨h1, h2⟩
  refine ⟨h1, ?_⟩
  rcases Nat.lt_or_ge 8 n with e | e
  · exact Or.inr e
  · refine Or.inl (fun p hp => ?_)
    rw [h2.1 p (by omega), List.getD_eq_getElem?_getD, List.getElem?_range hp]; rfl
theorem perms_first (hn : n < 9) : ∃ v, perms n = List.range n :: v := by
  have := (perms_ch hn).2.1
  cases e : perms n with
  | nil => rw [e] at this; simp at this
  | cons x v => rw [e] at this; simp at this; exact ⟨v, by rw [this]⟩
def fewQ (I : xMem) (n : Nat) (h a : Nat → Nat) (J : xMem) : Prop := J 0 4 = nI 1 ∧ J 0 5 = oI (fewB n h a) ∧ (∀ j, j ≠ 4 → j ≠ 5 → J 0 j = I 0 j) ∧ ∀ c, c ≠ 0 → c ≠ 4 → J c = I c
theorem c_layFewest (hd : 3 ≤ d) (h1 : 1 ≤ n) (hn : n ≤ 8) (hh : ∀ g, h g < 1024) (ha : ∀ g, a g < 256) (hM : MSt I n h a L) (hf : I 0 4 = nI 0 ∨ (I 0 4 = nI 1 ∧ I 0 5 = oI (fewB n h a))) : Cx LM yX6_layFewest mX6_layFewest d [.ref 0] I (xRv (fewQ I n h a)) := by
  have key : ∀ l x, (∀ w ∈ l, w.length = n) → fwm (brk h) none l = some x → x < 2 ^ 31 := by
    intro l x hl he
    have gen : ∀ (l : List (List Nat)) (o : Option Nat), (∀ w ∈ l, w.length = n) → (∀ y, o = some y → y ≤ 80) → fwm (brk h) o l = some x → x ≤ 80 := by
      intro l
      induction l with
      | nil => intro o _ h2 e; cases o <;> simp [fwm] at e; exact h2 x (by rw [e])
      | cons w l ih =>
        intro o h1 h2 e
        have hb := brk_le h w
        rw [h1 w List.mem_cons_self] at hb
        cases o with
        | none => exact ih _ (fun v hv => h1 v (List.mem_cons_of_mem _ hv)) (fun y hy => by cases hy; omega) e
        | some m => exact ih _ (fun v hv => h1 v (List.mem_cons_of_mem _ hv)) (fun y hy => by cases hy; split; omega; exact h2 m rfl) e
    have := gen l none hl (fun y hy => by cases hy) he
    omega
  have body : ∀ (u v : List (List Nat)) (w : List Nat) (v2 : Value) (J : xMem), perms n = u ++ w :: v → OrdL J n w → J 0 4 = nI 1 → J 0 5 = oI (fwm (brk h) none (u.filter (fun w => al a 0 w))) → (∀ j, j ≠ 4 → j ≠ 5 → J 0 j = I 0 j) → (∀ c, c ≠ 0 → c ≠ 4 → J c = I c) →
      (∀ (v2 : Value) (J : xMem), OrdL J n w → J 0 4 = nI 1 → J 0 5 = oI (fwm (brk h) none ((u ++ [w]).filter (fun w => al a 0 w))) → (∀ j, j ≠ 4 → j ≠ 5 → J 0 j = I 0 j) → (∀ c, c ≠ 0 → c ≠ 4 → J c = I c) → Wx LM mX6_layFewest d (xRv (fewQ I n h a)) 68 [.ref 0, .int (nI 1), v2] [] J) →
      Wx LM mX6_layFewest d (xRv (fewQ I n h a)) 25 [.ref 0, .int (nI 1), v2] [] J := by
    intro u v w v2 J hP hO j4 j5 jo jf kk
    have hw : w ∈ perms n := by rw [hP]; simp
    have hMJ : MSt J n h a L := hM.kept (jf 1 (by decide) (by decide))
    have hb := brk_le h w
    rw [(perms_mem hw).1] at hb
    have hk := fun x => key (u.filter (fun w => al a 0 w)) x (fun z hz => (perms_mem (n := n) (by rw [hP]; exact List.mem_append_left _ (List.mem_filter.mp hz).1)).1)
    rw [List.filter_append, fwm_app] at kk
    refine x_iload_n dX6_layFewest_25 rfl ?_
    refine x_ifn_eq (a := 1) (by decide) (tgt := 76) dX6_layFewest_26 rfl (fun c => ?_) (fun c => ?_)
    ·
      exact absurd c (by decide)
    ·
      refine x_aload_n dX6_layFewest_29 rfl ?_
      refine x_callVi 5 ml_X6_94 in_X6_isAllowed se_X6_isAllowed ct_X6_isAllowed rfl (g_isAllowed (d := 0) ha hw hO hMJ hn) dX6_layFewest_30 (by omega) rfl rfl rfl rfl (Nat.le_of_ble_eq_true rfl) (fun r0 J0 h0 => ?_)
      obtain ⟨rfl, hJ0⟩ := h0
      obtain rfl := hJ0.symm
      refine x_ifb_eq (b := al a 0 w) (tgt := 68) dX6_layFewest_33 rfl (fun c2 => ?_) (fun c2 => ?_)
      ·
        exact kk _ J hO j4 (by rw [j5]; simp [c2, fwm]) jo jf
      ·
        have e1 : [w].filter (fun w => al a 0 w) = [w] := by simp [c2]
        rw [e1] at kk
        refine x_aload_n dX6_layFewest_36 rfl ?_
        refine x_callVi 5 ml_X6_98 in_X6_breaksNow se_X6_breaksNow ct_X6_breaksNow rfl (g_breaksNow (d := 2) (by decide) hh hw hO hMJ hn) dX6_layFewest_37 (by omega) rfl rfl rfl rfl (Nat.le_of_ble_eq_true rfl) (fun r0 J0 h0 => ?_)
        obtain ⟨rfl, hJ0⟩ := h0
        obtain rfl := hJ0.symm
        refine x_istore_n (ls' := [.ref 0, .int (nI 1), .int (nI (brk h w))]) dX6_layFewest_40 rfl rfl ?_
        refine x_aload_n dX6_layFewest_41 rfl ?_
        refine x_aload_n dX6_layFewest_42 rfl ?_
        refine x_getI 5 5 (v := oI (fwm (brk h) none (u.filter (fun w => al a 0 w)))) rfl (by decide) fl_X6_87 dX6_layFewest_43 rfl rfl rfl j5 ?_
        cases hF : fwm (brk h) none (u.filter (fun w => al a 0 w)) with
        | none =>
          rw [hF] at kk j5
          refine x_if_lt (tgt := 57) dX6_layFewest_46 rfl (fun c3 => ?_) (fun c3 => ?_)
          ·
            refine x_iload_n dX6_layFewest_57 rfl ?_
            refine x_goto (tgt := 65) dX6_layFewest_58 rfl ?_
            refine x_put 5 5 rfl (by decide) fl_X6_87 rfl rfl rfl rfl dX6_layFewest_65 rfl rfl rfl ?_
            generalize hK : xup J 0 5 (nI (brk h w)) = K
            refine kk _ K (fun p hp => by rw [← hK, xup_ne (by decide)]; exact hO p hp) (by rw [← hK, xup_eq, if_neg (by decide)]; exact j4) (by rw [← hK, xup_eq, if_pos rfl]; rfl) (fun j e4 e5 => by rw [← hK, xup_eq, if_neg e5]; exact jo j e4 e5) (fun c e0 e4 => by rw [← hK, xup_ne e0]; exact jf c e0 e4)
          ·
            exact absurd (by decide +kernel) c3
        | some m =>
          rw [hF] at kk j5
          have hm := hk m hF
          refine x_if_lt (tgt := 57) dX6_layFewest_46 rfl (fun c3 => ?_) (fun c3 => ?_)
          ·
            exact absurd c3 (nI_pos hm)
          ·
            refine x_iload_n dX6_layFewest_49 rfl ?_
            refine x_aload_n dX6_layFewest_50 rfl ?_
            refine x_getI 5 5 (v := nI m) rfl (by decide) fl_X6_87 dX6_layFewest_51 rfl rfl rfl j5 ?_
            refine x_icmpn_ge (a := brk h w) (b := m) (by omega) (by omega) (tgt := 61) dX6_layFewest_54 rfl (fun c4 => ?_) (fun c4 => ?_)
            ·
              refine x_aload_n dX6_layFewest_61 rfl ?_
              refine x_getI 5 5 (v := nI m) rfl (by decide) fl_X6_87 dX6_layFewest_62 rfl rfl rfl j5 ?_
              refine x_put 5 5 rfl (by decide) fl_X6_87 rfl rfl rfl rfl dX6_layFewest_65 rfl rfl rfl ?_
              generalize hK : xup J 0 5 (nI m) = K
              refine kk _ K (fun p hp => by rw [← hK, xup_ne (by decide)]; exact hO p hp) (by rw [← hK, xup_eq, if_neg (by decide)]; exact j4) (by rw [← hK, xup_eq, if_pos rfl]; simp only [fwm]; rw [if_neg (by omega)]; rfl) (fun j e4 e5 => by rw [← hK, xup_eq, if_neg e5]; exact jo j e4 e5) (fun c e0 e4 => by rw [← hK, xup_ne e0]; exact jf c e0 e4)
            ·
              refine x_iload_n dX6_layFewest_57 rfl ?_
              refine x_goto (tgt := 65) dX6_layFewest_58 rfl ?_
              refine x_put 5 5 rfl (by decide) fl_X6_87 rfl rfl rfl rfl dX6_layFewest_65 rfl rfl rfl ?_
              generalize hK : xup J 0 5 (nI (brk h w)) = K
              refine kk _ K (fun p hp => by rw [← hK, xup_ne (by decide)]; exact hO p hp) (by rw [← hK, xup_eq, if_neg (by decide)]; exact j4) (by rw [← hK, xup_eq, if_pos rfl]; simp only [fwm]; rw [if_pos c4]; rfl) (fun j e4 e5 => by rw [← hK, xup_eq, if_neg e5]; exact jo j e4 e5) (fun c e0 e4 => by rw [← hK, xup_ne e0]; exact jf c e0 e4)
  have lp : ∀ (v u : List (List Nat)) (w : List Nat) (v2 : Value) (J : xMem), perms n = u ++ w :: v → OrdL J n w → J 0 4 = nI 1 → J 0 5 = oI (fwm (brk h) none (u.filter (fun w => al a 0 w))) → (∀ j, j ≠ 4 → j ≠ 5 → J 0 j = I 0 j) → (∀ c, c ≠ 0 → c ≠ 4 → J c = I c) → Wx LM mX6_layFewest d (xRv (fewQ I n h a)) 25 [.ref 0, .int (nI 1), v2] [] J := by
    intro v
    induction v with
    | nil =>
      intro u w v2 J hP hO j4 j5 jo jf
      refine body u [] w v2 J hP hO j4 j5 jo jf ?_
      clear hO j4 j5 jo jf
      intro v2 J hO j4 j5 jo jf
      have hMJ : MSt J n h a L := hM.kept (jf 1 (by decide) (by decide))
      refine x_aload_n dX6_layFewest_68 rfl ?_
      refine x_callVi 5 ml_X6_101 in_X6_goOn se_X6_goOn ct_X6_goOn rfl (g_goOn (d := 1) (by decide) h1 hn hMJ.1 hP hO) dX6_layFewest_69 (by omega) rfl rfl rfl rfl (Nat.le_of_ble_eq_true rfl) (fun r0 J0 h0 => ?_)
      obtain ⟨_, rfl, rfl⟩ | ⟨y, v', hv, _⟩ := h0
      ·
        refine x_istore_n (ls' := [.ref 0, .int (nI 0), v2]) dX6_layFewest_72 rfl rfl ?_
        refine x_goto (tgt := 25) dX6_layFewest_73 rfl ?_
        refine x_iload_n dX6_layFewest_25 rfl ?_
        refine x_ifn_eq (a := 0) (by decide) (tgt := 76) dX6_layFewest_26 rfl (fun c3 => ?_) (fun c3 => ?_)
        ·
          refine x_vretv dX6_layFewest_76 rfl ⟨j4, by rw [j5, fewB, fea, hP], jo, jf⟩
        ·
          exact absurd rfl c3
      · cases hv
    | cons y v ih =>
      intro u w v2 J hP hO j4 j5 jo jf
      refine body u (y :: v) w v2 J hP hO j4 j5 jo jf ?_
      clear hO j4 j5 jo jf
      intro v2 J hO j4 j5 jo jf
      have hMJ : MSt J n h a L := hM.kept (jf 1 (by decide) (by decide))
      refine x_aload_n dX6_layFewest_68 rfl ?_
      refine x_callVi 5 ml_X6_101 in_X6_goOn se_X6_goOn ct_X6_goOn rfl (g_goOn (d := 1) (by decide) h1 hn hMJ.1 hP hO) dX6_layFewest_69 (by omega) rfl rfl rfl rfl (Nat.le_of_ble_eq_true rfl) (fun r0 J0 h0 => ?_)
      obtain ⟨hv, _⟩ | ⟨y', v', hv, rfl, hO', hF'⟩ := h0
      · cases hv
      ·
        refine x_istore_n (ls' := [.ref 0, .int (nI 1), v2]) dX6_layFewest_72 rfl rfl ?_
        refine x_goto (tgt := 25) dX6_layFewest_73 rfl ?_
        obtain ⟨rfl, rfl⟩ := List.cons.inj hv
        exact ih (u ++ [w]) y v2 J0 (by rw [hP]; simp) hO' (by rw [hF' 0 (by decide)]; exact j4) (by rw [hF' 0 (by decide)]; exact j5) (fun j e4 e5 => by rw [hF' 0 (by decide)]; exact jo j e4 e5) (fun c e0 e4 => by rw [hF' c e4]; exact jf c e0 e4)
  refine Cx.of [.ref 0, .null, .null] (by decide) rfl rfl (Nat.le_of_ble_eq_true rfl) rfl ?_
  rcases hf with hf | ⟨hf, hf5⟩
  ·
    refine x_aload_n dX6_layFewest_0 rfl ?_
    refine x_getI 5 4 (v := nI 0) rfl (by decide) fl_X6_54 dX6_layFewest_1 rfl rfl rfl hf ?_
    refine x_ifn_eq (a := 0) (by decide) (tgt := 8) dX6_layFewest_4 rfl (fun c => ?_) (fun c => ?_)
    ·
      refine x_aload_n dX6_layFewest_8 rfl ?_
      refine x_iconst dX6_layFewest_9 ic_1 ?_
      refine x_put 5 4 rfl (by decide) fl_X6_54 rfl rfl (narZ (Or.inr rfl)) (fitZ (Or.inr rfl)) dX6_layFewest_10 rfl rfl rfl ?_
      generalize hK : xup I 0 4 (nI 1) = K
      refine x_aload_n dX6_layFewest_13 rfl ?_
      refine x_bipush dX6_layFewest_14 bp_m6 ?_
      refine x_put 5 5 rfl (by decide) fl_X6_87 rfl rfl rfl rfl dX6_layFewest_16 rfl rfl rfl ?_
      generalize hK2 : xup K 0 5 (-6) = K2
      refine x_aload_n dX6_layFewest_19 rfl ?_
      refine x_callVv 5 ml_X6_91 in_X6_begin se_X6_begin ct_X6_begin rfl (c_begin (d := 0)) dX6_layFewest_20 (by omega) rfl rfl rfl rfl (Nat.le_of_ble_eq_true rfl) (fun J0 h0 => ?_)
      obtain ⟨hJ1, hJ2⟩ := h0
      refine x_iconst dX6_layFewest_23 ic_1 ?_
      refine x_istore_n (ls' := [.ref 0, .int (nI 1), .null]) dX6_layFewest_24 rfl rfl ?_
      obtain ⟨v, hv⟩ := perms_first (n := n) (by omega)
      refine lp v [] (List.range n) _ J0 (by rw [hv]; rfl) (fun p hp => ?_) ?_ ?_ (fun j e4 e5 => ?_) (fun c e0 e4 => ?_)
      · rw [hJ1 p (by omega), List.getD_eq_getElem?_getD, List.getElem?_range hp]; rfl
      · rw [hJ2 0 (by decide), ← hK2, xup_eq, if_neg (by decide), ← hK, xup_eq, if_pos rfl]
      · rw [hJ2 0 (by decide), ← hK2, xup_eq, if_pos rfl]; rfl
      · rw [hJ2 0 (by decide), ← hK2, xup_eq, if_neg e5, ← hK, xup_eq, if_neg e4]
      · rw [hJ2 c e4, ← hK2, xup_ne e0, ← hK, xup_ne e0]
    ·
      exact absurd rfl c
  ·
    refine x_aload_n dX6_layFewest_0 rfl ?_
    refine x_getI 5 4 (v := nI 1) rfl (by decide) fl_X6_54 dX6_layFewest_1 rfl rfl rfl hf ?_
    refine x_ifn_eq (a := 1) (by decide) (tgt := 8) dX6_layFewest_4 rfl (fun c => ?_) (fun c => ?_)
    ·
      exact absurd c (by decide)
    ·
      refine x_vretv dX6_layFewest_7 rfl ⟨hf, hf5, fun _ _ _ => rfl, fun _ _ _ => rfl⟩
theorem c_isBest {w : List Nat} (hd : 3 ≤ d) (hn : n ≤ 8) (hh : ∀ g, h g < 1024) (ha : ∀ g, a g < 256) (hlt : ∀ m, fewB n h a = some m → m < 2 ^ 31) (hM : MSt I n h a L) (hf : I 0 5 = oI (fewB n h a)) (hA : Cx LM yX6_isAllowed mX6_isAllowed 2 [.ref 0] I (xRi (fun r J => r = nI (al a 0 w).toNat ∧ J = I))) (hB : Cx LM yX6_breaksNow mX6_breaksNow 2 [.ref 0] I (xRi (fun r J => r = nI (brk h w) ∧ J = I))) (hw : w.length ≤ 8) : Cx LM yX6_isBest mX6_isBest d [.ref 0] I (xRi (fun r J => r = nI (isB n h a w).toNat ∧ J = I)) := by
  have hb := brk_le h w
  refine Cx.of [.ref 0] (by decide) rfl rfl (Nat.le_of_ble_eq_true rfl) rfl ?_
  refine x_aload_n dX6_isBest_0 rfl ?_
  refine x_getI 5 5 (v := oI (fewB n h a)) rfl (by decide) fl_X6_87 dX6_isBest_1 rfl rfl rfl hf ?_
  cases hF : fewB n h a with
  | none =>
    refine x_if_lt (tgt := 29) dX6_isBest_4 rfl (fun c => ?_) (fun c => ?_)
    ·
      refine x_iconst dX6_isBest_29 ic_0 ?_
      refine x_zretb (b := false) dX6_isBest_30 rfl ⟨by simp [isB, hF], rfl⟩
    ·
      exact absurd (by decide +kernel) c
  | some m =>
    rw [hF] at hf
    have hm := hlt m hF
    refine x_if_lt (tgt := 29) dX6_isBest_4 rfl (fun c => ?_) (fun c => ?_)
    ·
      exact absurd c (nI_pos hm)
    ·
      refine x_aload_n dX6_isBest_7 rfl ?_
      refine x_callVi 5 ml_X6_94 in_X6_isAllowed se_X6_isAllowed ct_X6_isAllowed rfl hA dX6_isBest_8 hd rfl rfl rfl rfl (Nat.le_of_ble_eq_true rfl) (fun r0 J0 h0 => ?_)
      obtain ⟨rfl, hJ0⟩ := h0
      obtain rfl := hJ0.symm
      refine x_ifb_eq (b := al a 0 w) (tgt := 29) dX6_isBest_11 rfl (fun c2 => ?_) (fun c2 => ?_)
      ·
        refine x_iconst dX6_isBest_29 ic_0 ?_
        refine x_zretb (b := false) dX6_isBest_30 rfl ⟨by simp [isB, c2], rfl⟩
      ·
        refine x_aload_n dX6_isBest_14 rfl ?_
        refine x_callVi 5 ml_X6_98 in_X6_breaksNow se_X6_breaksNow ct_X6_breaksNow rfl hB dX6_isBest_15 hd rfl rfl rfl rfl (Nat.le_of_ble_eq_true rfl) (fun r0 J0 h0 => ?_)
        obtain ⟨rfl, hJ0⟩ := h0
        obtain rfl := hJ0.symm
        refine x_aload_n dX6_isBest_18 rfl ?_
        refine x_getI 5 5 (v := nI m) rfl (by decide) fl_X6_87 dX6_isBest_19 rfl rfl rfl hf ?_
        refine x_icmpn_ne (a := brk h w) (b := m) (by omega) (by omega) (tgt := 29) dX6_isBest_22 rfl (fun c3 => ?_) (fun c3 => ?_)
        ·
          refine x_iconst dX6_isBest_29 ic_0 ?_
          refine x_zretb (b := false) dX6_isBest_30 rfl ⟨by have e : isB n h a w = false := (by simp [isB, hF, c2]; omega); rw [e], rfl⟩
        ·
          refine x_iconst dX6_isBest_25 ic_1 ?_
          refine x_goto (tgt := 30) dX6_isBest_26 rfl ?_
          refine x_zretb (b := true) dX6_isBest_30 rfl ⟨by simp [isB, hF, c2, c3], rfl⟩
end MG
