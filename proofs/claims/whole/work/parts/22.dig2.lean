/-! Dig: its changes -/
theorem xup_ne {I : xMem} {k j c : Nat} {x : Int32} (h : c ≠ k) : xup I k j x c = I c := by simp [xup, va_up, h]
theorem xup_eq {I : xMem} {k j p : Nat} {x : Int32} : xup I k j x k p = if p = j then x else I k p := by simp [xup, va_up, upd]
def szH (m : Nat) (h : Nat → Nat) : Nat → Nat := fun g => if g < m then h g else 0
def szA (m : Nat) (a : Nat → Nat) : Nat → Nat := fun g => if g < m then a g &&& (1 <<< m - 1) else 0
/-- as far as g the new, from there on the old -/
def mixF (g : Nat) (f f' : Nat → Nat) : Nat → Nat := fun j => if j < g then f j else f' j
theorem mix_s {g j : Nat} {f f' : Nat → Nat} : mixF (g + 1) f f' j = if j = g then f g else mixF g f f' j := by
  unfold mixF
  by_cases h : j = g
  · subst h; rw [if_pos (Nat.lt_succ_self _), if_pos rfl]
  · rw [if_neg h]
    by_cases h2 : j < g
    · rw [if_pos h2, if_pos (by omega)]
    · rw [if_neg h2, if_neg (by omega)]
section DG
variable {I : xMem} {n d : Nat} {h a L : Nat → Nat}
theorem mix_row {J J' : xMem} {c g : Nat} {f f' : Nat → Nat} {x : Int32} (h1 : ∀ j, j < 8 → J c j = nI (mixF g f f' j)) (hx : x = nI (f g)) (h2 : ∀ j, J' c j = if j = g then x else J c j) : ∀ j, j < 8 → J' c j = nI (mixF (g + 1) f f' j) := by
  intro j hj
  rw [h2, mix_s]
  by_cases e : j = g
  · rw [if_pos e, if_pos e, hx]
  · rw [if_neg e, if_neg e]; exact h1 j hj
theorem c_resize {m : Nat} (hm : m ≤ 8) (hD : DigAt I 1 n h a L) : Cx LX yX2_resize mX2_resize d [.ref 1, .int (nI m)] I (xRv (fun J => DigAt J 1 m (szH m h) (szA m a) id ∧ ∀ c, c ≠ 1 → c ≠ 2 → c ≠ 3 → c ≠ 4 → J c = I c)) := by
  have lp : ∀ (k g : Nat) (v3 : Value) (J : xMem), g + k = 8 → J 1 0 = nI m → (∀ j, j < 8 → J 2 j = nI (mixF g (szH m h) h j)) → (∀ j, j < 8 → J 3 j = nI (mixF g (szA m a) a j)) → (∀ j, j < 8 → J 4 j = nI (mixF g id L j)) → (∀ c, c ≠ 1 → c ≠ 2 → c ≠ 3 → c ≠ 4 → J c = I c) → Wx LX mX2_resize d (xRv (fun J => DigAt J 1 m (szH m h) (szA m a) id ∧ ∀ c, c ≠ 1 → c ≠ 2 → c ≠ 3 → c ≠ 4 → J c = I c)) 7 [.ref 1, .int (nI m), .int (nI g), v3] [] J := by
    intro k
    induction k with
    | zero =>
      intro g v3 J hg j1 j2 j3 j4 jf
      refine x_iload_n dX2_resize_7 rfl ?_
      refine x_bipush dX2_resize_8 bp_8 ?_
      refine x_icmpn_ge (a := g) (b := 8) (by omega) (by omega) (tgt := 83) dX2_resize_10 rfl (fun c => ?_) (fun c => ?_)
      ·
        have e : g = 8 := by omega
        subst e
        have mx : ∀ (f f' : Nat → Nat) (j : Nat), j < 8 → mixF 8 f f' j = f j := fun f f' j hj => if_pos hj
        refine x_vretv dX2_resize_83 rfl ⟨⟨j1, fun j hj => by rw [show (1 + 1) = 2 from rfl, j2 j hj, mx _ _ j hj], fun j hj => by rw [show (1 + 2) = 3 from rfl, j3 j hj, mx _ _ j hj], fun j hj => by rw [show (1 + 3) = 4 from rfl, j4 j hj, mx _ _ j hj]⟩, jf⟩
      ·
        omega
    | succ k ih =>
      intro g v3 J hg j1 j2 j3 j4 jf
      have e2 : J 2 g = nI (h g) := by rw [j2 g (by omega), mixF, if_neg (by omega)]
      have e3 : J 3 g = nI (a g) := by rw [j3 g (by omega), mixF, if_neg (by omega)]
      refine x_iload_n dX2_resize_7 rfl ?_
      refine x_bipush dX2_resize_8 bp_8 ?_
      refine x_icmpn_ge (a := g) (b := 8) (by omega) (by omega) (tgt := 83) dX2_resize_10 rfl (fun c => ?_) (fun c => ?_)
      ·
        omega
      ·
        refine x_iload_n dX2_resize_13 rfl ?_
        refine x_iload_n dX2_resize_14 rfl ?_
        refine x_icmpn_ge (a := g) (b := m) (by omega) (by omega) (tgt := 22) dX2_resize_15 rfl (fun c2 => ?_) (fun c2 => ?_)
        ·
          refine x_iconst dX2_resize_22 ic_0 ?_
          refine x_istore_n (ls' := [.ref 1, .int (nI m), .int (nI g), .int (nI 0)]) dX2_resize_23 rfl rfl ?_
          refine x_aload_n dX2_resize_24 rfl ?_
          refine x_getR 1 1 rfl (by decide) fl_X2_15 dX2_resize_25 rfl rfl rfl ?_
          refine x_iload_n dX2_resize_28 rfl ?_
          refine x_iload_n dX2_resize_29 rfl ?_
          refine x_ifn_eq (a := 0) (by decide) (tgt := 42) dX2_resize_30 rfl (fun c3 => ?_) (fun c3 => ?_)
          ·
            refine x_iconst dX2_resize_42 ic_0 ?_
            refine x_iast (p := g) dX2_resize_43 rfl rfl rfl rfl (by omega) ?_
            generalize hJ1 : xup J 2 g (nI 0) = J1
            refine x_aload_n dX2_resize_44 rfl ?_
            refine x_getR 1 2 rfl (by decide) fl_X2_19 dX2_resize_45 rfl rfl rfl ?_
            refine x_iload_n dX2_resize_48 rfl ?_
            refine x_iload_n dX2_resize_49 rfl ?_
            refine x_ifn_eq (a := 0) (by decide) (tgt := 68) dX2_resize_50 rfl (fun c4 => ?_) (fun c4 => ?_)
            ·
              refine x_iconst dX2_resize_68 ic_0 ?_
              refine x_iast (p := g) dX2_resize_69 rfl rfl rfl rfl (by omega) ?_
              generalize hJ2 : xup J1 3 g (nI 0) = J2
              refine x_aload_n dX2_resize_70 rfl ?_
              refine x_getR 1 3 rfl (by decide) fl_X2_22 dX2_resize_71 rfl rfl rfl ?_
              refine x_iload_n dX2_resize_74 rfl ?_
              refine x_iload_n dX2_resize_75 rfl ?_
              refine x_iast (p := g) dX2_resize_76 rfl rfl rfl rfl (by omega) ?_
              generalize hJ3 : xup J2 4 g (nI g) = J3
              refine x_iinc (v := nI (g + 1)) (ls' := [.ref 1, .int (nI m), .int (nI (g + 1)), .int (nI 0)]) dX2_resize_77 rfl (inc_1 _) rfl rfl ?_
              refine x_goto (tgt := 7) dX2_resize_80 rfl ?_
              refine ih (g + 1) _ J3 (by omega) ?_ ?_ ?_ ?_ ?_
              · rw [← hJ3, xup_ne (by decide), ← hJ2, xup_ne (by decide), ← hJ1, xup_ne (by decide)]; exact j1
              · refine mix_row j2 (x := nI 0) (by simp [szH, Nat.not_lt.mpr c2]) (fun j => ?_)
                rw [← hJ3, xup_ne (by decide), ← hJ2, xup_ne (by decide), ← hJ1, xup_eq]
              · refine mix_row j3 (x := nI 0) (by simp [szA, Nat.not_lt.mpr c2]) (fun j => ?_)
                rw [← hJ3, xup_ne (by decide), ← hJ2, xup_eq, ← hJ1, xup_ne (by decide)]
              · refine mix_row j4 (x := nI g) rfl (fun j => ?_)
                rw [← hJ3, xup_eq, ← hJ2, xup_ne (by decide), ← hJ1, xup_ne (by decide)]
              · intro c h1 h2 h3 h4
                rw [← hJ3, xup_ne h4, ← hJ2, xup_ne h3, ← hJ1, xup_ne h2]; exact jf c h1 h2 h3 h4
            ·
              exact absurd rfl c4
          ·
            exact absurd rfl c3
        ·
          refine x_iconst dX2_resize_18 ic_1 ?_
          refine x_goto (tgt := 23) dX2_resize_19 rfl ?_
          refine x_istore_n (ls' := [.ref 1, .int (nI m), .int (nI g), .int (nI 1)]) dX2_resize_23 rfl rfl ?_
          refine x_aload_n dX2_resize_24 rfl ?_
          refine x_getR 1 1 rfl (by decide) fl_X2_15 dX2_resize_25 rfl rfl rfl ?_
          refine x_iload_n dX2_resize_28 rfl ?_
          refine x_iload_n dX2_resize_29 rfl ?_
          refine x_ifn_eq (a := 1) (by decide) (tgt := 42) dX2_resize_30 rfl (fun c3 => ?_) (fun c3 => ?_)
          ·
            exact absurd c3 (by decide)
          ·
            refine x_aload_n dX2_resize_33 rfl ?_
            refine x_getR 1 1 rfl (by decide) fl_X2_15 dX2_resize_34 rfl rfl rfl ?_
            refine x_iload_n dX2_resize_37 rfl ?_
            refine x_iald (p := g) (v := nI (h g)) dX2_resize_38 rfl rfl rfl rfl (by omega) e2 ?_
            refine x_goto (tgt := 43) dX2_resize_39 rfl ?_
            refine x_iast (p := g) dX2_resize_43 rfl rfl rfl rfl (by omega) ?_
            generalize hJ1 : xup J 2 g (nI (h g)) = J1
            refine x_aload_n dX2_resize_44 rfl ?_
            refine x_getR 1 2 rfl (by decide) fl_X2_19 dX2_resize_45 rfl rfl rfl ?_
            refine x_iload_n dX2_resize_48 rfl ?_
            refine x_iload_n dX2_resize_49 rfl ?_
            refine x_ifn_eq (a := 1) (by decide) (tgt := 68) dX2_resize_50 rfl (fun c4 => ?_) (fun c4 => ?_)
            ·
              exact absurd c4 (by decide)
            ·
              refine x_aload_n dX2_resize_53 rfl ?_
              refine x_getR 1 2 rfl (by decide) fl_X2_19 dX2_resize_54 rfl rfl rfl ?_
              refine x_iload_n dX2_resize_57 rfl ?_
              refine x_iald (p := g) (v := nI (a g)) dX2_resize_58 rfl rfl rfl rfl (by omega) (by rw [← hJ1, xup_ne (by decide)]; exact e3) ?_
              refine x_iconst dX2_resize_59 ic_1 ?_
              refine x_iload_n dX2_resize_60 rfl ?_
              refine x_ishl (v := nI (1 <<< m)) dX2_resize_61 (nI_shl _ (by omega)) ?_
              refine x_iconst dX2_resize_62 ic_1 ?_
              refine x_isub (v := nI ((1 <<< m) - 1)) dX2_resize_63 (pk_sub (by rw [Nat.shiftLeft_eq, Nat.one_mul]; exact Nat.one_le_two_pow)) ?_
              refine x_iand (v := nI ((a g) &&& ((1 <<< m) - 1))) dX2_resize_64 (nI_and _ _) ?_
              refine x_goto (tgt := 69) dX2_resize_65 rfl ?_
              refine x_iast (p := g) dX2_resize_69 rfl rfl rfl rfl (by omega) ?_
              generalize hJ2 : xup J1 3 g (nI ((a g) &&& ((1 <<< m) - 1))) = J2
              refine x_aload_n dX2_resize_70 rfl ?_
              refine x_getR 1 3 rfl (by decide) fl_X2_22 dX2_resize_71 rfl rfl rfl ?_
              refine x_iload_n dX2_resize_74 rfl ?_
              refine x_iload_n dX2_resize_75 rfl ?_
              refine x_iast (p := g) dX2_resize_76 rfl rfl rfl rfl (by omega) ?_
              generalize hJ3 : xup J2 4 g (nI g) = J3
              refine x_iinc (v := nI (g + 1)) (ls' := [.ref 1, .int (nI m), .int (nI (g + 1)), .int (nI 1)]) dX2_resize_77 rfl (inc_1 _) rfl rfl ?_
              refine x_goto (tgt := 7) dX2_resize_80 rfl ?_
              refine ih (g + 1) _ J3 (by omega) ?_ ?_ ?_ ?_ ?_
              · rw [← hJ3, xup_ne (by decide), ← hJ2, xup_ne (by decide), ← hJ1, xup_ne (by decide)]; exact j1
              · refine mix_row j2 (x := nI (h g)) (by simp [szH, c2]) (fun j => ?_)
                rw [← hJ3, xup_ne (by decide), ← hJ2, xup_ne (by decide), ← hJ1, xup_eq]
              · refine mix_row j3 (x := nI (a g &&& (1 <<< m - 1))) (by simp [szA, c2]) (fun j => ?_)
                rw [← hJ3, xup_ne (by decide), ← hJ2, xup_eq, ← hJ1, xup_ne (by decide)]
              · refine mix_row j4 (x := nI g) rfl (fun j => ?_)
                rw [← hJ3, xup_eq, ← hJ2, xup_ne (by decide), ← hJ1, xup_ne (by decide)]
              · intro c h1 h2 h3 h4
                rw [← hJ3, xup_ne h4, ← hJ2, xup_ne h3, ← hJ1, xup_ne h2]; exact jf c h1 h2 h3 h4
  refine Cx.of [.ref 1, .int (nI m), .null, .null] (by decide) rfl rfl (Nat.le_of_ble_eq_true rfl) rfl ?_
  refine x_aload_n dX2_resize_0 rfl ?_
  refine x_iload_n dX2_resize_1 rfl ?_
  refine x_put 1 0 rfl (by decide) fl_X2_9 rfl rfl rfl rfl dX2_resize_2 rfl rfl rfl ?_
  generalize hJ0 : xup I 1 0 (nI m) = J0
  refine x_iconst dX2_resize_5 ic_0 ?_
  refine x_istore_n (ls' := [.ref 1, .int (nI m), .int (nI 0), .null]) dX2_resize_6 rfl rfl ?_
  refine lp 8 0 _ J0 rfl ?_ ?_ ?_ ?_ ?_
  · rw [← hJ0, xup_eq]; rfl
  · intro j hj; rw [← hJ0, xup_ne (by decide)]; exact hD.2.1 j hj
  · intro j hj; rw [← hJ0, xup_ne (by decide)]; exact hD.2.2.1 j hj
  · intro j hj; rw [← hJ0, xup_ne (by decide)]; exact hD.2.2.2 j hj
  · intro c h1 _ _ _; rw [← hJ0, xup_ne h1]
theorem cp_in {I : xMem} {k0 k1 j : Nat} (h : j < 8) : va_up I k1 (va_cpy (I k0) (I k1) 0 0 8) k1 j = I k0 j := by
  simp only [va_up, if_pos]; rw [pk_cpy_in (Nat.zero_le _) (by omega)]; simp
theorem cp_ne {I : xMem} {k1 c : Nat} {f : Nat → Int32} (h : c ≠ k1) : va_up I k1 f c = I c := by simp [va_up, h]
theorem c_become_1_6 (hd : 1 ≤ d) (hD : DigAt I 6 n h a L) : Cx LX yX2_become mX2_become d [.ref 1, .ref 6] I (xRv (fun J => DigAt J 1 n h a L ∧ ∀ c, c ≠ 1 → c ≠ 2 → c ≠ 3 → c ≠ 4 → J c = I c)) := by
  refine Cx.of [.ref 1, .ref 6] (by decide) rfl rfl (Nat.le_of_ble_eq_true rfl) rfl ?_
  refine x_aload_n dX2_become_0 rfl ?_
  refine x_aload_n dX2_become_1 rfl ?_
  refine x_getI 1 0 (v := nI n) rfl (by decide) fl_X2_9 dX2_become_2 rfl rfl rfl hD.1 ?_
  refine x_put 1 0 rfl (by decide) fl_X2_9 rfl rfl rfl rfl dX2_become_5 rfl rfl rfl ?_
  generalize hJ0 : xup I 1 0 (nI n) = J0
  refine x_aload_n dX2_become_8 rfl ?_
  refine x_getR 1 1 rfl (by decide) fl_X2_15 dX2_become_9 rfl rfl rfl ?_
  refine x_iconst dX2_become_12 ic_0 ?_
  refine x_aload_n dX2_become_13 rfl ?_
  refine x_getR 1 1 rfl (by decide) fl_X2_15 dX2_become_14 rfl rfl rfl ?_
  refine x_iconst dX2_become_17 ic_0 ?_
  refine x_bipush dX2_become_18 bp_8 ?_
  refine x_copy ml_X2_25 nat_copy stat_copy ini_J10 dX2_become_20 hd rfl rfl rfl rfl (Nat.le_of_ble_eq_true rfl) rfl rfl rfl (by omega) (by omega) rfl rfl ?_
  generalize hJ1 : va_up J0 2 (va_cpy (J0 7) (J0 2) 0 0 8) = J1
  refine x_aload_n dX2_become_23 rfl ?_
  refine x_getR 1 2 rfl (by decide) fl_X2_19 dX2_become_24 rfl rfl rfl ?_
  refine x_iconst dX2_become_27 ic_0 ?_
  refine x_aload_n dX2_become_28 rfl ?_
  refine x_getR 1 2 rfl (by decide) fl_X2_19 dX2_become_29 rfl rfl rfl ?_
  refine x_iconst dX2_become_32 ic_0 ?_
  refine x_bipush dX2_become_33 bp_8 ?_
  refine x_copy ml_X2_25 nat_copy stat_copy ini_J10 dX2_become_35 hd rfl rfl rfl rfl (Nat.le_of_ble_eq_true rfl) rfl rfl rfl (by omega) (by omega) rfl rfl ?_
  generalize hJ2 : va_up J1 3 (va_cpy (J1 8) (J1 3) 0 0 8) = J2
  refine x_aload_n dX2_become_38 rfl ?_
  refine x_getR 1 3 rfl (by decide) fl_X2_22 dX2_become_39 rfl rfl rfl ?_
  refine x_iconst dX2_become_42 ic_0 ?_
  refine x_aload_n dX2_become_43 rfl ?_
  refine x_getR 1 3 rfl (by decide) fl_X2_22 dX2_become_44 rfl rfl rfl ?_
  refine x_iconst dX2_become_47 ic_0 ?_
  refine x_bipush dX2_become_48 bp_8 ?_
  refine x_copy ml_X2_25 nat_copy stat_copy ini_J10 dX2_become_50 hd rfl rfl rfl rfl (Nat.le_of_ble_eq_true rfl) rfl rfl rfl (by omega) (by omega) rfl rfl ?_
  generalize hJ3 : va_up J2 4 (va_cpy (J2 9) (J2 4) 0 0 8) = J3
  refine x_vretv dX2_become_53 rfl ⟨⟨?_, fun g hg => ?_, fun g hg => ?_, fun g hg => ?_⟩, fun c h1 h2 h3 h4 => ?_⟩
  · rw [← hJ3, cp_ne (by decide), ← hJ2, cp_ne (by decide), ← hJ1, cp_ne (by decide), ← hJ0, xup_eq]; rfl
  · rw [← hJ3, cp_ne (by decide), ← hJ2, cp_ne (by decide), ← hJ1, show 1 + 1 = 2 from rfl, cp_in hg, ← hJ0, xup_ne (by decide)]; exact hD.2.1 g hg
  · rw [← hJ3, cp_ne (by decide), ← hJ2, show 1 + 2 = 3 from rfl, cp_in hg, ← hJ1, cp_ne (by decide), ← hJ0, xup_ne (by decide)]; exact hD.2.2.1 g hg
  · rw [← hJ3, show 1 + 3 = 4 from rfl, cp_in hg, ← hJ2, cp_ne (by decide), ← hJ1, cp_ne (by decide), ← hJ0, xup_ne (by decide)]; exact hD.2.2.2 g hg
  · rw [← hJ3, cp_ne h4, ← hJ2, cp_ne h3, ← hJ1, cp_ne h2, ← hJ0, xup_ne h1]
theorem c_become_1_10 (hd : 1 ≤ d) (hD : DigAt I 10 n h a L) : Cx LX yX2_become mX2_become d [.ref 1, .ref 10] I (xRv (fun J => DigAt J 1 n h a L ∧ ∀ c, c ≠ 1 → c ≠ 2 → c ≠ 3 → c ≠ 4 → J c = I c)) := by
  refine Cx.of [.ref 1, .ref 10] (by decide) rfl rfl (Nat.le_of_ble_eq_true rfl) rfl ?_
  refine x_aload_n dX2_become_0 rfl ?_
  refine x_aload_n dX2_become_1 rfl ?_
  refine x_getI 1 0 (v := nI n) rfl (by decide) fl_X2_9 dX2_become_2 rfl rfl rfl hD.1 ?_
  refine x_put 1 0 rfl (by decide) fl_X2_9 rfl rfl rfl rfl dX2_become_5 rfl rfl rfl ?_
  generalize hJ0 : xup I 1 0 (nI n) = J0
  refine x_aload_n dX2_become_8 rfl ?_
  refine x_getR 1 1 rfl (by decide) fl_X2_15 dX2_become_9 rfl rfl rfl ?_
  refine x_iconst dX2_become_12 ic_0 ?_
  refine x_aload_n dX2_become_13 rfl ?_
  refine x_getR 1 1 rfl (by decide) fl_X2_15 dX2_become_14 rfl rfl rfl ?_
  refine x_iconst dX2_become_17 ic_0 ?_
  refine x_bipush dX2_become_18 bp_8 ?_
  refine x_copy ml_X2_25 nat_copy stat_copy ini_J10 dX2_become_20 hd rfl rfl rfl rfl (Nat.le_of_ble_eq_true rfl) rfl rfl rfl (by omega) (by omega) rfl rfl ?_
  generalize hJ1 : va_up J0 2 (va_cpy (J0 11) (J0 2) 0 0 8) = J1
  refine x_aload_n dX2_become_23 rfl ?_
  refine x_getR 1 2 rfl (by decide) fl_X2_19 dX2_become_24 rfl rfl rfl ?_
  refine x_iconst dX2_become_27 ic_0 ?_
  refine x_aload_n dX2_become_28 rfl ?_
  refine x_getR 1 2 rfl (by decide) fl_X2_19 dX2_become_29 rfl rfl rfl ?_
  refine x_iconst dX2_become_32 ic_0 ?_
  refine x_bipush dX2_become_33 bp_8 ?_
  refine x_copy ml_X2_25 nat_copy stat_copy ini_J10 dX2_become_35 hd rfl rfl rfl rfl (Nat.le_of_ble_eq_true rfl) rfl rfl rfl (by omega) (by omega) rfl rfl ?_
  generalize hJ2 : va_up J1 3 (va_cpy (J1 12) (J1 3) 0 0 8) = J2
  refine x_aload_n dX2_become_38 rfl ?_
  refine x_getR 1 3 rfl (by decide) fl_X2_22 dX2_become_39 rfl rfl rfl ?_
  refine x_iconst dX2_become_42 ic_0 ?_
  refine x_aload_n dX2_become_43 rfl ?_
  refine x_getR 1 3 rfl (by decide) fl_X2_22 dX2_become_44 rfl rfl rfl ?_
  refine x_iconst dX2_become_47 ic_0 ?_
  refine x_bipush dX2_become_48 bp_8 ?_
  refine x_copy ml_X2_25 nat_copy stat_copy ini_J10 dX2_become_50 hd rfl rfl rfl rfl (Nat.le_of_ble_eq_true rfl) rfl rfl rfl (by omega) (by omega) rfl rfl ?_
  generalize hJ3 : va_up J2 4 (va_cpy (J2 13) (J2 4) 0 0 8) = J3
  refine x_vretv dX2_become_53 rfl ⟨⟨?_, fun g hg => ?_, fun g hg => ?_, fun g hg => ?_⟩, fun c h1 h2 h3 h4 => ?_⟩
  · rw [← hJ3, cp_ne (by decide), ← hJ2, cp_ne (by decide), ← hJ1, cp_ne (by decide), ← hJ0, xup_eq]; rfl
  · rw [← hJ3, cp_ne (by decide), ← hJ2, cp_ne (by decide), ← hJ1, show 1 + 1 = 2 from rfl, cp_in hg, ← hJ0, xup_ne (by decide)]; exact hD.2.1 g hg
  · rw [← hJ3, cp_ne (by decide), ← hJ2, show 1 + 2 = 3 from rfl, cp_in hg, ← hJ1, cp_ne (by decide), ← hJ0, xup_ne (by decide)]; exact hD.2.2.1 g hg
  · rw [← hJ3, show 1 + 3 = 4 from rfl, cp_in hg, ← hJ2, cp_ne (by decide), ← hJ1, cp_ne (by decide), ← hJ0, xup_ne (by decide)]; exact hD.2.2.2 g hg
  · rw [← hJ3, cp_ne h4, ← hJ2, cp_ne h3, ← hJ1, cp_ne h2, ← hJ0, xup_ne h1]
theorem c_become_6_1 (hd : 1 ≤ d) (hD : DigAt I 1 n h a L) : Cx LX yX2_become mX2_become d [.ref 6, .ref 1] I (xRv (fun J => DigAt J 6 n h a L ∧ ∀ c, c ≠ 6 → c ≠ 7 → c ≠ 8 → c ≠ 9 → J c = I c)) := by
  refine Cx.of [.ref 6, .ref 1] (by decide) rfl rfl (Nat.le_of_ble_eq_true rfl) rfl ?_
  refine x_aload_n dX2_become_0 rfl ?_
  refine x_aload_n dX2_become_1 rfl ?_
  refine x_getI 1 0 (v := nI n) rfl (by decide) fl_X2_9 dX2_become_2 rfl rfl rfl hD.1 ?_
  refine x_put 1 0 rfl (by decide) fl_X2_9 rfl rfl rfl rfl dX2_become_5 rfl rfl rfl ?_
  generalize hJ0 : xup I 6 0 (nI n) = J0
  refine x_aload_n dX2_become_8 rfl ?_
  refine x_getR 1 1 rfl (by decide) fl_X2_15 dX2_become_9 rfl rfl rfl ?_
  refine x_iconst dX2_become_12 ic_0 ?_
  refine x_aload_n dX2_become_13 rfl ?_
  refine x_getR 1 1 rfl (by decide) fl_X2_15 dX2_become_14 rfl rfl rfl ?_
  refine x_iconst dX2_become_17 ic_0 ?_
  refine x_bipush dX2_become_18 bp_8 ?_
  refine x_copy ml_X2_25 nat_copy stat_copy ini_J10 dX2_become_20 hd rfl rfl rfl rfl (Nat.le_of_ble_eq_true rfl) rfl rfl rfl (by omega) (by omega) rfl rfl ?_
  generalize hJ1 : va_up J0 7 (va_cpy (J0 2) (J0 7) 0 0 8) = J1
  refine x_aload_n dX2_become_23 rfl ?_
  refine x_getR 1 2 rfl (by decide) fl_X2_19 dX2_become_24 rfl rfl rfl ?_
  refine x_iconst dX2_become_27 ic_0 ?_
  refine x_aload_n dX2_become_28 rfl ?_
  refine x_getR 1 2 rfl (by decide) fl_X2_19 dX2_become_29 rfl rfl rfl ?_
  refine x_iconst dX2_become_32 ic_0 ?_
  refine x_bipush dX2_become_33 bp_8 ?_
  refine x_copy ml_X2_25 nat_copy stat_copy ini_J10 dX2_become_35 hd rfl rfl rfl rfl (Nat.le_of_ble_eq_true rfl) rfl rfl rfl (by omega) (by omega) rfl rfl ?_
  generalize hJ2 : va_up J1 8 (va_cpy (J1 3) (J1 8) 0 0 8) = J2
  refine x_aload_n dX2_become_38 rfl ?_
  refine x_getR 1 3 rfl (by decide) fl_X2_22 dX2_become_39 rfl rfl rfl ?_
  refine x_iconst dX2_become_42 ic_0 ?_
  refine x_aload_n dX2_become_43 rfl ?_
  refine x_getR 1 3 rfl (by decide) fl_X2_22 dX2_become_44 rfl rfl rfl ?_
  refine x_iconst dX2_become_47 ic_0 ?_
  refine x_bipush dX2_become_48 bp_8 ?_
  refine x_copy ml_X2_25 nat_copy stat_copy ini_J10 dX2_become_50 hd rfl rfl rfl rfl (Nat.le_of_ble_eq_true rfl) rfl rfl rfl (by omega) (by omega) rfl rfl ?_
  generalize hJ3 : va_up J2 9 (va_cpy (J2 4) (J2 9) 0 0 8) = J3
  refine x_vretv dX2_become_53 rfl ⟨⟨?_, fun g hg => ?_, fun g hg => ?_, fun g hg => ?_⟩, fun c h1 h2 h3 h4 => ?_⟩
  · rw [← hJ3, cp_ne (by decide), ← hJ2, cp_ne (by decide), ← hJ1, cp_ne (by decide), ← hJ0, xup_eq]; rfl
  · rw [← hJ3, cp_ne (by decide), ← hJ2, cp_ne (by decide), ← hJ1, show 6 + 1 = 7 from rfl, cp_in hg, ← hJ0, xup_ne (by decide)]; exact hD.2.1 g hg
  · rw [← hJ3, cp_ne (by decide), ← hJ2, show 6 + 2 = 8 from rfl, cp_in hg, ← hJ1, cp_ne (by decide), ← hJ0, xup_ne (by decide)]; exact hD.2.2.1 g hg
  · rw [← hJ3, show 6 + 3 = 9 from rfl, cp_in hg, ← hJ2, cp_ne (by decide), ← hJ1, cp_ne (by decide), ← hJ0, xup_ne (by decide)]; exact hD.2.2.2 g hg
  · rw [← hJ3, cp_ne h4, ← hJ2, cp_ne h3, ← hJ1, cp_ne h2, ← hJ0, xup_ne h1]
theorem c_become_10_1 (hd : 1 ≤ d) (hD : DigAt I 1 n h a L) : Cx LX yX2_become mX2_become d [.ref 10, .ref 1] I (xRv (fun J => DigAt J 10 n h a L ∧ ∀ c, c ≠ 10 → c ≠ 11 → c ≠ 12 → c ≠ 13 → J c = I c)) := by
  refine Cx.of [.ref 10, .ref 1] (by decide) rfl rfl (Nat.le_of_ble_eq_true rfl) rfl ?_
  refine x_aload_n dX2_become_0 rfl ?_
  refine x_aload_n dX2_become_1 rfl ?_
  refine x_getI 1 0 (v := nI n) rfl (by decide) fl_X2_9 dX2_become_2 rfl rfl rfl hD.1 ?_
  refine x_put 1 0 rfl (by decide) fl_X2_9 rfl rfl rfl rfl dX2_become_5 rfl rfl rfl ?_
  generalize hJ0 : xup I 10 0 (nI n) = J0
  refine x_aload_n dX2_become_8 rfl ?_
  refine x_getR 1 1 rfl (by decide) fl_X2_15 dX2_become_9 rfl rfl rfl ?_
  refine x_iconst dX2_become_12 ic_0 ?_
  refine x_aload_n dX2_become_13 rfl ?_
  refine x_getR 1 1 rfl (by decide) fl_X2_15 dX2_become_14 rfl rfl rfl ?_
  refine x_iconst dX2_become_17 ic_0 ?_
  refine x_bipush dX2_become_18 bp_8 ?_
  refine x_copy ml_X2_25 nat_copy stat_copy ini_J10 dX2_become_20 hd rfl rfl rfl rfl (Nat.le_of_ble_eq_true rfl) rfl rfl rfl (by omega) (by omega) rfl rfl ?_
  generalize hJ1 : va_up J0 11 (va_cpy (J0 2) (J0 11) 0 0 8) = J1
  refine x_aload_n dX2_become_23 rfl ?_
  refine x_getR 1 2 rfl (by decide) fl_X2_19 dX2_become_24 rfl rfl rfl ?_
  refine x_iconst dX2_become_27 ic_0 ?_
  refine x_aload_n dX2_become_28 rfl ?_
  refine x_getR 1 2 rfl (by decide) fl_X2_19 dX2_become_29 rfl rfl rfl ?_
  refine x_iconst dX2_become_32 ic_0 ?_
  refine x_bipush dX2_become_33 bp_8 ?_
  refine x_copy ml_X2_25 nat_copy stat_copy ini_J10 dX2_become_35 hd rfl rfl rfl rfl (Nat.le_of_ble_eq_true rfl) rfl rfl rfl (by omega) (by omega) rfl rfl ?_
  generalize hJ2 : va_up J1 12 (va_cpy (J1 3) (J1 12) 0 0 8) = J2
  refine x_aload_n dX2_become_38 rfl ?_
  refine x_getR 1 3 rfl (by decide) fl_X2_22 dX2_become_39 rfl rfl rfl ?_
  refine x_iconst dX2_become_42 ic_0 ?_
  refine x_aload_n dX2_become_43 rfl ?_
  refine x_getR 1 3 rfl (by decide) fl_X2_22 dX2_become_44 rfl rfl rfl ?_
  refine x_iconst dX2_become_47 ic_0 ?_
  refine x_bipush dX2_become_48 bp_8 ?_
  refine x_copy ml_X2_25 nat_copy stat_copy ini_J10 dX2_become_50 hd rfl rfl rfl rfl (Nat.le_of_ble_eq_true rfl) rfl rfl rfl (by omega) (by omega) rfl rfl ?_
  generalize hJ3 : va_up J2 13 (va_cpy (J2 4) (J2 13) 0 0 8) = J3
  refine x_vretv dX2_become_53 rfl ⟨⟨?_, fun g hg => ?_, fun g hg => ?_, fun g hg => ?_⟩, fun c h1 h2 h3 h4 => ?_⟩
  · rw [← hJ3, cp_ne (by decide), ← hJ2, cp_ne (by decide), ← hJ1, cp_ne (by decide), ← hJ0, xup_eq]; rfl
  · rw [← hJ3, cp_ne (by decide), ← hJ2, cp_ne (by decide), ← hJ1, show 10 + 1 = 11 from rfl, cp_in hg, ← hJ0, xup_ne (by decide)]; exact hD.2.1 g hg
  · rw [← hJ3, cp_ne (by decide), ← hJ2, show 10 + 2 = 12 from rfl, cp_in hg, ← hJ1, cp_ne (by decide), ← hJ0, xup_ne (by decide)]; exact hD.2.2.1 g hg
  · rw [← hJ3, show 10 + 3 = 13 from rfl, cp_in hg, ← hJ2, cp_ne (by decide), ← hJ1, cp_ne (by decide), ← hJ0, xup_ne (by decide)]; exact hD.2.2.2 g hg
  · rw [← hJ3, cp_ne h4, ← hJ2, cp_ne h3, ← hJ1, cp_ne h2, ← hJ0, xup_ne h1]
theorem c_members_2 {f : Nat → Nat} (hd : 1 ≤ d) (hf : ∀ g, f g < 1024) (hI : ∀ g, g < 8 → I 2 g = nI (f g)) : Cx LX yX5_membersOfAll mX5_membersOfAll d [.ref 2] I (xRi (fun r J => r = nI (rf (fun s g => s + pop (f g)) 0 8) ∧ J = I)) := by
  have lp : ∀ (k g : Nat) (v5 : Value), g + k = 8 → Wx LX mX5_membersOfAll d (xRi (fun r J => r = nI (rf (fun s g => s + pop (f g)) 0 8) ∧ J = I)) 10 [.ref 2, .int (nI (rf (fun s g => s + pop (f g)) 0 g)), .ref 2, .int (nI 8), .int (nI g), v5] [] I := by
    intro k
    induction k with
    | zero =>
      intro g v5 hg
      refine x_iload dX5_membersOfAll_10 rfl ?_
      refine x_iload_n dX5_membersOfAll_12 rfl ?_
      refine x_icmpn_ge (a := g) (b := 8) (by omega) (by omega) (tgt := 36) dX5_membersOfAll_13 rfl (fun c => ?_) (fun c => ?_)
      ·
        refine x_iload_n dX5_membersOfAll_36 rfl ?_
        refine x_ireti dX5_membersOfAll_37 rfl ⟨by rw [show g = 8 by omega], rfl⟩
      ·
        omega
    | succ k ih =>
      intro g v5 hg
      refine x_iload dX5_membersOfAll_10 rfl ?_
      refine x_iload_n dX5_membersOfAll_12 rfl ?_
      refine x_icmpn_ge (a := g) (b := 8) (by omega) (by omega) (tgt := 36) dX5_membersOfAll_13 rfl (fun c => ?_) (fun c => ?_)
      ·
        omega
      ·
        refine x_aload_n dX5_membersOfAll_16 rfl ?_
        refine x_iload dX5_membersOfAll_17 rfl ?_
        refine x_iald (p := g) (v := nI (f g)) dX5_membersOfAll_19 rfl rfl rfl rfl (by omega) (hI g (by omega)) ?_
        refine x_istore (ls' := [.ref 2, .int (nI (rf (fun s g => s + pop (f g)) 0 g)), .ref 2, .int (nI 8), .int (nI g), .int (nI (f g))]) dX5_membersOfAll_20 rfl rfl ?_
        refine x_iload_n dX5_membersOfAll_22 rfl ?_
        refine x_iload dX5_membersOfAll_23 rfl ?_
        refine x_callSi (as := [.int (nI (f g))]) ml_X5_66 st_J6_bitCount_0f7a4 ct_J6_bitCount_0f7a4 (c_bitCount (d := 0) (hf g)) dX5_membersOfAll_25 hd rfl rfl (Nat.le_of_ble_eq_true rfl) (fun r0 J0 h0 => ?_)
        obtain ⟨rfl, hJ0⟩ := h0
        obtain rfl := hJ0.symm
        refine x_iadd (v := nI ((rf (fun s g => s + pop (f g)) 0 g) + (pop (f g)))) dX5_membersOfAll_28 (nI_add _ _) ?_
        refine x_istore_n (ls' := [.ref 2, .int (nI ((rf (fun s g => s + pop (f g)) 0 g) + (pop (f g)))), .ref 2, .int (nI 8), .int (nI g), .int (nI (f g))]) dX5_membersOfAll_29 rfl rfl ?_
        refine x_iinc (v := nI (g + 1)) (ls' := [.ref 2, .int (nI ((rf (fun s g => s + pop (f g)) 0 g) + (pop (f g)))), .ref 2, .int (nI 8), .int (nI (g + 1)), .int (nI (f g))]) dX5_membersOfAll_30 rfl (inc_1 _) rfl rfl ?_
        refine x_goto (tgt := 10) dX5_membersOfAll_33 rfl ?_
        have := ih (g + 1) (.int (nI (f g))) (by omega)
        rw [rf_s _ _ g] at this
        exact this
  refine Cx.of [.ref 2, .null, .null, .null, .null, .null] (by decide) rfl rfl (Nat.le_of_ble_eq_true rfl) rfl ?_
  refine x_iconst dX5_membersOfAll_0 ic_0 ?_
  refine x_istore_n (ls' := [.ref 2, .int (nI 0), .null, .null, .null, .null]) dX5_membersOfAll_1 rfl rfl ?_
  refine x_aload_n dX5_membersOfAll_2 rfl ?_
  refine x_astore_n (ls' := [.ref 2, .int (nI 0), .ref 2, .null, .null, .null]) dX5_membersOfAll_3 rfl rfl ?_
  refine x_aload_n dX5_membersOfAll_4 rfl ?_
  refine x_alen dX5_membersOfAll_5 rfl rfl ?_
  refine x_istore_n (ls' := [.ref 2, .int (nI 0), .ref 2, .int (nI 8), .null, .null]) dX5_membersOfAll_6 rfl rfl ?_
  refine x_iconst dX5_membersOfAll_7 ic_0 ?_
  refine x_istore (ls' := [.ref 2, .int (nI 0), .ref 2, .int (nI 8), .int (nI 0), .null]) dX5_membersOfAll_8 rfl rfl ?_
  exact lp 8 0 _ rfl
theorem c_members_3 {f : Nat → Nat} (hd : 1 ≤ d) (hf : ∀ g, f g < 1024) (hI : ∀ g, g < 8 → I 3 g = nI (f g)) : Cx LX yX5_membersOfAll mX5_membersOfAll d [.ref 3] I (xRi (fun r J => r = nI (rf (fun s g => s + pop (f g)) 0 8) ∧ J = I)) := by
  have lp : ∀ (k g : Nat) (v5 : Value), g + k = 8 → Wx LX mX5_membersOfAll d (xRi (fun r J => r = nI (rf (fun s g => s + pop (f g)) 0 8) ∧ J = I)) 10 [.ref 3, .int (nI (rf (fun s g => s + pop (f g)) 0 g)), .ref 3, .int (nI 8), .int (nI g), v5] [] I := by
    intro k
    induction k with
    | zero =>
      intro g v5 hg
      refine x_iload dX5_membersOfAll_10 rfl ?_
      refine x_iload_n dX5_membersOfAll_12 rfl ?_
      refine x_icmpn_ge (a := g) (b := 8) (by omega) (by omega) (tgt := 36) dX5_membersOfAll_13 rfl (fun c => ?_) (fun c => ?_)
      ·
        refine x_iload_n dX5_membersOfAll_36 rfl ?_
        refine x_ireti dX5_membersOfAll_37 rfl ⟨by rw [show g = 8 by omega], rfl⟩
      ·
        omega
    | succ k ih =>
      intro g v5 hg
      refine x_iload dX5_membersOfAll_10 rfl ?_
      refine x_iload_n dX5_membersOfAll_12 rfl ?_
      refine x_icmpn_ge (a := g) (b := 8) (by omega) (by omega) (tgt := 36) dX5_membersOfAll_13 rfl (fun c => ?_) (fun c => ?_)
      ·
        omega
      ·
        refine x_aload_n dX5_membersOfAll_16 rfl ?_
        refine x_iload dX5_membersOfAll_17 rfl ?_
        refine x_iald (p := g) (v := nI (f g)) dX5_membersOfAll_19 rfl rfl rfl rfl (by omega) (hI g (by omega)) ?_
        refine x_istore (ls' := [.ref 3, .int (nI (rf (fun s g => s + pop (f g)) 0 g)), .ref 3, .int (nI 8), .int (nI g), .int (nI (f g))]) dX5_membersOfAll_20 rfl rfl ?_
        refine x_iload_n dX5_membersOfAll_22 rfl ?_
        refine x_iload dX5_membersOfAll_23 rfl ?_
        refine x_callSi (as := [.int (nI (f g))]) ml_X5_66 st_J6_bitCount_0f7a4 ct_J6_bitCount_0f7a4 (c_bitCount (d := 0) (hf g)) dX5_membersOfAll_25 hd rfl rfl (Nat.le_of_ble_eq_true rfl) (fun r0 J0 h0 => ?_)
        obtain ⟨rfl, hJ0⟩ := h0
        obtain rfl := hJ0.symm
        refine x_iadd (v := nI ((rf (fun s g => s + pop (f g)) 0 g) + (pop (f g)))) dX5_membersOfAll_28 (nI_add _ _) ?_
        refine x_istore_n (ls' := [.ref 3, .int (nI ((rf (fun s g => s + pop (f g)) 0 g) + (pop (f g)))), .ref 3, .int (nI 8), .int (nI g), .int (nI (f g))]) dX5_membersOfAll_29 rfl rfl ?_
        refine x_iinc (v := nI (g + 1)) (ls' := [.ref 3, .int (nI ((rf (fun s g => s + pop (f g)) 0 g) + (pop (f g)))), .ref 3, .int (nI 8), .int (nI (g + 1)), .int (nI (f g))]) dX5_membersOfAll_30 rfl (inc_1 _) rfl rfl ?_
        refine x_goto (tgt := 10) dX5_membersOfAll_33 rfl ?_
        have := ih (g + 1) (.int (nI (f g))) (by omega)
        rw [rf_s _ _ g] at this
        exact this
  refine Cx.of [.ref 3, .null, .null, .null, .null, .null] (by decide) rfl rfl (Nat.le_of_ble_eq_true rfl) rfl ?_
  refine x_iconst dX5_membersOfAll_0 ic_0 ?_
  refine x_istore_n (ls' := [.ref 3, .int (nI 0), .null, .null, .null, .null]) dX5_membersOfAll_1 rfl rfl ?_
  refine x_aload_n dX5_membersOfAll_2 rfl ?_
  refine x_astore_n (ls' := [.ref 3, .int (nI 0), .ref 3, .null, .null, .null]) dX5_membersOfAll_3 rfl rfl ?_
  refine x_aload_n dX5_membersOfAll_4 rfl ?_
  refine x_alen dX5_membersOfAll_5 rfl rfl ?_
  refine x_istore_n (ls' := [.ref 3, .int (nI 0), .ref 3, .int (nI 8), .null, .null]) dX5_membersOfAll_6 rfl rfl ?_
  refine x_iconst dX5_membersOfAll_7 ic_0 ?_
  refine x_istore (ls' := [.ref 3, .int (nI 0), .ref 3, .int (nI 8), .int (nI 0), .null]) dX5_membersOfAll_8 rfl rfl ?_
  exact lp 8 0 _ rfl
end DG
