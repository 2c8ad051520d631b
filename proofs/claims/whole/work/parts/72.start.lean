/-! the law: its loop, and from its entry -/
section LS
variable {l : Launch} {p : Program} {e : Env} {s : State} {m : MethodId} {below : List Frame} {meth : Method} {c : Code} {b L : Nat} {xs : Nat → Int32} {D : va_G} {cI cB cD : ClassId} {ad ad2 : Nat → Nat}
theorem law_loop (hL : LFix l p e s m below meth c b L xs D cI cB cD ad ad2) : ∀ (f i : Nat) (V : WS), i ≤ L → L < i + 4 * f → WOk V → LW l p e s m below meth c b D cI cB cD ad ad2 18 i [] V V := by
  intro f
  induction f with
  | zero => intro i V h1 h2; omega
  | succ f ih =>
    intro i V h1 h2 hV I J H locs ls hC hM hP hD hS hl
    obtain ⟨hx, hb, hr, hml, hown, hts, hX, hbl, hlocks, hgv⟩ := id hL.1
    have hL2 := hL.2.1
    refine lv_iload_n hx hb dL_law_18 rfl (lv_at hl 0 rfl) ?_
    refine lv_aload_n hx hb dL_law_19 rfl (lv_at hl 1 rfl) ?_
    refine va_slen hx hb hX hbl (A := fun q : Nat => s.heap.size ≤ q) (Nat.not_le.mpr hbl) hS dL_law_20 ?_
    refine lv_iconst hx hb dL_law_21 ic_4 ?_
    refine lv_isub hx hb dL_law_22 ?_
    have hsub : (Int32.ofNat L - nI 4).toInt = (L : Int) - 4 := by
      rw [Int32.toInt_sub, show (Int32.ofNat L).toInt = (L : Int) from nI_toInt (by omega), nI_toInt (by decide)]
      exact Int.bmod_eq_of_le (by omega) (by omega)
    refine lv_icmp_gt (tgt := 762) hx hb dL_law_23 (by decide) (fun c1 => ?_) (fun c1 => ?_)
    · refine lv_iconst (v := 1) hx hb dL_law_762 (by decide) ?_
      refine va_forget (fun q hq => hS.2.2 q hq) ?_
      refine W.widen (k := 600000) (n := 7302250) (Nat.le_of_ble_eq_true rfl) (Nat.le_of_ble_eq_true rfl) ?_
      exact lw_ret hx hb hr hlocks dL_law_763
    · have hi4 : i + 4 ≤ L := by
        rw [Int32.lt_iff_toInt_lt, hsub, nI_toInt (by omega)] at c1
        omega
      refine lv_aload_n hx hb dL_law_26 rfl (lv_at hl 1 rfl) ?_
      refine lv_iload_n hx hb dL_law_27 rfl (lv_at hl 0 rfl) ?_
      refine va_sld hx hb hX hbl (A := fun q : Nat => s.heap.size ≤ q) (Nat.not_le.mpr hbl) hS (vp_in_nI (show i < L by omega) (by omega)) dL_law_28 ?_
      refine lv_bipush hx hb dL_law_29 bp_31 ?_
      refine lv_iand hx hb dL_law_31 ?_
      refine lv_topi (fun vv evv => ?_)
      by_cases o1 : vv.toInt < 0 ∨ 23 < vv.toInt
      · exact lv_tableOut (tgt := 756) hx hb dL_law_32 o1 (by decide) (r_next hL dL_law_756 dL_law_759 (ih (i + 4) V (by omega) (by omega) hV) _ _ _ _ _ hC hM hP hD hS hl)
      rcases (show vv.toInt = 0 ∨ vv.toInt = 1 ∨ vv.toInt = 2 ∨ vv.toInt = 3 ∨ vv.toInt = 4 ∨ vv.toInt = 5 ∨ vv.toInt = 6 ∨ vv.toInt = 7 ∨ vv.toInt = 8 ∨ vv.toInt = 9 ∨ vv.toInt = 10 ∨ vv.toInt = 11 ∨ vv.toInt = 12 ∨ vv.toInt = 13 ∨ vv.toInt = 14 ∨ vv.toInt = 15 ∨ vv.toInt = 16 ∨ vv.toInt = 17 ∨ vv.toInt = 18 ∨ vv.toInt = 19 ∨ vv.toInt = 20 ∨ vv.toInt = 21 ∨ vv.toInt = 22 ∨ vv.toInt = 23 by omega) with ek | ek | ek | ek | ek | ek | ek | ek | ek | ek | ek | ek | ek | ek | ek | ek | ek | ek | ek | ek | ek | ek | ek | ek
      · exact lv_tableIn (off := 112) (tgt := 144) hx hb dL_law_32 (by omega) (by omega) (by rw [ek]; rfl) (by decide) (lc_0 hL hi4 hV (r_next hL dL_law_756 dL_law_759 (ih (i + 4) _ (by omega) (by omega) (WOk_many hV))) _ _ _ _ _ hC hM hP hD hS hl)
      · exact lv_tableIn (off := 135) (tgt := 167) hx hb dL_law_32 (by omega) (by omega) (by rw [ek]; rfl) (by decide) (lc_1 hL hi4 hV (r_next hL dL_law_756 dL_law_759 (ih (i + 4) _ (by omega) (by omega) (WOk_find hV))) _ _ _ _ _ hC hM hP hD hS hl)
      · exact lv_tableIn (off := 178) (tgt := 210) hx hb dL_law_32 (by omega) (by omega) (by rw [ek]; rfl) (by decide) (lc_2 hL hi4 hV (r_next hL dL_law_756 dL_law_759 (ih (i + 4) _ (by omega) (by omega) (WOk_ahead hV))) _ _ _ _ _ hC hM hP hD hS hl)
      · exact lv_tableIn (off := 221) (tgt := 253) hx hb dL_law_32 (by omega) (by omega) (by rw [ek]; rfl) (by decide) (lc_3 hL hi4 hV (r_next hL dL_law_756 dL_law_759 (ih (i + 4) _ (by omega) (by omega) (hV))) _ _ _ _ _ hC hM hP hD hS hl)
      · exact lv_tableIn (off := 254) (tgt := 286) hx hb dL_law_32 (by omega) (by omega) (by rw [ek]; rfl) (by decide) (lc_4 hL hi4 hV (r_next hL dL_law_756 dL_law_759 (ih (i + 4) _ (by omega) (by omega) (hV))) _ _ _ _ _ hC hM hP hD hS hl)
      · exact lv_tableIn (off := 287) (tgt := 319) hx hb dL_law_32 (by omega) (by omega) (by rw [ek]; rfl) (by decide) (lc_5 hL hi4 hV (r_next hL dL_law_756 dL_law_759 (ih (i + 4) _ (by omega) (by omega) (hV))) _ _ _ _ _ hC hM hP hD hS hl)
      · exact lv_tableIn (off := 320) (tgt := 352) hx hb dL_law_32 (by omega) (by omega) (by rw [ek]; rfl) (by decide) (lc_6 hL hi4 hV (r_next hL dL_law_756 dL_law_759 (ih (i + 4) _ (by omega) (by omega) (hV))) _ _ _ _ _ hC hM hP hD hS hl)
      · exact lv_tableIn (off := 333) (tgt := 365) hx hb dL_law_32 (by omega) (by omega) (by rw [ek]; rfl) (by decide) (lc_7 hL hi4 hV (r_next hL dL_law_756 dL_law_759 (ih (i + 4) _ (by omega) (by omega) (hV))) _ _ _ _ _ hC hM hP hD hS hl)
      · exact lv_tableIn (off := 346) (tgt := 378) hx hb dL_law_32 (by omega) (by omega) (by rw [ek]; rfl) (by decide) (lc_8 hL hi4 hV (r_next hL dL_law_756 dL_law_759 (ih (i + 4) _ (by omega) (by omega) (hV))) _ _ _ _ _ hC hM hP hD hS hl)
      · exact lv_tableIn (off := 379) (tgt := 411) hx hb dL_law_32 (by omega) (by omega) (by rw [ek]; rfl) (by decide) (lc_9 hL hi4 hV (r_next hL dL_law_756 dL_law_759 (ih (i + 4) _ (by omega) (by omega) (hV))) _ _ _ _ _ hC hM hP hD hS hl)
      · exact lv_tableIn (off := 412) (tgt := 444) hx hb dL_law_32 (by omega) (by omega) (by rw [ek]; rfl) (by decide) (lc_10 hL hi4 hV (r_next hL dL_law_756 dL_law_759 (ih (i + 4) _ (by omega) (by omega) (hV))) _ _ _ _ _ hC hM hP hD hS hl)
      · exact lv_tableIn (off := 445) (tgt := 477) hx hb dL_law_32 (by omega) (by omega) (by rw [ek]; rfl) (by decide) (lc_11 hL hi4 hV (r_next hL dL_law_756 dL_law_759 (ih (i + 4) _ (by omega) (by omega) (hV))) _ _ _ _ _ hC hM hP hD hS hl)
      · exact lv_tableIn (off := 478) (tgt := 510) hx hb dL_law_32 (by omega) (by omega) (by rw [ek]; rfl) (by decide) (lc_12 hL hi4 hV (r_next hL dL_law_756 dL_law_759 (ih (i + 4) _ (by omega) (by omega) (hV))) _ _ _ _ _ hC hM hP hD hS hl)
      · exact lv_tableIn (off := 501) (tgt := 533) hx hb dL_law_32 (by omega) (by omega) (by rw [ek]; rfl) (by decide) (lc_13 hL hi4 hV (r_next hL dL_law_756 dL_law_759 (ih (i + 4) _ (by omega) (by omega) (hV))) _ _ _ _ _ hC hM hP hD hS hl)
      · exact lv_tableIn (off := 524) (tgt := 556) hx hb dL_law_32 (by omega) (by omega) (by rw [ek]; rfl) (by decide) (lc_14 hL hi4 hV (r_next hL dL_law_756 dL_law_759 (ih (i + 4) _ (by omega) (by omega) (hV))) _ _ _ _ _ hC hM hP hD hS hl)
      · exact lv_tableIn (off := 547) (tgt := 579) hx hb dL_law_32 (by omega) (by omega) (by rw [ek]; rfl) (by decide) (lc_15 hL hi4 hV (r_next hL dL_law_756 dL_law_759 (ih (i + 4) _ (by omega) (by omega) (hV))) _ _ _ _ _ hC hM hP hD hS hl)
      · exact lv_tableIn (off := 570) (tgt := 602) hx hb dL_law_32 (by omega) (by omega) (by rw [ek]; rfl) (by decide) (lc_16 hL hi4 hV (r_next hL dL_law_756 dL_law_759 (ih (i + 4) _ (by omega) (by omega) (WOk_swap hV))) _ _ _ _ _ hC hM hP hD hS hl)
      · exact lv_tableIn (off := 593) (tgt := 625) hx hb dL_law_32 (by omega) (by omega) (by rw [ek]; rfl) (by decide) (lc_17 hL hi4 hV (r_next hL dL_law_756 dL_law_759 (ih (i + 4) _ (by omega) (by omega) (WOk_better hV))) _ _ _ _ _ hC hM hP hD hS hl)
      · exact lv_tableIn (off := 606) (tgt := 638) hx hb dL_law_32 (by omega) (by omega) (by rw [ek]; rfl) (by decide) (lc_18 hL hi4 hV (r_next hL dL_law_756 dL_law_759 (ih (i + 4) _ (by omega) (by omega) (WOk_climb hV))) _ _ _ _ _ hC hM hP hD hS hl)
      · exact lv_tableIn (off := 619) (tgt := 651) hx hb dL_law_32 (by omega) (by omega) (by rw [ek]; rfl) (by decide) (lc_19 hL hi4 hV (r_next hL dL_law_756 dL_law_759 (ih (i + 4) _ (by omega) (by omega) (hV))) _ _ _ _ _ hC hM hP hD hS hl)
      · exact lv_tableIn (off := 642) (tgt := 674) hx hb dL_law_32 (by omega) (by omega) (by rw [ek]; rfl) (by decide) (lc_20 hL hi4 hV (r_next hL dL_law_756 dL_law_759 (ih (i + 4) _ (by omega) (by omega) (WOk_settle hV))) _ _ _ _ _ hC hM hP hD hS hl)
      · exact lv_tableIn (off := 655) (tgt := 687) hx hb dL_law_32 (by omega) (by omega) (by rw [ek]; rfl) (by decide) (lc_21 hL hi4 hV (r_next hL dL_law_756 dL_law_759 (ih (i + 4) _ (by omega) (by omega) (hV))) _ _ _ _ _ hC hM hP hD hS hl)
      · exact lv_tableIn (off := 678) (tgt := 710) hx hb dL_law_32 (by omega) (by omega) (by rw [ek]; rfl) (by decide) (lc_22 hL hi4 hV (r_next hL dL_law_756 dL_law_759 (ih (i + 4) _ (by omega) (by omega) (WOk_image hV))) _ _ _ _ _ hC hM hP hD hS hl)
      · exact lv_tableIn (off := 701) (tgt := 733) hx hb dL_law_32 (by omega) (by omega) (by rw [ek]; rfl) (by decide) (lc_23 hL hi4 hV (r_next hL dL_law_756 dL_law_759 (ih (i + 4) _ (by omega) (by omega) (WOk_restore hV))) _ _ _ _ _ hC hM hP hD hS hl)
end LS
theorem rng_l {w r : va_W} {n : Nat} (hn : w.length = n) : (List.range n).map (fun i => (w ++ r)[i]?) = w.map some := by
  apply List.ext_getElem?
  intro k
  rw [List.getElem?_map, List.getElem?_map]
  by_cases hk : k < n
  · rw [List.getElem?_range hk]
    show some ((w ++ r)[k]?) = _
    rw [List.getElem?_append_left (by omega), List.getElem?_eq_getElem (by omega)]; rfl
  · rw [List.getElem?_eq_none (by rw [List.length_range]; omega), List.getElem?_eq_none (by omega)]; rfl
theorem arr_K {s : State} {args : Array Value} {ty : FieldType} (h : (Cond.arrayClass ty).before args s = true) (ht : ty = .int ∨ ty = .boolean) : ∃ cA : ClassId, ArrOfT s cA ty ∧ va_RA s cA ty := by
  obtain ⟨cA, kA, comp, h1, h2, h3⟩ := Cond.arrayClass_spec h
  refine ⟨cA, fun n z => ⟨fun k h => (by cases h), kA, h2, comp, h3⟩, ?_⟩
  rcases ht with rfl | rfl <;> exact h1
/-- the first state -/
def W0 : WS := ((4, fun _ => 0, fun _ => 0, id), (false, (4, fun _ => 0, fun _ => 0, id)), (false, (4, fun _ => 0, fun _ => 0, id)))
theorem W0_ok : WOk W0 := ⟨⟨by decide, by decide, fun _ => by show 0 < 1024; decide, fun _ => by show 0 < 256; decide, fun p hp => hp, fun p q _ _ h => h, fun p hp => hp⟩, fun h => (by cases h), fun h => (by cases h)⟩
theorem CR_0 {I : xMem} (h : fresh1 I) : CR I W0 := by
  obtain ⟨h1, h2, h3, h4, h5, h6⟩ := h
  refine ⟨⟨h1 1 (by decide), fun g hg => ?_, fun g hg => ?_, fun g hg => ?_⟩, h4, fun h => (by cases h), fun h => (by cases h), Or.inl h5, Or.inl h6⟩
  · show I 2 g = nI 0; rw [h2 2 (by decide) g, nI_0]
  · show I 3 g = nI 0; rw [h2 3 (by decide) g, nI_0]
  · show I 4 g = nI g; exact h3 4 (by decide) g hg
theorem MR_0 {I : xMem} (h : fresh2 I) : MR I W0 := by
  obtain ⟨h1, h2, h3, h4, h5, h6⟩ := h
  refine ⟨⟨h1, fun g hg => ?_, fun g hg => ?_, fun g hg => h3 g hg⟩, Or.inl h4, h5, h6, fun h => (by cases h), fun h => (by cases h)⟩
  · show I 1 (1 + g) = nI 0; rw [h2 (1 + g) (by omega) (by omega), nI_0]
  · show I 1 (9 + g) = nI 0; rw [h2 (9 + g) (by omega) (by omega), nI_0]
theorem nest_in : (Cond.methodLinkNest RX5 26 yX0_init "GraveRows" ∈ lw_tbl ∧ Cond.methodLinkNest RX0 35 yX3_init "GraveRows" ∈ lw_tbl ∧ Cond.methodLinkNest RX0 42 yX4_init "GraveRows" ∈ lw_tbl ∧ Cond.methodLinkNest RX3 3 yX1_init "GraveRows" ∈ lw_tbl ∧ Cond.methodLinkNest RX4 3 yX1_init "GraveRows" ∈ lw_tbl) ∧ Cond.arrayOver (.object "GraveRows$Dig") ∈ lw_tbl ∧ Cond.methodLinkNest RX2 31 yX5_isMember "GraveRows" ∈ lw_tbl ∧ Cond.methodLinkNest RX0 47 yX5_isMember "GraveRows" ∈ lw_tbl ∧ Cond.declares y_CostNext ∈ lw_tbl := by
  refine ⟨⟨?_, ?_, ?_, ?_, ?_⟩, ?_, ?_, ?_, ?_⟩ <;> decide +kernel
theorem ins_L5 : Cond.instantiable RX5 6 ∈ x_good := by decide +kernel
theorem ins_L6 : Cond.instantiable RX6 17 ∈ x_good := by decide +kernel
theorem cl_L_7 : Cond.classLink RL 7 RX5 ∈ x_good := by decide +kernel
theorem cl_L_10 : Cond.classLink RL 10 RX6 ∈ x_good := by decide +kernel
set_option maxRecDepth 20000 in
/-- THE LAW, from its entry -/
theorem whole_start {p : Program} {e : Env} {s : State} {m : MethodId} {below : List Frame} {meth : Method} {c : Code} (l : Launch) (hflags : l.flags = flags0) {b L : Nat} {xs : Nat → Int32} (hL : L ≤ 2048) (C0 : lw_At p s m meth c b L xs) : W p l e room_1 s m #[Value.ref b] below meth c s.heap [] 0 0 (lw_Z below #[Value.ref b] s) (entryFrame m ([Value.ref b] : List Value).toArray 4) := by
  obtain ⟨hx, hb, hr, hml, hown, hts, hX, hbl, hlocks, hgv⟩ := id C0
  have hw : ∀ w ∈ x_good, w.before #[Value.ref b] s = true := fun w h => hts w (List.mem_filter.mp h).1
  have hA : ∀ q : Nat, s.heap.size ≤ q → (fun q : Nat => s.heap.size ≤ q) q := fun _ h => h
  obtain ⟨c0, iS0, hKn0⟩ := u_known (C := RX0) (T := TX0) (N := 14) (n := 14) hw x_wX0 (hw _ ins_X0)
  obtain ⟨c1, iS1, hKn1⟩ := u_known (C := RX2) (T := TX2) (N := 4) (n := 4) hw x_wX2 (hw _ ins_X2)
  obtain ⟨c2, iS2, hKn2⟩ := u_known (C := RX3) (T := TX3) (N := 1) (n := 1) hw x_wX3 (hw _ ins_X3)
  obtain ⟨c3, iS3, hKn3⟩ := u_known (C := RX4) (T := TX4) (N := 1) (n := 1) hw x_wX4 (hw _ ins_X4)
  obtain ⟨c4, iS4, hKn4⟩ := u_known (C := RX5) (T := TX5) (N := 6) (n := 6) hw x_wX5 (hw _ ins_L5)
  obtain ⟨c5, iS5, hKn5⟩ := u_known (C := RX6) (T := TX6) (N := 17) (n := 17) hw x_wX6 (hw _ ins_L6)
  obtain ⟨D, hKc⟩ : ∃ D : va_G, ∀ (k : Nat) (q : vw_C), vwCl[k]? = some q → u_Kn s q.1 q.2.1 q.2.2 (D.1 k) (D.2 k) := by
    refine ⟨(fun k => match k with | 0 => c0 | 1 => c1 | 2 => c2 | 3 => c3 | 4 => c4 | _ => c5, fun k => match k with | 0 => iS0 | 1 => iS1 | 2 => iS2 | 3 => iS3 | 4 => iS4 | _ => iS5), ?_⟩
    intro k q hq
    match k, hq with
    | 0, hq => cases hq; exact hKn0
    | 1, hq => cases hq; exact hKn1
    | 2, hq => cases hq; exact hKn2
    | 3, hq => cases hq; exact hKn3
    | 4, hq => cases hq; exact hKn4
    | 5, hq => cases hq; exact hKn5
    | k + 6, hq => simp [vwCl] at hq
  obtain ⟨cI, kI⟩ := arr_K (hw _ ac_int) (Or.inl rfl)
  obtain ⟨cB, kB⟩ := arr_K (hw _ ac_bool) (Or.inr rfl)
  obtain ⟨⟨n1, n2, n3, n4, n5⟩, n6, n7, n8, n9⟩ := nest_in
  have hxN : xNw s := ⟨va_Nw.of rfl (hts _ n7), va_Nw.of rfl (hts _ n8), va_Nw.of rfl (hts _ n9)⟩
  have hyN : yNw s := ⟨va_Nw.of rfl (hts _ n1), va_Nw.of rfl (hts _ n2), va_Nw.of rfl (hts _ n3), va_Nw.of rfl (hts _ n4), va_Nw.of rfl (hts _ n5), va_AO.of (hts _ n6), hxN⟩
  have hS : va_S (fun q : Nat => s.heap.size ≤ q) s.heap s.heap [] := va_S.rf
  have hK : va_K D vwCl [(cI, .int), (cB, .boolean)] s := ⟨hKc, fun k q h => by
    match k, h with
    | 0, h => cases h; exact kI
    | 1, h => cases h; exact kB
    | k + 2, h => simp at h⟩
  have hP : va_P D vwCl [] s.heap := fun k q h => by simp at h
  have hD : va_D (fun q : Nat => s.heap.size ≤ q) [] := ⟨fun i j p q h => by simp at h, fun k q h => by simp at h⟩
  have hl := lv_entry ([.ref b]) (n := 4) (Nat.le_of_ble_eq_true rfl)
  rw [lg_entry_eq]
  generalize (lg_sl ([.ref b]) ++ List.replicate (4 - (lg_sl ([.ref b])).length) Slot.unset).toArray = ls at hl ⊢
  have hl : lv_has ls 4 [(0, .ref b)] := hl
  refine va_new (ci := 4) (fs := [.null, .null, .int 0, .null, .int 0, .int 0]) (C := RX5) (T := TX5) (N := 6) hx hb hw x_wX5 tyX5 tyX5_ok hown (hw _ cl_L_7) (hw _ ins_L5) (hw _ ini_X5) hK hP hD hS hA rfl (fun j hj => by rcases (show j = 0 ∨ j = 1 ∨ j = 2 ∨ j = 3 ∨ j = 4 ∨ j = 5 by omega) with rfl | rfl | rfl | rfl | rfl | rfl <;> rfl) (Nat.le_of_ble_eq_true rfl) (Nat.le_of_ble_eq_true rfl) dL_law_0 (fun qa H hP hD hS => ?_)
  have hP : va_P D vwCl [(qa, .inr (4, [.null, .null, .int 0, .null, .int 0, .int 0]))] H := hP
  have hD : va_D (fun q : Nat => s.heap.size ≤ q) [(qa, .inr (4, [.null, .null, .int 0, .null, .int 0, .int 0]))] := hD
  refine lv_dup hx hb dL_law_3 rfl ?_
  refine y_back (D := D) (mc := rmX5.cells) (ms := rmX5.slots) (ws0 := [(qa, .inr (4, [.null, .null, .int 0, .null, .int 0, .int 0]))]) (wr := []) (P' := pX5 D qa cI cB) [0] [] hP hD hS hA rfl rfl (by decide) (by decide) (va_runI (As := []) (rest := [.ref qa]) ⟨hx, hb, hml, hown, hw⟩ (i_X5 (D := D) (h0 := qa) (cI := cI) (cB := cB) l H.size) ⟨callB_of 0 hw (x_goodIn ct_X5_init.1) rfl rfl rfl (hw _ ini_X5) (hw _ ml_L_9) ct_X5_init.2.2.1 ⟨Nat.le_of_ble_eq_true rfl, Nat.le_of_ble_eq_true rfl⟩, rfl, hw _ in_X5_init⟩ ⟨y_blind, fun U hU hW => ⟨rfl, by rw [hU], by rw [hU]; exact hP, va_K.moved hW.alike hK, hyN.warm hW, hD.weaken (fun _ _ _ _ => trivial)⟩⟩ rfl rfl hl.1 rfl (lv_room (Nat.le_of_ble_eq_true rfl)) dL_law_4 ⟨Nat.le_of_ble_eq_true rfl, Nat.le_of_ble_eq_true rfl⟩) (fun w1 tys1 H1 locs1 hp hP1 hD1 hS1 hK1 => ?_)
  obtain ⟨cD, ad, I, e0, rfl, hPx, hDx, hf1⟩ := hp
  have hP := hPx H1 hP1
  have hD := hDx _ hD1
  have hK : va_K D vwCl [(cI, .int), (cB, .boolean), (cD, .object "GraveRows$Dig")] s := hK1
  refine lv_astore_n (lv' := [(1, .ref qa), (0, .ref b)]) hx hb dL_law_7 rfl hl (by decide) rfl (fun ls hl => ?_)
  refine va_new (ci := 5) (fs := [.null, .null, .null, .null, .int 0, .int 0, .int 0, .int 0, .null, .null, .null, .null, .null, .null, .null, .int 0, .null]) (C := RX6) (T := TX6) (N := 17) hx hb hw x_wX6 tyX6 tyX6_ok hown (hw _ cl_L_10) (hw _ ins_L6) (hw _ ini_X6) hK hP hD hS1 hA rfl (fun j hj => by rcases (show j = 0 ∨ j = 1 ∨ j = 2 ∨ j = 3 ∨ j = 4 ∨ j = 5 ∨ j = 6 ∨ j = 7 ∨ j = 8 ∨ j = 9 ∨ j = 10 ∨ j = 11 ∨ j = 12 ∨ j = 13 ∨ j = 14 ∨ j = 15 ∨ j = 16 by omega) with rfl | rfl | rfl | rfl | rfl | rfl | rfl | rfl | rfl | rfl | rfl | rfl | rfl | rfl | rfl | rfl | rfl <;> rfl) (Nat.le_of_ble_eq_true rfl) (Nat.le_of_ble_eq_true rfl) dL_law_8 (fun qb H2 hP2 hD2 hS2 => ?_)
  refine lv_dup hx hb dL_law_11 rfl ?_
  have hlen : (xw LX (yG D cI cB cD ad) I).length = 26 := by simp [xw, LX]
  have hC6 : [26].map (fun i => (xw LX (yG D cI cB cD ad) I ++ [(qb, (.inr (5, [.null, .null, .null, .null, .int 0, .int 0, .int 0, .int 0, .null, .null, .null, .null, .null, .null, .null, .int 0, .null]) : va_E))])[i]?) = [(qb, (.inr (5, [.null, .null, .null, .null, .int 0, .int 0, .int 0, .int 0, .null, .null, .null, .null, .null, .null, .null, .int 0, .null]) : va_E))].map some := by
    rw [List.map_cons, List.getElem?_append_right (by omega), hlen]; rfl
  refine y_back (D := D) (mc := rmX6.cells) (ms := rmX6.slots) (ws0 := [(qb, .inr (5, [.null, .null, .null, .null, .int 0, .int 0, .int 0, .int 0, .null, .null, .null, .null, .null, .null, .null, .int 0, .null]))]) (wr := xw LX (yG D cI cB cD ad) I) (P' := pX6 D qb cI cB cD) [26] (List.range 26) hP2 hD2 hS2 hA hC6 (rng_l hlen) (by decide) (by decide) (va_runI (As := []) (rest := [.ref qb]) ⟨hx, hb, hml, hown, hw⟩ (i_X6 (D := D) (h0 := qb) (cI := cI) (cB := cB) (cD := cD) l H2.size) ⟨callB_of 0 hw (x_goodIn ct_X6_init.1) rfl rfl rfl (hw _ ini_X6) (hw _ ml_L_12) ct_X6_init.2.2.1 ⟨Nat.le_of_ble_eq_true rfl, Nat.le_of_ble_eq_true rfl⟩, rfl, hw _ in_X6_init⟩ ⟨y_blind, fun U hU hW => ⟨rfl, by rw [hU], by rw [hU]; exact P_r hP2, va_K.moved hW.alike hK, hyN.warm hW, (D_l (D_swap hD2)).weaken (fun _ _ _ _ => trivial)⟩⟩ rfl rfl hl.1 rfl (lv_room (Nat.le_of_ble_eq_true rfl)) dL_law_12 ⟨Nat.le_of_ble_eq_true rfl, Nat.le_of_ble_eq_true rfl⟩) (fun w1 tys1 H3 locs3 hp hP3 hD3 hS3 hK3 => ?_)
  obtain ⟨ad2, J, e2, rfl, hf2⟩ := hp
  refine lv_astore_n (lv' := [(2, .ref qb), (1, .ref qa), (0, .ref b)]) hx hb dL_law_15 rfl hl (by decide) rfl (fun ls hl => ?_)
  refine lv_iconst hx hb dL_law_16 ic_0 ?_
  refine lv_istore_n (lv' := [(3, .int (nI 0)), (2, .ref qb), (1, .ref qa), (0, .ref b)]) hx hb dL_law_17 rfl hl (by decide) rfl (fun ls hl => ?_)
  refine W.widen (k := 40) (n := 10000) (Nat.le_of_ble_eq_true rfl) (Nat.le_of_ble_eq_true rfl) ?_
  subst e0
  subst e2
  exact law_loop ⟨C0, hL, hK, hxN, hw⟩ (L + 1) 0 W0 (Nat.zero_le L) (by omega) W0_ok I J H3 locs3 ls (CR_0 hf1) (MR_0 hf2) hP3 hD3 hS3 (lv_sub hl [0, 3, 2, 1] rfl)
