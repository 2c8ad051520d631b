/-! the constructors: printed by ctor.py -/
theorem in_obj : Cond.instanceMethod objectInit ∈ x_good := by decide +kernel
theorem co_obj : Cond.code objectInit ⟨#[0xb1]⟩ 1 none ∈ x_good := by decide +kernel
theorem cl_X5_9 : Cond.classLink RX5 9 RX2 ∈ x_good := by decide +kernel
theorem cl_X5_24 : Cond.classLink RX5 24 RX0 ∈ x_good := by decide +kernel
theorem cl_X0_33 : Cond.classLink RX0 33 RX3 ∈ x_good := by decide +kernel
theorem cl_X0_40 : Cond.classLink RX0 40 RX4 ∈ x_good := by decide +kernel
theorem ins_X0 : Cond.instantiable RX0 14 ∈ x_good := by decide +kernel
theorem ins_X2 : Cond.instantiable RX2 4 ∈ x_good := by decide +kernel
theorem ins_X3 : Cond.instantiable RX3 1 ∈ x_good := by decide +kernel
theorem ins_X4 : Cond.instantiable RX4 1 ∈ x_good := by decide +kernel
section YC
variable {D : va_G} {cI cB : ClassId} {h0 : Nat}
def rmX1 : Room := { frames := 1, cells := 0, slots := 0, locals := 12 }
theorem i_X1 : Cy D yX1_init mX1_init rmX1 [.ref h0] [] [] (fun w _ => w = []) := by
  refine Cy.of (by decide) rfl rfl (Nat.le_of_ble_eq_true rfl) ?_
  show Yx D [] _ _ _ 0 [(0, .ref h0)] [] [] 0 0
  refine y_aload_n 0 0 dX1_init_0 rfl rfl ?_
  refine y_obj ml_X1_1 in_obj co_obj dX1_init_1 (by decide) ?_
  refine y_ret dX1_init_4 rfl (Nat.le_of_ble_eq_true rfl) (Nat.le_of_ble_eq_true rfl) ?_
  rfl
def rmX3 : Room := { frames := 2, cells := 1, slots := 8, locals := 32 }
def pX3 (h0 : Nat) (cI : ClassId) (w : va_W) (_ : yT) : Prop := ∃ q1, w = [(h0, .inr (2, [.ref q1])), (q1, .inl (cI, 8, .inl (fun _ => 0)))]
theorem i_X3 : Cy D yX3_init mX3_init rmX3 [.ref h0] [(cI, .int)] [(h0, .inr (2, [.null]))] (pX3 h0 cI) := by
  refine Cy.of (by decide) rfl rfl (Nat.le_of_ble_eq_true rfl) ?_
  show Yx D [(cI, .int)] _ _ _ 0 [(0, .ref h0)] [] [(h0, .inr (2, [.null]))] 0 0
  refine y_aload_n 0 0 dX3_init_0 rfl rfl ?_
  refine y_callN [] [0] [] (wr := [(h0, .inr (2, [.null]))]) (fun _ h => h.2.2.2.1) in_X1_init ct_X1_init rfl rfl (i_X1 (D := D)) dX3_init_1 rfl rfl (by decide) (by decide) (by decide) rfl (by decide) (by decide) (Nat.le_of_ble_eq_true rfl) (fun w1 tys1 h1 => ?_)
  subst h1
  show Yx D [(cI, .int)] _ _ _ 4 [(0, .ref h0)] [] [(h0, .inr (2, [.null]))] 0 0
  refine y_aload_n 0 0 dX3_init_4 rfl rfl ?_
  refine y_bipush dX3_init_5 bp_8 ?_
  refine y_newaI 0 dX3_init_7 rfl rfl (by decide) (Nat.le_of_ble_eq_true rfl) (Nat.le_of_ble_eq_true rfl) (fun q1 => ?_)
  show Yx D [(cI, .int)] _ _ _ 9 [(0, .ref h0)] [.ref q1, .ref h0] [(h0, .inr (2, [.null])), (q1, .inl (cI, 8, .inl (fun _ => 0)))] 1 8
  refine y_putF 2 0 0 (ty := .array .int) (ws' := [(h0, .inr (2, [.ref q1])), (q1, .inl (cI, 8, .inl (fun _ => 0)))]) rfl rfl (by decide) fl_X3_9 rfl rfl (by decide +kernel) rfl rfl rfl dX3_init_9 rfl ?_
  refine y_ret dX3_init_12 rfl (Nat.le_of_ble_eq_true rfl) (Nat.le_of_ble_eq_true rfl) ?_
  exact ⟨q1, rfl⟩
def rmX4 : Room := { frames := 2, cells := 1, slots := 8, locals := 32 }
def pX4 (h0 : Nat) (cI : ClassId) (w : va_W) (_ : yT) : Prop := ∃ q1, w = [(h0, .inr (3, [.ref q1])), (q1, .inl (cI, 8, .inl (fun _ => 0)))]
theorem i_X4 : Cy D yX4_init mX4_init rmX4 [.ref h0] [(cI, .int)] [(h0, .inr (3, [.null]))] (pX4 h0 cI) := by
  refine Cy.of (by decide) rfl rfl (Nat.le_of_ble_eq_true rfl) ?_
  show Yx D [(cI, .int)] _ _ _ 0 [(0, .ref h0)] [] [(h0, .inr (3, [.null]))] 0 0
  refine y_aload_n 0 0 dX4_init_0 rfl rfl ?_
  refine y_callN [] [0] [] (wr := [(h0, .inr (3, [.null]))]) (fun _ h => h.2.2.2.2.1) in_X1_init ct_X1_init rfl rfl (i_X1 (D := D)) dX4_init_1 rfl rfl (by decide) (by decide) (by decide) rfl (by decide) (by decide) (Nat.le_of_ble_eq_true rfl) (fun w1 tys1 h1 => ?_)
  subst h1
  show Yx D [(cI, .int)] _ _ _ 4 [(0, .ref h0)] [] [(h0, .inr (3, [.null]))] 0 0
  refine y_aload_n 0 0 dX4_init_4 rfl rfl ?_
  refine y_bipush dX4_init_5 bp_8 ?_
  refine y_newaI 0 dX4_init_7 rfl rfl (by decide) (Nat.le_of_ble_eq_true rfl) (Nat.le_of_ble_eq_true rfl) (fun q1 => ?_)
  show Yx D [(cI, .int)] _ _ _ 9 [(0, .ref h0)] [.ref q1, .ref h0] [(h0, .inr (3, [.null])), (q1, .inl (cI, 8, .inl (fun _ => 0)))] 1 8
  refine y_putF 3 0 0 (ty := .array .int) (ws' := [(h0, .inr (3, [.ref q1])), (q1, .inl (cI, 8, .inl (fun _ => 0)))]) rfl rfl (by decide) fl_X4_9 rfl rfl (by decide +kernel) rfl rfl rfl dX4_init_9 rfl ?_
  refine y_ret dX4_init_12 rfl (Nat.le_of_ble_eq_true rfl) (Nat.le_of_ble_eq_true rfl) ?_
  exact ⟨q1, rfl⟩
def rmX2 : Room := { frames := 1, cells := 3, slots := 24, locals := 12 }
def pX2 (h0 : Nat) (cI : ClassId) (w : va_W) (_ : yT) : Prop := ∃ (q1 q2 q3 : Nat) (f : Nat → Int32), (∀ j, j < 8 → f j = nI j) ∧ w = [(h0, .inr (1, [.int (nI 4), .ref q1, .ref q2, .ref q3])), (q1, .inl (cI, 8, .inl (fun _ => 0))), (q2, .inl (cI, 8, .inl (fun _ => 0))), (q3, .inl (cI, 8, .inl f))]
theorem i_X2 : Cy D yX2_init mX2_init rmX2 [.ref h0] [(cI, .int)] [(h0, .inr (1, [.int 0, .null, .null, .null]))] (pX2 h0 cI) := by
  refine Cy.of (by decide) rfl rfl (Nat.le_of_ble_eq_true rfl) ?_
  show Yx D [(cI, .int)] _ _ _ 0 [(0, .ref h0)] [] [(h0, .inr (1, [.int 0, .null, .null, .null]))] 0 0
  refine y_aload_n 0 0 dX2_init_0 rfl rfl ?_
  refine y_obj ml_X2_3 in_obj co_obj dX2_init_1 (by decide) ?_
  refine y_aload_n 0 0 dX2_init_4 rfl rfl ?_
  refine y_iconst dX2_init_5 ic_4 ?_
  refine y_put 1 0 0 (ty := .int) (ws' := [(h0, .inr (1, [.int (nI 4), .null, .null, .null]))]) rfl rfl (by decide) fl_X2_9 rfl (by decide +kernel) rfl rfl rfl dX2_init_6 rfl ?_
  refine y_aload_n 0 0 dX2_init_9 rfl rfl ?_
  refine y_bipush dX2_init_10 bp_8 ?_
  refine y_newaI 0 dX2_init_12 rfl rfl (by decide) (Nat.le_of_ble_eq_true rfl) (Nat.le_of_ble_eq_true rfl) (fun q1 => ?_)
  show Yx D [(cI, .int)] _ _ _ 14 [(0, .ref h0)] [.ref q1, .ref h0] [(h0, .inr (1, [.int (nI 4), .null, .null, .null])), (q1, .inl (cI, 8, .inl (fun _ => 0)))] 1 8
  refine y_putF 1 1 0 (ty := .array .int) (ws' := [(h0, .inr (1, [.int (nI 4), .ref q1, .null, .null])), (q1, .inl (cI, 8, .inl (fun _ => 0)))]) rfl rfl (by decide) fl_X2_15 rfl rfl (by decide +kernel) rfl rfl rfl dX2_init_14 rfl ?_
  refine y_aload_n 0 0 dX2_init_17 rfl rfl ?_
  refine y_bipush dX2_init_18 bp_8 ?_
  refine y_newaI 0 dX2_init_20 rfl rfl (by decide) (Nat.le_of_ble_eq_true rfl) (Nat.le_of_ble_eq_true rfl) (fun q2 => ?_)
  show Yx D [(cI, .int)] _ _ _ 22 [(0, .ref h0)] [.ref q2, .ref h0] [(h0, .inr (1, [.int (nI 4), .ref q1, .null, .null])), (q1, .inl (cI, 8, .inl (fun _ => 0))), (q2, .inl (cI, 8, .inl (fun _ => 0)))] 2 16
  refine y_putF 1 2 0 (ty := .array .int) (ws' := [(h0, .inr (1, [.int (nI 4), .ref q1, .ref q2, .null])), (q1, .inl (cI, 8, .inl (fun _ => 0))), (q2, .inl (cI, 8, .inl (fun _ => 0)))]) rfl rfl (by decide) fl_X2_19 rfl rfl (by decide +kernel) rfl rfl rfl dX2_init_22 rfl ?_
  refine y_aload_n 0 0 dX2_init_25 rfl rfl ?_
  refine y_bipush dX2_init_26 bp_8 ?_
  refine y_newaI 0 dX2_init_28 rfl rfl (by decide) (Nat.le_of_ble_eq_true rfl) (Nat.le_of_ble_eq_true rfl) (fun q3 => ?_)
  show Yx D [(cI, .int)] _ _ _ 30 [(0, .ref h0)] [.ref q3, .ref h0] [(h0, .inr (1, [.int (nI 4), .ref q1, .ref q2, .null])), (q1, .inl (cI, 8, .inl (fun _ => 0))), (q2, .inl (cI, 8, .inl (fun _ => 0))), (q3, .inl (cI, 8, .inl (fun _ => 0)))] 3 24
  refine y_putF 1 3 0 (ty := .array .int) (ws' := [(h0, .inr (1, [.int (nI 4), .ref q1, .ref q2, .ref q3])), (q1, .inl (cI, 8, .inl (fun _ => 0))), (q2, .inl (cI, 8, .inl (fun _ => 0))), (q3, .inl (cI, 8, .inl (fun _ => 0)))]) rfl rfl (by decide) fl_X2_22 rfl rfl (by decide +kernel) rfl rfl rfl dX2_init_30 rfl ?_
  refine y_iconst dX2_init_33 ic_0 ?_
  refine y_istore_n 1 (lv' := [(1, .int (nI 0)), (0, .ref h0)]) dX2_init_34 rfl (by decide) rfl ?_
  refine y_iload_n 1 0 dX2_init_35 rfl rfl ?_
  refine y_bipush dX2_init_36 bp_8 ?_
  refine y_geF 54 dX2_init_38 rfl (by decide +kernel) ?_
  refine y_aload_n 0 1 dX2_init_41 rfl rfl ?_
  refine y_get 1 3 0 rfl rfl (by decide) fl_X2_22 rfl dX2_init_42 ?_
  refine y_iload_n 1 0 dX2_init_45 rfl rfl ?_
  refine y_iload_n 1 0 dX2_init_46 rfl rfl ?_
  refine y_iast 3 0 (ws' := [(h0, .inr (1, [.int (nI 4), .ref q1, .ref q2, .ref q3])), (q1, .inl (cI, 8, .inl (fun _ => 0))), (q2, .inl (cI, 8, .inl (fun _ => 0))), (q3, .inl (cI, 8, .inl (upd (fun _ => 0) 0 (nI 0))))]) rfl rfl rfl (by decide) (by decide) dX2_init_47 rfl ?_
  refine y_iinc 1 0 (v := nI 1) (lv' := [(1, .int (nI 1)), (0, .ref h0)]) dX2_init_48 rfl (inc_1 0) (by decide) rfl ?_
  refine y_goto (tgt := 35) dX2_init_51 rfl ?_
  refine y_iload_n 1 0 dX2_init_35 rfl rfl ?_
  refine y_bipush dX2_init_36 bp_8 ?_
  refine y_geF 54 dX2_init_38 rfl (by decide +kernel) ?_
  refine y_aload_n 0 1 dX2_init_41 rfl rfl ?_
  refine y_get 1 3 0 rfl rfl (by decide) fl_X2_22 rfl dX2_init_42 ?_
  refine y_iload_n 1 0 dX2_init_45 rfl rfl ?_
  refine y_iload_n 1 0 dX2_init_46 rfl rfl ?_
  refine y_iast 3 0 (ws' := [(h0, .inr (1, [.int (nI 4), .ref q1, .ref q2, .ref q3])), (q1, .inl (cI, 8, .inl (fun _ => 0))), (q2, .inl (cI, 8, .inl (fun _ => 0))), (q3, .inl (cI, 8, .inl (upd (upd (fun _ => 0) 0 (nI 0)) 1 (nI 1))))]) rfl rfl rfl (by decide) (by decide) dX2_init_47 rfl ?_
  refine y_iinc 1 0 (v := nI 2) (lv' := [(1, .int (nI 2)), (0, .ref h0)]) dX2_init_48 rfl (inc_1 1) (by decide) rfl ?_
  refine y_goto (tgt := 35) dX2_init_51 rfl ?_
  refine y_iload_n 1 0 dX2_init_35 rfl rfl ?_
  refine y_bipush dX2_init_36 bp_8 ?_
  refine y_geF 54 dX2_init_38 rfl (by decide +kernel) ?_
  refine y_aload_n 0 1 dX2_init_41 rfl rfl ?_
  refine y_get 1 3 0 rfl rfl (by decide) fl_X2_22 rfl dX2_init_42 ?_
  refine y_iload_n 1 0 dX2_init_45 rfl rfl ?_
  refine y_iload_n 1 0 dX2_init_46 rfl rfl ?_
  refine y_iast 3 0 (ws' := [(h0, .inr (1, [.int (nI 4), .ref q1, .ref q2, .ref q3])), (q1, .inl (cI, 8, .inl (fun _ => 0))), (q2, .inl (cI, 8, .inl (fun _ => 0))), (q3, .inl (cI, 8, .inl (upd (upd (upd (fun _ => 0) 0 (nI 0)) 1 (nI 1)) 2 (nI 2))))]) rfl rfl rfl (by decide) (by decide) dX2_init_47 rfl ?_
  refine y_iinc 1 0 (v := nI 3) (lv' := [(1, .int (nI 3)), (0, .ref h0)]) dX2_init_48 rfl (inc_1 2) (by decide) rfl ?_
  refine y_goto (tgt := 35) dX2_init_51 rfl ?_
  refine y_iload_n 1 0 dX2_init_35 rfl rfl ?_
  refine y_bipush dX2_init_36 bp_8 ?_
  refine y_geF 54 dX2_init_38 rfl (by decide +kernel) ?_
  refine y_aload_n 0 1 dX2_init_41 rfl rfl ?_
  refine y_get 1 3 0 rfl rfl (by decide) fl_X2_22 rfl dX2_init_42 ?_
  refine y_iload_n 1 0 dX2_init_45 rfl rfl ?_
  refine y_iload_n 1 0 dX2_init_46 rfl rfl ?_
  refine y_iast 3 0 (ws' := [(h0, .inr (1, [.int (nI 4), .ref q1, .ref q2, .ref q3])), (q1, .inl (cI, 8, .inl (fun _ => 0))), (q2, .inl (cI, 8, .inl (fun _ => 0))), (q3, .inl (cI, 8, .inl (upd (upd (upd (upd (fun _ => 0) 0 (nI 0)) 1 (nI 1)) 2 (nI 2)) 3 (nI 3))))]) rfl rfl rfl (by decide) (by decide) dX2_init_47 rfl ?_
  refine y_iinc 1 0 (v := nI 4) (lv' := [(1, .int (nI 4)), (0, .ref h0)]) dX2_init_48 rfl (inc_1 3) (by decide) rfl ?_
  refine y_goto (tgt := 35) dX2_init_51 rfl ?_
  refine y_iload_n 1 0 dX2_init_35 rfl rfl ?_
  refine y_bipush dX2_init_36 bp_8 ?_
  refine y_geF 54 dX2_init_38 rfl (by decide +kernel) ?_
  refine y_aload_n 0 1 dX2_init_41 rfl rfl ?_
  refine y_get 1 3 0 rfl rfl (by decide) fl_X2_22 rfl dX2_init_42 ?_
  refine y_iload_n 1 0 dX2_init_45 rfl rfl ?_
  refine y_iload_n 1 0 dX2_init_46 rfl rfl ?_
  refine y_iast 3 0 (ws' := [(h0, .inr (1, [.int (nI 4), .ref q1, .ref q2, .ref q3])), (q1, .inl (cI, 8, .inl (fun _ => 0))), (q2, .inl (cI, 8, .inl (fun _ => 0))), (q3, .inl (cI, 8, .inl (upd (upd (upd (upd (upd (fun _ => 0) 0 (nI 0)) 1 (nI 1)) 2 (nI 2)) 3 (nI 3)) 4 (nI 4))))]) rfl rfl rfl (by decide) (by decide) dX2_init_47 rfl ?_
  refine y_iinc 1 0 (v := nI 5) (lv' := [(1, .int (nI 5)), (0, .ref h0)]) dX2_init_48 rfl (inc_1 4) (by decide) rfl ?_
  refine y_goto (tgt := 35) dX2_init_51 rfl ?_
  refine y_iload_n 1 0 dX2_init_35 rfl rfl ?_
  refine y_bipush dX2_init_36 bp_8 ?_
  refine y_geF 54 dX2_init_38 rfl (by decide +kernel) ?_
  refine y_aload_n 0 1 dX2_init_41 rfl rfl ?_
  refine y_get 1 3 0 rfl rfl (by decide) fl_X2_22 rfl dX2_init_42 ?_
  refine y_iload_n 1 0 dX2_init_45 rfl rfl ?_
  refine y_iload_n 1 0 dX2_init_46 rfl rfl ?_
  refine y_iast 3 0 (ws' := [(h0, .inr (1, [.int (nI 4), .ref q1, .ref q2, .ref q3])), (q1, .inl (cI, 8, .inl (fun _ => 0))), (q2, .inl (cI, 8, .inl (fun _ => 0))), (q3, .inl (cI, 8, .inl (upd (upd (upd (upd (upd (upd (fun _ => 0) 0 (nI 0)) 1 (nI 1)) 2 (nI 2)) 3 (nI 3)) 4 (nI 4)) 5 (nI 5))))]) rfl rfl rfl (by decide) (by decide) dX2_init_47 rfl ?_
  refine y_iinc 1 0 (v := nI 6) (lv' := [(1, .int (nI 6)), (0, .ref h0)]) dX2_init_48 rfl (inc_1 5) (by decide) rfl ?_
  refine y_goto (tgt := 35) dX2_init_51 rfl ?_
  refine y_iload_n 1 0 dX2_init_35 rfl rfl ?_
  refine y_bipush dX2_init_36 bp_8 ?_
  refine y_geF 54 dX2_init_38 rfl (by decide +kernel) ?_
  refine y_aload_n 0 1 dX2_init_41 rfl rfl ?_
  refine y_get 1 3 0 rfl rfl (by decide) fl_X2_22 rfl dX2_init_42 ?_
  refine y_iload_n 1 0 dX2_init_45 rfl rfl ?_
  refine y_iload_n 1 0 dX2_init_46 rfl rfl ?_
  refine y_iast 3 0 (ws' := [(h0, .inr (1, [.int (nI 4), .ref q1, .ref q2, .ref q3])), (q1, .inl (cI, 8, .inl (fun _ => 0))), (q2, .inl (cI, 8, .inl (fun _ => 0))), (q3, .inl (cI, 8, .inl (upd (upd (upd (upd (upd (upd (upd (fun _ => 0) 0 (nI 0)) 1 (nI 1)) 2 (nI 2)) 3 (nI 3)) 4 (nI 4)) 5 (nI 5)) 6 (nI 6))))]) rfl rfl rfl (by decide) (by decide) dX2_init_47 rfl ?_
  refine y_iinc 1 0 (v := nI 7) (lv' := [(1, .int (nI 7)), (0, .ref h0)]) dX2_init_48 rfl (inc_1 6) (by decide) rfl ?_
  refine y_goto (tgt := 35) dX2_init_51 rfl ?_
  refine y_iload_n 1 0 dX2_init_35 rfl rfl ?_
  refine y_bipush dX2_init_36 bp_8 ?_
  refine y_geF 54 dX2_init_38 rfl (by decide +kernel) ?_
  refine y_aload_n 0 1 dX2_init_41 rfl rfl ?_
  refine y_get 1 3 0 rfl rfl (by decide) fl_X2_22 rfl dX2_init_42 ?_
  refine y_iload_n 1 0 dX2_init_45 rfl rfl ?_
  refine y_iload_n 1 0 dX2_init_46 rfl rfl ?_
  refine y_iast 3 0 (ws' := [(h0, .inr (1, [.int (nI 4), .ref q1, .ref q2, .ref q3])), (q1, .inl (cI, 8, .inl (fun _ => 0))), (q2, .inl (cI, 8, .inl (fun _ => 0))), (q3, .inl (cI, 8, .inl (upd (upd (upd (upd (upd (upd (upd (upd (fun _ => 0) 0 (nI 0)) 1 (nI 1)) 2 (nI 2)) 3 (nI 3)) 4 (nI 4)) 5 (nI 5)) 6 (nI 6)) 7 (nI 7))))]) rfl rfl rfl (by decide) (by decide) dX2_init_47 rfl ?_
  refine y_iinc 1 0 (v := nI 8) (lv' := [(1, .int (nI 8)), (0, .ref h0)]) dX2_init_48 rfl (inc_1 7) (by decide) rfl ?_
  refine y_goto (tgt := 35) dX2_init_51 rfl ?_
  refine y_iload_n 1 0 dX2_init_35 rfl rfl ?_
  refine y_bipush dX2_init_36 bp_8 ?_
  refine y_geT (tgt := 54) dX2_init_38 rfl (by decide +kernel) ?_
  refine y_ret dX2_init_54 rfl (Nat.le_of_ble_eq_true rfl) (Nat.le_of_ble_eq_true rfl) ?_
  exact ⟨q1, q2, q3, _, fun j hj => by rcases (show j = 0 ∨ j = 1 ∨ j = 2 ∨ j = 3 ∨ j = 4 ∨ j = 5 ∨ j = 6 ∨ j = 7 by omega) with rfl | rfl | rfl | rfl | rfl | rfl | rfl | rfl <;> rfl, rfl⟩
def rmX0 : Room := { frames := 3, cells := 11, slots := 8730, locals := 52 }
def pX0 (h0 : Nat) (cI : ClassId) (w : va_W) (_ : yT) : Prop := ∃ (q1 q2 q3 q4 q5 q6 q7 q8 q9 q10 q11 : Nat), w = [(h0, .inr (0, [.int 0, .int 0, .int 0, .int 0, .int 0, .ref q1, .ref q2, .ref q3, .ref q4, .ref q5, .ref q6, .ref q7, .ref q8, .ref q10])), (q1, .inl (cI, 2048, .inl (fun _ => 0))), (q2, .inl (cI, 2048, .inl (fun _ => 0))), (q3, .inl (cI, 2048, .inl (fun _ => 0))), (q4, .inl (cI, 2048, .inl (fun _ => 0))), (q5, .inl (cI, 256, .inl (fun _ => 0))), (q6, .inl (cI, 256, .inl (fun _ => 0))), (q7, .inl (cI, 8, .inl (fun _ => 0))), (q8, .inr (2, [.ref q9])), (q9, .inl (cI, 8, .inl (fun _ => 0))), (q10, .inr (3, [.ref q11])), (q11, .inl (cI, 8, .inl (fun _ => 0)))]
theorem i_X0 : Cy D yX0_init mX0_init rmX0 [.ref h0] [(cI, .int)] [(h0, .inr (0, [.int 0, .int 0, .int 0, .int 0, .int 0, .null, .null, .null, .null, .null, .null, .null, .null, .null]))] (pX0 h0 cI) := by
  refine Cy.of (by decide) rfl rfl (Nat.le_of_ble_eq_true rfl) ?_
  show Yx D [(cI, .int)] _ _ _ 0 [(0, .ref h0)] [] [(h0, .inr (0, [.int 0, .int 0, .int 0, .int 0, .int 0, .null, .null, .null, .null, .null, .null, .null, .null, .null]))] 0 0
  refine y_aload_n 0 0 dX0_init_0 rfl rfl ?_
  refine y_obj ml_X0_3 in_obj co_obj dX0_init_1 (by decide) ?_
  refine y_aload_n 0 0 dX0_init_4 rfl rfl ?_
  refine y_sipush dX0_init_5 sp_2048 ?_
  refine y_newaI 0 dX0_init_8 rfl rfl (by decide) (Nat.le_of_ble_eq_true rfl) (Nat.le_of_ble_eq_true rfl) (fun q1 => ?_)
  show Yx D [(cI, .int)] _ _ _ 10 [(0, .ref h0)] [.ref q1, .ref h0] [(h0, .inr (0, [.int 0, .int 0, .int 0, .int 0, .int 0, .null, .null, .null, .null, .null, .null, .null, .null, .null])), (q1, .inl (cI, 2048, .inl (fun _ => 0)))] 1 2048
  refine y_putF 0 5 0 (ty := .array .int) (ws' := [(h0, .inr (0, [.int 0, .int 0, .int 0, .int 0, .int 0, .ref q1, .null, .null, .null, .null, .null, .null, .null, .null])), (q1, .inl (cI, 2048, .inl (fun _ => 0)))]) rfl rfl (by decide) fl_X0_9 rfl rfl (by decide +kernel) rfl rfl rfl dX0_init_10 rfl ?_
  refine y_aload_n 0 0 dX0_init_13 rfl rfl ?_
  refine y_sipush dX0_init_14 sp_2048 ?_
  refine y_newaI 0 dX0_init_17 rfl rfl (by decide) (Nat.le_of_ble_eq_true rfl) (Nat.le_of_ble_eq_true rfl) (fun q2 => ?_)
  show Yx D [(cI, .int)] _ _ _ 19 [(0, .ref h0)] [.ref q2, .ref h0] [(h0, .inr (0, [.int 0, .int 0, .int 0, .int 0, .int 0, .ref q1, .null, .null, .null, .null, .null, .null, .null, .null])), (q1, .inl (cI, 2048, .inl (fun _ => 0))), (q2, .inl (cI, 2048, .inl (fun _ => 0)))] 2 4096
  refine y_putF 0 6 0 (ty := .array .int) (ws' := [(h0, .inr (0, [.int 0, .int 0, .int 0, .int 0, .int 0, .ref q1, .ref q2, .null, .null, .null, .null, .null, .null, .null])), (q1, .inl (cI, 2048, .inl (fun _ => 0))), (q2, .inl (cI, 2048, .inl (fun _ => 0)))]) rfl rfl (by decide) fl_X0_15 rfl rfl (by decide +kernel) rfl rfl rfl dX0_init_19 rfl ?_
  refine y_aload_n 0 0 dX0_init_22 rfl rfl ?_
  refine y_sipush dX0_init_23 sp_2048 ?_
  refine y_newaI 0 dX0_init_26 rfl rfl (by decide) (Nat.le_of_ble_eq_true rfl) (Nat.le_of_ble_eq_true rfl) (fun q3 => ?_)
  show Yx D [(cI, .int)] _ _ _ 28 [(0, .ref h0)] [.ref q3, .ref h0] [(h0, .inr (0, [.int 0, .int 0, .int 0, .int 0, .int 0, .ref q1, .ref q2, .null, .null, .null, .null, .null, .null, .null])), (q1, .inl (cI, 2048, .inl (fun _ => 0))), (q2, .inl (cI, 2048, .inl (fun _ => 0))), (q3, .inl (cI, 2048, .inl (fun _ => 0)))] 3 6144
  refine y_putF 0 7 0 (ty := .array .int) (ws' := [(h0, .inr (0, [.int 0, .int 0, .int 0, .int 0, .int 0, .ref q1, .ref q2, .ref q3, .null, .null, .null, .null, .null, .null])), (q1, .inl (cI, 2048, .inl (fun _ => 0))), (q2, .inl (cI, 2048, .inl (fun _ => 0))), (q3, .inl (cI, 2048, .inl (fun _ => 0)))]) rfl rfl (by decide) fl_X0_18 rfl rfl (by decide +kernel) rfl rfl rfl dX0_init_28 rfl ?_
  refine y_aload_n 0 0 dX0_init_31 rfl rfl ?_
  refine y_sipush dX0_init_32 sp_2048 ?_
  refine y_newaI 0 dX0_init_35 rfl rfl (by decide) (Nat.le_of_ble_eq_true rfl) (Nat.le_of_ble_eq_true rfl) (fun q4 => ?_)
  show Yx D [(cI, .int)] _ _ _ 37 [(0, .ref h0)] [.ref q4, .ref h0] [(h0, .inr (0, [.int 0, .int 0, .int 0, .int 0, .int 0, .ref q1, .ref q2, .ref q3, .null, .null, .null, .null, .null, .null])), (q1, .inl (cI, 2048, .inl (fun _ => 0))), (q2, .inl (cI, 2048, .inl (fun _ => 0))), (q3, .inl (cI, 2048, .inl (fun _ => 0))), (q4, .inl (cI, 2048, .inl (fun _ => 0)))] 4 8192
  refine y_putF 0 8 0 (ty := .array .int) (ws' := [(h0, .inr (0, [.int 0, .int 0, .int 0, .int 0, .int 0, .ref q1, .ref q2, .ref q3, .ref q4, .null, .null, .null, .null, .null])), (q1, .inl (cI, 2048, .inl (fun _ => 0))), (q2, .inl (cI, 2048, .inl (fun _ => 0))), (q3, .inl (cI, 2048, .inl (fun _ => 0))), (q4, .inl (cI, 2048, .inl (fun _ => 0)))]) rfl rfl (by decide) fl_X0_21 rfl rfl (by decide +kernel) rfl rfl rfl dX0_init_37 rfl ?_
  refine y_aload_n 0 0 dX0_init_40 rfl rfl ?_
  refine y_sipush dX0_init_41 sp_256 ?_
  refine y_newaI 0 dX0_init_44 rfl rfl (by decide) (Nat.le_of_ble_eq_true rfl) (Nat.le_of_ble_eq_true rfl) (fun q5 => ?_)
  show Yx D [(cI, .int)] _ _ _ 46 [(0, .ref h0)] [.ref q5, .ref h0] [(h0, .inr (0, [.int 0, .int 0, .int 0, .int 0, .int 0, .ref q1, .ref q2, .ref q3, .ref q4, .null, .null, .null, .null, .null])), (q1, .inl (cI, 2048, .inl (fun _ => 0))), (q2, .inl (cI, 2048, .inl (fun _ => 0))), (q3, .inl (cI, 2048, .inl (fun _ => 0))), (q4, .inl (cI, 2048, .inl (fun _ => 0))), (q5, .inl (cI, 256, .inl (fun _ => 0)))] 5 8448
  refine y_putF 0 9 0 (ty := .array .int) (ws' := [(h0, .inr (0, [.int 0, .int 0, .int 0, .int 0, .int 0, .ref q1, .ref q2, .ref q3, .ref q4, .ref q5, .null, .null, .null, .null])), (q1, .inl (cI, 2048, .inl (fun _ => 0))), (q2, .inl (cI, 2048, .inl (fun _ => 0))), (q3, .inl (cI, 2048, .inl (fun _ => 0))), (q4, .inl (cI, 2048, .inl (fun _ => 0))), (q5, .inl (cI, 256, .inl (fun _ => 0)))]) rfl rfl (by decide) fl_X0_24 rfl rfl (by decide +kernel) rfl rfl rfl dX0_init_46 rfl ?_
  refine y_aload_n 0 0 dX0_init_49 rfl rfl ?_
  refine y_sipush dX0_init_50 sp_256 ?_
  refine y_newaI 0 dX0_init_53 rfl rfl (by decide) (Nat.le_of_ble_eq_true rfl) (Nat.le_of_ble_eq_true rfl) (fun q6 => ?_)
  show Yx D [(cI, .int)] _ _ _ 55 [(0, .ref h0)] [.ref q6, .ref h0] [(h0, .inr (0, [.int 0, .int 0, .int 0, .int 0, .int 0, .ref q1, .ref q2, .ref q3, .ref q4, .ref q5, .null, .null, .null, .null])), (q1, .inl (cI, 2048, .inl (fun _ => 0))), (q2, .inl (cI, 2048, .inl (fun _ => 0))), (q3, .inl (cI, 2048, .inl (fun _ => 0))), (q4, .inl (cI, 2048, .inl (fun _ => 0))), (q5, .inl (cI, 256, .inl (fun _ => 0))), (q6, .inl (cI, 256, .inl (fun _ => 0)))] 6 8704
  refine y_putF 0 10 0 (ty := .array .int) (ws' := [(h0, .inr (0, [.int 0, .int 0, .int 0, .int 0, .int 0, .ref q1, .ref q2, .ref q3, .ref q4, .ref q5, .ref q6, .null, .null, .null])), (q1, .inl (cI, 2048, .inl (fun _ => 0))), (q2, .inl (cI, 2048, .inl (fun _ => 0))), (q3, .inl (cI, 2048, .inl (fun _ => 0))), (q4, .inl (cI, 2048, .inl (fun _ => 0))), (q5, .inl (cI, 256, .inl (fun _ => 0))), (q6, .inl (cI, 256, .inl (fun _ => 0)))]) rfl rfl (by decide) fl_X0_27 rfl rfl (by decide +kernel) rfl rfl rfl dX0_init_55 rfl ?_
  refine y_aload_n 0 0 dX0_init_58 rfl rfl ?_
  refine y_bipush dX0_init_59 bp_8 ?_
  refine y_newaI 0 dX0_init_61 rfl rfl (by decide) (Nat.le_of_ble_eq_true rfl) (Nat.le_of_ble_eq_true rfl) (fun q7 => ?_)
  show Yx D [(cI, .int)] _ _ _ 63 [(0, .ref h0)] [.ref q7, .ref h0] [(h0, .inr (0, [.int 0, .int 0, .int 0, .int 0, .int 0, .ref q1, .ref q2, .ref q3, .ref q4, .ref q5, .ref q6, .null, .null, .null])), (q1, .inl (cI, 2048, .inl (fun _ => 0))), (q2, .inl (cI, 2048, .inl (fun _ => 0))), (q3, .inl (cI, 2048, .inl (fun _ => 0))), (q4, .inl (cI, 2048, .inl (fun _ => 0))), (q5, .inl (cI, 256, .inl (fun _ => 0))), (q6, .inl (cI, 256, .inl (fun _ => 0))), (q7, .inl (cI, 8, .inl (fun _ => 0)))] 7 8712
  refine y_putF 0 11 0 (ty := .array .int) (ws' := [(h0, .inr (0, [.int 0, .int 0, .int 0, .int 0, .int 0, .ref q1, .ref q2, .ref q3, .ref q4, .ref q5, .ref q6, .ref q7, .null, .null])), (q1, .inl (cI, 2048, .inl (fun _ => 0))), (q2, .inl (cI, 2048, .inl (fun _ => 0))), (q3, .inl (cI, 2048, .inl (fun _ => 0))), (q4, .inl (cI, 2048, .inl (fun _ => 0))), (q5, .inl (cI, 256, .inl (fun _ => 0))), (q6, .inl (cI, 256, .inl (fun _ => 0))), (q7, .inl (cI, 8, .inl (fun _ => 0)))]) rfl rfl (by decide) fl_X0_30 rfl rfl (by decide +kernel) rfl rfl rfl dX0_init_63 rfl ?_
  refine y_aload_n 0 0 dX0_init_66 rfl rfl ?_
  refine y_new 2 (N := 1) (C := RX3) (T := TX3) (fs := [.null]) tyX3 tyX3_ok rfl cl_X0_33 ins_X3 ini_X3 (fun j hj => by cases Nat.lt_one_iff.mp hj; rfl) dX0_init_67 (Nat.le_of_ble_eq_true rfl) (Nat.le_of_ble_eq_true rfl) (fun q8 => ?_)
  show Yx D [(cI, .int)] _ _ _ 70 [(0, .ref h0)] [.ref q8, .ref h0] [(h0, .inr (0, [.int 0, .int 0, .int 0, .int 0, .int 0, .ref q1, .ref q2, .ref q3, .ref q4, .ref q5, .ref q6, .ref q7, .null, .null])), (q1, .inl (cI, 2048, .inl (fun _ => 0))), (q2, .inl (cI, 2048, .inl (fun _ => 0))), (q3, .inl (cI, 2048, .inl (fun _ => 0))), (q4, .inl (cI, 2048, .inl (fun _ => 0))), (q5, .inl (cI, 256, .inl (fun _ => 0))), (q6, .inl (cI, 256, .inl (fun _ => 0))), (q7, .inl (cI, 8, .inl (fun _ => 0))), (q8, .inr (2, [.null]))] 8 8713
  refine y_dup dX0_init_70 rfl ?_
  refine y_callN [8] [0, 1, 2, 3, 4, 5, 6, 7] [0] (wr := [(h0, .inr (0, [.int 0, .int 0, .int 0, .int 0, .int 0, .ref q1, .ref q2, .ref q3, .ref q4, .ref q5, .ref q6, .ref q7, .null, .null])), (q1, .inl (cI, 2048, .inl (fun _ => 0))), (q2, .inl (cI, 2048, .inl (fun _ => 0))), (q3, .inl (cI, 2048, .inl (fun _ => 0))), (q4, .inl (cI, 2048, .inl (fun _ => 0))), (q5, .inl (cI, 256, .inl (fun _ => 0))), (q6, .inl (cI, 256, .inl (fun _ => 0))), (q7, .inl (cI, 8, .inl (fun _ => 0)))]) (fun _ h => h.2.1) in_X3_init ct_X3_init rfl rfl (i_X3 (D := D) (cI := cI) (h0 := q8)) dX0_init_71 rfl rfl (by decide) (by decide) (by decide) rfl (by decide) ⟨Nat.le_of_ble_eq_true rfl, Nat.le_of_ble_eq_true rfl⟩ (Nat.le_of_ble_eq_true rfl) (fun w1 tys1 h1 => ?_)
  obtain ⟨q9, rfl⟩ := h1
  show Yx D [(cI, .int)] _ _ _ 74 [(0, .ref h0)] [.ref q8, .ref h0] [(h0, .inr (0, [.int 0, .int 0, .int 0, .int 0, .int 0, .ref q1, .ref q2, .ref q3, .ref q4, .ref q5, .ref q6, .ref q7, .null, .null])), (q1, .inl (cI, 2048, .inl (fun _ => 0))), (q2, .inl (cI, 2048, .inl (fun _ => 0))), (q3, .inl (cI, 2048, .inl (fun _ => 0))), (q4, .inl (cI, 2048, .inl (fun _ => 0))), (q5, .inl (cI, 256, .inl (fun _ => 0))), (q6, .inl (cI, 256, .inl (fun _ => 0))), (q7, .inl (cI, 8, .inl (fun _ => 0))), (q8, .inr (2, [.ref q9])), (q9, .inl (cI, 8, .inl (fun _ => 0)))] 9 8721
  refine y_putF 0 12 0 (ty := .object "GraveRows$RunsBegun") (ws' := [(h0, .inr (0, [.int 0, .int 0, .int 0, .int 0, .int 0, .ref q1, .ref q2, .ref q3, .ref q4, .ref q5, .ref q6, .ref q7, .ref q8, .null])), (q1, .inl (cI, 2048, .inl (fun _ => 0))), (q2, .inl (cI, 2048, .inl (fun _ => 0))), (q3, .inl (cI, 2048, .inl (fun _ => 0))), (q4, .inl (cI, 2048, .inl (fun _ => 0))), (q5, .inl (cI, 256, .inl (fun _ => 0))), (q6, .inl (cI, 256, .inl (fun _ => 0))), (q7, .inl (cI, 8, .inl (fun _ => 0))), (q8, .inr (2, [.ref q9])), (q9, .inl (cI, 8, .inl (fun _ => 0)))]) rfl rfl (by decide) fl_X0_36 rfl rfl (by decide +kernel) rfl rfl rfl dX0_init_74 rfl ?_
  refine y_aload_n 0 0 dX0_init_77 rfl rfl ?_
  refine y_new 3 (N := 1) (C := RX4) (T := TX4) (fs := [.null]) tyX4 tyX4_ok rfl cl_X0_40 ins_X4 ini_X4 (fun j hj => by cases Nat.lt_one_iff.mp hj; rfl) dX0_init_78 (Nat.le_of_ble_eq_true rfl) (Nat.le_of_ble_eq_true rfl) (fun q10 => ?_)
  show Yx D [(cI, .int)] _ _ _ 81 [(0, .ref h0)] [.ref q10, .ref h0] [(h0, .inr (0, [.int 0, .int 0, .int 0, .int 0, .int 0, .ref q1, .ref q2, .ref q3, .ref q4, .ref q5, .ref q6, .ref q7, .ref q8, .null])), (q1, .inl (cI, 2048, .inl (fun _ => 0))), (q2, .inl (cI, 2048, .inl (fun _ => 0))), (q3, .inl (cI, 2048, .inl (fun _ => 0))), (q4, .inl (cI, 2048, .inl (fun _ => 0))), (q5, .inl (cI, 256, .inl (fun _ => 0))), (q6, .inl (cI, 256, .inl (fun _ => 0))), (q7, .inl (cI, 8, .inl (fun _ => 0))), (q8, .inr (2, [.ref q9])), (q9, .inl (cI, 8, .inl (fun _ => 0))), (q10, .inr (3, [.null]))] 10 8722
  refine y_dup dX0_init_81 rfl ?_
  refine y_callN [10] [0, 1, 2, 3, 4, 5, 6, 7, 8, 9] [0] (wr := [(h0, .inr (0, [.int 0, .int 0, .int 0, .int 0, .int 0, .ref q1, .ref q2, .ref q3, .ref q4, .ref q5, .ref q6, .ref q7, .ref q8, .null])), (q1, .inl (cI, 2048, .inl (fun _ => 0))), (q2, .inl (cI, 2048, .inl (fun _ => 0))), (q3, .inl (cI, 2048, .inl (fun _ => 0))), (q4, .inl (cI, 2048, .inl (fun _ => 0))), (q5, .inl (cI, 256, .inl (fun _ => 0))), (q6, .inl (cI, 256, .inl (fun _ => 0))), (q7, .inl (cI, 8, .inl (fun _ => 0))), (q8, .inr (2, [.ref q9])), (q9, .inl (cI, 8, .inl (fun _ => 0)))]) (fun _ h => h.2.2.1) in_X4_init ct_X4_init rfl rfl (i_X4 (D := D) (cI := cI) (h0 := q10)) dX0_init_82 rfl rfl (by decide) (by decide) (by decide) rfl (by decide) ⟨Nat.le_of_ble_eq_true rfl, Nat.le_of_ble_eq_true rfl⟩ (Nat.le_of_ble_eq_true rfl) (fun w1 tys1 h1 => ?_)
  obtain ⟨q11, rfl⟩ := h1
  show Yx D [(cI, .int)] _ _ _ 85 [(0, .ref h0)] [.ref q10, .ref h0] [(h0, .inr (0, [.int 0, .int 0, .int 0, .int 0, .int 0, .ref q1, .ref q2, .ref q3, .ref q4, .ref q5, .ref q6, .ref q7, .ref q8, .null])), (q1, .inl (cI, 2048, .inl (fun _ => 0))), (q2, .inl (cI, 2048, .inl (fun _ => 0))), (q3, .inl (cI, 2048, .inl (fun _ => 0))), (q4, .inl (cI, 2048, .inl (fun _ => 0))), (q5, .inl (cI, 256, .inl (fun _ => 0))), (q6, .inl (cI, 256, .inl (fun _ => 0))), (q7, .inl (cI, 8, .inl (fun _ => 0))), (q8, .inr (2, [.ref q9])), (q9, .inl (cI, 8, .inl (fun _ => 0))), (q10, .inr (3, [.ref q11])), (q11, .inl (cI, 8, .inl (fun _ => 0)))] 11 8730
  refine y_putF 0 13 0 (ty := .object "GraveRows$SwapsMade") (ws' := [(h0, .inr (0, [.int 0, .int 0, .int 0, .int 0, .int 0, .ref q1, .ref q2, .ref q3, .ref q4, .ref q5, .ref q6, .ref q7, .ref q8, .ref q10])), (q1, .inl (cI, 2048, .inl (fun _ => 0))), (q2, .inl (cI, 2048, .inl (fun _ => 0))), (q3, .inl (cI, 2048, .inl (fun _ => 0))), (q4, .inl (cI, 2048, .inl (fun _ => 0))), (q5, .inl (cI, 256, .inl (fun _ => 0))), (q6, .inl (cI, 256, .inl (fun _ => 0))), (q7, .inl (cI, 8, .inl (fun _ => 0))), (q8, .inr (2, [.ref q9])), (q9, .inl (cI, 8, .inl (fun _ => 0))), (q10, .inr (3, [.ref q11])), (q11, .inl (cI, 8, .inl (fun _ => 0)))]) rfl rfl (by decide) fl_X0_43 rfl rfl (by decide +kernel) rfl rfl rfl dX0_init_85 rfl ?_
  refine y_ret dX0_init_88 rfl (Nat.le_of_ble_eq_true rfl) (Nat.le_of_ble_eq_true rfl) ?_
  exact ⟨q1, q2, q3, q4, q5, q6, q7, q8, q9, q10, q11, rfl⟩
def rmX5 : Room := { frames := 4, cells := 25, slots := 8830, locals := 72 }
def yG (D : va_G) (cI cB cD : ClassId) (ad : Nat → Nat) : xG := (D, fun t => match t with | 0 => cI | 1 => cB | _ => cD, ad)
/-- the class's first memory -/
def fresh1 (I : xMem) : Prop := (∀ c, c = 1 ∨ c = 6 ∨ c = 10 → I c 0 = nI 4) ∧ (∀ c, c = 2 ∨ c = 3 ∨ c = 7 ∨ c = 8 ∨ c = 11 ∨ c = 12 → ∀ j, I c j = 0) ∧ (∀ c, c = 4 ∨ c = 9 ∨ c = 13 → ∀ j, j < 8 → I c j = nI j) ∧ I 0 2 = nI 0 ∧ I 0 4 = nI 0 ∧ I 0 5 = nI 0
def pX5 (D : va_G) (h0 : Nat) (cI cB : ClassId) (w : va_W) (t : yT) : Prop := ∃ (cD : ClassId) (ad : Nat → Nat) (I : xMem), ad 0 = h0 ∧ t = xtys (yG D cI cB cD ad) ∧ (∀ H, va_P D vwCl w H → va_P D vwCl (xw LX (yG D cI cB cD ad) I) H) ∧ (∀ A, va_D A w → va_D A (xw LX (yG D cI cB cD ad) I)) ∧ fresh1 I
theorem rar_P {w : va_W} {H : Heap} {i a n : Nat} {cA : ClassId} {f g : Nat → Option Nat} (hP : va_P D vwCl w H) (hi : w[i]? = some (a, .inl (cA, n, .inr (.inr (.inr (.inr f)))))) (hfg : ∀ j, j < n → f j = g j) : va_P D vwCl (w.set i (a, .inl (cA, n, .inr (.inr (.inr (.inr g)))))) H := by
  intro k q hk
  rw [List.getElem?_set] at hk
  by_cases e : i = k
  · subst e
    rw [if_pos rfl, if_pos (List.getElem?_eq_some_iff.mp hi).1] at hk
    have h1 : H[a]? = some (vp_cell cA (n, .inr (.inr (.inr (.inr f))))) := hP i _ hi
    cases hk
    show H[a]? = some (vp_cell cA (n, .inr (.inr (.inr (.inr g)))))
    rw [h1, vp_cell_q, vp_cell_q]
    unfold arrV
    congr 2
    congr 1
    funext j
    show va_rf (f j.val) = va_rf (g j.val)
    rw [hfg j.val j.isLt]
  · rw [if_neg e] at hk
    exact hP k q hk
theorem i_X5 : Cy D yX5_init mX5_init rmX5 [.ref h0] [(cI, .int), (cB, .boolean)] [(h0, .inr (4, [.null, .null, .int 0, .null, .int 0, .int 0]))] (pX5 D h0 cI cB) := by
  refine Cy.of (by decide) rfl rfl (Nat.le_of_ble_eq_true rfl) ?_
  show Yx D [(cI, .int), (cB, .boolean)] _ _ _ 0 [(0, .ref h0)] [] [(h0, .inr (4, [.null, .null, .int 0, .null, .int 0, .int 0]))] 0 0
  refine y_aload_n 0 0 dX5_init_0 rfl rfl ?_
  refine y_obj ml_X5_3 in_obj co_obj dX5_init_1 (by decide) ?_
  refine y_aload_n 0 0 dX5_init_4 rfl rfl ?_
  refine y_new 1 (N := 4) (C := RX2) (T := TX2) (fs := [.int 0, .null, .null, .null]) tyX2 tyX2_ok rfl cl_X5_9 ins_X2 ini_X2 (fun j hj => by rcases (show j = 0 ∨ j = 1 ∨ j = 2 ∨ j = 3 by omega) with rfl | rfl | rfl | rfl <;> rfl) dX5_init_5 (Nat.le_of_ble_eq_true rfl) (Nat.le_of_ble_eq_true rfl) (fun q1 => ?_)
  show Yx D [(cI, .int), (cB, .boolean)] _ _ _ 8 [(0, .ref h0)] [.ref q1, .ref h0] [(h0, .inr (4, [.null, .null, .int 0, .null, .int 0, .int 0])), (q1, .inr (1, [.int 0, .null, .null, .null]))] 1 4
  refine y_dup dX5_init_8 rfl ?_
  refine y_callI [1] [0] [0] (wr := [(h0, .inr (4, [.null, .null, .int 0, .null, .int 0, .int 0]))]) ml_X5_11 in_X2_init ct_X2_init rfl rfl (i_X2 (D := D) (cI := cI) (h0 := q1)) dX5_init_9 rfl rfl (by decide) (by decide) (by decide) rfl (by decide) ⟨Nat.le_of_ble_eq_true rfl, Nat.le_of_ble_eq_true rfl⟩ (Nat.le_of_ble_eq_true rfl) (fun w1 tys1 h1 => ?_)
  obtain ⟨q2, q3, q4, f4, hf4, rfl⟩ := h1
  show Yx D [(cI, .int), (cB, .boolean)] _ _ _ 12 [(0, .ref h0)] [.ref q1, .ref h0] [(h0, .inr (4, [.null, .null, .int 0, .null, .int 0, .int 0])), (q1, .inr (1, [.int (nI 4), .ref q2, .ref q3, .ref q4])), (q2, .inl (cI, 8, .inl (fun _ => 0))), (q3, .inl (cI, 8, .inl (fun _ => 0))), (q4, .inl (cI, 8, .inl (f4)))] 4 28
  refine y_putF 4 0 0 (ty := .object "GraveRows$Dig") (ws' := [(h0, .inr (4, [.ref q1, .null, .int 0, .null, .int 0, .int 0])), (q1, .inr (1, [.int (nI 4), .ref q2, .ref q3, .ref q4])), (q2, .inl (cI, 8, .inl (fun _ => 0))), (q3, .inl (cI, 8, .inl (fun _ => 0))), (q4, .inl (cI, 8, .inl (f4)))]) rfl rfl (by decide) fl_X5_12 rfl rfl (by decide +kernel) rfl rfl rfl dX5_init_12 rfl ?_
  refine y_aload_n 0 0 dX5_init_15 rfl rfl ?_
  refine y_iconst dX5_init_16 ic_2 ?_
  refine y_anewa cl_X5_9 dX5_init_17 rfl (by decide) (Nat.le_of_ble_eq_true rfl) (Nat.le_of_ble_eq_true rfl) (fun q5 cD => ?_)
  show Yx D [(cI, .int), (cB, .boolean), (cD, .object "GraveRows$Dig")] _ _ _ 20 [(0, .ref h0)] [.ref q5, .ref h0] [(h0, .inr (4, [.ref q1, .null, .int 0, .null, .int 0, .int 0])), (q1, .inr (1, [.int (nI 4), .ref q2, .ref q3, .ref q4])), (q2, .inl (cI, 8, .inl (fun _ => 0))), (q3, .inl (cI, 8, .inl (fun _ => 0))), (q4, .inl (cI, 8, .inl (f4))), (q5, .inl (cD, 2, .inr (.inr (.inr (.inr (fun _ => none))))))] 5 30
  refine y_putF 4 1 0 (ty := .array (.object "GraveRows$Dig")) (ws' := [(h0, .inr (4, [.ref q1, .ref q5, .int 0, .null, .int 0, .int 0])), (q1, .inr (1, [.int (nI 4), .ref q2, .ref q3, .ref q4])), (q2, .inl (cI, 8, .inl (fun _ => 0))), (q3, .inl (cI, 8, .inl (fun _ => 0))), (q4, .inl (cI, 8, .inl (f4))), (q5, .inl (cD, 2, .inr (.inr (.inr (.inr (fun _ => none))))))]) rfl rfl (by decide) fl_X5_16 rfl rfl (by decide +kernel) rfl rfl rfl dX5_init_20 rfl ?_
  refine y_iconst dX5_init_23 ic_0 ?_
  refine y_istore_n 1 (lv' := [(1, .int (nI 0)), (0, .ref h0)]) dX5_init_24 rfl (by decide) rfl ?_
  refine y_iload_n 1 0 dX5_init_25 rfl rfl ?_
  refine y_iconst dX5_init_26 ic_2 ?_
  refine y_geF 49 dX5_init_27 rfl (by decide +kernel) ?_
  refine y_aload_n 0 1 dX5_init_30 rfl rfl ?_
  refine y_get 4 1 0 rfl rfl (by decide) fl_X5_16 rfl dX5_init_31 ?_
  refine y_iload_n 1 0 dX5_init_34 rfl rfl ?_
  refine y_new 1 (N := 4) (C := RX2) (T := TX2) (fs := [.int 0, .null, .null, .null]) tyX2 tyX2_ok rfl cl_X5_9 ins_X2 ini_X2 (fun j hj => by rcases (show j = 0 ∨ j = 1 ∨ j = 2 ∨ j = 3 by omega) with rfl | rfl | rfl | rfl <;> rfl) dX5_init_35 (Nat.le_of_ble_eq_true rfl) (Nat.le_of_ble_eq_true rfl) (fun q6 => ?_)
  show Yx D [(cI, .int), (cB, .boolean), (cD, .object "GraveRows$Dig")] _ _ _ 38 [(1, .int (nI 0)), (0, .ref h0)] [.ref q6, .int (nI 0), .ref q5] [(h0, .inr (4, [.ref q1, .ref q5, .int 0, .null, .int 0, .int 0])), (q1, .inr (1, [.int (nI 4), .ref q2, .ref q3, .ref q4])), (q2, .inl (cI, 8, .inl (fun _ => 0))), (q3, .inl (cI, 8, .inl (fun _ => 0))), (q4, .inl (cI, 8, .inl (f4))), (q5, .inl (cD, 2, .inr (.inr (.inr (.inr (fun _ => none)))))), (q6, .inr (1, [.int 0, .null, .null, .null]))] 6 34
  refine y_dup dX5_init_38 rfl ?_
  refine y_callI [6] [0, 1, 2, 3, 4, 5] [0] (wr := [(h0, .inr (4, [.ref q1, .ref q5, .int 0, .null, .int 0, .int 0])), (q1, .inr (1, [.int (nI 4), .ref q2, .ref q3, .ref q4])), (q2, .inl (cI, 8, .inl (fun _ => 0))), (q3, .inl (cI, 8, .inl (fun _ => 0))), (q4, .inl (cI, 8, .inl (f4))), (q5, .inl (cD, 2, .inr (.inr (.inr (.inr (fun _ => none))))))]) ml_X5_11 in_X2_init ct_X2_init rfl rfl (i_X2 (D := D) (cI := cI) (h0 := q6)) dX5_init_39 rfl rfl (by decide) (by decide) (by decide) rfl (by decide) ⟨Nat.le_of_ble_eq_true rfl, Nat.le_of_ble_eq_true rfl⟩ (Nat.le_of_ble_eq_true rfl) (fun w1 tys1 h1 => ?_)
  obtain ⟨q7, q8, q9, f9, hf9, rfl⟩ := h1
  show Yx D [(cI, .int), (cB, .boolean), (cD, .object "GraveRows$Dig")] _ _ _ 42 [(1, .int (nI 0)), (0, .ref h0)] [.ref q6, .int (nI 0), .ref q5] [(h0, .inr (4, [.ref q1, .ref q5, .int 0, .null, .int 0, .int 0])), (q1, .inr (1, [.int (nI 4), .ref q2, .ref q3, .ref q4])), (q2, .inl (cI, 8, .inl (fun _ => 0))), (q3, .inl (cI, 8, .inl (fun _ => 0))), (q4, .inl (cI, 8, .inl (f4))), (q5, .inl (cD, 2, .inr (.inr (.inr (.inr (fun _ => none)))))), (q6, .inr (1, [.int (nI 4), .ref q7, .ref q8, .ref q9])), (q7, .inl (cI, 8, .inl (fun _ => 0))), (q8, .inl (cI, 8, .inl (fun _ => 0))), (q9, .inl (cI, 8, .inl (f9)))] 9 58
  refine y_aast 5 2 6 1 (r := (RX2, TX2, 4)) (ws' := [(h0, .inr (4, [.ref q1, .ref q5, .int 0, .null, .int 0, .int 0])), (q1, .inr (1, [.int (nI 4), .ref q2, .ref q3, .ref q4])), (q2, .inl (cI, 8, .inl (fun _ => 0))), (q3, .inl (cI, 8, .inl (fun _ => 0))), (q4, .inl (cI, 8, .inl (f4))), (q5, .inl (cD, 2, .inr (.inr (.inr (.inr (va_up (fun _ => none) 0 (some q6))))))), (q6, .inr (1, [.int (nI 4), .ref q7, .ref q8, .ref q9])), (q7, .inl (cI, 8, .inl (fun _ => 0))), (q8, .inl (cI, 8, .inl (fun _ => 0))), (q9, .inl (cI, 8, .inl (f9)))]) rfl rfl rfl rfl rfl (by decide) (by decide) dX5_init_42 rfl ?_
  refine y_iinc 1 0 (v := nI 1) (lv' := [(1, .int (nI 1)), (0, .ref h0)]) dX5_init_43 rfl (inc_1 0) (by decide) rfl ?_
  refine y_goto (tgt := 25) dX5_init_46 rfl ?_
  refine y_iload_n 1 0 dX5_init_25 rfl rfl ?_
  refine y_iconst dX5_init_26 ic_2 ?_
  refine y_geF 49 dX5_init_27 rfl (by decide +kernel) ?_
  refine y_aload_n 0 1 dX5_init_30 rfl rfl ?_
  refine y_get 4 1 0 rfl rfl (by decide) fl_X5_16 rfl dX5_init_31 ?_
  refine y_iload_n 1 0 dX5_init_34 rfl rfl ?_
  refine y_new 1 (N := 4) (C := RX2) (T := TX2) (fs := [.int 0, .null, .null, .null]) tyX2 tyX2_ok rfl cl_X5_9 ins_X2 ini_X2 (fun j hj => by rcases (show j = 0 ∨ j = 1 ∨ j = 2 ∨ j = 3 by omega) with rfl | rfl | rfl | rfl <;> rfl) dX5_init_35 (Nat.le_of_ble_eq_true rfl) (Nat.le_of_ble_eq_true rfl) (fun q10 => ?_)
  show Yx D [(cI, .int), (cB, .boolean), (cD, .object "GraveRows$Dig")] _ _ _ 38 [(1, .int (nI 1)), (0, .ref h0)] [.ref q10, .int (nI 1), .ref q5] [(h0, .inr (4, [.ref q1, .ref q5, .int 0, .null, .int 0, .int 0])), (q1, .inr (1, [.int (nI 4), .ref q2, .ref q3, .ref q4])), (q2, .inl (cI, 8, .inl (fun _ => 0))), (q3, .inl (cI, 8, .inl (fun _ => 0))), (q4, .inl (cI, 8, .inl (f4))), (q5, .inl (cD, 2, .inr (.inr (.inr (.inr (va_up (fun _ => none) 0 (some q6))))))), (q6, .inr (1, [.int (nI 4), .ref q7, .ref q8, .ref q9])), (q7, .inl (cI, 8, .inl (fun _ => 0))), (q8, .inl (cI, 8, .inl (fun _ => 0))), (q9, .inl (cI, 8, .inl (f9))), (q10, .inr (1, [.int 0, .null, .null, .null]))] 10 62
  refine y_dup dX5_init_38 rfl ?_
  refine y_callI [10] [0, 1, 2, 3, 4, 5, 6, 7, 8, 9] [0] (wr := [(h0, .inr (4, [.ref q1, .ref q5, .int 0, .null, .int 0, .int 0])), (q1, .inr (1, [.int (nI 4), .ref q2, .ref q3, .ref q4])), (q2, .inl (cI, 8, .inl (fun _ => 0))), (q3, .inl (cI, 8, .inl (fun _ => 0))), (q4, .inl (cI, 8, .inl (f4))), (q5, .inl (cD, 2, .inr (.inr (.inr (.inr (va_up (fun _ => none) 0 (some q6))))))), (q6, .inr (1, [.int (nI 4), .ref q7, .ref q8, .ref q9])), (q7, .inl (cI, 8, .inl (fun _ => 0))), (q8, .inl (cI, 8, .inl (fun _ => 0))), (q9, .inl (cI, 8, .inl (f9)))]) ml_X5_11 in_X2_init ct_X2_init rfl rfl (i_X2 (D := D) (cI := cI) (h0 := q10)) dX5_init_39 rfl rfl (by decide) (by decide) (by decide) rfl (by decide) ⟨Nat.le_of_ble_eq_true rfl, Nat.le_of_ble_eq_true rfl⟩ (Nat.le_of_ble_eq_true rfl) (fun w1 tys1 h1 => ?_)
  obtain ⟨q11, q12, q13, f13, hf13, rfl⟩ := h1
  show Yx D [(cI, .int), (cB, .boolean), (cD, .object "GraveRows$Dig")] _ _ _ 42 [(1, .int (nI 1)), (0, .ref h0)] [.ref q10, .int (nI 1), .ref q5] [(h0, .inr (4, [.ref q1, .ref q5, .int 0, .null, .int 0, .int 0])), (q1, .inr (1, [.int (nI 4), .ref q2, .ref q3, .ref q4])), (q2, .inl (cI, 8, .inl (fun _ => 0))), (q3, .inl (cI, 8, .inl (fun _ => 0))), (q4, .inl (cI, 8, .inl (f4))), (q5, .inl (cD, 2, .inr (.inr (.inr (.inr (va_up (fun _ => none) 0 (some q6))))))), (q6, .inr (1, [.int (nI 4), .ref q7, .ref q8, .ref q9])), (q7, .inl (cI, 8, .inl (fun _ => 0))), (q8, .inl (cI, 8, .inl (fun _ => 0))), (q9, .inl (cI, 8, .inl (f9))), (q10, .inr (1, [.int (nI 4), .ref q11, .ref q12, .ref q13])), (q11, .inl (cI, 8, .inl (fun _ => 0))), (q12, .inl (cI, 8, .inl (fun _ => 0))), (q13, .inl (cI, 8, .inl (f13)))] 13 86
  refine y_aast 5 2 10 1 (r := (RX2, TX2, 4)) (ws' := [(h0, .inr (4, [.ref q1, .ref q5, .int 0, .null, .int 0, .int 0])), (q1, .inr (1, [.int (nI 4), .ref q2, .ref q3, .ref q4])), (q2, .inl (cI, 8, .inl (fun _ => 0))), (q3, .inl (cI, 8, .inl (fun _ => 0))), (q4, .inl (cI, 8, .inl (f4))), (q5, .inl (cD, 2, .inr (.inr (.inr (.inr (va_up (va_up (fun _ => none) 0 (some q6)) 1 (some q10))))))), (q6, .inr (1, [.int (nI 4), .ref q7, .ref q8, .ref q9])), (q7, .inl (cI, 8, .inl (fun _ => 0))), (q8, .inl (cI, 8, .inl (fun _ => 0))), (q9, .inl (cI, 8, .inl (f9))), (q10, .inr (1, [.int (nI 4), .ref q11, .ref q12, .ref q13])), (q11, .inl (cI, 8, .inl (fun _ => 0))), (q12, .inl (cI, 8, .inl (fun _ => 0))), (q13, .inl (cI, 8, .inl (f13)))]) rfl rfl rfl rfl rfl (by decide) (by decide) dX5_init_42 rfl ?_
  refine y_iinc 1 0 (v := nI 2) (lv' := [(1, .int (nI 2)), (0, .ref h0)]) dX5_init_43 rfl (inc_1 1) (by decide) rfl ?_
  refine y_goto (tgt := 25) dX5_init_46 rfl ?_
  refine y_iload_n 1 0 dX5_init_25 rfl rfl ?_
  refine y_iconst dX5_init_26 ic_2 ?_
  refine y_geT (tgt := 49) dX5_init_27 rfl (by decide +kernel) ?_
  refine y_aload_n 0 1 dX5_init_49 rfl rfl ?_
  refine y_iconst dX5_init_50 ic_0 ?_
  refine y_put 4 2 0 (ty := .int) (ws' := [(h0, .inr (4, [.ref q1, .ref q5, .int (nI 0), .null, .int 0, .int 0])), (q1, .inr (1, [.int (nI 4), .ref q2, .ref q3, .ref q4])), (q2, .inl (cI, 8, .inl (fun _ => 0))), (q3, .inl (cI, 8, .inl (fun _ => 0))), (q4, .inl (cI, 8, .inl (f4))), (q5, .inl (cD, 2, .inr (.inr (.inr (.inr (va_up (va_up (fun _ => none) 0 (some q6)) 1 (some q10))))))), (q6, .inr (1, [.int (nI 4), .ref q7, .ref q8, .ref q9])), (q7, .inl (cI, 8, .inl (fun _ => 0))), (q8, .inl (cI, 8, .inl (fun _ => 0))), (q9, .inl (cI, 8, .inl (f9))), (q10, .inr (1, [.int (nI 4), .ref q11, .ref q12, .ref q13])), (q11, .inl (cI, 8, .inl (fun _ => 0))), (q12, .inl (cI, 8, .inl (fun _ => 0))), (q13, .inl (cI, 8, .inl (f13)))]) rfl rfl (by decide) fl_X5_20 rfl (by decide +kernel) rfl rfl rfl dX5_init_51 rfl ?_
  refine y_aload_n 0 1 dX5_init_54 rfl rfl ?_
  refine y_new 0 (N := 14) (C := RX0) (T := TX0) (fs := [.int 0, .int 0, .int 0, .int 0, .int 0, .null, .null, .null, .null, .null, .null, .null, .null, .null]) tyX0 tyX0_ok rfl cl_X5_24 ins_X0 ini_X0 (fun j hj => by rcases (show j = 0 ∨ j = 1 ∨ j = 2 ∨ j = 3 ∨ j = 4 ∨ j = 5 ∨ j = 6 ∨ j = 7 ∨ j = 8 ∨ j = 9 ∨ j = 10 ∨ j = 11 ∨ j = 12 ∨ j = 13 by omega) with rfl | rfl | rfl | rfl | rfl | rfl | rfl | rfl | rfl | rfl | rfl | rfl | rfl | rfl <;> rfl) dX5_init_55 (Nat.le_of_ble_eq_true rfl) (Nat.le_of_ble_eq_true rfl) (fun q14 => ?_)
  show Yx D [(cI, .int), (cB, .boolean), (cD, .object "GraveRows$Dig")] _ _ _ 58 [(1, .int (nI 2)), (0, .ref h0)] [.ref q14, .ref h0] [(h0, .inr (4, [.ref q1, .ref q5, .int (nI 0), .null, .int 0, .int 0])), (q1, .inr (1, [.int (nI 4), .ref q2, .ref q3, .ref q4])), (q2, .inl (cI, 8, .inl (fun _ => 0))), (q3, .inl (cI, 8, .inl (fun _ => 0))), (q4, .inl (cI, 8, .inl (f4))), (q5, .inl (cD, 2, .inr (.inr (.inr (.inr (va_up (va_up (fun _ => none) 0 (some q6)) 1 (some q10))))))), (q6, .inr (1, [.int (nI 4), .ref q7, .ref q8, .ref q9])), (q7, .inl (cI, 8, .inl (fun _ => 0))), (q8, .inl (cI, 8, .inl (fun _ => 0))), (q9, .inl (cI, 8, .inl (f9))), (q10, .inr (1, [.int (nI 4), .ref q11, .ref q12, .ref q13])), (q11, .inl (cI, 8, .inl (fun _ => 0))), (q12, .inl (cI, 8, .inl (fun _ => 0))), (q13, .inl (cI, 8, .inl (f13))), (q14, .inr (0, [.int 0, .int 0, .int 0, .int 0, .int 0, .null, .null, .null, .null, .null, .null, .null, .null, .null]))] 14 100
  refine y_dup dX5_init_58 rfl ?_
  refine y_callN [14] [0, 1, 2, 3, 4, 5, 6, 7, 8, 9, 10, 11, 12, 13] [0] (wr := [(h0, .inr (4, [.ref q1, .ref q5, .int (nI 0), .null, .int 0, .int 0])), (q1, .inr (1, [.int (nI 4), .ref q2, .ref q3, .ref q4])), (q2, .inl (cI, 8, .inl (fun _ => 0))), (q3, .inl (cI, 8, .inl (fun _ => 0))), (q4, .inl (cI, 8, .inl (f4))), (q5, .inl (cD, 2, .inr (.inr (.inr (.inr (va_up (va_up (fun _ => none) 0 (some q6)) 1 (some q10))))))), (q6, .inr (1, [.int (nI 4), .ref q7, .ref q8, .ref q9])), (q7, .inl (cI, 8, .inl (fun _ => 0))), (q8, .inl (cI, 8, .inl (fun _ => 0))), (q9, .inl (cI, 8, .inl (f9))), (q10, .inr (1, [.int (nI 4), .ref q11, .ref q12, .ref q13])), (q11, .inl (cI, 8, .inl (fun _ => 0))), (q12, .inl (cI, 8, .inl (fun _ => 0))), (q13, .inl (cI, 8, .inl (f13)))]) (fun _ h => h.1) in_X0_init ct_X0_init rfl rfl (i_X0 (D := D) (cI := cI) (h0 := q14)) dX5_init_59 rfl rfl (by decide) (by decide) (by decide) rfl (by decide) ⟨Nat.le_of_ble_eq_true rfl, Nat.le_of_ble_eq_true rfl⟩ (Nat.le_of_ble_eq_true rfl) (fun w1 tys1 h1 => ?_)
  obtain ⟨q15, q16, q17, q18, q19, q20, q21, q22, q23, q24, q25, rfl⟩ := h1
  show Yx D [(cI, .int), (cB, .boolean), (cD, .object "GraveRows$Dig")] _ _ _ 62 [(1, .int (nI 2)), (0, .ref h0)] [.ref q14, .ref h0] [(h0, .inr (4, [.ref q1, .ref q5, .int (nI 0), .null, .int 0, .int 0])), (q1, .inr (1, [.int (nI 4), .ref q2, .ref q3, .ref q4])), (q2, .inl (cI, 8, .inl (fun _ => 0))), (q3, .inl (cI, 8, .inl (fun _ => 0))), (q4, .inl (cI, 8, .inl (f4))), (q5, .inl (cD, 2, .inr (.inr (.inr (.inr (va_up (va_up (fun _ => none) 0 (some q6)) 1 (some q10))))))), (q6, .inr (1, [.int (nI 4), .ref q7, .ref q8, .ref q9])), (q7, .inl (cI, 8, .inl (fun _ => 0))), (q8, .inl (cI, 8, .inl (fun _ => 0))), (q9, .inl (cI, 8, .inl (f9))), (q10, .inr (1, [.int (nI 4), .ref q11, .ref q12, .ref q13])), (q11, .inl (cI, 8, .inl (fun _ => 0))), (q12, .inl (cI, 8, .inl (fun _ => 0))), (q13, .inl (cI, 8, .inl (f13))), (q14, .inr (0, [.int 0, .int 0, .int 0, .int 0, .int 0, .ref q15, .ref q16, .ref q17, .ref q18, .ref q19, .ref q20, .ref q21, .ref q22, .ref q24])), (q15, .inl (cI, 2048, .inl (fun _ => 0))), (q16, .inl (cI, 2048, .inl (fun _ => 0))), (q17, .inl (cI, 2048, .inl (fun _ => 0))), (q18, .inl (cI, 2048, .inl (fun _ => 0))), (q19, .inl (cI, 256, .inl (fun _ => 0))), (q20, .inl (cI, 256, .inl (fun _ => 0))), (q21, .inl (cI, 8, .inl (fun _ => 0))), (q22, .inr (2, [.ref q23])), (q23, .inl (cI, 8, .inl (fun _ => 0))), (q24, .inr (3, [.ref q25])), (q25, .inl (cI, 8, .inl (fun _ => 0)))] 25 8830
  refine y_putF 4 3 0 (ty := .object "GraveRows$BestOrders") (ws' := [(h0, .inr (4, [.ref q1, .ref q5, .int (nI 0), .ref q14, .int 0, .int 0])), (q1, .inr (1, [.int (nI 4), .ref q2, .ref q3, .ref q4])), (q2, .inl (cI, 8, .inl (fun _ => 0))), (q3, .inl (cI, 8, .inl (fun _ => 0))), (q4, .inl (cI, 8, .inl (f4))), (q5, .inl (cD, 2, .inr (.inr (.inr (.inr (va_up (va_up (fun _ => none) 0 (some q6)) 1 (some q10))))))), (q6, .inr (1, [.int (nI 4), .ref q7, .ref q8, .ref q9])), (q7, .inl (cI, 8, .inl (fun _ => 0))), (q8, .inl (cI, 8, .inl (fun _ => 0))), (q9, .inl (cI, 8, .inl (f9))), (q10, .inr (1, [.int (nI 4), .ref q11, .ref q12, .ref q13])), (q11, .inl (cI, 8, .inl (fun _ => 0))), (q12, .inl (cI, 8, .inl (fun _ => 0))), (q13, .inl (cI, 8, .inl (f13))), (q14, .inr (0, [.int 0, .int 0, .int 0, .int 0, .int 0, .ref q15, .ref q16, .ref q17, .ref q18, .ref q19, .ref q20, .ref q21, .ref q22, .ref q24])), (q15, .inl (cI, 2048, .inl (fun _ => 0))), (q16, .inl (cI, 2048, .inl (fun _ => 0))), (q17, .inl (cI, 2048, .inl (fun _ => 0))), (q18, .inl (cI, 2048, .inl (fun _ => 0))), (q19, .inl (cI, 256, .inl (fun _ => 0))), (q20, .inl (cI, 256, .inl (fun _ => 0))), (q21, .inl (cI, 8, .inl (fun _ => 0))), (q22, .inr (2, [.ref q23])), (q23, .inl (cI, 8, .inl (fun _ => 0))), (q24, .inr (3, [.ref q25])), (q25, .inl (cI, 8, .inl (fun _ => 0)))]) rfl rfl (by decide) fl_X5_27 rfl rfl (by decide +kernel) rfl rfl rfl dX5_init_62 rfl ?_
  refine y_aload_n 0 1 dX5_init_65 rfl rfl ?_
  refine y_iconst dX5_init_66 ic_0 ?_
  refine y_put 4 4 0 (ty := .boolean) (ws' := [(h0, .inr (4, [.ref q1, .ref q5, .int (nI 0), .ref q14, .int (nI 0), .int 0])), (q1, .inr (1, [.int (nI 4), .ref q2, .ref q3, .ref q4])), (q2, .inl (cI, 8, .inl (fun _ => 0))), (q3, .inl (cI, 8, .inl (fun _ => 0))), (q4, .inl (cI, 8, .inl (f4))), (q5, .inl (cD, 2, .inr (.inr (.inr (.inr (va_up (va_up (fun _ => none) 0 (some q6)) 1 (some q10))))))), (q6, .inr (1, [.int (nI 4), .ref q7, .ref q8, .ref q9])), (q7, .inl (cI, 8, .inl (fun _ => 0))), (q8, .inl (cI, 8, .inl (fun _ => 0))), (q9, .inl (cI, 8, .inl (f9))), (q10, .inr (1, [.int (nI 4), .ref q11, .ref q12, .ref q13])), (q11, .inl (cI, 8, .inl (fun _ => 0))), (q12, .inl (cI, 8, .inl (fun _ => 0))), (q13, .inl (cI, 8, .inl (f13))), (q14, .inr (0, [.int 0, .int 0, .int 0, .int 0, .int 0, .ref q15, .ref q16, .ref q17, .ref q18, .ref q19, .ref q20, .ref q21, .ref q22, .ref q24])), (q15, .inl (cI, 2048, .inl (fun _ => 0))), (q16, .inl (cI, 2048, .inl (fun _ => 0))), (q17, .inl (cI, 2048, .inl (fun _ => 0))), (q18, .inl (cI, 2048, .inl (fun _ => 0))), (q19, .inl (cI, 256, .inl (fun _ => 0))), (q20, .inl (cI, 256, .inl (fun _ => 0))), (q21, .inl (cI, 8, .inl (fun _ => 0))), (q22, .inr (2, [.ref q23])), (q23, .inl (cI, 8, .inl (fun _ => 0))), (q24, .inr (3, [.ref q25])), (q25, .inl (cI, 8, .inl (fun _ => 0)))]) rfl rfl (by decide) fl_X5_31 rfl (by decide +kernel) (narZ (Or.inl rfl)) (fitZ (Or.inl rfl)) rfl dX5_init_67 rfl ?_
  refine y_aload_n 0 1 dX5_init_70 rfl rfl ?_
  refine y_iconst dX5_init_71 ic_0 ?_
  refine y_put 4 5 0 (ty := .boolean) (ws' := [(h0, .inr (4, [.ref q1, .ref q5, .int (nI 0), .ref q14, .int (nI 0), .int (nI 0)])), (q1, .inr (1, [.int (nI 4), .ref q2, .ref q3, .ref q4])), (q2, .inl (cI, 8, .inl (fun _ => 0))), (q3, .inl (cI, 8, .inl (fun _ => 0))), (q4, .inl (cI, 8, .inl (f4))), (q5, .inl (cD, 2, .inr (.inr (.inr (.inr (va_up (va_up (fun _ => none) 0 (some q6)) 1 (some q10))))))), (q6, .inr (1, [.int (nI 4), .ref q7, .ref q8, .ref q9])), (q7, .inl (cI, 8, .inl (fun _ => 0))), (q8, .inl (cI, 8, .inl (fun _ => 0))), (q9, .inl (cI, 8, .inl (f9))), (q10, .inr (1, [.int (nI 4), .ref q11, .ref q12, .ref q13])), (q11, .inl (cI, 8, .inl (fun _ => 0))), (q12, .inl (cI, 8, .inl (fun _ => 0))), (q13, .inl (cI, 8, .inl (f13))), (q14, .inr (0, [.int 0, .int 0, .int 0, .int 0, .int 0, .ref q15, .ref q16, .ref q17, .ref q18, .ref q19, .ref q20, .ref q21, .ref q22, .ref q24])), (q15, .inl (cI, 2048, .inl (fun _ => 0))), (q16, .inl (cI, 2048, .inl (fun _ => 0))), (q17, .inl (cI, 2048, .inl (fun _ => 0))), (q18, .inl (cI, 2048, .inl (fun _ => 0))), (q19, .inl (cI, 256, .inl (fun _ => 0))), (q20, .inl (cI, 256, .inl (fun _ => 0))), (q21, .inl (cI, 8, .inl (fun _ => 0))), (q22, .inr (2, [.ref q23])), (q23, .inl (cI, 8, .inl (fun _ => 0))), (q24, .inr (3, [.ref q25])), (q25, .inl (cI, 8, .inl (fun _ => 0)))]) rfl rfl (by decide) fl_X5_35 rfl (by decide +kernel) (narZ (Or.inl rfl)) (fitZ (Or.inl rfl)) rfl dX5_init_72 rfl ?_
  refine y_ret dX5_init_75 rfl (Nat.le_of_ble_eq_true rfl) (Nat.le_of_ble_eq_true rfl) ?_
  refine ⟨cD, (fun k => match k with | 0 => h0 | 1 => q1 | 2 => q2 | 3 => q3 | 4 => q4 | 5 => q5 | 6 => q6 | 7 => q7 | 8 => q8 | 9 => q9 | 10 => q10 | 11 => q11 | 12 => q12 | 13 => q13 | 14 => q14 | 15 => q15 | 16 => q16 | 17 => q17 | 18 => q18 | 19 => q19 | 20 => q20 | 21 => q21 | 22 => q22 | 23 => q23 | 24 => q24 | _ => q25), (fun k => match k with | 1 => fun _ => nI 4 | 6 => fun _ => nI 4 | 10 => fun _ => nI 4 | 4 => f4 | 9 => f9 | 13 => f13 | _ => fun _ => 0), rfl, rfl, fun H hP => ?_, fun A hD => ?_, ?_⟩
  · exact rar_P (i := 5) (g := fun j => (if j = 0 then some 6 else some 10).map (fun k => match k with | 0 => h0 | 1 => q1 | 2 => q2 | 3 => q3 | 4 => q4 | 5 => q5 | 6 => q6 | 7 => q7 | 8 => q8 | 9 => q9 | 10 => q10 | 11 => q11 | 12 => q12 | 13 => q13 | 14 => q14 | 15 => q15 | 16 => q16 | 17 => q17 | 18 => q18 | 19 => q19 | 20 => q20 | 21 => q21 | 22 => q22 | 23 => q23 | 24 => q24 | _ => q25)) hP rfl (fun j hj => by rcases (show j = 0 ∨ j = 1 by omega) with rfl | rfl <;> rfl)
  · exact va_D.set (p := 5) (e := .inl (cD, 2, .inr (.inr (.inr (.inr (fun j => (if j = 0 then some 6 else some 10).map (fun k => match k with | 0 => h0 | 1 => q1 | 2 => q2 | 3 => q3 | 4 => q4 | 5 => q5 | 6 => q6 | 7 => q7 | 8 => q8 | 9 => q9 | 10 => q10 | 11 => q11 | 12 => q12 | 13 => q13 | 14 => q14 | 15 => q15 | 16 => q16 | 17 => q17 | 18 => q18 | 19 => q19 | 20 => q20 | 21 => q21 | 22 => q22 | 23 => q23 | 24 => q24 | _ => q25))))))) hD rfl
  · refine ⟨fun c hc => ?_, fun c hc j => ?_, fun c hc j hj => ?_, rfl, rfl, rfl⟩
    · rcases hc with rfl | rfl | rfl <;> rfl
    · rcases hc with rfl | rfl | rfl | rfl | rfl | rfl <;> rfl
    · rcases hc with rfl | rfl | rfl
      · exact hf4 j hj
      · exact hf9 j hj
      · exact hf13 j hj
end YC
