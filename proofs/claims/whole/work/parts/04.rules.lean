section XR
variable {Λ : xLay} {μ : xM} {d : Nat} {Q : Option Value → xMem → Prop} {pc : Nat} {ls st : List Value} {I : xMem}
theorem x_iconst {n : Int} {v : Int32} (hd : decode μ.2.1 pc = .ok (.iconst n, 1)) (hv : Int32.ofInt n = v) (k : Wx Λ μ d Q (pc + 1) ls (.int v :: st) I) : Wx Λ μ d Q pc ls st I := by
  intro l G A p e s m args below meth c H locs la hC hP hD hS hl
  exact lv_iconst hC.1 hC.2.1 hd hv (k l G A p e s m args below meth c H locs la hC hP hD hS hl)
theorem x_bipush {n : Int} {v : Int32} (hd : decode μ.2.1 pc = .ok (.bipush n, 2)) (hv : (Int8.ofInt n).toInt32 = v) (k : Wx Λ μ d Q (pc + 2) ls (.int v :: st) I) : Wx Λ μ d Q pc ls st I := by
  intro l G A p e s m args below meth c H locs la hC hP hD hS hl
  exact lv_bipush hC.1 hC.2.1 hd hv (k l G A p e s m args below meth c H locs la hC hP hD hS hl)
theorem x_sipush {n : Int} {v : Int32} (hd : decode μ.2.1 pc = .ok (.sipush n, 3)) (hv : (Int16.ofInt n).toInt32 = v) (k : Wx Λ μ d Q (pc + 3) ls (.int v :: st) I) : Wx Λ μ d Q pc ls st I := by
  intro l G A p e s m args below meth c H locs la hC hP hD hS hl
  exact lv_sipush hC.1 hC.2.1 hd hv (k l G A p e s m args below meth c H locs la hC hP hD hS hl)
theorem x_iadd {x y v : Int32} (hd : decode μ.2.1 pc = .ok (.iadd, 1)) (hv : x + y = v) (k : Wx Λ μ d Q (pc + 1) ls (.int v :: st) I) : Wx Λ μ d Q pc ls (.int y :: .int x :: st) I := by
  intro l G A p e s m args below meth c H locs la hC hP hD hS hl
  subst hv
  exact lv_iadd hC.1 hC.2.1 hd (k l G A p e s m args below meth c H locs la hC hP hD hS hl)
theorem x_isub {x y v : Int32} (hd : decode μ.2.1 pc = .ok (.isub, 1)) (hv : x - y = v) (k : Wx Λ μ d Q (pc + 1) ls (.int v :: st) I) : Wx Λ μ d Q pc ls (.int y :: .int x :: st) I := by
  intro l G A p e s m args below meth c H locs la hC hP hD hS hl
  subst hv
  exact lv_isub hC.1 hC.2.1 hd (k l G A p e s m args below meth c H locs la hC hP hD hS hl)
theorem x_imul {x y v : Int32} (hd : decode μ.2.1 pc = .ok (.imul, 1)) (hv : x * y = v) (k : Wx Λ μ d Q (pc + 1) ls (.int v :: st) I) : Wx Λ μ d Q pc ls (.int y :: .int x :: st) I := by
  intro l G A p e s m args below meth c H locs la hC hP hD hS hl
  subst hv
  exact lv_imul hC.1 hC.2.1 hd (k l G A p e s m args below meth c H locs la hC hP hD hS hl)
theorem x_iand {x y v : Int32} (hd : decode μ.2.1 pc = .ok (.iand, 1)) (hv : x &&& y = v) (k : Wx Λ μ d Q (pc + 1) ls (.int v :: st) I) : Wx Λ μ d Q pc ls (.int y :: .int x :: st) I := by
  intro l G A p e s m args below meth c H locs la hC hP hD hS hl
  subst hv
  exact lv_iand hC.1 hC.2.1 hd (k l G A p e s m args below meth c H locs la hC hP hD hS hl)
theorem x_ior {x y v : Int32} (hd : decode μ.2.1 pc = .ok (.ior, 1)) (hv : x ||| y = v) (k : Wx Λ μ d Q (pc + 1) ls (.int v :: st) I) : Wx Λ μ d Q pc ls (.int y :: .int x :: st) I := by
  intro l G A p e s m args below meth c H locs la hC hP hD hS hl
  subst hv
  exact lv_ior hC.1 hC.2.1 hd (k l G A p e s m args below meth c H locs la hC hP hD hS hl)
theorem x_ixor {x y v : Int32} (hd : decode μ.2.1 pc = .ok (.ixor, 1)) (hv : x ^^^ y = v) (k : Wx Λ μ d Q (pc + 1) ls (.int v :: st) I) : Wx Λ μ d Q pc ls (.int y :: .int x :: st) I := by
  intro l G A p e s m args below meth c H locs la hC hP hD hS hl
  subst hv
  exact lv_ixor hC.1 hC.2.1 hd (k l G A p e s m args below meth c H locs la hC hP hD hS hl)
theorem x_ishl {x y v : Int32} (hd : decode μ.2.1 pc = .ok (.ishl, 1)) (hv : x <<< (y &&& 31) = v) (k : Wx Λ μ d Q (pc + 1) ls (.int v :: st) I) : Wx Λ μ d Q pc ls (.int y :: .int x :: st) I := by
  intro l G A p e s m args below meth c H locs la hC hP hD hS hl
  subst hv
  exact lv_ishl hC.1 hC.2.1 hd (k l G A p e s m args below meth c H locs la hC hP hD hS hl)
theorem x_ishr {x y v : Int32} (hd : decode μ.2.1 pc = .ok (.ishr, 1)) (hv : x >>> (y &&& 31) = v) (k : Wx Λ μ d Q (pc + 1) ls (.int v :: st) I) : Wx Λ μ d Q pc ls (.int y :: .int x :: st) I := by
  intro l G A p e s m args below meth c H locs la hC hP hD hS hl
  subst hv
  exact lv_ishr hC.1 hC.2.1 hd (k l G A p e s m args below meth c H locs la hC hP hD hS hl)
theorem x_iushr {x y v : Int32} (hd : decode μ.2.1 pc = .ok (.iushr, 1)) (hv : (x.toUInt32 >>> (y.toUInt32 &&& Int32.toUInt32 31)).toInt32 = v) (k : Wx Λ μ d Q (pc + 1) ls (.int v :: st) I) : Wx Λ μ d Q pc ls (.int y :: .int x :: st) I := by
  intro l G A p e s m args below meth c H locs la hC hP hD hS hl
  exact lv_iushr hC.1 hC.2.1 hd hv (k l G A p e s m args below meth c H locs la hC hP hD hS hl)
theorem x_iload_n {k : Fin 4} {x : Int32} (hd : decode μ.2.1 pc = .ok (.iload_n k, 1)) (h : ls[(k : Nat)]? = some (.int x)) (kk : Wx Λ μ d Q (pc + 1) ls (.int x :: st) I) : Wx Λ μ d Q pc ls st I := by
  intro l G A p e s m args below meth c H locs la hC hP hD hS hl
  exact lv_iload_n hC.1 hC.2.1 hd rfl (by have := hl.2.2 _ (xal_int G.2.2 (j := 0) h); simpa using this) (kk l G A p e s m args below meth c H locs la hC hP hD hS hl)
theorem x_iload {i : Nat} {x : Int32} (hd : decode μ.2.1 pc = .ok (.iload i, 2)) (h : ls[i]? = some (.int x)) (kk : Wx Λ μ d Q (pc + 2) ls (.int x :: st) I) : Wx Λ μ d Q pc ls st I := by
  intro l G A p e s m args below meth c H locs la hC hP hD hS hl
  exact lv_iload hC.1 hC.2.1 hd (by have := hl.2.2 _ (xal_int G.2.2 (j := 0) h); simpa using this) (kk l G A p e s m args below meth c H locs la hC hP hD hS hl)
theorem x_aload_n {k : Fin 4} {x : Nat} (hd : decode μ.2.1 pc = .ok (.aload_n k, 1)) (h : ls[(k : Nat)]? = some (.ref x)) (kk : Wx Λ μ d Q (pc + 1) ls (.ref x :: st) I) : Wx Λ μ d Q pc ls st I := by
  intro l G A p e s m args below meth c H locs la hC hP hD hS hl
  exact lv_aload_n hC.1 hC.2.1 hd rfl (by have := hl.2.2 _ (xal_ref G.2.2 (j := 0) h); simpa using this) (kk l G A p e s m args below meth c H locs la hC hP hD hS hl)
theorem x_aload {i : Nat} {x : Nat} (hd : decode μ.2.1 pc = .ok (.aload i, 2)) (h : ls[i]? = some (.ref x)) (kk : Wx Λ μ d Q (pc + 2) ls (.ref x :: st) I) : Wx Λ μ d Q pc ls st I := by
  intro l G A p e s m args below meth c H locs la hC hP hD hS hl
  exact lv_aload hC.1 hC.2.1 hd (by have := hl.2.2 _ (xal_ref G.2.2 (j := 0) h); simpa using this) (kk l G A p e s m args below meth c H locs la hC hP hD hS hl)
theorem x_istore_n {k : Fin 4} {x : Int32} {ls' : List Value} (hd : decode μ.2.1 pc = .ok (.istore_n k, 1)) (hn : decide ((k : Nat) < μ.2.2.1) = true) (hs : ls.set k (.int x) = ls') (kk : Wx Λ μ d Q (pc + 1) ls' st I) : Wx Λ μ d Q pc ls (.int x :: st) I := by
  intro l G A p e s m args below meth c H locs la hC hP hD hS hl
  subst hs
  exact lv_istore_n hC.1 hC.2.1 hd rfl hl (of_decide_eq_true hn) rfl (fun la' hl' => kk l G A p e s m args below meth c H locs la' hC hP hD hS (xal_store (v := .int x) rfl hl'))
theorem x_astore_n {k : Fin 4} {x : Nat} {ls' : List Value} (hd : decode μ.2.1 pc = .ok (.astore_n k, 1)) (hn : decide ((k : Nat) < μ.2.2.1) = true) (hs : ls.set k (.ref x) = ls') (kk : Wx Λ μ d Q (pc + 1) ls' st I) : Wx Λ μ d Q pc ls (.ref x :: st) I := by
  intro l G A p e s m args below meth c H locs la hC hP hD hS hl
  subst hs
  exact lv_astore_n hC.1 hC.2.1 hd rfl hl (of_decide_eq_true hn) rfl (fun la' hl' => kk l G A p e s m args below meth c H locs la' hC hP hD hS (xal_store (v := .ref x) rfl hl'))
theorem x_istore {k : Nat} {x : Int32} {ls' : List Value} (hd : decode μ.2.1 pc = .ok (.istore k, 2)) (hn : decide ((k : Nat) < μ.2.2.1) = true) (hs : ls.set k (.int x) = ls') (kk : Wx Λ μ d Q (pc + 2) ls' st I) : Wx Λ μ d Q pc ls (.int x :: st) I := by
  intro l G A p e s m args below meth c H locs la hC hP hD hS hl
  subst hs
  exact lv_istore hC.1 hC.2.1 hd hl (of_decide_eq_true hn) rfl (fun la' hl' => kk l G A p e s m args below meth c H locs la' hC hP hD hS (xal_store (v := .int x) rfl hl'))
theorem x_astore {k : Nat} {x : Nat} {ls' : List Value} (hd : decode μ.2.1 pc = .ok (.astore k, 2)) (hn : decide ((k : Nat) < μ.2.2.1) = true) (hs : ls.set k (.ref x) = ls') (kk : Wx Λ μ d Q (pc + 2) ls' st I) : Wx Λ μ d Q pc ls (.ref x :: st) I := by
  intro l G A p e s m args below meth c H locs la hC hP hD hS hl
  subst hs
  exact lv_astore hC.1 hC.2.1 hd hl (of_decide_eq_true hn) rfl (fun la' hl' => kk l G A p e s m args below meth c H locs la' hC hP hD hS (xal_store (v := .ref x) rfl hl'))
theorem x_iinc {i : Nat} {n : Int} {x v : Int32} {ls' : List Value} (hd : decode μ.2.1 pc = .ok (.iinc i n, 3)) (hx : ls[i]? = some (.int x)) (hv : x + Int32.ofInt n = v) (hn : decide (i < μ.2.2.1) = true) (hs : ls.set i (.int v) = ls') (kk : Wx Λ μ d Q (pc + 3) ls' st I) : Wx Λ μ d Q pc ls st I := by
  intro l G A p e s m args below meth c H locs la hC hP hD hS hl
  subst hs
  have hm := xal_int G.2.2 (j := 0) hx
  rw [Nat.zero_add] at hm
  obtain ⟨q, hq⟩ := List.mem_iff_getElem?.mp hm
  exact lv_iinc hC.1 hC.2.1 hd hl hq hv (of_decide_eq_true hn) rfl (fun la' hl' => kk l G A p e s m args below meth c H locs la' hC hP hD hS (xal_store (v := .int v) rfl hl'))
theorem x_dup {v : Value} (hd : decode μ.2.1 pc = .ok (.dup, 1)) (hv : v.category = 1) (kk : Wx Λ μ d Q (pc + 1) ls (v :: v :: st) I) : Wx Λ μ d Q pc ls (v :: st) I := by
  intro l G A p e s m args below meth c H locs la hC hP hD hS hl
  exact lv_dup hC.1 hC.2.1 hd (by rw [xv_cat]; exact hv) (kk l G A p e s m args below meth c H locs la hC hP hD hS hl)
theorem x_pop {v : Value} (hd : decode μ.2.1 pc = .ok (.pop, 1)) (hv : v.category = 1) (kk : Wx Λ μ d Q (pc + 1) ls st I) : Wx Λ μ d Q pc ls (v :: st) I := by
  intro l G A p e s m args below meth c H locs la hC hP hD hS hl
  exact lv_pop hC.1 hC.2.1 hd (by rw [xv_cat]; exact hv) (kk l G A p e s m args below meth c H locs la hC hP hD hS hl)
theorem x_dup2 {v w : Value} (hd : decode μ.2.1 pc = .ok (.dup2, 1)) (hv : v.category = 1) (hw : w.category = 1) (kk : Wx Λ μ d Q (pc + 1) ls (v :: w :: v :: w :: st) I) : Wx Λ μ d Q pc ls (v :: w :: st) I := by
  intro l G A p e s m args below meth c H locs la hC hP hD hS hl
  exact lv_dup2_11 hC.1 hC.2.1 hd (by rw [xv_cat]; exact hv) (by rw [xv_cat]; exact hw) (kk l G A p e s m args below meth c H locs la hC hP hD hS hl)
theorem x_if_eq {x : Int32} {off : Int} {tgt : Nat} (hd : decode μ.2.1 pc = .ok (.ifCond .eq off, 3)) (ht : (pc : Int) + off = (tgt : Int)) (kt : x = 0 → Wx Λ μ d Q tgt ls st I) (kf : ¬ x = 0 → Wx Λ μ d Q (pc + 3) ls st I) : Wx Λ μ d Q pc ls (.int x :: st) I := by
  intro l G A p e s m args below meth c H locs la hC hP hD hS hl
  exact lv_if_eq hC.1 hC.2.1 hd ht (fun h => kt h l G A p e s m args below meth c H locs la hC hP hD hS hl) (fun h => kf h l G A p e s m args below meth c H locs la hC hP hD hS hl)
theorem x_icmp_eq {x y : Int32} {off : Int} {tgt : Nat} (hd : decode μ.2.1 pc = .ok (.if_icmp .eq off, 3)) (ht : (pc : Int) + off = (tgt : Int)) (kt : x = y → Wx Λ μ d Q tgt ls st I) (kf : ¬ x = y → Wx Λ μ d Q (pc + 3) ls st I) : Wx Λ μ d Q pc ls (.int y :: .int x :: st) I := by
  intro l G A p e s m args below meth c H locs la hC hP hD hS hl
  exact lv_icmp_eq hC.1 hC.2.1 hd ht (fun h => kt h l G A p e s m args below meth c H locs la hC hP hD hS hl) (fun h => kf h l G A p e s m args below meth c H locs la hC hP hD hS hl)
theorem x_if_ne {x : Int32} {off : Int} {tgt : Nat} (hd : decode μ.2.1 pc = .ok (.ifCond .ne off, 3)) (ht : (pc : Int) + off = (tgt : Int)) (kt : ¬ x = 0 → Wx Λ μ d Q tgt ls st I) (kf : x = 0 → Wx Λ μ d Q (pc + 3) ls st I) : Wx Λ μ d Q pc ls (.int x :: st) I := by
  intro l G A p e s m args below meth c H locs la hC hP hD hS hl
  exact lv_if_ne hC.1 hC.2.1 hd ht (fun h => kt h l G A p e s m args below meth c H locs la hC hP hD hS hl) (fun h => kf h l G A p e s m args below meth c H locs la hC hP hD hS hl)
theorem x_icmp_ne {x y : Int32} {off : Int} {tgt : Nat} (hd : decode μ.2.1 pc = .ok (.if_icmp .ne off, 3)) (ht : (pc : Int) + off = (tgt : Int)) (kt : ¬ x = y → Wx Λ μ d Q tgt ls st I) (kf : x = y → Wx Λ μ d Q (pc + 3) ls st I) : Wx Λ μ d Q pc ls (.int y :: .int x :: st) I := by
  intro l G A p e s m args below meth c H locs la hC hP hD hS hl
  exact lv_icmp_ne hC.1 hC.2.1 hd ht (fun h => kt h l G A p e s m args below meth c H locs la hC hP hD hS hl) (fun h => kf h l G A p e s m args below meth c H locs la hC hP hD hS hl)
theorem x_if_lt {x : Int32} {off : Int} {tgt : Nat} (hd : decode μ.2.1 pc = .ok (.ifCond .lt off, 3)) (ht : (pc : Int) + off = (tgt : Int)) (kt : x < 0 → Wx Λ μ d Q tgt ls st I) (kf : ¬ x < 0 → Wx Λ μ d Q (pc + 3) ls st I) : Wx Λ μ d Q pc ls (.int x :: st) I := by
  intro l G A p e s m args below meth c H locs la hC hP hD hS hl
  exact lv_if_lt hC.1 hC.2.1 hd ht (fun h => kt h l G A p e s m args below meth c H locs la hC hP hD hS hl) (fun h => kf h l G A p e s m args below meth c H locs la hC hP hD hS hl)
theorem x_icmp_lt {x y : Int32} {off : Int} {tgt : Nat} (hd : decode μ.2.1 pc = .ok (.if_icmp .lt off, 3)) (ht : (pc : Int) + off = (tgt : Int)) (kt : x < y → Wx Λ μ d Q tgt ls st I) (kf : ¬ x < y → Wx Λ μ d Q (pc + 3) ls st I) : Wx Λ μ d Q pc ls (.int y :: .int x :: st) I := by
  intro l G A p e s m args below meth c H locs la hC hP hD hS hl
  exact lv_icmp_lt hC.1 hC.2.1 hd ht (fun h => kt h l G A p e s m args below meth c H locs la hC hP hD hS hl) (fun h => kf h l G A p e s m args below meth c H locs la hC hP hD hS hl)
theorem x_if_ge {x : Int32} {off : Int} {tgt : Nat} (hd : decode μ.2.1 pc = .ok (.ifCond .ge off, 3)) (ht : (pc : Int) + off = (tgt : Int)) (kt : 0 ≤ x → Wx Λ μ d Q tgt ls st I) (kf : ¬ 0 ≤ x → Wx Λ μ d Q (pc + 3) ls st I) : Wx Λ μ d Q pc ls (.int x :: st) I := by
  intro l G A p e s m args below meth c H locs la hC hP hD hS hl
  exact lv_if_ge hC.1 hC.2.1 hd ht (fun h => kt h l G A p e s m args below meth c H locs la hC hP hD hS hl) (fun h => kf h l G A p e s m args below meth c H locs la hC hP hD hS hl)
theorem x_icmp_ge {x y : Int32} {off : Int} {tgt : Nat} (hd : decode μ.2.1 pc = .ok (.if_icmp .ge off, 3)) (ht : (pc : Int) + off = (tgt : Int)) (kt : y ≤ x → Wx Λ μ d Q tgt ls st I) (kf : ¬ y ≤ x → Wx Λ μ d Q (pc + 3) ls st I) : Wx Λ μ d Q pc ls (.int y :: .int x :: st) I := by
  intro l G A p e s m args below meth c H locs la hC hP hD hS hl
  exact lv_icmp_ge hC.1 hC.2.1 hd ht (fun h => kt h l G A p e s m args below meth c H locs la hC hP hD hS hl) (fun h => kf h l G A p e s m args below meth c H locs la hC hP hD hS hl)
theorem x_if_gt {x : Int32} {off : Int} {tgt : Nat} (hd : decode μ.2.1 pc = .ok (.ifCond .gt off, 3)) (ht : (pc : Int) + off = (tgt : Int)) (kt : 0 < x → Wx Λ μ d Q tgt ls st I) (kf : ¬ 0 < x → Wx Λ μ d Q (pc + 3) ls st I) : Wx Λ μ d Q pc ls (.int x :: st) I := by
  intro l G A p e s m args below meth c H locs la hC hP hD hS hl
  exact lv_if_gt hC.1 hC.2.1 hd ht (fun h => kt h l G A p e s m args below meth c H locs la hC hP hD hS hl) (fun h => kf h l G A p e s m args below meth c H locs la hC hP hD hS hl)
theorem x_icmp_gt {x y : Int32} {off : Int} {tgt : Nat} (hd : decode μ.2.1 pc = .ok (.if_icmp .gt off, 3)) (ht : (pc : Int) + off = (tgt : Int)) (kt : y < x → Wx Λ μ d Q tgt ls st I) (kf : ¬ y < x → Wx Λ μ d Q (pc + 3) ls st I) : Wx Λ μ d Q pc ls (.int y :: .int x :: st) I := by
  intro l G A p e s m args below meth c H locs la hC hP hD hS hl
  exact lv_icmp_gt hC.1 hC.2.1 hd ht (fun h => kt h l G A p e s m args below meth c H locs la hC hP hD hS hl) (fun h => kf h l G A p e s m args below meth c H locs la hC hP hD hS hl)
theorem x_if_le {x : Int32} {off : Int} {tgt : Nat} (hd : decode μ.2.1 pc = .ok (.ifCond .le off, 3)) (ht : (pc : Int) + off = (tgt : Int)) (kt : x ≤ 0 → Wx Λ μ d Q tgt ls st I) (kf : ¬ x ≤ 0 → Wx Λ μ d Q (pc + 3) ls st I) : Wx Λ μ d Q pc ls (.int x :: st) I := by
  intro l G A p e s m args below meth c H locs la hC hP hD hS hl
  exact lv_if_le hC.1 hC.2.1 hd ht (fun h => kt h l G A p e s m args below meth c H locs la hC hP hD hS hl) (fun h => kf h l G A p e s m args below meth c H locs la hC hP hD hS hl)
theorem x_icmp_le {x y : Int32} {off : Int} {tgt : Nat} (hd : decode μ.2.1 pc = .ok (.if_icmp .le off, 3)) (ht : (pc : Int) + off = (tgt : Int)) (kt : x ≤ y → Wx Λ μ d Q tgt ls st I) (kf : ¬ x ≤ y → Wx Λ μ d Q (pc + 3) ls st I) : Wx Λ μ d Q pc ls (.int y :: .int x :: st) I := by
  intro l G A p e s m args below meth c H locs la hC hP hD hS hl
  exact lv_icmp_le hC.1 hC.2.1 hd ht (fun h => kt h l G A p e s m args below meth c H locs la hC hP hD hS hl) (fun h => kf h l G A p e s m args below meth c H locs la hC hP hD hS hl)
theorem x_goto {off : Int} {tgt : Nat} (hd : decode μ.2.1 pc = .ok (.goto off, 3)) (ht : (pc : Int) + off = (tgt : Int)) (k : Wx Λ μ d Q tgt ls st I) : Wx Λ μ d Q pc ls st I := by
  intro l G A p e s m args below meth c H locs la hC hP hD hS hl
  exact lv_goto hC.1 hC.2.1 hd ht (k l G A p e s m args below meth c H locs la hC hP hD hS hl)
theorem x_tableOut {dflt lo hi : Int} {offs : Array Int} {len : Nat} {x : Int32} {tgt : Nat} (hd : decode μ.2.1 pc = .ok (.tableswitch dflt lo hi offs, len)) (h : x.toInt < lo ∨ hi < x.toInt) (ht : (pc : Int) + dflt = (tgt : Int)) (k : Wx Λ μ d Q tgt ls st I) : Wx Λ μ d Q pc ls (.int x :: st) I := by
  intro l G A p e s m args below meth c H locs la hC hP hD hS hl
  exact lv_tableOut hC.1 hC.2.1 hd h ht (k l G A p e s m args below meth c H locs la hC hP hD hS hl)
theorem x_tableIn {dflt lo hi : Int} {offs : Array Int} {len : Nat} {x : Int32} {off : Int} {tgt : Nat} (hd : decode μ.2.1 pc = .ok (.tableswitch dflt lo hi offs, len)) (h1 : ¬ x.toInt < lo) (h2 : ¬ hi < x.toInt) (ho : offs[(x.toInt - lo).toNat]? = some off) (ht : (pc : Int) + off = (tgt : Int)) (k : Wx Λ μ d Q tgt ls st I) : Wx Λ μ d Q pc ls (.int x :: st) I := by
  intro l G A p e s m args below meth c H locs la hC hP hD hS hl
  exact lv_tableIn hC.1 hC.2.1 hd h1 h2 ho ht (k l G A p e s m args below meth c H locs la hC hP hD hS hl)
theorem x_ldc {idx : Nat} {v : Int32} (hd : decode μ.2.1 pc = .ok (.ldc idx, 2)) (hk : Cond.constant μ.1 idx v ∈ x_good) (k : Wx Λ μ d Q (pc + 2) ls (.int v :: st) I) : Wx Λ μ d Q pc ls st I := by
  intro l G A p e s m args below meth c H locs la hC hP hD hS hl
  exact lv_ldc hC.1 hC.2.1 hC.2.2.2.2.1 (hC.2.2.2.2.2.1 _ hk) hd (k l G A p e s m args below meth c H locs la hC hP hD hS hl)
theorem x_ldcw {idx : Nat} {v : Int32} (hd : decode μ.2.1 pc = .ok (.ldc_w idx, 3)) (hk : Cond.constant μ.1 idx v ∈ x_good) (k : Wx Λ μ d Q (pc + 3) ls (.int v :: st) I) : Wx Λ μ d Q pc ls st I := by
  intro l G A p e s m args below meth c H locs la hC hP hD hS hl
  exact lv_ldcw hC.1 hC.2.1 hC.2.2.2.2.1 (hC.2.2.2.2.2.1 _ hk) hd (k l G A p e s m args below meth c H locs la hC hP hD hS hl)
theorem x_iret {v : Int32} (hd : decode μ.2.1 pc = .ok (.ireturn, 1)) (hr : μ.2.2.2 = some .int) (hq : Q (some (.int v)) I) : Wx Λ μ d Q pc ls [.int v] I := by
  intro l G A p e s m args below meth c H locs la hC hP hD hS hl
  exact W.iret hC.1 hC.2.1 (hC.2.2.1.trans hr) (fun t ht _ => ⟨⟨some (.int v), I, rfl, hq, by rw [ht]; exact hP⟩, hS.F ht⟩) hS.2.2 hd hC.2.2.2.2.2.2.1
theorem x_zret {v : Int32} (hd : decode μ.2.1 pc = .ok (.ireturn, 1)) (hr : μ.2.2.2 = some .boolean) (hv : v = 0 ∨ v = 1) (hq : Q (some (.int v)) I) : Wx Λ μ d Q pc ls [.int v] I := by
  intro l G A p e s m args below meth c H locs la hC hP hD hS hl
  exact W.zret (ty := .boolean) hC.1 hC.2.1 (hC.2.2.1.trans hr) (by rcases hv with rfl | rfl <;> rfl) (fun t ht _ => ⟨⟨some (.int v), I, rfl, hq, by rw [ht]; exact hP⟩, hS.F ht⟩) hS.2.2 hd hC.2.2.2.2.2.2.1
theorem x_vret (hd : decode μ.2.1 pc = .ok (.return_, 1)) (hr : μ.2.2.2 = none) (hq : Q none I) : Wx Λ μ d Q pc ls [] I := by
  intro l G A p e s m args below meth c H locs la hC hP hD hS hl
  exact W.vret hC.1 hC.2.1 (hC.2.2.1.trans hr) (fun t ht _ => ⟨⟨none, I, rfl, hq, by rw [ht]; exact hP⟩, hS.F ht⟩) hS.2.2 hd hC.2.2.2.2.2.2.1
theorem x_aret {k : Nat} {rt : String} (hd : decode μ.2.1 pc = .ok (.areturn, 1)) (hr : μ.2.2.2 = some (.object rt)) (hq : Q (some (.ref k)) I) : Wx Λ μ d Q pc ls [.ref k] I := by
  intro l G A p e s m args below meth c H locs la hC hP hD hS hl
  exact W.aret (v := .ref (G.2.2 k)) hC.1 hC.2.1 (hC.2.2.1.trans hr) (Or.inl ⟨_, rfl⟩) (Or.inr ⟨_, rfl⟩) (fun t ht _ => ⟨⟨some (.ref k), I, rfl, hq, by rw [ht]; exact hP⟩, hS.F ht⟩) hS.2.2 hd hC.2.2.2.2.2.2.1
end XR
