/-! the law: a call of both, case by case: printed by law.py -/
/-- what stays fixed in the law -/
def LFix (l : Launch) (p : Program) (e : Env) (s : State) (m : MethodId) (below : List Frame) (meth : Method) (c : Code) (b L : Nat) (xs : Nat → Int32) (D : va_G) (cI cB cD : ClassId) (ad ad2 : Nat → Nat) : Prop :=
  lw_At p s m meth c b L xs ∧ L ≤ 2048 ∧ va_K D vwCl [(cI, .int), (cB, .boolean), (cD, .object "GraveRows$Dig")] s ∧ xNw s ∧ (∀ w ∈ x_good, w.before #[Value.ref b] s = true)
/-- the law's machine: the class in the state V1, the reference in V2 -/
def LW (l : Launch) (p : Program) (e : Env) (s : State) (m : MethodId) (below : List Frame) (meth : Method) (c : Code) (b : Nat) (D : va_G) (cI cB cD : ClassId) (ad ad2 : Nat → Nat) (pc i : Nat) (st : List Value) (V1 V2 : WS) : Prop :=
  ∀ (I J : xMem) (H : Heap) (locs : List Loc) (ls : Array Slot), CR I V1 → MR J V2 → va_P D vwCl (xw LX (yG D cI cB cD ad) I ++ xw LM (yG D cI cB cD ad2) J) H → va_D (fun q : Nat => s.heap.size ≤ q) (xw LX (yG D cI cB cD ad) I ++ xw LM (yG D cI cB cD ad2) J) → va_S (fun q : Nat => s.heap.size ≤ q) s.heap H locs → lv_has ls 4 [(3, .int (nI i)), (0, .ref b), (1, .ref (ad 0)), (2, .ref (ad2 0))] →
    W p l e room_1 s m #[Value.ref b] below meth c H locs 40 10000 (lw_Z below #[Value.ref b] s) (F0 m pc ls st)
section LR
variable {l : Launch} {p : Program} {e : Env} {s : State} {m : MethodId} {below : List Frame} {meth : Method} {c : Code} {b L : Nat} {xs : Nat → Int32} {D : va_G} {cI cB cD : ClassId} {ad ad2 : Nat → Nat} {pc i : Nat} {st : List Value} {V1 V2 : WS}
theorem r_x (hL : LFix l p e s m below meth c b L xs D cI cB cD ad ad2) {f : Fin 4} (hd : decode code pc = .ok (.aload_n f, 1)) (kk : LW l p e s m below meth c b D cI cB cD ad ad2 (pc + 1) i (.ref (ad 0) :: st) V1 V2) (hf : (f : Nat) = 1 := by rfl) : LW l p e s m below meth c b D cI cB cD ad ad2 pc i st V1 V2 := by
  intro I J H locs ls hC hM hP hD hS hl
  exact lv_aload_n hL.1.1 hL.1.2.1 hd hf (lv_at hl 2 rfl) (kk I J H locs ls hC hM hP hD hS hl)
theorem r_m (hL : LFix l p e s m below meth c b L xs D cI cB cD ad ad2) {f : Fin 4} (hd : decode code pc = .ok (.aload_n f, 1)) (kk : LW l p e s m below meth c b D cI cB cD ad ad2 (pc + 1) i (.ref (ad2 0) :: st) V1 V2) (hf : (f : Nat) = 2 := by rfl) : LW l p e s m below meth c b D cI cB cD ad ad2 pc i st V1 V2 := by
  intro I J H locs ls hC hM hP hD hS hl
  exact lv_aload_n hL.1.1 hL.1.2.1 hd hf (lv_at hl 3 rfl) (kk I J H locs ls hC hM hP hD hS hl)
theorem r_arg (hL : LFix l p e s m below meth c b L xs D cI cB cD ad ad2) (a : Nat) {f g : Fin 4} {ai : Int} (d0 : decode code pc = .ok (.aload_n f, 1)) (d1 : decode code (pc + 1) = .ok (.iload_n g, 1)) (d2 : decode code (pc + 2) = .ok (.iconst ai, 1)) (d3 : decode code (pc + 3) = .ok (.iadd, 1)) (d4 : decode code (pc + 4) = .ok (.iaload, 1)) (ha : Int32.ofInt ai = nI a) (hi : i + a < L) (kk : LW l p e s m below meth c b D cI cB cD ad ad2 (pc + 5) i (.int (xs (i + a)) :: st) V1 V2) (hf : (f : Nat) = 0 := by rfl) (hg : (g : Nat) = 3 := by rfl) : LW l p e s m below meth c b D cI cB cD ad ad2 pc i st V1 V2 := by
  intro I J H locs ls hC hM hP hD hS hl
  obtain ⟨⟨hx, hb, hr, hml, hown, hts, hX, hbl, hlocks, hgv⟩, hL2, -⟩ := hL
  refine lv_aload_n hx hb d0 hf (lv_at hl 1 rfl) ?_
  refine lv_iload_n hx hb d1 hg (lv_at hl 0 rfl) ?_
  refine lv_iconst hx hb d2 ha ?_
  refine lv_iadd hx hb d3 ?_
  rw [nI_add]
  refine va_sld hx hb hX hbl (A := fun q : Nat => s.heap.size ≤ q) (Nat.not_le.mpr hbl) hS (vp_in_nI hi (by omega)) d4 ?_
  rw [nI_clamp (by omega)]
  exact kk I J H locs ls hC hM hP hD hS hl
theorem r_cx (hL : LFix l p e s m below meth c b L xs D cI cB cD ad ad2) {idx nP N : Nat} {y : MethodName} {μ' : xM} {as st0 : List Value} {ρ : Int32} {V' : WS} {T : u_T} (hl1 : Cond.methodLink RL idx y ∈ x_good) (hl2 : Cond.instanceMethod y ∈ x_good) (hl3 : Cond.selects y.cls y y ∈ x_good) (hy : xcal y μ' nP) (hc : vwCl[4]? = some (y.cls, T, N)) (hM : ∀ I, CR I V1 → Cx LX y μ' 8 (.ref 0 :: as) I (xRi (fun r J => r = ρ ∧ CR J V'))) (hd : decode code pc = .ok (.invokevirtual idx, 3)) (hfr : 8 + (μ'.2.2.1 + 11) + 34 * 8 ≤ 354) (hn : as.length = nP) (hst0 : (as.map (xv ad)).reverse ++ .ref (ad 0) :: st = st0) (hst : (st.map fun v => v.category).sum ≤ 8) (kk : LW l p e s m below meth c b D cI cB cD ad ad2 (pc + 3) i (.int ρ :: st) V' V2) : LW l p e s m below meth c b D cI cB cD ad ad2 pc i st0 V1 V2 := by
  intro I J H locs ls hC hM2 hP hD hS hl
  obtain ⟨⟨hx, hb, hr, hml, hown, hts, hX, hbl, hlocks, hgv⟩, hL2, hK, hN, hw⟩ := hL
  refine z_callV (Λ := LX) (G := yG D cI cB cD ad) (own := RL) (μ' := μ') 4 hx hb (hl.1.trans hml.symm) hown hw hK hN hl1 hl2 hl3 hy hc (hM I hC) hd ⟨by decide, hfr⟩ (k0 := 0) rfl rfl hn hst0.symm hst ⟨Nat.le_of_ble_eq_true rfl, Nat.le_of_ble_eq_true rfl⟩ hP hD hS (fun _ h => h) (fun v I' H1 locs1 h1 h2 h3 h4 => ?_)
  obtain ⟨r, rfl, rfl, h5⟩ := h1
  exact kk I' J H1 locs1 ls h5 hM2 h2 h3 h4 hl
theorem r_cm (hL : LFix l p e s m below meth c b L xs D cI cB cD ad ad2) {idx nP N : Nat} {y : MethodName} {μ' : xM} {as st0 : List Value} {ρ : Int32} {V' : WS} {T : u_T} (hl1 : Cond.methodLink RL idx y ∈ x_good) (hl2 : Cond.instanceMethod y ∈ x_good) (hl3 : Cond.selects y.cls y y ∈ x_good) (hy : xcal y μ' nP) (hc : vwCl[5]? = some (y.cls, T, N)) (hM : ∀ I, MR I V2 → Cx LM y μ' 8 (.ref 0 :: as) I (xRi (fun r J => r = ρ ∧ MR J V'))) (hd : decode code pc = .ok (.invokevirtual idx, 3)) (hfr : 8 + (μ'.2.2.1 + 11) + 34 * 8 ≤ 354) (hn : as.length = nP) (hst0 : (as.map (xv ad2)).reverse ++ .ref (ad2 0) :: st = st0) (hst : (st.map fun v => v.category).sum ≤ 8) (kk : LW l p e s m below meth c b D cI cB cD ad ad2 (pc + 3) i (.int ρ :: st) V1 V') : LW l p e s m below meth c b D cI cB cD ad ad2 pc i st0 V1 V2 := by
  intro I J H locs ls hC hM2 hP hD hS hl
  obtain ⟨⟨hx, hb, hr, hml, hown, hts, hX, hbl, hlocks, hgv⟩, hL2, hK, hN, hw⟩ := hL
  refine z_callV (Λ := LM) (G := yG D cI cB cD ad2) (own := RL) (μ' := μ') 5 hx hb (hl.1.trans hml.symm) hown hw hK hN hl1 hl2 hl3 hy hc (hM J hM2) hd ⟨by decide, hfr⟩ (k0 := 0) rfl rfl hn hst0.symm hst ⟨Nat.le_of_ble_eq_true rfl, Nat.le_of_ble_eq_true rfl⟩ (P_swap hP) (D_swap hD) hS (fun _ h => h) (fun v J' H1 locs1 h1 h2 h3 h4 => ?_)
  obtain ⟨r, rfl, rfl, h5⟩ := h1
  exact kk I J' H1 locs1 ls hC h5 (P_swap h2) (D_swap h3) h4 hl
theorem r_eq (hL : LFix l p e s m below meth c b L xs D cI cB cD ad ad2) {off : Int} {tgt : Nat} {x : Int32} (hd : decode code pc = .ok (.if_icmp .eq off, 3)) (ht : (pc : Int) + off = (tgt : Int)) (kk : LW l p e s m below meth c b D cI cB cD ad ad2 tgt i st V1 V2) : LW l p e s m below meth c b D cI cB cD ad ad2 pc i (.int x :: .int x :: st) V1 V2 := by
  intro I J H locs ls hC hM hP hD hS hl
  exact lv_icmp_eq hL.1.1 hL.1.2.1 hd ht (fun _ => kk I J H locs ls hC hM hP hD hS hl) (fun h => absurd rfl h)
/-- on to the next four ints -/
theorem r_next (hL : LFix l p e s m below meth c b L xs D cI cB cD ad ad2) (d0 : decode code 756 = .ok (.iinc 3 4, 3)) (d1 : decode code 759 = .ok (.goto (-741), 3)) (kk : LW l p e s m below meth c b D cI cB cD ad ad2 18 (i + 4) [] V1 V2) : LW l p e s m below meth c b D cI cB cD ad ad2 756 i [] V1 V2 := by
  intro I J H locs ls hC hM hP hD hS hl
  refine lv_iinc (k := 0) (v := nI (i + 4)) (lv' := [(3, .int (nI (i + 4))), (0, .ref b), (1, .ref (ad 0)), (2, .ref (ad2 0))]) hL.1.1 hL.1.2.1 d0 hl rfl (inc_4 i) (by decide) rfl (fun ls hl => ?_)
  exact lv_goto (tgt := 18) hL.1.1 hL.1.2.1 d1 (by decide) (kk I J H locs ls hC hM hP hD hS hl)
end LR
section LC
variable {l : Launch} {p : Program} {e : Env} {s : State} {m : MethodId} {below : List Frame} {meth : Method} {c : Code} {b L : Nat} {xs : Nat → Int32} {D : va_G} {cI cB cD : ClassId} {ad ad2 : Nat → Nat} {i : Nat} {V : WS}
theorem lc_0 (hL : LFix l p e s m below meth c b L xs D cI cB cD ad ad2) (hi : i + 4 ≤ L) (hV : WOk V) (kk : LW l p e s m below meth c b D cI cB cD ad ad2 756 i [] (spMany (xs (i + 1)) V).2 (spMany (xs (i + 1)) V).2) : LW l p e s m below meth c b D cI cB cD ad ad2 144 i [] V V := by
  refine r_x hL dL_law_144 ?_
  refine r_arg hL 1 dL_law_145 dL_law_146 dL_law_147 dL_law_148 dL_law_149 ic_1 (by omega) ?_
  refine r_cx hL (as := [.int (xs (i + 1))]) (ρ := (spMany (xs (i + 1)) V).1) (V' := (spMany (xs (i + 1)) V).2) ml_L_13 in_X5_many se_X5_many ct_X5_many rfl (fun I h => k_many hV h) dL_law_150 (Nat.le_of_ble_eq_true rfl) rfl rfl (Nat.le_of_ble_eq_true rfl) ?_
  refine r_m hL dL_law_153 ?_
  refine r_arg hL 1 dL_law_154 dL_law_155 dL_law_156 dL_law_157 dL_law_158 ic_1 (by omega) ?_
  refine r_cm hL (as := [.int (xs (i + 1))]) (ρ := (spMany (xs (i + 1)) V).1) (V' := (spMany (xs (i + 1)) V).2) ml_L_17 in_X6_many se_X6_many ct_X6_many rfl (fun I h => m_many hV h) dL_law_159 (Nat.le_of_ble_eq_true rfl) rfl rfl (Nat.le_of_ble_eq_true rfl) ?_
  exact r_eq hL dL_law_162 rfl kk
theorem lc_1 (hL : LFix l p e s m below meth c b L xs D cI cB cD ad ad2) (hi : i + 4 ≤ L) (hV : WOk V) (kk : LW l p e s m below meth c b D cI cB cD ad ad2 756 i [] (spFind (xs (i + 1)) (xs (i + 2)) (xs (i + 3)) V).2 (spFind (xs (i + 1)) (xs (i + 2)) (xs (i + 3)) V).2) : LW l p e s m below meth c b D cI cB cD ad ad2 167 i [] V V := by
  refine r_x hL dL_law_167 ?_
  refine r_arg hL 1 dL_law_168 dL_law_169 dL_law_170 dL_law_171 dL_law_172 ic_1 (by omega) ?_
  refine r_arg hL 2 dL_law_173 dL_law_174 dL_law_175 dL_law_176 dL_law_177 ic_2 (by omega) ?_
  refine r_arg hL 3 dL_law_178 dL_law_179 dL_law_180 dL_law_181 dL_law_182 ic_3 (by omega) ?_
  refine r_cx hL (as := [.int (xs (i + 1)), .int (xs (i + 2)), .int (xs (i + 3))]) (ρ := (spFind (xs (i + 1)) (xs (i + 2)) (xs (i + 3)) V).1) (V' := (spFind (xs (i + 1)) (xs (i + 2)) (xs (i + 3)) V).2) ml_L_18 in_X5_find se_X5_find ct_X5_find rfl (fun I h => k_find hV h) dL_law_183 (Nat.le_of_ble_eq_true rfl) rfl rfl (Nat.le_of_ble_eq_true rfl) ?_
  refine r_m hL dL_law_186 ?_
  refine r_arg hL 1 dL_law_187 dL_law_188 dL_law_189 dL_law_190 dL_law_191 ic_1 (by omega) ?_
  refine r_arg hL 2 dL_law_192 dL_law_193 dL_law_194 dL_law_195 dL_law_196 ic_2 (by omega) ?_
  refine r_arg hL 3 dL_law_197 dL_law_198 dL_law_199 dL_law_200 dL_law_201 ic_3 (by omega) ?_
  refine r_cm hL (as := [.int (xs (i + 1)), .int (xs (i + 2)), .int (xs (i + 3))]) (ρ := (spFind (xs (i + 1)) (xs (i + 2)) (xs (i + 3)) V).1) (V' := (spFind (xs (i + 1)) (xs (i + 2)) (xs (i + 3)) V).2) ml_L_22 in_X6_find se_X6_find ct_X6_find rfl (fun I h => m_find hV h) dL_law_202 (Nat.le_of_ble_eq_true rfl) rfl rfl (Nat.le_of_ble_eq_true rfl) ?_
  exact r_eq hL dL_law_205 rfl kk
theorem lc_2 (hL : LFix l p e s m below meth c b L xs D cI cB cD ad ad2) (hi : i + 4 ≤ L) (hV : WOk V) (kk : LW l p e s m below meth c b D cI cB cD ad ad2 756 i [] (spAhead (xs (i + 1)) (xs (i + 2)) (xs (i + 3)) V).2 (spAhead (xs (i + 1)) (xs (i + 2)) (xs (i + 3)) V).2) : LW l p e s m below meth c b D cI cB cD ad ad2 210 i [] V V := by
  refine r_x hL dL_law_210 ?_
  refine r_arg hL 1 dL_law_211 dL_law_212 dL_law_213 dL_law_214 dL_law_215 ic_1 (by omega) ?_
  refine r_arg hL 2 dL_law_216 dL_law_217 dL_law_218 dL_law_219 dL_law_220 ic_2 (by omega) ?_
  refine r_arg hL 3 dL_law_221 dL_law_222 dL_law_223 dL_law_224 dL_law_225 ic_3 (by omega) ?_
  refine r_cx hL (as := [.int (xs (i + 1)), .int (xs (i + 2)), .int (xs (i + 3))]) (ρ := (spAhead (xs (i + 1)) (xs (i + 2)) (xs (i + 3)) V).1) (V' := (spAhead (xs (i + 1)) (xs (i + 2)) (xs (i + 3)) V).2) ml_L_23 in_X5_ahead se_X5_ahead ct_X5_ahead rfl (fun I h => k_ahead hV h) dL_law_226 (Nat.le_of_ble_eq_true rfl) rfl rfl (Nat.le_of_ble_eq_true rfl) ?_
  refine r_m hL dL_law_229 ?_
  refine r_arg hL 1 dL_law_230 dL_law_231 dL_law_232 dL_law_233 dL_law_234 ic_1 (by omega) ?_
  refine r_arg hL 2 dL_law_235 dL_law_236 dL_law_237 dL_law_238 dL_law_239 ic_2 (by omega) ?_
  refine r_arg hL 3 dL_law_240 dL_law_241 dL_law_242 dL_law_243 dL_law_244 ic_3 (by omega) ?_
  refine r_cm hL (as := [.int (xs (i + 1)), .int (xs (i + 2)), .int (xs (i + 3))]) (ρ := (spAhead (xs (i + 1)) (xs (i + 2)) (xs (i + 3)) V).1) (V' := (spAhead (xs (i + 1)) (xs (i + 2)) (xs (i + 3)) V).2) ml_L_26 in_X6_ahead se_X6_ahead ct_X6_ahead rfl (fun I h => m_ahead hV h) dL_law_245 (Nat.le_of_ble_eq_true rfl) rfl rfl (Nat.le_of_ble_eq_true rfl) ?_
  exact r_eq hL dL_law_248 rfl kk
theorem lc_3 (hL : LFix l p e s m below meth c b L xs D cI cB cD ad ad2) (hi : i + 4 ≤ L) (hV : WOk V) (kk : LW l p e s m below meth c b D cI cB cD ad ad2 756 i [] V V) : LW l p e s m below meth c b D cI cB cD ad ad2 253 i [] V V := by
  refine r_x hL dL_law_253 ?_
  refine r_arg hL 1 dL_law_254 dL_law_255 dL_law_256 dL_law_257 dL_law_258 ic_1 (by omega) ?_
  refine r_arg hL 2 dL_law_259 dL_law_260 dL_law_261 dL_law_262 dL_law_263 ic_2 (by omega) ?_
  refine r_cx hL (as := [.int (xs (i + 1)), .int (xs (i + 2))]) (ρ := (spGrave (xs (i + 1)) (xs (i + 2)) V)) (V' := V) ml_L_27 in_X5_grave se_X5_grave ct_X5_grave rfl (fun I h => k_grave hV h) dL_law_264 (Nat.le_of_ble_eq_true rfl) rfl rfl (Nat.le_of_ble_eq_true rfl) ?_
  refine r_m hL dL_law_267 ?_
  refine r_arg hL 1 dL_law_268 dL_law_269 dL_law_270 dL_law_271 dL_law_272 ic_1 (by omega) ?_
  refine r_arg hL 2 dL_law_273 dL_law_274 dL_law_275 dL_law_276 dL_law_277 ic_2 (by omega) ?_
  refine r_cm hL (as := [.int (xs (i + 1)), .int (xs (i + 2))]) (ρ := (spGrave (xs (i + 1)) (xs (i + 2)) V)) (V' := V) ml_L_31 in_X6_grave se_X6_grave ct_X6_grave rfl (fun I h => m_grave hV h) dL_law_278 (Nat.le_of_ble_eq_true rfl) rfl rfl (Nat.le_of_ble_eq_true rfl) ?_
  exact r_eq hL dL_law_281 rfl kk
theorem lc_4 (hL : LFix l p e s m below meth c b L xs D cI cB cD ad ad2) (hi : i + 4 ≤ L) (hV : WOk V) (kk : LW l p e s m below meth c b D cI cB cD ad ad2 756 i [] V V) : LW l p e s m below meth c b D cI cB cD ad ad2 286 i [] V V := by
  refine r_x hL dL_law_286 ?_
  refine r_arg hL 1 dL_law_287 dL_law_288 dL_law_289 dL_law_290 dL_law_291 ic_1 (by omega) ?_
  refine r_arg hL 2 dL_law_292 dL_law_293 dL_law_294 dL_law_295 dL_law_296 ic_2 (by omega) ?_
  refine r_cx hL (as := [.int (xs (i + 1)), .int (xs (i + 2))]) (ρ := (spSort (xs (i + 1)) (xs (i + 2)) V)) (V' := V) ml_L_32 in_X5_sort se_X5_sort ct_X5_sort rfl (fun I h => k_sort hV h) dL_law_297 (Nat.le_of_ble_eq_true rfl) rfl rfl (Nat.le_of_ble_eq_true rfl) ?_
  refine r_m hL dL_law_300 ?_
  refine r_arg hL 1 dL_law_301 dL_law_302 dL_law_303 dL_law_304 dL_law_305 ic_1 (by omega) ?_
  refine r_arg hL 2 dL_law_306 dL_law_307 dL_law_308 dL_law_309 dL_law_310 ic_2 (by omega) ?_
  refine r_cm hL (as := [.int (xs (i + 1)), .int (xs (i + 2))]) (ρ := (spSort (xs (i + 1)) (xs (i + 2)) V)) (V' := V) ml_L_35 in_X6_sort se_X6_sort ct_X6_sort rfl (fun I h => m_sort hV h) dL_law_311 (Nat.le_of_ble_eq_true rfl) rfl rfl (Nat.le_of_ble_eq_true rfl) ?_
  exact r_eq hL dL_law_314 rfl kk
theorem lc_5 (hL : LFix l p e s m below meth c b L xs D cI cB cD ad ad2) (hi : i + 4 ≤ L) (hV : WOk V) (kk : LW l p e s m below meth c b D cI cB cD ad ad2 756 i [] V V) : LW l p e s m below meth c b D cI cB cD ad ad2 319 i [] V V := by
  refine r_x hL dL_law_319 ?_
  refine r_arg hL 1 dL_law_320 dL_law_321 dL_law_322 dL_law_323 dL_law_324 ic_1 (by omega) ?_
  refine r_arg hL 2 dL_law_325 dL_law_326 dL_law_327 dL_law_328 dL_law_329 ic_2 (by omega) ?_
  refine r_cx hL (as := [.int (xs (i + 1)), .int (xs (i + 2))]) (ρ := (spAlike (xs (i + 1)) (xs (i + 2)) V)) (V' := V) ml_L_36 in_X5_alike se_X5_alike ct_X5_alike rfl (fun I h => k_alike hV h) dL_law_330 (Nat.le_of_ble_eq_true rfl) rfl rfl (Nat.le_of_ble_eq_true rfl) ?_
  refine r_m hL dL_law_333 ?_
  refine r_arg hL 1 dL_law_334 dL_law_335 dL_law_336 dL_law_337 dL_law_338 ic_1 (by omega) ?_
  refine r_arg hL 2 dL_law_339 dL_law_340 dL_law_341 dL_law_342 dL_law_343 ic_2 (by omega) ?_
  refine r_cm hL (as := [.int (xs (i + 1)), .int (xs (i + 2))]) (ρ := (spAlike (xs (i + 1)) (xs (i + 2)) V)) (V' := V) ml_L_39 in_X6_alike se_X6_alike ct_X6_alike rfl (fun I h => m_alike hV h) dL_law_344 (Nat.le_of_ble_eq_true rfl) rfl rfl (Nat.le_of_ble_eq_true rfl) ?_
  exact r_eq hL dL_law_347 rfl kk
theorem lc_6 (hL : LFix l p e s m below meth c b L xs D cI cB cD ad ad2) (hi : i + 4 ≤ L) (hV : WOk V) (kk : LW l p e s m below meth c b D cI cB cD ad ad2 756 i [] V V) : LW l p e s m below meth c b D cI cB cD ad ad2 352 i [] V V := by
  refine r_x hL dL_law_352 ?_
  refine r_cx hL (as := []) (ρ := (spLeast V)) (V' := V) ml_L_40 in_X5_least se_X5_least ct_X5_least rfl (fun I h => k_least hV h) dL_law_353 (Nat.le_of_ble_eq_true rfl) rfl rfl (Nat.le_of_ble_eq_true rfl) ?_
  refine r_m hL dL_law_356 ?_
  refine r_cm hL (as := []) (ρ := (spLeast V)) (V' := V) ml_L_44 in_X6_least se_X6_least ct_X6_least rfl (fun I h => m_least hV h) dL_law_357 (Nat.le_of_ble_eq_true rfl) rfl rfl (Nat.le_of_ble_eq_true rfl) ?_
  exact r_eq hL dL_law_360 rfl kk
theorem lc_7 (hL : LFix l p e s m below meth c b L xs D cI cB cD ad ad2) (hi : i + 4 ≤ L) (hV : WOk V) (kk : LW l p e s m below meth c b D cI cB cD ad ad2 756 i [] V V) : LW l p e s m below meth c b D cI cB cD ad ad2 365 i [] V V := by
  refine r_x hL dL_law_365 ?_
  refine r_cx hL (as := []) (ρ := (spBest V)) (V' := V) ml_L_45 in_X5_best se_X5_best ct_X5_best rfl (fun I h => k_best hV h) dL_law_366 (Nat.le_of_ble_eq_true rfl) rfl rfl (Nat.le_of_ble_eq_true rfl) ?_
  refine r_m hL dL_law_369 ?_
  refine r_cm hL (as := []) (ρ := (spBest V)) (V' := V) ml_L_48 in_X6_best se_X6_best ct_X6_best rfl (fun I h => m_best hV h) dL_law_370 (Nat.le_of_ble_eq_true rfl) rfl rfl (Nat.le_of_ble_eq_true rfl) ?_
  exact r_eq hL dL_law_373 rfl kk
theorem lc_8 (hL : LFix l p e s m below meth c b L xs D cI cB cD ad ad2) (hi : i + 4 ≤ L) (hV : WOk V) (kk : LW l p e s m below meth c b D cI cB cD ad ad2 756 i [] V V) : LW l p e s m below meth c b D cI cB cD ad ad2 378 i [] V V := by
  refine r_x hL dL_law_378 ?_
  refine r_arg hL 1 dL_law_379 dL_law_380 dL_law_381 dL_law_382 dL_law_383 ic_1 (by omega) ?_
  refine r_arg hL 2 dL_law_384 dL_law_385 dL_law_386 dL_law_387 dL_law_388 ic_2 (by omega) ?_
  refine r_cx hL (as := [.int (xs (i + 1)), .int (xs (i + 2))]) (ρ := (spOrder (xs (i + 1)) (xs (i + 2)) V)) (V' := V) ml_L_49 in_X5_order se_X5_order ct_X5_order rfl (fun I h => k_order hV h) dL_law_389 (Nat.le_of_ble_eq_true rfl) rfl rfl (Nat.le_of_ble_eq_true rfl) ?_
  refine r_m hL dL_law_392 ?_
  refine r_arg hL 1 dL_law_393 dL_law_394 dL_law_395 dL_law_396 dL_law_397 ic_1 (by omega) ?_
  refine r_arg hL 2 dL_law_398 dL_law_399 dL_law_400 dL_law_401 dL_law_402 ic_2 (by omega) ?_
  refine r_cm hL (as := [.int (xs (i + 1)), .int (xs (i + 2))]) (ρ := (spOrder (xs (i + 1)) (xs (i + 2)) V)) (V' := V) ml_L_52 in_X6_order se_X6_order ct_X6_order rfl (fun I h => m_order hV h) dL_law_403 (Nat.le_of_ble_eq_true rfl) rfl rfl (Nat.le_of_ble_eq_true rfl) ?_
  exact r_eq hL dL_law_406 rfl kk
theorem lc_9 (hL : LFix l p e s m below meth c b L xs D cI cB cD ad ad2) (hi : i + 4 ≤ L) (hV : WOk V) (kk : LW l p e s m below meth c b D cI cB cD ad ad2 756 i [] V V) : LW l p e s m below meth c b D cI cB cD ad ad2 411 i [] V V := by
  refine r_x hL dL_law_411 ?_
  refine r_arg hL 1 dL_law_412 dL_law_413 dL_law_414 dL_law_415 dL_law_416 ic_1 (by omega) ?_
  refine r_arg hL 2 dL_law_417 dL_law_418 dL_law_419 dL_law_420 dL_law_421 ic_2 (by omega) ?_
  refine r_cx hL (as := [.int (xs (i + 1)), .int (xs (i + 2))]) (ρ := (spBeside (xs (i + 1)) (xs (i + 2)) V)) (V' := V) ml_L_53 in_X5_beside se_X5_beside ct_X5_beside rfl (fun I h => k_beside hV h) dL_law_422 (Nat.le_of_ble_eq_true rfl) rfl rfl (Nat.le_of_ble_eq_true rfl) ?_
  refine r_m hL dL_law_425 ?_
  refine r_arg hL 1 dL_law_426 dL_law_427 dL_law_428 dL_law_429 dL_law_430 ic_1 (by omega) ?_
  refine r_arg hL 2 dL_law_431 dL_law_432 dL_law_433 dL_law_434 dL_law_435 ic_2 (by omega) ?_
  refine r_cm hL (as := [.int (xs (i + 1)), .int (xs (i + 2))]) (ρ := (spBeside (xs (i + 1)) (xs (i + 2)) V)) (V' := V) ml_L_56 in_X6_beside se_X6_beside ct_X6_beside rfl (fun I h => m_beside hV h) dL_law_436 (Nat.le_of_ble_eq_true rfl) rfl rfl (Nat.le_of_ble_eq_true rfl) ?_
  exact r_eq hL dL_law_439 rfl kk
theorem lc_10 (hL : LFix l p e s m below meth c b L xs D cI cB cD ad ad2) (hi : i + 4 ≤ L) (hV : WOk V) (kk : LW l p e s m below meth c b D cI cB cD ad ad2 756 i [] V V) : LW l p e s m below meth c b D cI cB cD ad ad2 444 i [] V V := by
  refine r_x hL dL_law_444 ?_
  refine r_arg hL 1 dL_law_445 dL_law_446 dL_law_447 dL_law_448 dL_law_449 ic_1 (by omega) ?_
  refine r_arg hL 2 dL_law_450 dL_law_451 dL_law_452 dL_law_453 dL_law_454 ic_2 (by omega) ?_
  refine r_cx hL (as := [.int (xs (i + 1)), .int (xs (i + 2))]) (ρ := (spPlace (xs (i + 1)) (xs (i + 2)) V)) (V' := V) ml_L_57 in_X5_place se_X5_place ct_X5_place rfl (fun I h => k_place hV h) dL_law_455 (Nat.le_of_ble_eq_true rfl) rfl rfl (Nat.le_of_ble_eq_true rfl) ?_
  refine r_m hL dL_law_458 ?_
  refine r_arg hL 1 dL_law_459 dL_law_460 dL_law_461 dL_law_462 dL_law_463 ic_1 (by omega) ?_
  refine r_arg hL 2 dL_law_464 dL_law_465 dL_law_466 dL_law_467 dL_law_468 ic_2 (by omega) ?_
  refine r_cm hL (as := [.int (xs (i + 1)), .int (xs (i + 2))]) (ρ := (spPlace (xs (i + 1)) (xs (i + 2)) V)) (V' := V) ml_L_60 in_X6_place se_X6_place ct_X6_place rfl (fun I h => m_place hV h) dL_law_469 (Nat.le_of_ble_eq_true rfl) rfl rfl (Nat.le_of_ble_eq_true rfl) ?_
  exact r_eq hL dL_law_472 rfl kk
theorem lc_11 (hL : LFix l p e s m below meth c b L xs D cI cB cD ad ad2) (hi : i + 4 ≤ L) (hV : WOk V) (kk : LW l p e s m below meth c b D cI cB cD ad ad2 756 i [] V V) : LW l p e s m below meth c b D cI cB cD ad ad2 477 i [] V V := by
  refine r_x hL dL_law_477 ?_
  refine r_arg hL 1 dL_law_478 dL_law_479 dL_law_480 dL_law_481 dL_law_482 ic_1 (by omega) ?_
  refine r_arg hL 2 dL_law_483 dL_law_484 dL_law_485 dL_law_486 dL_law_487 ic_2 (by omega) ?_
  refine r_cx hL (as := [.int (xs (i + 1)), .int (xs (i + 2))]) (ρ := (spBefore (xs (i + 1)) (xs (i + 2)) V)) (V' := V) ml_L_61 in_X5_before se_X5_before ct_X5_before rfl (fun I h => k_before hV h) dL_law_488 (Nat.le_of_ble_eq_true rfl) rfl rfl (Nat.le_of_ble_eq_true rfl) ?_
  refine r_m hL dL_law_491 ?_
  refine r_arg hL 1 dL_law_492 dL_law_493 dL_law_494 dL_law_495 dL_law_496 ic_1 (by omega) ?_
  refine r_arg hL 2 dL_law_497 dL_law_498 dL_law_499 dL_law_500 dL_law_501 ic_2 (by omega) ?_
  refine r_cm hL (as := [.int (xs (i + 1)), .int (xs (i + 2))]) (ρ := (spBefore (xs (i + 1)) (xs (i + 2)) V)) (V' := V) ml_L_64 in_X6_before se_X6_before ct_X6_before rfl (fun I h => m_before hV h) dL_law_502 (Nat.le_of_ble_eq_true rfl) rfl rfl (Nat.le_of_ble_eq_true rfl) ?_
  exact r_eq hL dL_law_505 rfl kk
theorem lc_12 (hL : LFix l p e s m below meth c b L xs D cI cB cD ad ad2) (hi : i + 4 ≤ L) (hV : WOk V) (kk : LW l p e s m below meth c b D cI cB cD ad ad2 756 i [] V V) : LW l p e s m below meth c b D cI cB cD ad ad2 510 i [] V V := by
  refine r_x hL dL_law_510 ?_
  refine r_arg hL 1 dL_law_511 dL_law_512 dL_law_513 dL_law_514 dL_law_515 ic_1 (by omega) ?_
  refine r_cx hL (as := [.int (xs (i + 1))]) (ρ := (spTogether (xs (i + 1)) V)) (V' := V) ml_L_65 in_X5_together se_X5_together ct_X5_together rfl (fun I h => k_together hV h) dL_law_516 (Nat.le_of_ble_eq_true rfl) rfl rfl (Nat.le_of_ble_eq_true rfl) ?_
  refine r_m hL dL_law_519 ?_
  refine r_arg hL 1 dL_law_520 dL_law_521 dL_law_522 dL_law_523 dL_law_524 ic_1 (by omega) ?_
  refine r_cm hL (as := [.int (xs (i + 1))]) (ρ := (spTogether (xs (i + 1)) V)) (V' := V) ml_L_68 in_X6_together se_X6_together ct_X6_together rfl (fun I h => m_together hV h) dL_law_525 (Nat.le_of_ble_eq_true rfl) rfl rfl (Nat.le_of_ble_eq_true rfl) ?_
  exact r_eq hL dL_law_528 rfl kk
theorem lc_13 (hL : LFix l p e s m below meth c b L xs D cI cB cD ad ad2) (hi : i + 4 ≤ L) (hV : WOk V) (kk : LW l p e s m below meth c b D cI cB cD ad ad2 756 i [] V V) : LW l p e s m below meth c b D cI cB cD ad ad2 533 i [] V V := by
  refine r_x hL dL_law_533 ?_
  refine r_arg hL 1 dL_law_534 dL_law_535 dL_law_536 dL_law_537 dL_law_538 ic_1 (by omega) ?_
  refine r_cx hL (as := [.int (xs (i + 1))]) (ρ := (spClump (xs (i + 1)) V)) (V' := V) ml_L_69 in_X5_clump se_X5_clump ct_X5_clump rfl (fun I h => k_clump hV h) dL_law_539 (Nat.le_of_ble_eq_true rfl) rfl rfl (Nat.le_of_ble_eq_true rfl) ?_
  refine r_m hL dL_law_542 ?_
  refine r_arg hL 1 dL_law_543 dL_law_544 dL_law_545 dL_law_546 dL_law_547 ic_1 (by omega) ?_
  refine r_cm hL (as := [.int (xs (i + 1))]) (ρ := (spClump (xs (i + 1)) V)) (V' := V) ml_L_72 in_X6_clump se_X6_clump ct_X6_clump rfl (fun I h => m_clump hV h) dL_law_548 (Nat.le_of_ble_eq_true rfl) rfl rfl (Nat.le_of_ble_eq_true rfl) ?_
  exact r_eq hL dL_law_551 rfl kk
theorem lc_14 (hL : LFix l p e s m below meth c b L xs D cI cB cD ad ad2) (hi : i + 4 ≤ L) (hV : WOk V) (kk : LW l p e s m below meth c b D cI cB cD ad ad2 756 i [] V V) : LW l p e s m below meth c b D cI cB cD ad ad2 556 i [] V V := by
  refine r_x hL dL_law_556 ?_
  refine r_arg hL 1 dL_law_557 dL_law_558 dL_law_559 dL_law_560 dL_law_561 ic_1 (by omega) ?_
  refine r_cx hL (as := [.int (xs (i + 1))]) (ρ := (spRow (xs (i + 1)) V)) (V' := V) ml_L_73 in_X5_row se_X5_row ct_X5_row rfl (fun I h => k_row hV h) dL_law_562 (Nat.le_of_ble_eq_true rfl) rfl rfl (Nat.le_of_ble_eq_true rfl) ?_
  refine r_m hL dL_law_565 ?_
  refine r_arg hL 1 dL_law_566 dL_law_567 dL_law_568 dL_law_569 dL_law_570 ic_1 (by omega) ?_
  refine r_cm hL (as := [.int (xs (i + 1))]) (ρ := (spRow (xs (i + 1)) V)) (V' := V) ml_L_76 in_X6_row se_X6_row ct_X6_row rfl (fun I h => m_row hV h) dL_law_571 (Nat.le_of_ble_eq_true rfl) rfl rfl (Nat.le_of_ble_eq_true rfl) ?_
  exact r_eq hL dL_law_574 rfl kk
theorem lc_15 (hL : LFix l p e s m below meth c b L xs D cI cB cD ad ad2) (hi : i + 4 ≤ L) (hV : WOk V) (kk : LW l p e s m below meth c b D cI cB cD ad ad2 756 i [] V V) : LW l p e s m below meth c b D cI cB cD ad ad2 579 i [] V V := by
  refine r_x hL dL_law_579 ?_
  refine r_arg hL 1 dL_law_580 dL_law_581 dL_law_582 dL_law_583 dL_law_584 ic_1 (by omega) ?_
  refine r_cx hL (as := [.int (xs (i + 1))]) (ρ := (spBreaks (xs (i + 1)) V)) (V' := V) ml_L_77 in_X5_breaks se_X5_breaks ct_X5_breaks rfl (fun I h => k_breaks hV h) dL_law_585 (Nat.le_of_ble_eq_true rfl) rfl rfl (Nat.le_of_ble_eq_true rfl) ?_
  refine r_m hL dL_law_588 ?_
  refine r_arg hL 1 dL_law_589 dL_law_590 dL_law_591 dL_law_592 dL_law_593 ic_1 (by omega) ?_
  refine r_cm hL (as := [.int (xs (i + 1))]) (ρ := (spBreaks (xs (i + 1)) V)) (V' := V) ml_L_80 in_X6_breaks se_X6_breaks ct_X6_breaks rfl (fun I h => m_breaks hV h) dL_law_594 (Nat.le_of_ble_eq_true rfl) rfl rfl (Nat.le_of_ble_eq_true rfl) ?_
  exact r_eq hL dL_law_597 rfl kk
theorem lc_16 (hL : LFix l p e s m below meth c b L xs D cI cB cD ad ad2) (hi : i + 4 ≤ L) (hV : WOk V) (kk : LW l p e s m below meth c b D cI cB cD ad ad2 756 i [] (spSwap (xs (i + 1)) V).2 (spSwap (xs (i + 1)) V).2) : LW l p e s m below meth c b D cI cB cD ad ad2 602 i [] V V := by
  refine r_x hL dL_law_602 ?_
  refine r_arg hL 1 dL_law_603 dL_law_604 dL_law_605 dL_law_606 dL_law_607 ic_1 (by omega) ?_
  refine r_cx hL (as := [.int (xs (i + 1))]) (ρ := (spSwap (xs (i + 1)) V).1) (V' := (spSwap (xs (i + 1)) V).2) ml_L_81 in_X5_swap se_X5_swap ct_X5_swap rfl (fun I h => k_swap hV h) dL_law_608 (Nat.le_of_ble_eq_true rfl) rfl rfl (Nat.le_of_ble_eq_true rfl) ?_
  refine r_m hL dL_law_611 ?_
  refine r_arg hL 1 dL_law_612 dL_law_613 dL_law_614 dL_law_615 dL_law_616 ic_1 (by omega) ?_
  refine r_cm hL (as := [.int (xs (i + 1))]) (ρ := (spSwap (xs (i + 1)) V).1) (V' := (spSwap (xs (i + 1)) V).2) ml_L_84 in_X6_swap se_X6_swap ct_X6_swap rfl (fun I h => m_swap hV h) dL_law_617 (Nat.le_of_ble_eq_true rfl) rfl rfl (Nat.le_of_ble_eq_true rfl) ?_
  exact r_eq hL dL_law_620 rfl kk
theorem lc_17 (hL : LFix l p e s m below meth c b L xs D cI cB cD ad ad2) (hi : i + 4 ≤ L) (hV : WOk V) (kk : LW l p e s m below meth c b D cI cB cD ad ad2 756 i [] (spBetter V).2 (spBetter V).2) : LW l p e s m below meth c b D cI cB cD ad ad2 625 i [] V V := by
  refine r_x hL dL_law_625 ?_
  refine r_cx hL (as := []) (ρ := (spBetter V).1) (V' := (spBetter V).2) ml_L_85 in_X5_better se_X5_better ct_X5_better rfl (fun I h => k_better hV h) dL_law_626 (Nat.le_of_ble_eq_true rfl) rfl rfl (Nat.le_of_ble_eq_true rfl) ?_
  refine r_m hL dL_law_629 ?_
  refine r_cm hL (as := []) (ρ := (spBetter V).1) (V' := (spBetter V).2) ml_L_88 in_X6_better se_X6_better ct_X6_better rfl (fun I h => m_better hV h) dL_law_630 (Nat.le_of_ble_eq_true rfl) rfl rfl (Nat.le_of_ble_eq_true rfl) ?_
  exact r_eq hL dL_law_633 rfl kk
theorem lc_18 (hL : LFix l p e s m below meth c b L xs D cI cB cD ad ad2) (hi : i + 4 ≤ L) (hV : WOk V) (kk : LW l p e s m below meth c b D cI cB cD ad ad2 756 i [] (spClimb V).2 (spClimb V).2) : LW l p e s m below meth c b D cI cB cD ad ad2 638 i [] V V := by
  refine r_x hL dL_law_638 ?_
  refine r_cx hL (as := []) (ρ := (spClimb V).1) (V' := (spClimb V).2) ml_L_89 in_X5_climb se_X5_climb ct_X5_climb rfl (fun I h => k_climb hV h) dL_law_639 (Nat.le_of_ble_eq_true rfl) rfl rfl (Nat.le_of_ble_eq_true rfl) ?_
  refine r_m hL dL_law_642 ?_
  refine r_cm hL (as := []) (ρ := (spClimb V).1) (V' := (spClimb V).2) ml_L_92 in_X6_climb se_X6_climb ct_X6_climb rfl (fun I h => m_climb hV h) dL_law_643 (Nat.le_of_ble_eq_true rfl) rfl rfl (Nat.le_of_ble_eq_true rfl) ?_
  exact r_eq hL dL_law_646 rfl kk
theorem lc_19 (hL : LFix l p e s m below meth c b L xs D cI cB cD ad ad2) (hi : i + 4 ≤ L) (hV : WOk V) (kk : LW l p e s m below meth c b D cI cB cD ad ad2 756 i [] V V) : LW l p e s m below meth c b D cI cB cD ad ad2 651 i [] V V := by
  refine r_x hL dL_law_651 ?_
  refine r_arg hL 1 dL_law_652 dL_law_653 dL_law_654 dL_law_655 dL_law_656 ic_1 (by omega) ?_
  refine r_cx hL (as := [.int (xs (i + 1))]) (ρ := (spNearest (xs (i + 1)) V)) (V' := V) ml_L_93 in_X5_nearest se_X5_nearest ct_X5_nearest rfl (fun I h => k_nearest hV h) dL_law_657 (Nat.le_of_ble_eq_true rfl) rfl rfl (Nat.le_of_ble_eq_true rfl) ?_
  refine r_m hL dL_law_660 ?_
  refine r_arg hL 1 dL_law_661 dL_law_662 dL_law_663 dL_law_664 dL_law_665 ic_1 (by omega) ?_
  refine r_cm hL (as := [.int (xs (i + 1))]) (ρ := (spNearest (xs (i + 1)) V)) (V' := V) ml_L_96 in_X6_nearest se_X6_nearest ct_X6_nearest rfl (fun I h => m_nearest hV h) dL_law_666 (Nat.le_of_ble_eq_true rfl) rfl rfl (Nat.le_of_ble_eq_true rfl) ?_
  exact r_eq hL dL_law_669 rfl kk
theorem lc_20 (hL : LFix l p e s m below meth c b L xs D cI cB cD ad ad2) (hi : i + 4 ≤ L) (hV : WOk V) (kk : LW l p e s m below meth c b D cI cB cD ad ad2 756 i [] (spSettle V).2 (spSettle V).2) : LW l p e s m below meth c b D cI cB cD ad ad2 674 i [] V V := by
  refine r_x hL dL_law_674 ?_
  refine r_cx hL (as := []) (ρ := (spSettle V).1) (V' := (spSettle V).2) ml_L_97 in_X5_settle se_X5_settle ct_X5_settle rfl (fun I h => k_settle hV h) dL_law_675 (Nat.le_of_ble_eq_true rfl) rfl rfl (Nat.le_of_ble_eq_true rfl) ?_
  refine r_m hL dL_law_678 ?_
  refine r_cm hL (as := []) (ρ := (spSettle V).1) (V' := (spSettle V).2) ml_L_100 in_X6_settle se_X6_settle ct_X6_settle rfl (fun I h => m_settle hV h) dL_law_679 (Nat.le_of_ble_eq_true rfl) rfl rfl (Nat.le_of_ble_eq_true rfl) ?_
  exact r_eq hL dL_law_682 rfl kk
theorem lc_21 (hL : LFix l p e s m below meth c b L xs D cI cB cD ad ad2) (hi : i + 4 ≤ L) (hV : WOk V) (kk : LW l p e s m below meth c b D cI cB cD ad ad2 756 i [] V V) : LW l p e s m below meth c b D cI cB cD ad ad2 687 i [] V V := by
  refine r_x hL dL_law_687 ?_
  refine r_arg hL 1 dL_law_688 dL_law_689 dL_law_690 dL_law_691 dL_law_692 ic_1 (by omega) ?_
  refine r_cx hL (as := [.int (xs (i + 1))]) (ρ := (spCount (xs (i + 1)) V)) (V' := V) ml_L_101 in_X5_count se_X5_count ct_X5_count rfl (fun I h => k_count hV h) dL_law_693 (Nat.le_of_ble_eq_true rfl) rfl rfl (Nat.le_of_ble_eq_true rfl) ?_
  refine r_m hL dL_law_696 ?_
  refine r_arg hL 1 dL_law_697 dL_law_698 dL_law_699 dL_law_700 dL_law_701 ic_1 (by omega) ?_
  refine r_cm hL (as := [.int (xs (i + 1))]) (ρ := (spCount (xs (i + 1)) V)) (V' := V) ml_L_104 in_X6_count se_X6_count ct_X6_count rfl (fun I h => m_count hV h) dL_law_702 (Nat.le_of_ble_eq_true rfl) rfl rfl (Nat.le_of_ble_eq_true rfl) ?_
  exact r_eq hL dL_law_705 rfl kk
theorem lc_22 (hL : LFix l p e s m below meth c b L xs D cI cB cD ad ad2) (hi : i + 4 ≤ L) (hV : WOk V) (kk : LW l p e s m below meth c b D cI cB cD ad ad2 756 i [] (spImage (xs (i + 1)) V).2 (spImage (xs (i + 1)) V).2) : LW l p e s m below meth c b D cI cB cD ad ad2 710 i [] V V := by
  refine r_x hL dL_law_710 ?_
  refine r_arg hL 1 dL_law_711 dL_law_712 dL_law_713 dL_law_714 dL_law_715 ic_1 (by omega) ?_
  refine r_cx hL (as := [.int (xs (i + 1))]) (ρ := (spImage (xs (i + 1)) V).1) (V' := (spImage (xs (i + 1)) V).2) ml_L_105 in_X5_image se_X5_image ct_X5_image rfl (fun I h => k_image hV h) dL_law_716 (Nat.le_of_ble_eq_true rfl) rfl rfl (Nat.le_of_ble_eq_true rfl) ?_
  refine r_m hL dL_law_719 ?_
  refine r_arg hL 1 dL_law_720 dL_law_721 dL_law_722 dL_law_723 dL_law_724 ic_1 (by omega) ?_
  refine r_cm hL (as := [.int (xs (i + 1))]) (ρ := (spImage (xs (i + 1)) V).1) (V' := (spImage (xs (i + 1)) V).2) ml_L_108 in_X6_image se_X6_image ct_X6_image rfl (fun I h => m_image hV h) dL_law_725 (Nat.le_of_ble_eq_true rfl) rfl rfl (Nat.le_of_ble_eq_true rfl) ?_
  exact r_eq hL dL_law_728 rfl kk
theorem lc_23 (hL : LFix l p e s m below meth c b L xs D cI cB cD ad ad2) (hi : i + 4 ≤ L) (hV : WOk V) (kk : LW l p e s m below meth c b D cI cB cD ad ad2 756 i [] (spRestore (xs (i + 1)) V).2 (spRestore (xs (i + 1)) V).2) : LW l p e s m below meth c b D cI cB cD ad ad2 733 i [] V V := by
  refine r_x hL dL_law_733 ?_
  refine r_arg hL 1 dL_law_734 dL_law_735 dL_law_736 dL_law_737 dL_law_738 ic_1 (by omega) ?_
  refine r_cx hL (as := [.int (xs (i + 1))]) (ρ := (spRestore (xs (i + 1)) V).1) (V' := (spRestore (xs (i + 1)) V).2) ml_L_109 in_X5_restore se_X5_restore ct_X5_restore rfl (fun I h => k_restore hV h) dL_law_739 (Nat.le_of_ble_eq_true rfl) rfl rfl (Nat.le_of_ble_eq_true rfl) ?_
  refine r_m hL dL_law_742 ?_
  refine r_arg hL 1 dL_law_743 dL_law_744 dL_law_745 dL_law_746 dL_law_747 ic_1 (by omega) ?_
  refine r_cm hL (as := [.int (xs (i + 1))]) (ρ := (spRestore (xs (i + 1)) V).1) (V' := (spRestore (xs (i + 1)) V).2) ml_L_112 in_X6_restore se_X6_restore ct_X6_restore rfl (fun I h => m_restore hV h) dL_law_748 (Nat.le_of_ble_eq_true rfl) rfl rfl (Nat.le_of_ble_eq_true rfl) ?_
  exact r_eq hL dL_law_751 rfl kk
end LC
