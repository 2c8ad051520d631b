/-! the reference: what is known of a list of best orders -/
def cAt (V : List (List Nat)) (g x : Nat) : Nat := V.countP (fun w => decide (w.idxOf g = x))
def cBf (V : List (List Nat)) (g x : Nat) : Nat := V.countP (fun w => decide (w.idxOf g < w.idxOf x))
def nbw (n : Nat) (w : List Nat) (g : Nat) : Nat := nbo n (fun p => w.getD p 0) (w.idxOf g)
def bAl (n : Nat) (V : List (List Nat)) (g : Nat) : Nat := match V with
  | [] => 0
  | w :: l => l.foldl (fun s w => s &&& nbw n w g) (nbw n w g)
def bAn (n : Nat) (V : List (List Nat)) (g : Nat) : Nat := V.foldl (fun s w => s ||| nbw n w g) 0
def fS (h : Nat → Nat) (s : Nat) (w : List Nat) : Nat := rs h s false w - 1
theorem bAl_app (n : Nat) (V : List (List Nat)) (w : List Nat) (g : Nat) : bAl n (V ++ [w]) g = if V.length = 0 then nbw n w g else bAl n V g &&& nbw n w g := by
  cases V with
  | nil => rfl
  | cons v V => simp [bAl]
theorem bAn_app (n : Nat) (V : List (List Nat)) (w : List Nat) (g : Nat) : bAn n (V ++ [w]) g = bAn n V g ||| nbw n w g := by simp [bAn]
theorem cAt_app (V : List (List Nat)) (w : List Nat) (g x : Nat) : cAt (V ++ [w]) g x = cAt V g x + (decide (w.idxOf g = x)).toNat := by
  simp only [cAt, List.countP_append, List.countP_cons, List.countP_nil]
  cases decide (w.idxOf g = x) <;> simp
theorem cBf_app (V : List (List Nat)) (w : List Nat) (g x : Nat) : cBf (V ++ [w]) g x = cBf V g x + (decide (w.idxOf g < w.idxOf x)).toNat := by
  simp only [cBf, List.countP_append, List.countP_cons, List.countP_nil]
  cases decide (w.idxOf g < w.idxOf x) <;> simp
theorem fwm_bd {f : List Nat → Nat} {B : Nat} : ∀ (l : List (List Nat)) (o : Option Nat) (x : Nat), (∀ w ∈ l, f w ≤ B) → (∀ y, o = some y → y ≤ B) → fwm f o l = some x → x ≤ B
  | [], o, x, _, h, e => by cases o <;> simp [fwm] at e; exact h x (by rw [e])
  | w :: l, none, x, hf, h, e => fwm_bd l _ x (fun v hv => hf v (List.mem_cons_of_mem _ hv)) (fun y hy => by cases hy; exact hf w List.mem_cons_self) e
  | w :: l, some m, x, hf, h, e => fwm_bd l _ x (fun v hv => hf v (List.mem_cons_of_mem _ hv)) (fun y hy => by cases hy; split; exact hf w List.mem_cons_self; exact h m rfl) e
def Acc (J : xMem) (n : Nat) (h L : Nat → Nat) (x : Int32) (V : List (List Nat)) : Prop :=
  J 0 6 = nI V.length ∧ J 0 7 = x ∧ J 0 15 = oI ((nrs (stp n L) none V).map (stp n L)) ∧ (∀ v, nrs (stp n L) none V = some v → ∀ p, p < n → J 12 p = nI (v.getD p 0)) ∧
  (∀ i w, V[i]? = some w → x = nI i → ∀ p, p < n → J 5 p = nI (w.getD p 0)) ∧
  (∀ g k, g < n → k < 8 → J 6 (8 * g + k) = nI (cAt V g k)) ∧ (∀ g k, g < n → k < n → J 7 (8 * g + k) = nI (cBf V g k)) ∧
  (∀ g, g < n → J 8 g = nI (bAl n V g)) ∧ (∀ g, g < n → J 9 g = nI (bAn n V g)) ∧ ∀ s, s < 10 → J 10 s = oI (fwm (fS h s) none V)
section MG
variable {I : xMem} {n d : Nat} {h a L : Nat → Nat}
theorem c_look {w : List Nat} {V : List (List Nat)} {x : Int32} (hd : 2 ≤ d) (hn : n ≤ 8) (hh : ∀ g, h g < 1024) (hM : MSt I n h a L) (hL : ∀ p, p < n → L p < n) (hw : w ∈ perms n) (hO : OrdL I n w) (hV : ∀ v ∈ V, v.length = n) (hVl : V.length < 20000000) (hA : Acc I n h L x V) : Cx LM yX6_look mX6_look d [.ref 0] I (xRv (fun J => Acc J n h L x (V ++ [w]) ∧ J 0 4 = I 0 4 ∧ J 0 5 = I 0 5 ∧ J 1 = I 1 ∧ J 2 = I 2 ∧ J 3 = I 3 ∧ J 4 = I 4 ∧ J 11 = I 11)) := by
  obtain ⟨hpos, hord⟩ := perms_pos hw
  have hwl := (perms_mem hw).1
  obtain ⟨A6, A7, A15, A12, A5, B6, B7, B8, B9, B10⟩ := hA
  -- the end: steps, the wanted one, one more
  have fin : ∀ (v1 v2 v3 v4 v5 : Value) (J : xMem), lkI n (fun p => w.getD p 0) (fun g => w.idxOf g) (cAt V) (cBf V) (bAl n V) (bAl n (V ++ [w])) (bAn n V) (fun c => if c = 10 then J 10 else I c) n 0 false J → (∀ s, s < 10 → J 10 s = oI (fwm (fS h s) none (V ++ [w]))) → Wx LM mX6_look d (xRv (fun J => Acc J n h L x (V ++ [w]) ∧ J 0 4 = I 0 4 ∧ J 0 5 = I 0 5 ∧ J 1 = I 1 ∧ J 2 = I 2 ∧ J 3 = I 3 ∧ J 4 = I 4 ∧ J 11 = I 11)) 215 [.ref 0, v1, v2, v3, v4, v5] [] J := by
    intro v1 v2 v3 v4 v5 J hJ h10
    have fr : ∀ c, c ≠ 6 → c ≠ 7 → c ≠ 8 → c ≠ 9 → c ≠ 10 → J c = I c := fun c e6 e7 e8 e9 e10 => (hJ.2.2.2.2 c e6 e7 e8 e9).trans (if_neg e10)
    have j0 : J 0 = I 0 := fr 0 (by decide) (by decide) (by decide) (by decide) (by decide)
    have j1 : J 1 = I 1 := fr 1 (by decide) (by decide) (by decide) (by decide) (by decide)
    have j4 : J 4 = I 4 := fr 4 (by decide) (by decide) (by decide) (by decide) (by decide)
    have j12 : J 12 = I 12 := fr 12 (by decide) (by decide) (by decide) (by decide) (by decide)
    have last : ∀ (K : xMem), stepsQ J n w (stp n L) (nrs (stp n L) none V) K → ∀ (K2 : xMem), (K2 = K ∨ ((∀ p, p < 8 → K2 5 p = K 4 p) ∧ ∀ c, c ≠ 5 → K2 c = K c)) → (x = nI V.length → ∀ p, p < 8 → K2 5 p = K 4 p) → (¬ x = nI V.length → K2 = K) → Wx LM mX6_look d (xRv (fun J => Acc J n h L x (V ++ [w]) ∧ J 0 4 = I 0 4 ∧ J 0 5 = I 0 5 ∧ J 1 = I 1 ∧ J 2 = I 2 ∧ J 3 = I 3 ∧ J 4 = I 4 ∧ J 11 = I 11)) 238 [.ref 0, v1, v2, v3, v4, v5] [] K2 := by
      intro K hK K2 hK2 hx1 hx2
      obtain ⟨s15, s12, s0, sf⟩ := hK
      have k2 : ∀ c, c ≠ 5 → K2 c = K c := by
        rcases hK2 with e | e
        · exact fun c _ => by rw [e]
        · exact e.2
      have k6 : K2 0 6 = nI V.length := by rw [k2 0 (by decide), s0 6 (by decide), j0]; exact A6
      refine x_aload_n dX6_look_238 rfl ?_
      refine x_dup dX6_look_239 rfl ?_
      refine x_getI 5 6 (v := nI V.length) rfl (by decide) fl_X6_107 dX6_look_240 rfl rfl rfl k6 ?_
      refine x_iconst dX6_look_243 ic_1 ?_
      refine x_iadd (v := nI (V.length + 1)) dX6_look_244 (nI_add _ _) ?_
      refine x_put 5 6 rfl (by decide) fl_X6_107 rfl rfl rfl rfl dX6_look_245 rfl rfl rfl ?_
      generalize hMM : xup K2 0 6 (nI (V.length + 1)) = M
      have mne : ∀ c, c ≠ 0 → M c = K2 c := fun c hc => by rw [← hMM, xup_ne hc]
      have m0 : ∀ j, j ≠ 6 → M 0 j = K2 0 j := fun j hj => by rw [← hMM, xup_eq, if_neg hj]
      have kf : ∀ c, c ≠ 0 → c ≠ 5 → c ≠ 12 → M c = J c := fun c e0 e5 e12 => by rw [mne c e0, k2 c e5, sf c e0 e12]
      have kg : ∀ j, j ≠ 6 → j ≠ 15 → M 0 j = I 0 j := fun j e6 e15 => by rw [m0 j e6, k2 0 (by decide), s0 j e15, j0]
      refine x_vretv dX6_look_248 rfl ⟨⟨?_, ?_, ?_, ?_, ?_, ?_, ?_, ?_, ?_, ?_⟩, kg 4 (by decide) (by decide), kg 5 (by decide) (by decide), ?_, ?_, ?_, ?_, ?_⟩
      · rw [← hMM, xup_eq, if_pos rfl]; simp
      · rw [kg 7 (by decide) (by decide)]; exact A7
      · rw [m0 15 (by decide), k2 0 (by decide), s15, nrs_app]
      · intro v hv p hp
        rw [nrs_app] at hv
        rw [mne 12 (by decide), k2 12 (by decide)]; exact s12 v hv p hp
      · intro i w' hi hxi p hp
        by_cases e : i = V.length
        · subst e
          rw [List.getElem?_append_right (Nat.le_refl _), Nat.sub_self] at hi
          simp at hi
          subst hi
          rw [mne 5 (by decide), hx1 hxi p (by omega), sf 4 (by decide) (by decide), j4]; exact hO p hp
        · have hi' : i < V.length := by
            have := (List.getElem?_eq_some_iff.mp hi).1
            simp at this; omega
          rw [List.getElem?_append_left hi'] at hi
          have hxn : ¬ x = nI V.length := fun e2 => e ((nI_eq (by omega) (by omega)).mp (hxi.symm.trans e2))
          rw [mne 5 (by decide), hx2 hxn, sf 5 (by decide) (by decide), fr 5 (by decide) (by decide) (by decide) (by decide) (by decide)]
          exact A5 i w' hi hxi p hp
      · intro g k hg hk
        rw [kf 6 (by decide) (by decide) (by decide), hJ.1 g k hg hk, cAt_app]
        congr 2
        exact b2n _ _ (by have := (hpos g hg).1; simp; omega)
      · intro g k hg hk
        rw [kf 7 (by decide) (by decide) (by decide), hJ.2.1 g k hg hk, cBf_app]
        congr 2
        simp only [p7]
        exact b2n _ _ (by have := (hpos g hg).1; simp; omega)
      · intro g hg
        rw [kf 8 (by decide) (by decide) (by decide), hJ.2.2.1 g hg, if_pos (Or.inl (hpos g hg).1)]
      · intro g hg
        rw [kf 9 (by decide) (by decide) (by decide), hJ.2.2.2.1 g hg, if_pos (Or.inl (hpos g hg).1), bAn_app]; rfl
      · intro s hs
        rw [kf 10 (by decide) (by decide) (by decide)]; exact h10 s hs
      · rw [kf 1 (by decide) (by decide) (by decide)]; exact j1
      · rw [kf 2 (by decide) (by decide) (by decide)]; exact fr 2 (by decide) (by decide) (by decide) (by decide) (by decide)
      · rw [kf 3 (by decide) (by decide) (by decide)]; exact fr 3 (by decide) (by decide) (by decide) (by decide) (by decide)
      · rw [kf 4 (by decide) (by decide) (by decide)]; exact j4
      · rw [kf 11 (by decide) (by decide) (by decide)]; exact fr 11 (by decide) (by decide) (by decide) (by decide) (by decide)
    refine x_aload_n dX6_look_215 rfl ?_
    refine x_callVv 5 ml_X6_110 in_X6_lookAtSteps se_X6_lookAtSteps ct_X6_lookAtSteps rfl (c_lookAtSteps (d := 1) (w := w) (o := nrs (stp n L) none V) (by decide) hn (hM.kept j1) hL hw (fun p hp => by rw [j4]; exact hO p hp) (by rw [j0]; exact A15) (fun v hv p hp => by rw [j12]; exact A12 v hv p hp)) dX6_look_216 hd rfl rfl rfl rfl (Nat.le_of_ble_eq_true rfl) (fun J0 h0 => ?_)
    have hQ := h0
    refine x_aload_n dX6_look_219 rfl ?_
    refine x_getI 5 6 (v := nI V.length) rfl (by decide) fl_X6_107 dX6_look_220 rfl rfl rfl (by rw [hQ.2.2.1 6 (by decide), j0]; exact A6) ?_
    refine x_aload_n dX6_look_223 rfl ?_
    refine x_getI 5 7 (v := x) rfl (by decide) fl_X6_113 dX6_look_224 rfl rfl rfl (by rw [hQ.2.2.1 7 (by decide), j0]; exact A7) ?_
    refine x_icmp_ne (tgt := 238) dX6_look_227 rfl (fun c => ?_) (fun c => ?_)
    ·
      exact last J0 hQ J0 (Or.inl rfl) (fun e => absurd e.symm c) (fun _ => rfl)
    ·
      refine x_aload_n dX6_look_230 rfl ?_
      refine x_aload_n dX6_look_231 rfl ?_
      refine x_getR 5 8 rfl (by decide) fl_X6_23 dX6_look_232 rfl rfl rfl ?_
      refine x_callVv 5 ml_X6_116 in_X6_keep se_X6_keep ct_X6_keep rfl (c_keep_5 (d := 0)) dX6_look_235 (by omega) rfl rfl rfl rfl (Nat.le_of_ble_eq_true rfl) (fun J0 h0 => ?_)
      obtain ⟨hk1, hk2⟩ := h0
      exact last _ hQ J0 (Or.inr ⟨hk1, hk2⟩) (fun _ => hk1) (fun e => absurd c.symm e)
  -- the breaks of each sort
  have srt : ∀ (t s : Nat) (v1 v3 v4 v5 : Value) (J : xMem), s + t = 10 → lkI n (fun p => w.getD p 0) (fun g => w.idxOf g) (cAt V) (cBf V) (bAl n V) (bAl n (V ++ [w])) (bAn n V) (fun c => if c = 10 then J 10 else I c) n 0 false J → (∀ q, q < 10 → J 10 q = oI (if q < s then fwm (fS h q) none (V ++ [w]) else fwm (fS h q) none V)) → Wx LM mX6_look d (xRv (fun J => Acc J n h L x (V ++ [w]) ∧ J 0 4 = I 0 4 ∧ J 0 5 = I 0 5 ∧ J 1 = I 1 ∧ J 2 = I 2 ∧ J 3 = I 3 ∧ J 4 = I 4 ∧ J 11 = I 11)) 162 [.ref 0, v1, .int (nI s), v3, v4, v5] [] J := by
    intro t
    induction t with
    | zero =>
      intro s v1 v3 v4 v5 J hs hJ h10
      refine x_iload_n dX6_look_162 rfl ?_
      refine x_bipush dX6_look_163 bp_10 ?_
      refine x_icmpn_ge (a := s) (b := 10) (by omega) (by omega) (tgt := 215) dX6_look_165 rfl (fun c => ?_) (fun c => ?_)
      ·
        exact fin _ _ _ _ _ J hJ (fun q hq => by rw [h10 q hq, if_pos (by omega)])
      ·
        omega
    | succ t ih =>
      intro s v1 v3 v4 v5 J hs hJ h10
      have fr : ∀ c, c ≠ 6 → c ≠ 7 → c ≠ 8 → c ≠ 9 → c ≠ 10 → J c = I c := fun c e6 e7 e8 e9 e10 => (hJ.2.2.2.2 c e6 e7 e8 e9).trans (if_neg e10)
      have j1 : J 1 = I 1 := fr 1 (by decide) (by decide) (by decide) (by decide) (by decide)
      have j4 : J 4 = I 4 := fr 4 (by decide) (by decide) (by decide) (by decide) (by decide)
      have e10 : J 10 s = oI (fwm (fS h s) none V) := by rw [h10 s (by omega), if_neg (Nat.lt_irrefl _)]
      have hfs := rs_len h s w
      have cB := c_breaksOf (I := J) (d := 1) (s := s) (o := fun p => w.getD p 0) (by decide) (by omega) hh (fun p hp => by have := (hord p hp).1; omega) (fun p hp => by rw [j4]; exact hO p hp) (hM.kept j1) hn
      rw [seg_getD hwl] at cB
      have stx : ∀ (y : Int32), y = oI (fwm (fS h s) none (V ++ [w])) → Wx LM mX6_look d (xRv (fun J => Acc J n h L x (V ++ [w]) ∧ J 0 4 = I 0 4 ∧ J 0 5 = I 0 5 ∧ J 1 = I 1 ∧ J 2 = I 2 ∧ J 3 = I 3 ∧ J 4 = I 4 ∧ J 11 = I 11)) 208 [.ref 0, v1, .int (nI s), .int (nI (fS h s w)), v4, v5] [.int y, .int (nI s), .ref 10] J := by
        intro y ey
        refine x_iast (p := s) dX6_look_208 rfl rfl rfl rfl (by omega) ?_
        generalize hK : xup J 10 s y = K
        refine x_iinc (v := nI (s + 1)) (ls' := [.ref 0, v1, .int (nI (s + 1)), .int (nI (fS h s w)), v4, v5]) dX6_look_209 rfl (inc_1 _) rfl rfl ?_
        refine x_goto (tgt := 162) dX6_look_212 rfl ?_
        refine ih (s + 1) _ _ _ _ K (by omega) ⟨fun g q hg hq => ?_, fun g q hg hq => ?_, fun g hg => ?_, fun g hg => ?_, fun c e6 e7 e8 e9 => ?_⟩ (fun q hq => ?_)
        · rw [← hK, xup_ne (by decide)]; exact hJ.1 g q hg hq
        · rw [← hK, xup_ne (by decide)]; exact hJ.2.1 g q hg hq
        · rw [← hK, xup_ne (by decide)]; exact hJ.2.2.1 g hg
        · rw [← hK, xup_ne (by decide)]; exact hJ.2.2.2.1 g hg
        · by_cases e : c = 10
          · subst e; exact (if_pos rfl).symm
          · refine Eq.trans ?_ (if_neg e).symm
            rw [← hK, xup_ne e]; exact fr c e6 e7 e8 e9 e
        · rw [← hK, xup_eq]
          by_cases e : q = s
          · subst e; rw [if_pos rfl, if_pos (Nat.lt_succ_self _), ey]
          · rw [if_neg e, h10 q hq]
            congr 1
            by_cases e2 : q < s
            · rw [if_pos e2, if_pos (by omega)]
            · rw [if_neg e2, if_neg (by omega)]
      refine x_iload_n dX6_look_162 rfl ?_
      refine x_bipush dX6_look_163 bp_10 ?_
      refine x_icmpn_ge (a := s) (b := 10) (by omega) (by omega) (tgt := 215) dX6_look_165 rfl (fun c => ?_) (fun c => ?_)
      ·
        omega
      ·
        refine x_aload_n dX6_look_168 rfl ?_
        refine x_iload_n dX6_look_169 rfl ?_
        refine x_callVi 5 ml_X6_80 in_X6_breaksOf se_X6_breaksOf ct_X6_breaksOf rfl cB dX6_look_170 hd rfl rfl rfl rfl (Nat.le_of_ble_eq_true rfl) (fun r0 J0 h0 => ?_)
        obtain ⟨rfl, hJ0⟩ := h0
        obtain rfl := hJ0.symm
        refine x_istore_n (ls' := [.ref 0, v1, .int (nI s), .int (nI (fS h s w)), v4, v5]) dX6_look_173 rfl rfl ?_
        refine x_aload_n dX6_look_174 rfl ?_
        refine x_getR 5 13 rfl (by decide) fl_X6_38 dX6_look_175 rfl rfl rfl ?_
        refine x_iload_n dX6_look_178 rfl ?_
        refine x_aload_n dX6_look_179 rfl ?_
        refine x_getR 5 13 rfl (by decide) fl_X6_38 dX6_look_180 rfl rfl rfl ?_
        refine x_iload_n dX6_look_183 rfl ?_
        refine x_iald (p := s) (v := oI (fwm (fS h s) none V)) dX6_look_184 rfl rfl rfl rfl (by omega) e10 ?_
        cases hF : fwm (fS h s) none V with
        | none =>
          refine x_if_lt (tgt := 198) dX6_look_185 rfl (fun c3 => ?_) (fun c3 => ?_)
          ·
            refine x_iload_n dX6_look_198 rfl ?_
            refine x_goto (tgt := 208) dX6_look_199 rfl ?_
            exact stx _ (by rw [fwm_app, hF]; rfl)
          ·
            exact absurd (show oI none < 0 by decide +kernel) c3
        | some m =>
          have hm : m ≤ n := fwm_bd V none m (fun v hv => by have := rs_len h s v; rw [hV v hv] at this; exact this) (fun y hy => by cases hy) hF
          have hsl : fS h s w ≤ n := by rw [← hwl]; exact hfs
          refine x_if_lt (tgt := 198) dX6_look_185 rfl (fun c3 => ?_) (fun c3 => ?_)
          ·
            exact absurd c3 (nI_pos (by omega))
          ·
            refine x_iload_n dX6_look_188 rfl ?_
            refine x_aload_n dX6_look_189 rfl ?_
            refine x_getR 5 13 rfl (by decide) fl_X6_38 dX6_look_190 rfl rfl rfl ?_
            refine x_iload_n dX6_look_193 rfl ?_
            refine x_iald (p := s) (v := nI m) dX6_look_194 rfl rfl rfl rfl (by omega) (by rw [e10, hF]; rfl) ?_
            refine x_icmpn_ge (a := fS h s w) (b := m) (by omega) (by omega) (tgt := 202) dX6_look_195 rfl (fun c4 => ?_) (fun c4 => ?_)
            ·
              refine x_aload_n dX6_look_202 rfl ?_
              refine x_getR 5 13 rfl (by decide) fl_X6_38 dX6_look_203 rfl rfl rfl ?_
              refine x_iload_n dX6_look_206 rfl ?_
              refine x_iald (p := s) (v := nI m) dX6_look_207 rfl rfl rfl rfl (by omega) (by rw [e10, hF]; rfl) ?_
              exact stx _ (by rw [fwm_app, hF]; simp only [fwm]; rw [if_neg (by omega)]; rfl)
            ·
              refine x_iload_n dX6_look_198 rfl ?_
              refine x_goto (tgt := 208) dX6_look_199 rfl ?_
              exact stx _ (by rw [fwm_app, hF]; simp only [fwm]; rw [if_pos c4]; rfl)
  refine Cx.of [.ref 0, .null, .null, .null, .null, .null] (by decide) rfl rfl (Nat.le_of_ble_eq_true rfl) rfl ?_
  refine x_aload_n dX6_look_0 rfl ?_
  refine x_getR 5 0 rfl (by decide) fl_X6_7 dX6_look_1 rfl rfl rfl ?_
  refine x_iconst dX6_look_4 ic_0 ?_
  refine x_iald (p := 0) (v := nI n) dX6_look_5 rfl rfl rfl rfl (by omega) hM.1 ?_
  refine x_istore_n (ls' := [.ref 0, .int (nI n), .null, .null, .null, .null]) dX6_look_6 rfl rfl ?_
  refine x_iconst dX6_look_7 ic_0 ?_
  refine x_istore_n (ls' := [.ref 0, .int (nI n), .int (nI 0), .null, .null, .null]) dX6_look_8 rfl rfl ?_
  refine look_a (o := fun p => w.getD p 0) (pos := fun g => w.idxOf g) (c6 := cAt V) (c7 := cBf V) (b8 := bAl n V) (b8' := bAl n (V ++ [w])) (b9 := bAn n V) (m := V.length) hn hM.1 hord hpos hO A6 (by omega) (fun g hg => bAl_app n V w g) ?_ n 0 _ _ _ I (by omega) ⟨fun g q hg hq => ?_, fun g q hg hq => ?_, fun g hg => ?_, fun g hg => ?_, fun _ _ _ _ _ => rfl⟩
  · intro v3 v4 v5 J hJ
    refine x_iconst dX6_look_160 ic_0 ?_
    refine x_istore_n (ls' := [.ref 0, .int (nI n), .int (nI 0), v3, v4, v5]) dX6_look_161 rfl rfl ?_
    refine srt 10 0 _ _ _ _ J rfl ⟨hJ.1, hJ.2.1, hJ.2.2.1, hJ.2.2.2.1, fun c e6 e7 e8 e9 => ?_⟩ (fun q hq => ?_)
    · by_cases e : c = 10
      · subst e; exact (if_pos rfl).symm
      · exact (hJ.2.2.2.2 c e6 e7 e8 e9).trans (if_neg e).symm
    · rw [hJ.2.2.2.2 10 (by decide) (by decide) (by decide) (by decide), if_neg (by omega)]; exact B10 q hq
  · rw [B6 g q hg hq, decide_eq_false (by simp)]; rfl
  · rw [B7 g q hg hq]
    have : p7 (fun g => w.idxOf g) 0 0 g q = false := decide_eq_false (by omega)
    rw [this]; rfl
  · rw [B8 g hg, if_neg (by simp)]
  · rw [B9 g hg, if_neg (by simp)]
end MG
