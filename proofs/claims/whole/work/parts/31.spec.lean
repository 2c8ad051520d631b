/-! what each call answers, and the state behind it -/
abbrev ST : Type := Nat × (Nat → Nat) × (Nat → Nat) × (Nat → Nat)
abbrev WS : Type := ST × (Bool × ST) × (Bool × ST)
def TOk (T : ST) : Prop := 1 ≤ T.1 ∧ T.1 ≤ 8 ∧ (∀ g, T.2.1 g < 1024) ∧ (∀ g, T.2.2.1 g < 256) ∧ (∀ p, p < T.1 → T.2.2.2 p < T.1) ∧ (∀ p q, p < T.1 → q < T.1 → T.2.2.2 p = T.2.2.2 q → p = q) ∧ ∀ p, p < 8 → T.2.2.2 p < 8
def WOk (W : WS) : Prop := TOk W.1 ∧ (W.2.1.1 = true → TOk W.2.1.2) ∧ (W.2.2.1 = true → TOk W.2.2.2)
def bst (T : ST) : List (List Nat) := bests T.1 T.2.1 T.2.2.1
def rw0 (T : ST) : List Nat := seg T.2.2.2 0 T.1
def tN (x : Int32) : Nat := x.toInt.toNat
theorem tN_nI {j : Nat} (h : j < 2 ^ 31) : tN (nI j) = j := by unfold tN; rw [nI_toInt h]; rfl
def fup (f : Nat → Nat) (k v : Nat) : Nat → Nat := fun j => if j = k then v else f j
def spMany (x : Int32) (W : WS) : Int32 × WS := if inB x (nI 1) (nI 8) then (nI W.1.1, ((tN x, szH (tN x) W.1.2.1, szA (tN x) W.1.2.2.1, id), W.2)) else (-2, W)
def spFind (g s on : Int32) (W : WS) : Int32 × WS := if inR g W.1.1 && inR s 10 then (if inR on 2 then (nI (pop (wmem (W.1.2.1 (tN g)) (tN s) (tN on))), ((W.1.1, fup W.1.2.1 (tN g) (wmem (W.1.2.1 (tN g)) (tN s) (tN on)), W.1.2.2), W.2)) else (-2, W)) else (-1, W)
def spAhead (x y on : Int32) (W : WS) : Int32 × WS := if inR x W.1.1 && inR y W.1.1 then (if inR on 2 && decide (¬ x = y) then (nI (rf (fun s g => s + pop (fup W.1.2.2.1 (tN x) (wmem (W.1.2.2.1 (tN x)) (tN y) (tN on)) g)) 0 8), ((W.1.1, W.1.2.1, fup W.1.2.2.1 (tN x) (wmem (W.1.2.2.1 (tN x)) (tN y) (tN on)), W.1.2.2.2), W.2)) else (-2, W)) else (-1, W)
def plOf (T : ST) (g : Nat) : Nat := (rw0 T).idxOf g
def spGrave (g what : Int32) (W : WS) : Int32 := if inR g W.1.1 then (if what = nI 0 then nI (W.1.2.1 (tN g)) else if what = nI 1 then nI (W.1.2.2.1 (tN g)) else if what = nI 2 then nI (erl W.1.2.2.1 (tN g) W.1.1) else if what = nI 3 then nI (plOf W.1 (tN g)) else (-2)) else (-1)
def spSort (s what : Int32) (W : WS) : Int32 := if inR s 10 then (if what = nI 0 then nI (cwi W.1.2.1 (tN s) W.1.1) else if what = nI 1 then nI (fS W.1.2.1 (tN s) (rw0 W.1)) else if what = nI 2 then oI (fwm (fS W.1.2.1 (tN s)) none (bst W.1)) else (-2)) else (-1)
def spAlike (x y : Int32) (W : WS) : Int32 := if inR x W.1.1 && inR y W.1.1 then nI (pop (W.1.2.1 (tN x) &&& W.1.2.1 (tN y))) else (-1)
def spLeast (W : WS) : Int32 := oI (fewB W.1.1 W.1.2.1 W.1.2.2.1)
def spBest (W : WS) : Int32 := nI (bst W.1).length
def spOrder (i p : Int32) (W : WS) : Int32 := if ¬ i < 0 ∧ inR p W.1.1 = true then (match (bst W.1)[tN i]? with | none => (-6) | some w => nI (w.getD (tN p) 0)) else (-2)
def spBeside (g what : Int32) (W : WS) : Int32 := if inR g W.1.1 then (if what = nI 0 then nI (bAl W.1.1 (bst W.1) (tN g)) else if what = nI 1 then nI (bAn W.1.1 (bst W.1) (tN g)) else (-2)) else (-1)
def lstP (V : List (List Nat)) (n g : Nat) : Option Nat := (List.range n).find? (fun k => decide (0 < cAt V g k))
def grtP (V : List (List Nat)) (n g : Nat) : Option Nat := (List.range n).reverse.find? (fun k => decide (0 < cAt V g k))
def spPlace (g what : Int32) (W : WS) : Int32 := if inR g W.1.1 then (if what = nI 0 then oI (lstP (bst W.1) W.1.1 (tN g)) else if what = nI 1 then oI (grtP (bst W.1) W.1.1 (tN g)) else if inR (what - nI 10) W.1.1 then nI (cAt (bst W.1) (tN g) (tN (what - nI 10))) else (-2)) else (-1)
def spBefore (x y : Int32) (W : WS) : Int32 := if inR x W.1.1 && inR y W.1.1 then (if x = y then (-2) else nI (cBf (bst W.1) (tN x) (tN y))) else (-1)
def spTogether (S : Int32) (W : WS) : Int32 := if inB S (nI 1) (nI (1 <<< W.1.1 - 1)) then nI ((bst W.1).countP (togM (tN S))) else (-2)
def clB (T : ST) (S : Nat) : Bool := (fewB T.1 T.2.1 T.2.2.1).isSome && decide (S < 1 <<< T.1) && decide (1 < pop S) && (bst T).all (togM S)
def clmp (T : ST) : List Nat := (List.range 256).filter (clB T)
def spClump (i : Int32) (W : WS) : Int32 := if i < (-1) then (-2) else if i = (-1) then nI (clmp W.1).length else (match (clmp W.1)[tN i]? with | none => (-6) | some S => nI S)
def spRow (p : Int32) (W : WS) : Int32 := if inR p W.1.1 then nI (W.1.2.2.2 (tN p)) else (-2)
def spBreaks (what : Int32) (W : WS) : Int32 := if what = nI 0 then nI (brk W.1.2.1 (rw0 W.1)) else if what = nI 1 then nI (al W.1.2.2.1 0 (rw0 W.1)).toNat else if what = nI 2 then nI (isB W.1.1 W.1.2.1 W.1.2.2.1 (rw0 W.1)).toNat else (-2)
def setL (W : WS) (L : Nat → Nat) : WS := ((W.1.1, W.1.2.1, W.1.2.2.1, L), W.2)
def spSwap (k : Int32) (W : WS) : Int32 × WS := if inR k (W.1.1 - 1) then (nI (brk W.1.2.1 (seg (swp W.1.2.2.2 (tN k)) 0 W.1.1)), setL W (swp W.1.2.2.2 (tN k))) else (-2, W)
def bsw (T : ST) : Int32 := beL (fun k => brk T.2.1 (seg (swp T.2.2.2 k) 0 T.1)) 0 (T.1 - 1) (brk T.2.1 (rw0 T)) (-6)
def swI (L : Nat → Nat) (r : Int32) : Nat → Nat := if r < 0 then L else swp L (tN r)
def spBetter (W : WS) : Int32 × WS := (bsw W.1, setL W (swI W.1.2.2.2 (bsw W.1)))
def clF : Nat → WS → Nat × WS
  | 0, W => (0, W)
  | f + 1, W => if (spBetter W).1 < 0 then (0, W) else ((clF f (spBetter W).2).1 + 1, (clF f (spBetter W).2).2)
def spClimb (W : WS) : Int32 × WS := (nI (clF 1000 W).1, (clF 1000 W).2)
def nrst (T : ST) : Option (List Nat) := nrs (stp T.1 T.2.2.2) none (bst T)
def spNearest (p : Int32) (W : WS) : Int32 := if inB p (-1) (nI (W.1.1 - 1)) then (match nrst W.1 with | none => (-6) | some w => if p = (-1) then nI (stp W.1.1 W.1.2.2.2 w) else nI (w.getD (tN p) 0)) else (-2)
def spSettle (W : WS) : Int32 × WS := match nrst W.1 with
  | none => (-3, W)
  | some w => (nI (stp W.1.1 W.1.2.2.2 w), setL W (fun p => if p < W.1.1 then w.getD p 0 else W.1.2.2.2 p))
def spCount (what : Int32) (W : WS) : Int32 := if what = nI 0 then nI W.1.1 else if what = nI 1 then nI (rf (fun s g => s + pop (W.1.2.1 g)) 0 8) else if what = nI 2 then nI (rf (fun s g => s + pop (W.1.2.2.1 g)) 0 8) else if what = nI 3 then nI (W.2.1.1.toNat + 2 * W.2.2.1.toNat) else (-2)
def spImage (k : Int32) (W : WS) : Int32 × WS := if k = nI 0 then (nI 1, (W.1, (true, W.1), W.2.2)) else if k = nI 1 then (nI 1, (W.1, W.2.1, (true, W.1))) else (-2, W)
def spRestore (k : Int32) (W : WS) : Int32 × WS := if k = nI 0 then (if W.2.1.1 then (nI 1, (W.2.1.2, W.2)) else (-3, W)) else if k = nI 1 then (if W.2.2.1 then (nI 1, (W.2.2.2, W.2)) else (-3, W)) else (-2, W)
/-- the reference's rows of a state -/
def stA (T : ST) (i : Nat) : Nat := if i = 0 then T.1 else if i < 9 then T.2.1 (i - 1) else if i < 17 then T.2.2.1 (i - 9) else T.2.2.2 (i - 17)
def MR (J : xMem) (W : WS) : Prop := MSt J W.1.1 W.1.2.1 W.1.2.2.1 W.1.2.2.2 ∧ (J 0 4 = nI 0 ∨ (J 0 4 = nI 1 ∧ J 0 5 = oI (fewB W.1.1 W.1.2.1 W.1.2.2.1))) ∧ J 3 0 = nI W.2.1.1.toNat ∧ J 3 1 = nI W.2.2.1.toNat ∧ (W.2.1.1 = true → ∀ i, i < 25 → J 2 i = nI (stA W.2.1.2 i)) ∧ (W.2.2.1 = true → ∀ i, i < 25 → J 2 (25 + i) = nI (stA W.2.2.2 i))
theorem MSt.idx {J : xMem} {T : ST} : MSt J T.1 T.2.1 T.2.2.1 T.2.2.2 ↔ ∀ i, i < 25 → J 1 i = nI (stA T i) := by
  constructor
  · intro h i hi
    unfold stA
    by_cases e0 : i = 0
    · subst e0; rw [if_pos rfl]; exact h.1
    · rw [if_neg e0]
      by_cases e1 : i < 9
      · rw [if_pos e1]; have := h.2.1 (i - 1) (by omega); rwa [show 1 + (i - 1) = i by omega] at this
      · rw [if_neg e1]
        by_cases e2 : i < 17
        · rw [if_pos e2]; have := h.2.2.1 (i - 9) (by omega); rwa [show 9 + (i - 9) = i by omega] at this
        · rw [if_neg e2]; have := h.2.2.2 (i - 17) (by omega); rwa [show 17 + (i - 17) = i by omega] at this
  · intro h
    refine ⟨h 0 (by decide), fun g hg => ?_, fun g hg => ?_, fun g hg => ?_⟩
    · rw [h (1 + g) (by omega), stA, if_neg (by omega), if_pos (by omega), show 1 + g - 1 = g by omega]
    · rw [h (9 + g) (by omega), stA, if_neg (by omega), if_neg (by omega), if_pos (by omega), show 9 + g - 9 = g by omega]
    · rw [h (17 + g) (by omega), stA, if_neg (by omega), if_neg (by omega), if_neg (by omega), show 17 + g - 17 = g by omega]
theorem MR.base {I J : xMem} {W : WS} (hR : MR I W) (hB : Base I W.1.1 W.1.2.1 W.1.2.2.1 J) : MR J W := by
  obtain ⟨b4, b5, b1, b2, b3⟩ := hB
  refine ⟨hR.1.kept b1, Or.inr ⟨b4, b5⟩, by rw [b3]; exact hR.2.2.1, by rw [b3]; exact hR.2.2.2.1, by rw [b2]; exact hR.2.2.2.2.1, by rw [b2]; exact hR.2.2.2.2.2⟩
/-- only the order changed -/
theorem MR.ord {I J : xMem} {W : WS} (hR : MR I W) (h : ∀ c, c ≠ 4 → J c = I c) : MR J W := by
  unfold MR MSt
  rw [h 0 (by decide), h 1 (by decide), h 2 (by decide), h 3 (by decide)]
  exact hR
/-- the state changed, the images not; nothing is known of the fewest breaks, or they are the same -/
theorem MR.st {I J : xMem} {W : WS} {T : ST} (hR : MR I W) (h1 : MSt J T.1 T.2.1 T.2.2.1 T.2.2.2) (h0 : J 0 4 = nI 0 ∨ (J 0 4 = nI 1 ∧ J 0 5 = oI (fewB T.1 T.2.1 T.2.2.1))) (h2 : J 2 = I 2) (h3 : J 3 = I 3) : MR J (T, W.2) :=
  ⟨h1, h0, by rw [h3]; exact hR.2.2.1, by rw [h3]; exact hR.2.2.2.1, by rw [h2]; exact hR.2.2.2.2.1, by rw [h2]; exact hR.2.2.2.2.2⟩
