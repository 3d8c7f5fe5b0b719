/-! loops by their invariants; the board's rows at the level of numbers -/
theorem lpN {σ τ : Type} (L : Nat → σ → Int32 → Option τ) (n : Nat) (I : Nat → σ → Prop) (Q : τ → Prop)
    (hs : ∀ ct i s, i < n → I i s → (∃ s', I (i + 1) s' ∧ L (ct + 1) s (nI i) = L ct s' (nI (i + 1))) ∨ (∃ r, L (ct + 1) s (nI i) = some r ∧ Q r))
    (he : ∀ ct s, I n s → ∃ r, L (ct + 1) s (nI n) = some r ∧ Q r) :
    ∀ d i ct s, i + d = n → d < ct → I i s → ∃ r, L ct s (nI i) = some r ∧ Q r := by
  intro d
  induction d with
  | zero =>
    intro i ct s h1 h2 hI
    obtain ⟨c, rfl⟩ : ∃ c, ct = c + 1 := ⟨ct - 1, by omega⟩
    have e : i = n := by omega
    subst e
    exact he c s hI
  | succ d ih =>
    intro i ct s h1 h2 hI
    obtain ⟨c, rfl⟩ : ∃ c, ct = c + 1 := ⟨ct - 1, by omega⟩
    rcases hs c i s (by omega) hI with ⟨s', hI', e⟩ | h
    · rw [e]
      exact ih (i + 1) c s' (by omega) (by omega) hI'
    · exact h
def okB (w h k : Nat) : Bool := decide (1 ≤ w) && decide (w ≤ 7) && decide (1 ≤ h) && decide (h ≤ 6) && decide (w * h ≤ 16) && decide (2 ≤ k) && decide (k ≤ 4)
def jI (j : Bool) : Int32 := if j then 1 else 0
/-- the squares from (x, y) on: n left, with bits so far; 0 if the way leaves the board or meets itself. x is one more than the column, 0 left of the board. -/
def rowL (w h : Nat) (j : Bool) (dx dy : Nat) : Nat → Nat → Nat → Nat → Nat
  | 0, bits, _, _ => bits
  | n + 1, bits, x, y => if 1 ≤ x ∧ x ≤ w ∧ y < h then (if bits.testBit (w * y + (x - 1)) then 0 else rowL w h j dx dy n (bits ||| 2 ^ (w * y + (x - 1))) (if j then (if x + dx = 1 then w else if x + dx = w + 2 then 1 else x + dx - 1) else x + dx - 1) (y + dy)) else 0
/-- the four ways: dx is one more than the step -/
def wayX (d : Nat) : Nat := match d with
  | 0 => 2
  | 1 => 1
  | 2 => 2
  | _ => 0
def wayY (d : Nat) : Nat := if d = 0 then 0 else 1
def wayI (d : Nat) : Int32 := match d with
  | 0 => 1
  | 1 => 0
  | 2 => 1
  | _ => -1
def rowS (w h k : Nat) (j : Bool) (x y d : Nat) : Nat := rowL w h j (wayX d) (wayY d) k 0 (x + 1) y
def addR (l : List Nat) (r : Nat) : List Nat := if r = 0 ∨ r ∈ l then l else l ++ [r]
def sqR (w h k : Nat) (j : Bool) (l : List Nat) (x y : Nat) : List Nat := addR (addR (addR (addR l (rowS w h k j x y 0)) (rowS w h k j x y 1)) (rowS w h k j x y 2)) (rowS w h k j x y 3)
def RW (w h k : Nat) (j : Bool) : List Nat := (List.range h).foldl (fun l y => (List.range w).foldl (fun l x => sqR w h k j l x y) l) []
/-- a row turned from left to right -/
def mirM (w : Nat) (r : Nat) : Nat := (List.range 16).foldl (fun a s => if r.testBit s then a ||| 2 ^ (s - s % w + (w - 1 - s % w)) else a) 0
def rwFacts (w h k : Nat) (j : Bool) : Bool :=
  decide ((RW w h k j).length < 64) && (RW w h k j).all (fun r => decide (r < 2 ^ (w * h)) && decide (r ≠ 0) && decide (mirM w r ∈ RW w h k j) && decide (mirM w (mirM w r) = r)) && (List.range (w * h)).all (fun s => decide (((RW w h k j).filter (fun r => r.testBit s)).length < 16))
def allB (p : Nat → Nat → Nat → Bool → Bool) : Bool := (List.range 8).all (fun w => (List.range 7).all (fun h => (List.range 5).all (fun k => !okB w h k || (p w h k false && p w h k true))))
theorem allB_s {p : Nat → Nat → Nat → Bool → Bool} (h : allB p = true) {w hh k : Nat} (hb : okB w hh k = true) (j : Bool) : p w hh k j = true := by
  unfold allB at h
  have hb' := hb
  simp only [okB, Bool.and_eq_true, decide_eq_true_eq] at hb'
  have h1 := List.all_eq_true.mp h w (List.mem_range.mpr (by omega))
  have h2 := List.all_eq_true.mp h1 hh (List.mem_range.mpr (by omega))
  have h3 := List.all_eq_true.mp h2 k (List.mem_range.mpr (by omega))
  rw [hb] at h3
  simp only [Bool.not_true, Bool.false_or, Bool.and_eq_true] at h3
  cases j
  · exact h3.1
  · exact h3.2
theorem rw_facts : allB rwFacts = true := by decide +kernel
def rowOk (w h k : Nat) (j : Bool) : Bool := (List.range w).all (fun x => (List.range h).all (fun y => (List.range 4).all (fun d =>
  decide (fX5_squaresOf 4194304 (nI w) (nI h) (nI k) (jI j) (nI x) (nI y) (wayI d) (nI (wayY d)) = some (nI (rowS w h k j x y d))) &&
  decide (fX1_rowFrom 4194304 (nI w) (nI h) (nI k) (jI j) (nI x) (nI y) (wayI d) (nI (wayY d)) = some (nI (rowS w h k j x y d))))))
theorem row_ok : allB rowOk = true := by decide +kernel
