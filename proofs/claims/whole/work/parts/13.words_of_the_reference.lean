/-! the words in which the reference's contracts speak -/
theorem bT {P : Prop} [Decidable P] (h : P) : zI (b2 true) = zI (b2 (decide P)) := by simp [h]
theorem bF {P : Prop} [Decidable P] (h : ¬ P) : zI (b2 false) = zI (b2 (decide P)) := by simp [h]
/-- a row's code: eights, the first place highest -/
def cdF (f : Nat → Int) : Nat → Int
  | 0 => 0
  | p + 1 => 8 * cdF f p + f p
/-- the row of a code, of n places -/
def dgF (n : Nat) (code : Int) (j : Nat) : Int := code / 8 ^ (n - 1 - j) % 8
/-- a row of n places holds each leaf once -/
def prm (n : Nat) (f : Nat → Int) : Prop := (∀ p, p < n → 0 ≤ f p ∧ f p < n) ∧ ∀ p q, p < n → q < n → f p = f q → p = q
def wth (v a b : Int) : Prop := (a < v ∧ v < b) ∨ (b < v ∧ v < a)
