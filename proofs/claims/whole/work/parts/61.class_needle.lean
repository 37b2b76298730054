/-- what is seen, as the class holds it -/
def lkC (n : Nat) (f lf dp th : Nat → Int) (m : Nat) : Prop := ∀ a, a < m → (((pl n f (lf a).toNat : Nat) : Int) < dp a ↔ th a = 1)
theorem lkC_s {n : Nat} {f lf dp th : Nat → Int} {m : Nat} : lkC n f lf dp th (m + 1) ↔ lkC n f lf dp th m ∧ (((pl n f (lf m).toNat : Nat) : Int) < dp m ↔ th m = 1) :=
  ⟨fun h => ⟨fun a ha => h a (by omega), h m (by omega)⟩, fun h => lt_s h.1 h.2⟩
def seOK (n m : Nat) (S : St) : Prop := S 10 0 = ↑m ∧ m ≤ 6 ∧ ∀ a, a < m → 0 ≤ S 11 a ∧ S 11 a < n ∧ (S 13 a = 0 ∨ S 13 a = 1)
