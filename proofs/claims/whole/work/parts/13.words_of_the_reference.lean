/-! the words in which the reference's contracts speak -/
theorem bT {P : Prop} [Decidable P] (h : P) : zI (b2 true) = zI (b2 (decide P)) := by simp [h]
theorem bF {P : Prop} [Decidable P] (h : ¬ P) : zI (b2 false) = zI (b2 (decide P)) := by simp [h]
/-- whether P holds -/
noncomputable def pB (P : Prop) : Bool := @decide P (Classical.propDecidable P)
theorem pB_t {P : Prop} : pB P = true ↔ P := by unfold pB; exact @decide_eq_true_iff P (Classical.propDecidable P)
theorem pB_f {P : Prop} : pB P = false ↔ ¬ P := by unfold pB; exact @decide_eq_false_iff_not P (Classical.propDecidable P)
theorem pB_c {P Q : Prop} (h : P ↔ Q) : pB P = pB Q := by rw [propext h]
theorem pT {P : Prop} (h : P) : zI (b2 true) = zI (b2 (pB P)) := by rw [pB_t.mpr h]
theorem pF {P : Prop} (h : ¬ P) : zI (b2 false) = zI (b2 (pB P)) := by rw [pB_f.mpr h]
theorem qT {P : Prop} (h : P) : true = pB P := (pB_t.mpr h).symm
theorem qF {P : Prop} (h : ¬ P) : false = pB P := (pB_f.mpr h).symm
/-- how many of the first -/
def cnt (P : Nat → Bool) : Nat → Int
  | 0 => 0
  | k + 1 => cnt P k + b2 (P k)
theorem cnt_t {P : Nat → Bool} {i : Nat} {x : Int} (h : P i = true) (hx : x = cnt P i) : x + 1 = cnt P (i + 1) := by
  rw [cnt, h, hx]; rfl
theorem cnt_f {P : Nat → Bool} {i : Nat} {x : Int} (h : P i = false) (hx : x = cnt P i) : x + 0 = cnt P (i + 1) := by
  rw [cnt, h, hx]; rfl
theorem cnt_r (P : Nat → Bool) (n : Nat) : 0 ≤ cnt P n ∧ cnt P n ≤ n := by
  induction n with
  | zero => exact ⟨Int.le_refl _, Int.le_refl _⟩
  | succ n ih =>
    have h := b2_r (P n)
    rw [cnt]
    omega
theorem cnt_all (P : Nat → Bool) (n : Nat) : cnt P n = n ↔ ∀ p, p < n → P p = true := by
  induction n with
  | zero => exact ⟨fun _ p h => absurd h (Nat.not_lt_zero p), fun _ => rfl⟩
  | succ n ih =>
    have h1 := cnt_r P n
    rw [cnt]
    constructor
    · intro h p hp
      have h2 := b2_r (P n)
      have h3 : cnt P n = n := by omega
      by_cases e : p = n
      · subst e
        exact b2_1 (by omega)
      · exact ih.mp h3 p (by omega)
    · intro h
      rw [ih.mpr (fun p hp => h p (by omega)), h n (by omega)]
      rfl
theorem cnt_c {P Q : Nat → Bool} {n : Nat} (h : ∀ k, k < n → P k = Q k) : cnt P n = cnt Q n := by
  induction n with
  | zero => rfl
  | succ n ih => rw [cnt, cnt, ih (fun k hk => h k (by omega)), h n (by omega)]
/-- a row's code: eights, the first place highest -/
def cdF (f : Nat → Int) : Nat → Int
  | 0 => 0
  | p + 1 => 8 * cdF f p + f p
/-- the row of a code, of n places -/
def dgF (n : Nat) (code : Int) (j : Nat) : Int := code / 8 ^ (n - 1 - j) % 8
/-- a row of n places holds each leaf once -/
def prm (n : Nat) (f : Nat → Int) : Prop := (∀ p, p < n → 0 ≤ f p ∧ f p < n) ∧ ∀ p q, p < n → q < n → f p = f q → p = q
def wth (v a b : Int) : Prop := (a < v ∧ v < b) ∨ (b < v ∧ v < a)
/-- the kind of a letter -/
def kbF (x : Int) : Int := if x = 108 then 0 else if x = 98 then 1 else if x = 119 then 2 else if x = 99 then 3 else if x = 116 then 4 else -1
theorem kbF_r (x : Int) : -1 ≤ kbF x ∧ kbF x ≤ 4 := by unfold kbF; (repeat' split) <;> omega
/-- the first letter that no strip has there -/
def isFlt (pg : Nat → Int) (sz k : Nat) : Prop := k ≤ sz ∧ k ≤ 7 ∧ (∀ j, j < k → kbF (pg j) ≠ -1) ∧ (k = sz ∨ k = 7 ∨ kbF (pg k) = -1)
theorem isFlt_u {pg : Nat → Int} {sz k k' : Nat} (h : isFlt pg sz k) (h' : isFlt pg sz k') : k = k' := by
  obtain ⟨a1, a2, a3, a4⟩ := h
  obtain ⟨b1, b2, b3, b4⟩ := h'
  rcases Nat.lt_trichotomy k k' with g | g | g
  · have := b3 k g; omega
  · exact g
  · have := a3 k' g; omega
def skP (k : Int) : Prop := k = 2 ∨ k = 4
def thk (k : Int) : Int := if k = 1 ∨ k = 3 then 3 else 1
def otP (n p : Nat) : Prop := p = 0 ∨ p + 1 = n
def stP (n : Nat) (kd f : Nat → Int) (p : Nat) : Prop := (0 < p ∧ skP (kd (f (p - 1)).toNat)) ∨ (p + 1 < n ∧ skP (kd (f (p + 1)).toNat))
/-- the leaf at place p of row f lies as its kind wants it -/
def rgP (n : Nat) (kd f : Nat → Int) (p : Nat) : Prop := (kd (f p).toNat = 3 → otP n p) ∧ (kd (f p).toNat = 2 → ¬ stP n kd f p) ∧ (kd (f p).toNat = 4 → ¬ stP n kd f p ∧ ¬ otP n p)
def fitP (n : Nat) (kd f : Nat → Int) : Prop := ∀ p, p < n → rgP n kd f p
theorem sA_self (S : St) (r : Nat) : sA S r (S r) = S := by
  funext k
  unfold sA
  by_cases h : k = r
  · subst h; simp
  · simp [h]
theorem sA_sA (S : St) (r : Nat) (f g : Nat → Int) : sA (sA S r f) r g = sA S r g := by
  funext k
  unfold sA
  by_cases h : k = r <;> simp [h]
theorem RS.put' {S : St} {r i : Nat} {f : Nat → Int} {v : Int} (h : RS (sA S r f)) (h1 : -2147483648 ≤ v) (h2 : v < 2147483648) : RS (sA S r (uZ f i v)) := by
  have h3 := h.put (r := r) (i := i) h1 h2
  rw [sA_sA, sA_s] at h3
  exact h3
theorem RS.one' {S : St} {r : Nat} {f : Nat → Int} {v : Int} (h : RS (sA S r f)) (h1 : -2147483648 ≤ v) (h2 : v < 2147483648) : RS (sA S r (fun _ => v)) := by
  have h3 := h.one (r := r) h1 h2
  rw [sA_sA] at h3
  exact h3
theorem RS.hash {S : St} (h : RS S) (f : Nat → Int) : RS (sA S 99 f) := h.set (fun g => absurd rfl g)
theorem RS.hash' {S : St} {g : Nat → Int} (h : RS (sA S 99 g)) (f : Nat → Int) : RS (sA S 99 f) := by
  have h3 := h.hash f
  rw [sA_sA] at h3
  exact h3
