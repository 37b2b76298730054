/-! the table of orders, as codes; what is told of all orders -/
def OT (n N : Nat) (t : Nat → Int) : Prop := N ≤ 462 ∧ (∀ k, k < N → 0 ≤ t k ∧ prm n (dgF n (t k)) ∧ cdF (dgF n (t k)) n = t k) ∧ (∀ j k, j < N → k < N → t j = t k → j = k) ∧ (∀ g, prm n g → fdP n g → ∃ k, k < N ∧ t k = cdF g n) ∧ ∀ k, k < N → fdP n (dgF n (t k))
def ftP (n : Nat) (kd t : Nat → Int) (k : Nat) : Prop := fitP n kd (dgF n (t k))
/-- the first of those with P at which w is least (-1: there is none) -/
def argm (P : Nat → Prop) (w : Nat → Int) (N : Nat) (x : Int) : Prop := (x = -1 ∧ ∀ k, k < N → ¬ P k) ∨ ∃ b : Nat, b < N ∧ x = ↑b ∧ P b ∧ (∀ k, k < N → P k → w b ≤ w k) ∧ ∀ k, k < b → P k → w b < w k
theorem argm_0 {P : Nat → Prop} {w : Nat → Int} : argm P w 0 (-1) := Or.inl ⟨rfl, fun k h => absurd h (Nat.not_lt_zero k)⟩
theorem argm_s {P : Nat → Prop} {w : Nat → Int} {i : Nat} {x : Int} (h : argm P w i x) (hp : ¬ P i) : argm P w (i + 1) x := by
  rcases h with ⟨h1, h2⟩ | ⟨b, h1, h2, h3, h4, h5⟩
  · exact Or.inl ⟨h1, lt_s h2 hp⟩
  · exact Or.inr ⟨b, by omega, h2, h3, lt_s h4 (fun q => absurd q hp), h5⟩
theorem argm_n {P : Nat → Prop} {w : Nat → Int} {i : Nat} {x : Int} (h : argm P w i x) (hp : P i) (hw : ∀ b : Nat, x = ↑b → w i < w b) : argm P w (i + 1) ↑i := by
  refine Or.inr ⟨i, by omega, rfl, hp, ?_, ?_⟩
  · rcases h with ⟨h1, h2⟩ | ⟨b, h1, h2, h3, h4, h5⟩
    · exact lt_s (fun k hk q => absurd q (h2 k hk)) (fun _ => Int.le_refl _)
    · have := hw b h2
      exact lt_s (fun k hk q => by have := h4 k hk q; omega) (fun _ => Int.le_refl _)
  · rcases h with ⟨h1, h2⟩ | ⟨b, h1, h2, h3, h4, h5⟩
    · exact fun k hk q => absurd q (h2 k hk)
    · have := hw b h2
      exact fun k hk q => by have := h4 k hk q; omega
theorem argm_k {P : Nat → Prop} {w : Nat → Int} {i : Nat} {x : Int} (h : argm P w i x) (hx : x ≠ -1) (hw : ∀ b : Nat, x = ↑b → w b ≤ w i) : argm P w (i + 1) x := by
  rcases h with ⟨h1, h2⟩ | ⟨b, h1, h2, h3, h4, h5⟩
  · exact absurd h1 hx
  · exact Or.inr ⟨b, by omega, h2, h3, lt_s h4 (fun _ => hw b h2), h5⟩
theorem argm_u {P : Nat → Prop} {w : Nat → Int} {N : Nat} {x y : Int} (h : argm P w N x) (g : argm P w N y) : x = y := by
  rcases h with ⟨h1, h2⟩ | ⟨b, h1, h2, h3, h4, h5⟩ <;> rcases g with ⟨g1, g2⟩ | ⟨d, g1, g2, g3, g4, g5⟩
  · omega
  · exact absurd g3 (h2 d g1)
  · exact absurd h3 (g2 b h1)
  · rcases Nat.lt_trichotomy b d with q | q | q
    · have := g5 b q h3; have := h4 d g1 g3; omega
    · omega
    · have := h5 d q g3; have := g4 b h1 h3; omega
theorem argm_r {P : Nat → Prop} {w : Nat → Int} {N : Nat} {x : Int} (h : argm P w N x) : -1 ≤ x ∧ x < N := by
  rcases h with ⟨h1, h2⟩ | ⟨b, h1, h2, h3, h4, h5⟩ <;> omega
theorem argm_P {P : Nat → Prop} {w : Nat → Int} {N : Nat} {x : Int} (h : argm P w N x) (hx : x ≠ -1) : P x.toNat ∧ x.toNat < N := by
  rcases h with ⟨h1, h2⟩ | ⟨b, h1, h2, h3, h4, h5⟩
  · exact absurd h1 hx
  · rw [h2]; exact ⟨h3, h1⟩
theorem argm_c {P Q : Nat → Prop} {w u : Nat → Int} {N : Nat} {x : Int} (hP : ∀ k, k < N → (P k ↔ Q k)) (hw : ∀ k, k < N → w k = u k) (h : argm P w N x) : argm Q u N x := by
  rcases h with ⟨h1, h2⟩ | ⟨b, h1, h2, h3, h4, h5⟩
  · exact Or.inl ⟨h1, fun k hk q => h2 k hk ((hP k hk).mpr q)⟩
  · exact Or.inr ⟨b, h1, h2, (hP b h1).mp h3, fun k hk q => by rw [← hw b h1, ← hw k hk]; exact h4 k hk ((hP k hk).mpr q), fun k hk q => by rw [← hw b h1, ← hw k (by omega)]; exact h5 k hk ((hP k (by omega)).mpr q)⟩
/-- how wide the widest hinge of an order is -/
noncomputable def wmF (n : Nat) (kd f : Nat → Int) : Int := mxF (wdF n kd f) (n - 1)
theorem wmF_r (n : Nat) (kd f : Nat → Int) : 0 ≤ wmF n kd f ∧ wmF n kd f ≤ 3 * n := mxF_r (by omega) (fun k _ => wdF_r n kd f k)
theorem wmF_c {n : Nat} {kd f g : Nat → Int} (h : ∀ j, j < n → f j = g j) : wmF n kd f = wmF n kd g := mxF_c (fun k _ => wdF_c h k)
/-- what is seen holds of a row -/
def lkP (n : Nat) (f sg : Nat → Int) (m : Nat) : Prop := ∀ a, a < m → (((pl n f (sg (3 * a)).toNat : Nat) : Int) < sg (3 * a + 1) ↔ sg (3 * a + 2) = 1)
theorem lkP_s {n : Nat} {f sg : Nat → Int} {m : Nat} : lkP n f sg (m + 1) ↔ lkP n f sg m ∧ (((pl n f (sg (3 * m)).toNat : Nat) : Int) < sg (3 * m + 1) ↔ sg (3 * m + 2) = 1) :=
  ⟨fun h => ⟨fun a ha => h a (by omega), h m (by omega)⟩, fun h => lt_s h.1 h.2⟩
def sgOK (n : Nat) (sg : Nat → Int) (m : Nat) : Prop := m ≤ 6 ∧ ∀ a, a < m → 0 ≤ sg (3 * a) ∧ sg (3 * a) < n ∧ (sg (3 * a + 2) = 0 ∨ sg (3 * a + 2) = 1)
def odF (al up w : Int) : Int := if al = 0 then w else if w = 0 then up / (Int.gcd al up : Nat) else al / (Int.gcd al up : Nat)
theorem ig_step {x y : Int} (hx : 0 ≤ x) (hy : 0 < y) : Int.gcd y (x % y) = Int.gcd x y := by
  obtain ⟨a, rfl⟩ := Int.eq_ofNat_of_zero_le hx
  obtain ⟨b, rfl⟩ := Int.eq_ofNat_of_zero_le (Int.le_of_lt hy)
  rw [← Int.natCast_emod, Int.gcd_natCast_natCast, Int.gcd_natCast_natCast, Nat.gcd_comm a b, Nat.gcd_rec b a, Nat.gcd_comm]
def wsF (al y : Int) : Int := if y ≤ al - y then al - y else y
def trF (n : Nat) (k : Int) : Int := if k = -1 then -1 else 10 * (k / n + 1) + k % n
noncomputable def wtF (n N : Nat) (t sg : Nat → Int) (m k : Nat) : Int := wsF (cnt (fun j => pB (lkP n (dgF n (t j)) sg m)) N) (cnt (fun j => pB (lkP n (dgF n (t j)) sg m ∧ ((pl n (dgF n (t j)) (k % n) : Nat) : Int) < ((k / n : Nat) : Int) + 1)) N)
theorem wsF_r {a y : Int} (h1 : 0 ≤ a ∧ a ≤ 462) (h2 : 0 ≤ y ∧ y ≤ 462) : 0 ≤ wsF a y ∧ wsF a y ≤ 462 := by unfold wsF; split <;> omega
theorem wtF_r (n N : Nat) (t sg : Nat → Int) (m k : Nat) (hN : N ≤ 462) : 0 ≤ wtF n N t sg m k ∧ wtF n N t sg m k ≤ 462 := by
  have h1 := cnt_r (fun j => pB (lkP n (dgF n (t j)) sg m)) N
  have h2 := cnt_r (fun j => pB (lkP n (dgF n (t j)) sg m ∧ ((pl n (dgF n (t j)) (k % n) : Nat) : Int) < ((k / n : Nat) : Int) + 1)) N
  exact wsF_r (by omega) (by omega)
