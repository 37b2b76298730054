/-! rows: places, a leaf put in elsewhere, sums -/
def sm (F : Nat → Int) : Nat → Int
  | 0 => 0
  | k + 1 => sm F k + F k
def mxF (F : Nat → Int) : Nat → Int
  | 0 => 0
  | k + 1 => if mxF F k < F k then F k else mxF F k
theorem sm_r {F : Nat → Int} {b : Int} {n : Nat} (h : ∀ k, k < n → 0 ≤ F k ∧ F k ≤ b) : 0 ≤ sm F n ∧ sm F n ≤ b * n := by
  induction n with
  | zero => exact ⟨Int.le_refl _, by simp [sm]⟩
  | succ n ih =>
    have h1 := ih (fun k hk => h k (by omega))
    have h2 := h n (by omega)
    rw [sm]
    have h3 : b * ((n + 1 : Nat) : Int) = b * n + b := by rw [Int.natCast_succ, Int.mul_add, Int.mul_one]
    omega
theorem mxF_r {F : Nat → Int} {b : Int} {n : Nat} (hb : 0 ≤ b) (h : ∀ k, k < n → 0 ≤ F k ∧ F k ≤ b) : 0 ≤ mxF F n ∧ mxF F n ≤ b := by
  induction n with
  | zero => exact ⟨Int.le_refl _, hb⟩
  | succ n ih =>
    have h1 := ih (fun k hk => h k (by omega))
    have h2 := h n (by omega)
    rw [mxF]
    split <;> omega
theorem sm_c {F G : Nat → Int} {n : Nat} (h : ∀ k, k < n → F k = G k) : sm F n = sm G n := by
  induction n with
  | zero => rfl
  | succ n ih => rw [sm, sm, ih (fun k hk => h k (by omega)), h n (by omega)]
theorem mxF_c {F G : Nat → Int} {n : Nat} (h : ∀ k, k < n → F k = G k) : mxF F n = mxF G n := by
  induction n with
  | zero => rfl
  | succ n ih => rw [mxF, mxF, ih (fun k hk => h k (by omega)), h n (by omega)]
/-- no n + 1 things in n places -/
theorem no_inj : ∀ (n : Nat) (f : Nat → Int), (∀ p, p < n + 1 → 0 ≤ f p ∧ f p < n) → (∀ p q, p < n + 1 → q < n + 1 → f p = f q → p = q) → False := by
  intro n
  induction n with
  | zero => intro f h _; have := h 0 (by omega); omega
  | succ n ih =>
    intro f h hi
    refine ih (fun p => if f (n + 1) < f p then f p - 1 else f p) (fun p hp => ?_) (fun p q hp hq e => ?_)
    · have h1 := h p (by omega)
      have h2 := h (n + 1) (by omega)
      have h3 : f p ≠ f (n + 1) := fun e => by have := hi p (n + 1) (by omega) (by omega) e; omega
      split <;> omega
    · have h1 : f p ≠ f (n + 1) := fun e => by have := hi p (n + 1) (by omega) (by omega) e; omega
      have h2 : f q ≠ f (n + 1) := fun e => by have := hi q (n + 1) (by omega) (by omega) e; omega
      refine hi p q (by omega) (by omega) ?_
      split at e <;> split at e <;> omega
/-- the last place below k that holds v (0, if there is none) -/
def plS (f : Nat → Int) (v : Int) : Nat → Nat
  | 0 => 0
  | k + 1 => if f k = v then k else plS f v k
theorem plS_at {f : Nat → Int} {v : Int} {n p : Nat} (hp : p < n) (h : f p = v) : plS f v n < n ∧ f (plS f v n) = v := by
  induction n with
  | zero => omega
  | succ n ih =>
    rw [plS]
    by_cases e : f n = v
    · rw [if_pos e]; exact ⟨by omega, e⟩
    · rw [if_neg e]
      have h1 : p < n := by
        rcases Nat.lt_or_ge p n with g | g
        · exact g
        · exact absurd (by rw [show n = p by omega]; exact h) e
      exact ⟨by have := (ih h1).1; omega, (ih h1).2⟩
def pl (n : Nat) (f : Nat → Int) (v : Nat) : Nat := plS f (v : Int) n
theorem prm_sur {n : Nat} {f : Nat → Int} (hp : prm n f) {v : Nat} (hv : v < n) : ∃ p, p < n ∧ f p = v := by
  match n, hv with
  | n + 1, hv =>
    apply Classical.byContradiction
    intro hno
    refine no_inj n (fun p => if (v : Int) < f p then f p - 1 else f p) (fun p hp1 => ?_) (fun p q hp1 hq1 e => ?_)
    · have h1 := hp.1 p hp1
      have h2 : f p ≠ v := fun e => hno ⟨p, hp1, e⟩
      split <;> omega
    · have h1 : f p ≠ v := fun e => hno ⟨p, hp1, e⟩
      have h2 : f q ≠ v := fun e => hno ⟨q, hq1, e⟩
      refine hp.2 p q hp1 hq1 ?_
      split at e <;> split at e <;> omega
theorem pl_at {n : Nat} {f : Nat → Int} (hp : prm n f) {v : Nat} (hv : v < n) : pl n f v < n ∧ f (pl n f v) = v := by
  obtain ⟨p, h1, h2⟩ := prm_sur hp hv
  exact plS_at h1 h2
theorem pl_lt {n : Nat} {f : Nat → Int} (hp : prm n f) {v : Nat} (hv : v < n) : pl n f v < n := (pl_at hp hv).1
theorem pl_of {n : Nat} {f : Nat → Int} (hp : prm n f) {p : Nat} (h : p < n) : pl n f (f p).toNat = p := by
  have h1 := hp.1 p h
  have h2 := pl_at hp (v := (f p).toNat) (by omega)
  exact hp.2 _ _ h2.1 h (by rw [h2.2]; omega)
/-- places are first places -/
theorem pl_first {n : Nat} {f : Nat → Int} (hp : prm n f) {v : Nat} (hv : v < n) : ∀ j, j < pl n f v → f j ≠ v := by
  intro j hj e
  have h := pl_at hp hv
  have := hp.2 j (pl n f v) (by omega) h.1 (by rw [h.2]; exact e)
  omega
/-- the hinges don't go through one another -/
def crP (n : Nat) (f : Nat → Int) (i j : Nat) : Prop := wth (pl n f j) (pl n f i) (pl n f (i + 1)) ↔ wth (pl n f (j + 1)) (pl n f i) (pl n f (i + 1))
def fdP (n : Nat) (f : Nat → Int) : Prop := ∀ i j, i + 2 ≤ j → j + 1 < n → (j - i) % 2 = 0 → crP n f i j
theorem pB_i {P Q : Prop} : b2 (pB P) = b2 (pB Q) ↔ (P ↔ Q) := by
  constructor
  · intro h
    cases h1 : pB P <;> cases h2 : pB Q
    · exact ⟨fun p => absurd p (pB_f.mp h1), fun q => absurd q (pB_f.mp h2)⟩
    · rw [h1, h2] at h; exact absurd h (by decide)
    · rw [h1, h2] at h; exact absurd h (by decide)
    · exact ⟨fun _ => pB_t.mp h2, fun _ => pB_t.mp h1⟩
  · intro h; rw [pB_c h]
/-- how wide a hinge is -/
noncomputable def wdT (n : Nat) (kd f : Nat → Int) (h p : Nat) : Int := if pB (wth p (pl n f h) (pl n f (h + 1))) = true then thk (kd (f p).toNat) else 0
noncomputable def wdF (n : Nat) (kd f : Nat → Int) (h : Nat) : Int := sm (wdT n kd f h) n
theorem thk_r (k : Int) : 1 ≤ thk k ∧ thk k ≤ 3 := by unfold thk; split <;> omega
theorem wdT_r (n : Nat) (kd f : Nat → Int) (h p : Nat) : 0 ≤ wdT n kd f h p ∧ wdT n kd f h p ≤ 3 := by
  have := thk_r (kd (f p).toNat)
  unfold wdT; split <;> omega
theorem wdF_r (n : Nat) (kd f : Nat → Int) (h : Nat) : 0 ≤ wdF n kd f h ∧ wdF n kd f h ≤ 3 * n := sm_r (fun k _ => wdT_r n kd f h k)
theorem wdT_t {n : Nat} {kd f : Nat → Int} {h p : Nat} (e : pB (wth p (pl n f h) (pl n f (h + 1))) = true) : wdT n kd f h p = thk (kd (f p).toNat) := by unfold wdT; rw [if_pos e]
theorem wdT_f {n : Nat} {kd f : Nat → Int} {h p : Nat} (e : pB (wth p (pl n f h) (pl n f (h + 1))) = false) : wdT n kd f h p = 0 := by unfold wdT; rw [e]; rfl
/-- the leaf at p put in at q -/
def shF (f : Nat → Int) (p q : Nat) : Nat → Int := fun j => if j = q then f p else if p ≤ j ∧ j < q then f (j + 1) else if q < j ∧ j ≤ p then f (j - 1) else f j
theorem shF_prm {n : Nat} {f : Nat → Int} (hp : prm n f) {p q : Nat} (h1 : p < n) (h2 : q < n) : prm n (shF f p q) := by
  have src : ∀ j, j < n → ∃ a, a < n ∧ shF f p q j = f a ∧ ((j = q ∧ a = p) ∨ (j ≠ q ∧ p ≤ j ∧ j < q ∧ a = j + 1) ∨ (j ≠ q ∧ q < j ∧ j ≤ p ∧ a = j - 1) ∨ (j ≠ q ∧ ¬ (p ≤ j ∧ j < q) ∧ ¬ (q < j ∧ j ≤ p) ∧ a = j)) := by
    intro j hj
    unfold shF
    by_cases e1 : j = q
    · exact ⟨p, h1, by rw [if_pos e1], Or.inl ⟨e1, rfl⟩⟩
    · rw [if_neg e1]
      by_cases e2 : p ≤ j ∧ j < q
      · exact ⟨j + 1, by omega, by rw [if_pos e2], Or.inr (Or.inl ⟨e1, e2.1, e2.2, rfl⟩)⟩
      · rw [if_neg e2]
        by_cases e3 : q < j ∧ j ≤ p
        · exact ⟨j - 1, by omega, by rw [if_pos e3], Or.inr (Or.inr (Or.inl ⟨e1, e3.1, e3.2, rfl⟩))⟩
        · exact ⟨j, hj, by rw [if_neg e3], Or.inr (Or.inr (Or.inr ⟨e1, e2, e3, rfl⟩))⟩
  refine ⟨fun j hj => ?_, fun i j hi hj e => ?_⟩
  · obtain ⟨a, g1, g2, -⟩ := src j hj
    rw [g2]; exact hp.1 a g1
  · obtain ⟨a, a1, a2, a3⟩ := src i hi
    obtain ⟨b, b1, b2, b3⟩ := src j hj
    have := hp.2 a b a1 b1 (by rw [← a2, ← b2]; exact e)
    omega
/-- what a row comes to by a move; -1: it is no move -/
noncomputable def cbF (n : Nat) (f : Nat → Int) (v q : Nat) : Int := if pl n f v = q then -1 else if pB (fdP n (shF f (pl n f v) q)) = true then cdF (shF f (pl n f v) q) n else -1
theorem cdF_r {f : Nat → Int} {n : Nat} (h : ∀ p, p < n → 0 ≤ f p ∧ f p < 8) : 0 ≤ cdF f n ∧ cdF f n < 8 ^ n := by
  induction n with
  | zero => exact ⟨Int.le_refl _, by simp [cdF]⟩
  | succ n ih =>
    have h1 := ih (fun p hp => h p (by omega))
    have h2 := h n (by omega)
    rw [cdF, Int.pow_succ]
    omega
