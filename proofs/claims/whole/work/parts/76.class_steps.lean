/-! the steps from an order: pair b is a place b / n from which, and a place b % n to which, a leaf is moved -/
noncomputable def amV (n N : Nat) (t : Nat → Int) (k b : Nat) : Int := amF n N t k (dgF n (t k) (b / n)).toNat (b % n)
def stepP (n N : Nat) (t : Nat → Int) (k b : Nat) : Prop := b % n ≠ b / n ∧ b % n + 1 ≠ b / n ∧ amV n N t k b ≠ -1
noncomputable def cK9 (n N : Nat) (t : Nat → Int) (k : Nat) : Int := cnt (fun b => pB (stepP n N t k b)) (n * n)
/-- entries lo to hi hold the steps among the first a pairs -/
def stK (n N : Nat) (t : Nat → Int) (k lo a : Nat) (g : Nat → Int) (hi : Nat) : Prop := (∀ j, lo ≤ j → j < hi → ∃ b, b < a ∧ stepP n N t k b ∧ g j = amV n N t k b) ∧ ∀ b, b < a → stepP n N t k b → ∃ j, lo ≤ j ∧ j < hi ∧ g j = amV n N t k b
theorem stK_0 (n N : Nat) (t : Nat → Int) (k lo : Nat) (g : Nat → Int) : stK n N t k lo 0 g lo := ⟨fun j h1 h2 => by omega, fun b hb => absurd hb (Nat.not_lt_zero b)⟩
theorem stK_f {n N : Nat} {t : Nat → Int} {k lo a : Nat} {g : Nat → Int} {hi : Nat} (h : stK n N t k lo a g hi) (hn : ¬ stepP n N t k a) : stK n N t k lo (a + 1) g hi :=
  ⟨fun j h1 h2 => by obtain ⟨b, h3, h4⟩ := h.1 j h1 h2; exact ⟨b, by omega, h4⟩, lt_s h.2 (fun g => absurd g hn)⟩
theorem stK_t {n N : Nat} {t : Nat → Int} {k lo a : Nat} {g : Nat → Int} {hi : Nat} {x : Int} (h : stK n N t k lo a g hi) (hlo : lo ≤ hi) (hs : stepP n N t k a) (hx : x = amV n N t k a) : stK n N t k lo (a + 1) (uZ g hi x) (hi + 1) := by
  refine ⟨fun j h1 h2 => ?_, fun b hb hsb => ?_⟩
  · by_cases e : j = hi
    · exact ⟨a, by omega, hs, by rw [e, uZ_s]; exact hx⟩
    · obtain ⟨b, h3, h4, h5⟩ := h.1 j h1 (by omega)
      exact ⟨b, by omega, h4, by rw [uZ_n e]; exact h5⟩
  · by_cases e : b = a
    · exact ⟨hi, hlo, by omega, by rw [uZ_s, e]; exact hx⟩
    · obtain ⟨j, h3, h4, h5⟩ := h.2 b (by omega) hsb
      exact ⟨j, h3, by omega, by rw [uZ_n (by omega)]; exact h5⟩
theorem stK_c {n N : Nat} {t : Nat → Int} {k lo a : Nat} {g e : Nat → Int} {hi : Nat} (h : stK n N t k lo a g hi) (he : ∀ j, j < hi → e j = g j) : stK n N t k lo a e hi :=
  ⟨fun j h1 h2 => by rw [he j h2]; exact h.1 j h1 h2, fun b hb hs => by obtain ⟨j, h1, h2, h3⟩ := h.2 b hb hs; exact ⟨j, h1, h2, by rw [he j h2]; exact h3⟩⟩
/-- the table of steps stands -/
def stI (n N : Nat) (t fs g : Nat → Int) : Prop := (∀ k, k ≤ N → fs k = sm (cK9 n N t) k) ∧ ∀ k, k < N → stK n N t k (sm (cK9 n N t) k).toNat (n * n) g (sm (cK9 n N t) (k + 1)).toNat
theorem cK9_r (n N : Nat) (t : Nat → Int) (k : Nat) : 0 ≤ cK9 n N t k := (cnt_r _ _).1
theorem sm_mono {F : Nat → Int} (h : ∀ k, 0 ≤ F k) {a b : Nat} (hab : a ≤ b) : sm F a ≤ sm F b := by
  induction b with
  | zero => rw [show a = 0 by omega]; exact Int.le_refl _
  | succ b ih =>
    by_cases e : a = b + 1
    · rw [e]; exact Int.le_refl _
    · have h1 := ih (by omega)
      have h2 := h b
      rw [sm]
      omega
theorem sm_nn {F : Nat → Int} (h : ∀ k, 0 ≤ F k) (a : Nat) : 0 ≤ sm F a := sm_mono h (Nat.zero_le a)
theorem cnt_mono {P : Nat → Bool} {a b : Nat} (hab : a ≤ b) : cnt P a ≤ cnt P b := by
  induction b with
  | zero => rw [show a = 0 by omega]; exact Int.le_refl _
  | succ b ih =>
    by_cases e : a = b + 1
    · rw [e]; exact Int.le_refl _
    · have h1 := ih (by omega)
      have h2 := b2_r (P b)
      rw [cnt]
      omega
/-- one step more has room -/
theorem step_cap {n N : Nat} {t : Nat → Int} {k a : Nat} (hk : k < N) (ha : a < n * n) (hs : stepP n N t k a) (hcap : sm (cK9 n N t) N ≤ 3964) : sm (cK9 n N t) k + cnt (fun b => pB (stepP n N t k b)) a < 3964 := by
  have h1 := sm_mono (cK9_r n N t) (show k + 1 ≤ N from hk)
  rw [sm] at h1
  have h2 : cnt (fun b => pB (stepP n N t k b)) (a + 1) ≤ cK9 n N t k := cnt_mono (show a + 1 ≤ n * n from ha)
  rw [cnt, pB_t.mpr hs] at h2
  have : b2 true = 1 := rfl
  omega
theorem sw_adj (f : Nat → Int) {p : Nat} (hp : 0 < p) : shF f p (p - 1) = shF f (p - 1) p := by
  funext j
  unfold shF
  by_cases e1 : j = p - 1
  · rw [if_pos e1, if_neg (by omega), if_pos (by omega), e1, show p - 1 + 1 = p by omega]
  · rw [if_neg e1, if_neg (by omega)]
    by_cases e2 : j = p
    · rw [if_pos (by omega), if_pos e2, e2]
    · rw [if_neg (by omega), if_neg e2, if_neg (by omega), if_neg (by omega)]
theorem dm_2 {n i j : Nat} (hj : j < n) : (i * n + j) / n = i ∧ (i * n + j) % n = j := by
  rw [Nat.mul_comm, Nat.mul_add_div (by omega), Nat.mul_add_mod, Nat.div_eq_of_lt hj, Nat.mod_eq_of_lt hj]
  omega
theorem lt_nn {n i j : Nat} (hi : i < n) (hj : j < n) : i * n + j < n * n := by
  have := Nat.mul_le_mul_right n (show i + 1 ≤ n by omega)
  rw [Nat.add_mul] at this
  omega
/-- the steps are the moves -/
theorem step_mv {n N : Nat} {t : Nat → Int} (hO : OT n N t) (hn7 : n ≤ 7) {k : Nat} (hk : k < N) {b : Nat} (hb : b < n * n) (hs : stepP n N t k b) : ∃ y, y < N ∧ amV n N t k b = ↑y ∧ mvE n t k y := by
  have hn0 : 0 < n := Nat.pos_of_ne_zero (fun e => by subst e; omega)
  have hdv := Nat.div_lt_of_lt_mul hb
  have hmd := Nat.mod_lt b hn0
  have hp := (hO.2.1 k hk).2.1
  have hr := hp.1 (b / n) hdv
  have hpl := pl_of hp hdv
  have h := am_cb hO hn7 hk (v := (dgF n (t k) (b / n)).toNat) (by omega) hmd (by rw [hpl]; exact fun e => hs.1 e.symm)
  have hne : cbF n (dgF n (t k)) (dgF n (t k) (b / n)).toNat (b % n) ≠ -1 := fun e => hs.2.2 (h.1 e)
  obtain ⟨y, h1, h2, h3, h4, h5⟩ := h.2 hne
  exact ⟨y, h1, h2, _, _, by omega, hmd, hne, h4⟩
theorem mv_step {n N : Nat} {t : Nat → Int} (hO : OT n N t) (hn7 : n ≤ 7) {k y : Nat} (hk : k < N) (hy : y < N) (h : mvE n t k y) : ∃ b, b < n * n ∧ stepP n N t k b ∧ amV n N t k b = ↑y := by
  obtain ⟨v, q, hv, hq, h1, h2⟩ := h
  have hp := (hO.2.1 k hk).2.1
  have hpl := pl_at hp hv
  have hne : pl n (dgF n (t k)) v ≠ q := fun e => h1 (cb_self e)
  obtain ⟨z, g1, g2, g3, g4, g5⟩ := (am_cb hO hn7 hk hv hq hne).2 h1
  have hzy : z = y := hO.2.2.1 z y g1 hy (g4.trans h2.symm)
  by_cases e : q + 1 = pl n (dgF n (t k)) v
  · -- the leaf right above, moved down
    have d := dm_2 (n := n) (i := q) (j := q + 1) (by omega)
    have hr := hp.1 q hq
    have hav : amV n N t k (q * n + (q + 1)) = ↑y := by
      unfold amV amF
      rw [d.1, d.2, pl_of hp hq]
      have e2 := sw_adj (dgF n (t k)) (p := q + 1) (by omega)
      rw [show q + 1 - 1 = q by omega] at e2
      rw [← e2]
      rw [← e] at g5
      rw [← g5, hzy]
      exact ixF_f hO.2.2.1 hy rfl
    exact ⟨q * n + (q + 1), lt_nn hq (by omega), ⟨by rw [d.1, d.2]; omega, by rw [d.1, d.2]; omega, by rw [hav]; omega⟩, hav⟩
  · have d := dm_2 (n := n) (i := pl n (dgF n (t k)) v) (j := q) hq
    have hav : amV n N t k (pl n (dgF n (t k)) v * n + q) = ↑y := by
      unfold amV
      rw [d.1, d.2, hpl.2, ← hzy]
      exact g2
    exact ⟨pl n (dgF n (t k)) v * n + q, lt_nn hpl.1 hq, ⟨by rw [d.1, d.2]; exact fun e => hne e.symm, by rw [d.1, d.2]; exact e, by rw [hav]; omega⟩, hav⟩
