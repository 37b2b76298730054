/-! the class's own calls: rows -/
theorem cnt_le {P : Nat → Bool} {a b : Nat} (h : a ≤ b) : cnt P a ≤ cnt P b := cnt_mono h
/-- a row read by its places or by its leaves: as many -/
theorem cnt_sum1 {P : Nat → Bool} {v0 : Nat} : ∀ {n : Nat}, v0 < n → cnt P n = cnt (fun k => P k && !(Nat.beq k v0)) n + b2 (P v0)
  | 0, h => by omega
  | n + 1, h => by
    by_cases e : v0 = n
    · subst e
      rw [cnt, cnt, Nat.beq_refl]
      have h1 : cnt (fun k => P k && !(Nat.beq k v0)) v0 = cnt P v0 := cnt_c (fun k hk => by
        have : Nat.beq k v0 = false := by
          cases e2 : Nat.beq k v0
          · rfl
          · have := Nat.eq_of_beq_eq_true e2; omega
        rw [this]; simp)
      rw [h1]
      have h2 : b2 (P v0 && !true) = 0 := by cases P v0 <;> rfl
      rw [h2]
      omega
    · have h1 := cnt_sum1 (P := P) (v0 := v0) (n := n) (by omega)
      rw [cnt, cnt, h1]
      have : Nat.beq n v0 = false := by
        cases e2 : Nat.beq n v0
        · rfl
        · have := Nat.eq_of_beq_eq_true e2; omega
      rw [this]
      have h2 : b2 (P n && !false) = b2 (P n) := by cases P n <;> rfl
      rw [h2]
      omega
theorem cnt_0 {P : Nat → Bool} : ∀ {n : Nat}, (∀ k, k < n → P k = false) → cnt P n = 0
  | 0, _ => rfl
  | n + 1, h => by rw [cnt, cnt_0 (fun k hk => h k (by omega)), h n (by omega)]; rfl
/-- how many of n things: told by names that are a row of 0 to n - 1 -/
theorem cnt_re : ∀ (m n : Nat) (g : Nat → Nat) (P : Nat → Bool), (∀ p, p < m → g p < n) → (∀ p q, p < m → q < m → g p = g q → p = q) → (∀ k, k < n → P k = true → ∃ p, p < m ∧ g p = k) → cnt (fun p => P (g p)) m = cnt P n
  | 0, n, g, P, _, _, h3 => (cnt_0 (fun k hk => by
      cases e : P k
      · rfl
      · obtain ⟨p, hp, -⟩ := h3 k hk e; omega)).symm
  | m + 1, n, g, P, h1, h2, h3 => by
    rw [cnt, cnt_sum1 (P := P) (h1 m (by omega))]
    have hr := cnt_re m n g (fun k => P k && !(Nat.beq k (g m))) (fun p hp => h1 p (by omega)) (fun p q hp hq e => h2 p q (by omega) (by omega) e) (fun k hk e => by
      rw [Bool.and_eq_true] at e
      obtain ⟨p, hp, hg⟩ := h3 k hk e.1
      refine ⟨p, ?_, hg⟩
      rcases Nat.lt_or_ge p m with q | q
      · exact q
      · exfalso
        have e3 := e.2
        rw [← hg, show p = m by omega, Nat.beq_refl] at e3
        cases e3)
    rw [← hr]
    congr 1
    refine cnt_c (fun p hp => ?_)
    have : Nat.beq (g p) (g m) = false := by
      cases e2 : Nat.beq (g p) (g m)
      · rfl
      · have := h2 p m (by omega) (by omega) (Nat.eq_of_beq_eq_true e2); omega
    show P (g p) = (P (g p) && !(Nat.beq (g p) (g m)))
    rw [this]; simp
theorem cnt_pl {n N k0 : Nat} {t : Nat → Int} {kd : Nat → Int} (hk : n ≠ 0 → k0 < N) (hO : n ≠ 0 → OT n N t) : cnt (fun v => pB (rgP n kd (dgF n (t k0)) (pl n (dgF n (t k0)) v))) n = cnt (fun q => pB (rgP n kd (dgF n (t k0)) q)) n := by
  by_cases e : n = 0
  · subst e; rfl
  · have hp := ((hO e).2.1 k0 (hk e)).2.1
    refine cnt_re n n (pl n (dgF n (t k0))) (fun q => pB (rgP n kd (dgF n (t k0)) q)) (fun p h => pl_lt hp h) (fun p q h1 h2 e2 => ?_) (fun k h _ => ?_)
    · have a := pl_at hp h1
      have b := pl_at hp h2
      rw [e2, b.2] at a
      omega
    · have h1 := hp.1 k h
      exact ⟨(dgF n (t k0) k).toNat, by omega, pl_of hp h⟩
theorem am_no {n N : Nat} {t : Nat → Int} (hO : OT n N t) (hn7 : n ≤ 7) {k v q : Nat} (hk : k < N) (hv : v < n) (hq : q < n) (h : amF n N t k v q = -1 ∨ amF n N t k v q = ↑k) : cbF n (dgF n (t k)) v q = -1 := by
  apply Classical.byContradiction
  intro e
  obtain ⟨y, h1, h2, h3, h4⟩ := (am_move hO hn7 hk hv hq).2 e
  omega
theorem am_yes {n N : Nat} {t : Nat → Int} (hO : OT n N t) (hn7 : n ≤ 7) {k v q : Nat} (hk : k < N) (hv : v < n) (hq : q < n) (h1 : amF n N t k v q ≠ -1) (h2 : amF n N t k v q ≠ ↑k) : cbF n (dgF n (t k)) v q ≠ -1 ∧ ∃ y, y < N ∧ amF n N t k v q = ↑y ∧ t y = cdF (shF (dgF n (t k)) (pl n (dgF n (t k)) v) q) n := by
  have e : cbF n (dgF n (t k)) v q ≠ -1 := fun e => by have := (am_move hO hn7 hk hv hq).1 e; omega
  obtain ⟨y, g1, g2, g3, g4, g5⟩ := (am_move hO hn7 hk hv hq).2 e
  exact ⟨e, y, g1, g2, g5⟩
