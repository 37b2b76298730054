/-! more rows for the class's calls -/
theorem argm_ex (P : Nat → Prop) (w : Nat → Int) : ∀ N, ∃ x, argm P w N x
  | 0 => ⟨-1, argm_0⟩
  | N + 1 => by
    obtain ⟨x, h⟩ := argm_ex P w N
    by_cases hp : P N
    · by_cases hx : x = -1
      · exact ⟨↑N, argm_n h hp (fun b e => by omega)⟩
      · have hr := argm_r h
        by_cases hw : w N < w x.toNat
        · exact ⟨↑N, argm_n h hp (fun b e => by rw [show x.toNat = b by omega] at hw; exact hw)⟩
        · exact ⟨x, argm_k h hx (fun b e => by rw [show x.toNat = b by omega] at hw; omega)⟩
    · exact ⟨x, argm_s h hp⟩
theorem tm_of {n N : Nat} {kd t : Nat → Int} {w v x : Int} (hw : 0 ≤ w ∧ w ≤ 1) (hn : n ≠ 0) (h : trimR n N kd t w v) (hx : argm (ftP n kd t) (fun k => wmF n kd (dgF n (t k))) N x) : v = tmV n kd t x w := by
  rcases h with ⟨h1, -⟩ | ⟨-, h1, -⟩ | ⟨-, -, y, h1, h2⟩
  · exact absurd hw h1
  · exact absurd h1 hn
  · rw [h2, argm_u h1 hx]; rfl
theorem wd_now {n N k0 : Nat} {kd t : Nat → Int} {x : Int} (hk : n ≠ 0 → k0 < N) (hn : n = 0 → N = 0) (hx : x = ↑k0) : (if (0 : Int) ≤ x ∧ (x : Int) < ↑N then wmF n kd (dgF n (t (x : Int).toNat)) else 0) = wmF n kd (dgF n (t k0)) := by
  by_cases e : n = 0
  · subst e
    have := hn rfl
    rw [if_neg (by omega)]
    rfl
  · have := hk e
    rw [if_pos (by omega), show x.toNat = k0 by omega]
theorem hg_r {n : Nat} {kd f : Nat → Int} {x w : Int} (hn : n ≤ 7) (hx : 0 ≤ x) : -2147483648 ≤ hingeF n kd f x w ∧ hingeF n kd f x w < 2147483648 := by
  have h1 := wdF_r n kd f x.toNat
  have h2 := Int.emod_nonneg x (show (2 : Int) ≠ 0 by decide)
  have h3 := Int.emod_lt_of_pos x (show (0 : Int) < 2 by decide)
  unfold hingeF
  (repeat' split) <;> omega
theorem hg_2 {n N : Nat} {kd f t : Nat → Int} {j : Nat} (hj : j + 1 < n) : itF (fun w h => hx9 h (hingeF n kd f ↑j ↑w)) (H2 n N kd f t j) 2 = H2 n N kd f t (j + 1) := by
  have h0 : hingeF n kd f ↑j ((0 : Nat) : Int) = (j : Int) % 2 := by unfold hingeF; rw [if_pos (by omega), if_pos (by omega), if_pos (by omega)]
  have h1 : hingeF n kd f ↑j ((1 : Nat) : Int) = wdF n kd f j := by unfold hingeF; rw [if_pos (by omega), if_pos (by omega), if_neg (by omega)]; rfl
  show hx9 (hx9 (H2 n N kd f t j) (hingeF n kd f ↑j ((0 : Nat) : Int))) (hingeF n kd f ↑j ((1 : Nat) : Int)) = _
  rw [h0, h1]
  rfl
theorem flt_ex (pg : Nat → Int) (sz : Nat) : ∃ k, isFlt pg sz k := by
  have h : ∀ m, m ≤ sz → m ≤ 7 → (∃ k, isFlt pg sz k) ∨ ∀ j, j < m → kbF (pg j) ≠ -1 := by
    intro m
    induction m with
    | zero => exact fun _ _ => Or.inr (fun j h => absurd h (Nat.not_lt_zero j))
    | succ m ih =>
      intro h1 h2
      rcases ih (by omega) (by omega) with h3 | h3
      · exact Or.inl h3
      · by_cases e : kbF (pg m) = -1
        · exact Or.inl ⟨m, by omega, by omega, h3, Or.inr (Or.inr e)⟩
        · exact Or.inr (lt_s h3 e)
  by_cases e : sz ≤ 7
  · rcases h sz (Nat.le_refl _) e with h1 | h1
    · exact h1
    · exact ⟨sz, Nat.le_refl _, e, h1, Or.inl rfl⟩
  · rcases h 7 (by omega) (Nat.le_refl _) with h1 | h1
    · exact h1
    · exact ⟨7, by omega, Nat.le_refl _, h1, Or.inr (Or.inl rfl)⟩
