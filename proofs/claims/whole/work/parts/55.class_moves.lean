theorem ct_sorted {n N : Nat} {t s4 : Nat → Int} (h : ∀ k, k < N → s4 k = t k * 8 ^ (7 - n)) (hso : ∀ j k, j < k → k < N → t j < t k) : ∀ j k, j < k → k < N → s4 j < s4 k := by
  intro j k hj hk
  rw [h j (by omega), h k hk]
  exact Int.mul_lt_mul_of_pos_right (hso j k hj hk) (Int.pow_pos (by decide))
theorem ix_mul {n N : Nat} {t s4 : Nat → Int} (h : ∀ k, k < N → s4 k = t k * 8 ^ (7 - n)) (c : Int) : ixF s4 (c * 8 ^ (7 - n)) N = ixF t c N := by
  refine ixF_c (fun k hk => ?_)
  rw [h k hk]
  exact ⟨fun e => Int.eq_of_mul_eq_mul_right (Int.ne_of_gt (Int.pow_pos (by decide))) e, fun e => by rw [e]⟩
theorem mv_code {n : Nat} {f : Nat → Int} (hn : n ≤ 7) (hp : prm n f) {v q : Nat} (hv : v < n) (hq : q < n) : cdF (ptF (tkF (f7 n f) (pl n f v)) ↑v q) 7 = cdF (shF f (pl n f v) q) n * 8 ^ (7 - n) := by
  have h1 := pl_at hp hv
  have h2 := sh_eq (f := f) hn h1.1 hq
  rw [h1.2] at h2
  rw [cdF_c h2, cdF_f7 _ 7 hn]
theorem rv_step {g : Nat → Int} {i : Nat} (hi : i < 7) : cdF (f7 i g) 7 + g i * 2 ^ (3 * (6 - i)) = cdF (f7 (i + 1) g) 7 := by
  rw [cdF_f7 g 7 (by omega), cdF_f7 g 7 (by omega), cdF, p28, show 7 - i = (6 - i) + 1 by omega, show 7 - (i + 1) = 6 - i by omega, Int.pow_succ, Int.add_mul, Int.mul_comm 8 (cdF g i), Int.mul_assoc, Int.mul_comm 8 (8 ^ (6 - i))]
theorem rv_mod {g : Nat → Int} {i : Nat} (hi : i < 7) : cdF (f7 i g) 7 % 2 ^ (3 * (6 - i) + 3) = 0 := by
  rw [cdF_f7 g 7 (by omega), show 3 * (6 - i) + 3 = 3 * (7 - i) by omega, p28]
  exact Int.mul_emod_left _ _
/-- the order that comes of turning over -/
noncomputable def tuF (n N : Nat) (t : Nat → Int) (k : Nat) : Int := ixF t (cdF (fun p => dgF n (t k) (n - 1 - p)) n) N
