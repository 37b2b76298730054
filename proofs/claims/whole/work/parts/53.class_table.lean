/-! the class's table of orders -/
theorem pw2 : ∀ k, k < 22 → 1 ≤ (2 : Int) ^ k ∧ (2 : Int) ^ k ≤ 2097152 := by decide
/-- the last place below k that holds x -/
def ixF (t : Nat → Int) (x : Int) : Nat → Int
  | 0 => -1
  | k + 1 => if t k = x then ↑k else ixF t x k
theorem ixF_n {t : Nat → Int} {x : Int} {N : Nat} (h : ∀ k, k < N → t k ≠ x) : ixF t x N = -1 := by
  induction N with
  | zero => rfl
  | succ N ih => rw [ixF, if_neg (h N (by omega)), ih (fun k hk => h k (by omega))]
theorem ixF_f {t : Nat → Int} {x : Int} {N k : Nat} (hd : ∀ j k, j < N → k < N → t j = t k → j = k) (hk : k < N) (h : t k = x) : ixF t x N = ↑k := by
  induction N with
  | zero => omega
  | succ N ih =>
    rw [ixF]
    by_cases e : t N = x
    · rw [if_pos e, hd N k (by omega) hk (by rw [e, h])]
    · rw [if_neg e]
      have : k < N := by
        rcases Nat.lt_or_ge k N with g | g
        · exact g
        · exact absurd (by rw [show N = k by omega]; exact h) e
      exact ih (fun a b ha hb => hd a b (by omega) (by omega)) this
theorem ixF_r {t : Nat → Int} {x : Int} {N : Nat} : -1 ≤ ixF t x N ∧ ixF t x N < N := by
  induction N with
  | zero => rw [ixF]; omega
  | succ N ih => rw [ixF]; split <;> omega
theorem ixF_at {t : Nat → Int} {x : Int} {N : Nat} (h : ixF t x N ≠ -1) : t (ixF t x N).toNat = x := by
  induction N with
  | zero => exact absurd rfl h
  | succ N ih =>
    rw [ixF] at h ⊢
    by_cases e : t N = x
    · rw [if_pos e]; exact e
    · rw [if_neg e] at h ⊢; exact ih h
theorem ixF_c {t u : Nat → Int} {x y : Int} {N : Nat} (h : ∀ k, k < N → (t k = x ↔ u k = y)) : ixF t x N = ixF u y N := by
  induction N with
  | zero => rfl
  | succ N ih =>
    rw [ixF, ixF, ih (fun k hk => h k (by omega))]
    by_cases e : t N = x
    · rw [if_pos e, if_pos ((h N (by omega)).mp e)]
    · rw [if_neg e, if_neg (fun g => e ((h N (by omega)).mpr g))]
def cTab (n N : Nat) (t : Nat → Int) (S : St) : Prop := (S 2 0 = ↑n ∧ S 3 0 = ↑N ∧ n ≤ 7 ∧ N ≤ 462) ∧ (n = 0 → N = 0) ∧ (n ≠ 0 → OT n N t) ∧ (∀ j k, j < k → k < N → t j < t k) ∧ ∀ k, k < N → S 4 k = t k * 8 ^ (7 - n) ∧ 0 ≤ S 5 k ∧ ∀ v, v < n → S 5 k / 2 ^ (3 * v) % 8 = ↑(pl n (dgF n (t k)) v)
noncomputable def laF (n N : Nat) (t : Nat → Int) (x y : Int) : Int := if (0 ≤ x ∧ x < N) ∧ (0 ≤ y ∧ y < n) then dgF n (t x.toNat) y.toNat else -1
noncomputable def plV (n N : Nat) (t : Nat → Int) (x y : Int) : Int := if (0 ≤ x ∧ x < N) ∧ (0 ≤ y ∧ y < n) then ↑(pl n (dgF n (t x.toNat)) y.toNat) else -1
theorem p28 (k : Nat) : (2 : Int) ^ (3 * k) = 8 ^ k := by rw [Int.pow_mul]; rfl
theorem la_eq {n q : Nat} (hn : n ≤ 7) (hq : q < n) {c : Int} : c * 8 ^ (7 - n) / 2 ^ (3 * (6 - q)) % 8 = dgF n c q := by
  unfold dgF
  rw [p28, show 6 - q = (7 - n) + (n - 1 - q) by omega, Int.pow_add, ← Int.ediv_ediv_of_nonneg (Int.pow_nonneg (by decide)), Int.mul_ediv_cancel _ (Int.ne_of_gt (Int.pow_pos (by decide)))]
/-- n digits as seven -/
def f7 (n : Nat) (f : Nat → Int) : Nat → Int := fun j => if j < n then f j else 0
theorem cdF_f7 {n : Nat} (f : Nat → Int) : ∀ k, n ≤ k → cdF (f7 n f) k = cdF f n * 8 ^ (k - n) := by
  intro k hk
  induction k with
  | zero => rw [show n = 0 by omega]; rfl
  | succ k ih =>
    by_cases e : n = k + 1
    · rw [e, Nat.sub_self, Int.pow_zero, Int.mul_one]
      exact cdF_c (fun j hj => by unfold f7; rw [if_pos hj])
    · rw [cdF, ih (by omega), show f7 n f k = 0 by unfold f7; rw [if_neg (by omega)], show k + 1 - n = (k - n) + 1 by omega, Int.pow_succ, Int.add_zero, Int.mul_comm 8, Int.mul_assoc]
theorem f7_d {n : Nat} {f : Nat → Int} (h : ∀ p, p < n → 0 ≤ f p ∧ f p < 8) : d7 (f7 n f) := by
  intro j _
  unfold f7
  split
  · exact h j (by assumption)
  · omega
theorem sh_eq {n : Nat} {f : Nat → Int} (hn : n ≤ 7) {p q : Nat} (hp : p < n) (hq : q < n) : ∀ j, j < 7 → ptF (tkF (f7 n f) p) (f p) q j = f7 n (shF f p q) j := by
  intro j hj
  unfold ptF tkF f7 shF
  by_cases e1 : j < q
  · rw [if_pos e1]
    by_cases e2 : j < p
    · rw [if_pos e2]
      by_cases e3 : j < n
      · rw [if_pos e3, if_pos e3, if_neg (by omega), if_neg (by omega), if_neg (by omega)]
      · omega
    · rw [if_neg e2, if_pos (show j < 6 by omega), if_pos (show j + 1 < n by omega), if_pos (show j < n by omega), if_neg (by omega), if_pos (by omega)]
  · rw [if_neg e1]
    by_cases e2 : j = q
    · rw [if_pos e2, if_pos (show j < n by omega), if_pos e2]
    · rw [if_neg e2]
      by_cases e3 : j - 1 < p
      · rw [if_pos e3, if_pos (show j - 1 < n by omega)]
        by_cases e4 : j < n
        · rw [if_pos e4, if_neg e2, if_neg (by omega), if_pos (by omega)]
        · omega
      · rw [if_neg e3, if_pos (show j - 1 < 6 by omega), show j - 1 + 1 = j by omega]
        by_cases e4 : j < n
        · rw [if_pos e4, if_pos e4, if_neg e2, if_neg (by omega), if_neg (by omega)]
        · rw [if_neg e4, if_neg e4]
theorem tk6 {n : Nat} {f : Nat → Int} {p : Nat} (hp : p < n) (hn : n ≤ 7) : tkF (f7 n f) p 6 = 0 := by
  unfold tkF
  by_cases e : 6 < p
  · omega
  · rw [if_neg e, if_neg (by omega)]
/-- the order that comes of a move of leaf v to place q -/
noncomputable def amF (n N : Nat) (t : Nat → Int) (k v q : Nat) : Int := ixF t (cdF (shF (dgF n (t k)) (pl n (dgF n (t k)) v) q) n) N
