/-! what depends on the first n places alone -/
theorem prm_c {n : Nat} {f g : Nat → Int} (h : ∀ j, j < n → f j = g j) (hp : prm n g) : prm n f :=
  ⟨fun p hp1 => by rw [h p hp1]; exact hp.1 p hp1, fun p q h1 h2 e => hp.2 p q h1 h2 (by rw [← h p h1, ← h q h2]; exact e)⟩
theorem plS_c {f g : Nat → Int} {v : Int} {n : Nat} (h : ∀ j, j < n → f j = g j) : plS f v n = plS g v n := by
  induction n with
  | zero => rfl
  | succ n ih => rw [plS, plS, ih (fun j hj => h j (by omega)), h n (by omega)]
theorem pl_c {n : Nat} {f g : Nat → Int} (h : ∀ j, j < n → f j = g j) (v : Nat) : pl n f v = pl n g v := plS_c h
theorem cdF_c {n : Nat} {f g : Nat → Int} (h : ∀ j, j < n → f j = g j) : cdF f n = cdF g n := by
  induction n with
  | zero => rfl
  | succ n ih => rw [cdF, cdF, ih (fun j hj => h j (by omega)), h n (by omega)]
theorem shF_c {n : Nat} {f g : Nat → Int} (h : ∀ j, j < n → f j = g j) {p q : Nat} (hp : p < n) (hq : q < n) : ∀ j, j < n → shF f p q j = shF g p q j := by
  intro j hj
  unfold shF
  rw [h p hp]
  by_cases e1 : j = q
  · rw [if_pos e1, if_pos e1]
  · rw [if_neg e1, if_neg e1]
    by_cases e2 : p ≤ j ∧ j < q
    · rw [if_pos e2, if_pos e2, h (j + 1) (by omega)]
    · rw [if_neg e2, if_neg e2]
      by_cases e3 : q < j ∧ j ≤ p
      · rw [if_pos e3, if_pos e3, h (j - 1) (by omega)]
      · rw [if_neg e3, if_neg e3, h j hj]
theorem fdP_c {n : Nat} {f g : Nat → Int} (h : ∀ j, j < n → f j = g j) : fdP n f ↔ fdP n g := by
  unfold fdP crP
  simp only [pl_c h]
theorem rgP_c {n : Nat} {kd f g : Nat → Int} (h : ∀ j, j < n → f j = g j) {p : Nat} (hp : p < n) : rgP n kd f p ↔ rgP n kd g p := by
  have hst : stP n kd f p ↔ stP n kd g p := by
    unfold stP
    rw [h (p - 1) (by omega)]
    by_cases e : p + 1 < n
    · rw [h (p + 1) e]
    · simp only [e, false_and]
  unfold rgP
  rw [h p hp, hst]
theorem fitP_c {n : Nat} {kd f g : Nat → Int} (h : ∀ j, j < n → f j = g j) : fitP n kd f ↔ fitP n kd g :=
  ⟨fun H p hp => (rgP_c h hp).mp (H p hp), fun H p hp => (rgP_c h hp).mpr (H p hp)⟩
theorem wdF_c {n : Nat} {kd f g : Nat → Int} (h : ∀ j, j < n → f j = g j) (q : Nat) : wdF n kd f q = wdF n kd g q := by
  unfold wdF
  refine sm_c (fun k hk => ?_)
  unfold wdT
  rw [pl_c h, pl_c h, h k hk]
theorem cbF_c {n : Nat} {f g : Nat → Int} (h : ∀ j, j < n → f j = g j) {v q : Nat} (hv : pl n g v < n) (hq : q < n) : cbF n f v q = cbF n g v q := by
  unfold cbF
  rw [pl_c h]
  have h1 := shF_c h hv hq
  rw [pB_c (fdP_c h1), cdF_c h1]
/-- two places trade -/
def swF (f : Nat → Int) (a b : Nat) : Nat → Int := uZ (uZ f a (f b)) b (f a)
