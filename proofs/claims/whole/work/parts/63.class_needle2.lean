/-- of those with P, at how many the place of v is p, or below p -/
noncomputable def eqC (P : Nat → Prop) (q : Nat → Nat → Nat) (p v : Nat) (N : Nat) : Int := cnt (fun k => pB (P k ∧ q k v = p)) N
noncomputable def ltC (P : Nat → Prop) (q : Nat → Nat → Nat) (p v : Nat) (N : Nat) : Int := cnt (fun k => pB (P k ∧ q k v < p)) N
theorem ltC_s (P : Nat → Prop) (q : Nat → Nat → Nat) (p v N : Nat) : ltC P q (p + 1) v N = eqC P q p v N + ltC P q p v N := by
  unfold ltC eqC
  induction N with
  | zero => rfl
  | succ N ih =>
    rw [cnt, cnt, cnt, ih]
    have h : b2 (pB (P N ∧ q N v < p + 1)) = b2 (pB (P N ∧ q N v = p)) + b2 (pB (P N ∧ q N v < p)) := by
      by_cases hP : P N
      · rcases Nat.lt_trichotomy (q N v) p with g | g | g
        · rw [pB_t.mpr ⟨hP, (by omega : q N v < p + 1)⟩, pB_f.mpr (fun h : P N ∧ q N v = p => by have := h.2; omega), pB_t.mpr ⟨hP, g⟩]; rfl
        · rw [pB_t.mpr ⟨hP, (by omega : q N v < p + 1)⟩, pB_t.mpr ⟨hP, g⟩, pB_f.mpr (fun h : P N ∧ q N v < p => by have := h.2; omega)]; rfl
        · rw [pB_f.mpr (fun h : P N ∧ q N v < p + 1 => by have := h.2; omega), pB_f.mpr (fun h : P N ∧ q N v = p => by have := h.2; omega), pB_f.mpr (fun h : P N ∧ q N v < p => by have := h.2; omega)]; rfl
      · rw [pB_f.mpr (fun h : P N ∧ q N v < p + 1 => hP h.1), pB_f.mpr (fun h : P N ∧ q N v = p => hP h.1), pB_f.mpr (fun h : P N ∧ q N v < p => hP h.1)]; rfl
    rw [h]
    omega
theorem ltC_0 (P : Nat → Prop) (q : Nat → Nat → Nat) (v N : Nat) : ltC P q 0 v N = 0 := by
  unfold ltC
  induction N with
  | zero => rfl
  | succ N ih => rw [cnt, ih, pB_f.mpr (fun h : P N ∧ q N v < 0 => Nat.not_lt_zero _ h.2)]; rfl
theorem eqC_n {P : Nat → Prop} {q : Nat → Nat → Nat} {p v N : Nat} (h : ¬ P N) : eqC P q p v (N + 1) = eqC P q p v N := by
  unfold eqC
  rw [cnt, pB_f.mpr (fun g : P N ∧ q N v = p => h g.1)]
  exact Int.add_zero _
theorem eqC_e {P : Nat → Prop} {q : Nat → Nat → Nat} {p v N : Nat} (h : P N) (g : q N v = p) : eqC P q p v (N + 1) = eqC P q p v N + 1 := by
  unfold eqC
  rw [cnt, pB_t.mpr ⟨h, g⟩]; rfl
theorem eqC_f {P : Nat → Prop} {q : Nat → Nat → Nat} {p v N : Nat} (g : ¬ q N v = p) : eqC P q p v (N + 1) = eqC P q p v N := by
  unfold eqC
  rw [cnt, pB_f.mpr (fun h : P N ∧ q N v = p => g h.2)]
  exact Int.add_zero _
theorem eqC_r (P : Nat → Prop) (q : Nat → Nat → Nat) (p v N : Nat) : 0 ≤ eqC P q p v N ∧ eqC P q p v N ≤ N := cnt_r _ N
theorem ltC_r (P : Nat → Prop) (q : Nat → Nat → Nat) (p v N : Nat) : 0 ≤ ltC P q p v N ∧ ltC P q p v N ≤ N := cnt_r _ N
/-- one order counted in: leaf by leaf -/
theorem thr_in {n : Nat} {P : Nat → Prop} {q : Nat → Nat → Nat} {N j w : Nat} {g : Nat → Int} (hn : n ≤ 7) (hj : j < n) (hP : P N) (hw : q N j = w) (hwn : w < n) (h : ∀ p v, p < n → v < n → g (7 * p + v) = if v < j then eqC P q p v (N + 1) else eqC P q p v N) : ∀ p v, p < n → v < n → uZ g (7 * w + j) (g (7 * w + j) + 1) (7 * p + v) = if v < j + 1 then eqC P q p v (N + 1) else eqC P q p v N := by
  intro p v hp hv
  unfold uZ
  by_cases e : 7 * p + v = 7 * w + j
  · have e1 : v = j := by omega
    have e2 : p = w := by omega
    rw [if_pos e, h w j hwn hj, if_neg (by omega), if_pos (by omega), e1, e2, eqC_e hP hw]
  · rw [if_neg e, h p v hp hv]
    by_cases e1 : v < j
    · rw [if_pos e1, if_pos (by omega)]
    · rw [if_neg e1]
      by_cases e2 : v = j
      · rw [if_pos (by omega), e2, eqC_f (fun e3 => e (by omega))]
      · rw [if_neg (by omega)]
/-- the sums, row by row -/
theorem thr_sum {n : Nat} {P : Nat → Prop} {q : Nat → Nat → Nat} {N j d : Nat} {g : Nat → Int} (hn : n ≤ 7) (hj : j < n) (hd : 2 ≤ d ∧ d ≤ n) (h : ∀ p v, p < n → v < n → g (7 * p + v) = if p + 1 < d ∨ (p + 1 = d ∧ v < j) then ltC P q (p + 1) v N else eqC P q p v N) : ∀ p v, p < n → v < n → uZ g (7 * (d - 1) + j) (g (7 * (d - 1) + j) + g (7 * (d - 2) + j)) (7 * p + v) = if p + 1 < d ∨ (p + 1 = d ∧ v < j + 1) then ltC P q (p + 1) v N else eqC P q p v N := by
  intro p v hp hv
  unfold uZ
  by_cases e : 7 * p + v = 7 * (d - 1) + j
  · have e1 : v = j := by omega
    have e2 : p = d - 1 := by omega
    rw [if_pos e, h (d - 1) j (by omega) hj, h (d - 2) j (by omega) hj, if_neg (by omega), if_pos (by omega), if_pos (by omega), e1, e2, ltC_s P q (d - 1) j N, show d - 2 + 1 = d - 1 by omega]
  · rw [if_neg e, h p v hp hv]
    by_cases e1 : p + 1 < d ∨ (p + 1 = d ∧ v < j)
    · rw [if_pos e1, if_pos (by omega)]
    · rw [if_neg e1, if_neg (by omega)]
noncomputable def wtC (n N : Nat) (P : Nat → Prop) (q : Nat → Nat → Nat) (k : Nat) : Int := wsF (cnt (fun j => pB (P j)) N) (ltC P q (k / n + 1) (k % n) N)
theorem max_ws {y a : Int} : (if y < a - y then a - y else y) = wsF a y := by unfold wsF; split <;> split <;> omega
theorem thr_start {n : Nat} {P : Nat → Prop} {q : Nat → Nat → Nat} {N : Nat} {g : Nat → Int} (h : ∀ p v, p < n → v < n → g (7 * p + v) = eqC P q p v N) : ∀ p v, p < n → v < n → g (7 * p + v) = if p + 1 < 2 ∨ (p + 1 = 2 ∧ v < 0) then ltC P q (p + 1) v N else eqC P q p v N := by
  intro p v hp hv
  rw [h p v hp hv]
  by_cases e : p + 1 < 2 ∨ (p + 1 = 2 ∧ v < 0)
  · rw [if_pos e, show p = 0 by omega, ltC_s, ltC_0, Int.add_zero]
  · rw [if_neg e]
theorem thr_row {n : Nat} {P : Nat → Prop} {q : Nat → Nat → Nat} {N j d : Nat} {g : Nat → Int} (hj : n ≤ j) (h : ∀ p v, p < n → v < n → g (7 * p + v) = if p + 1 < d ∨ (p + 1 = d ∧ v < j) then ltC P q (p + 1) v N else eqC P q p v N) : ∀ p v, p < n → v < n → g (7 * p + v) = if p + 1 < d + 1 ∨ (p + 1 = d + 1 ∧ v < 0) then ltC P q (p + 1) v N else eqC P q p v N := by
  intro p v hp hv
  rw [h p v hp hv]
  by_cases e : p + 1 < d + 1
  · rw [if_pos (by omega), if_pos (by omega)]
  · rw [if_neg (by omega), if_neg (by omega)]
