/-! rows as lists: the next one by numbers -/
def rowL (L : List Nat) : Nat → Int := fun j => ↑(L.getD j 0)
def fPl (L : List Nat) : Nat → Nat
  | 0 => 0
  | k + 1 => if L.getD (k + 1) 0 < L.getD k 0 then fPl L k else k + 1
def fQl (L : List Nat) (a : Nat) : Nat → Nat
  | 0 => 0
  | k + 1 => if L.getD (k + 1) 0 < a then fQl L a k else k + 1
def swL (L : List Nat) (a b : Nat) : List Nat := (L.set a (L.getD b 0)).set b (L.getD a 0)
def rvL : Nat → List Nat → Nat → Nat → List Nat
  | 0, L, _, _ => L
  | k + 1, L, a, b => if a < b then rvL k (swL L a b) (a + 1) (b - 1) else L
def nxL (n : Nat) (L : List Nat) : List Nat := rvL n (swL L (fPl L (n - 1) - 1) (fQl L (L.getD (fPl L (n - 1) - 1) 0) (n - 1))) (fPl L (n - 1)) (n - 1)
theorem swL_len (L : List Nat) (a b : Nat) : (swL L a b).length = L.length := by simp [swL]
theorem getD_set (L : List Nat) (a j v : Nat) (ha : a < L.length) : (L.set a v).getD j 0 = if j = a then v else L.getD j 0 := by
  rw [List.getD_eq_getElem?_getD, List.getD_eq_getElem?_getD, List.getElem?_set]
  by_cases e : a = j
  · subst e; simp [ha]
  · rw [if_neg e, if_neg (fun h => e h.symm)]
theorem swL_row {L : List Nat} {a b n : Nat} {f : Nat → Int} (hL : L.length = n) (ha : a < n) (hb : b < n) (hf : ∀ j, j < n → f j = rowL L j) : ∀ j, j < n → swF f a b j = rowL (swL L a b) j := by
  intro j hj
  unfold swF uZ rowL swL
  rw [getD_set _ b j _ (by rw [List.length_set, hL]; exact hb), getD_set _ a j _ (by rw [hL]; exact ha)]
  have h1 := hf a ha
  have h2 := hf b hb
  unfold rowL at h1 h2
  by_cases e1 : j = b
  · rw [if_pos e1, if_pos e1]; exact h1
  · rw [if_neg e1, if_neg e1]
    by_cases e2 : j = a
    · rw [if_pos e2, if_pos e2]; exact h2
    · rw [if_neg e2, if_neg e2]; exact hf j hj
theorem fPl_s {L : List Nat} {k : Nat} (h : L.getD (k + 1) 0 < L.getD k 0) : fPl L (k + 1) = fPl L k := by rw [fPl, if_pos h]
theorem fPl_e {L : List Nat} {k : Nat} (h : ¬ L.getD (k + 1) 0 < L.getD k 0) : fPl L (k + 1) = k + 1 := by rw [fPl, if_neg h]
theorem fQl_s {L : List Nat} {a k : Nat} (h : L.getD (k + 1) 0 < a) : fQl L a (k + 1) = fQl L a k := by rw [fQl, if_pos h]
theorem fQl_e {L : List Nat} {a k : Nat} (h : ¬ L.getD (k + 1) 0 < a) : fQl L a (k + 1) = k + 1 := by rw [fQl, if_neg h]
theorem rvL_s {k : Nat} {L : List Nat} {a b : Nat} (h : a < b) : rvL (k + 1) L a b = rvL k (swL L a b) (a + 1) (b - 1) := by rw [rvL, if_pos h]
theorem rvL_e {k : Nat} {L : List Nat} {a b : Nat} (h : ¬ a < b) : rvL k L a b = L := by
  cases k with
  | zero => rfl
  | succ k => rw [rvL, if_neg h]
/-- the codes of the first i rows that are folded -/
noncomputable def pfx (n : Nat) (U : Nat → List Nat) : Nat → List Int
  | 0 => []
  | i + 1 => if pB (fdP n (rowL (U i))) = true then pfx n U i ++ [cdF (rowL (U i)) n] else pfx n U i
theorem pfx_t {n : Nat} {U : Nat → List Nat} {i : Nat} (h : pB (fdP n (rowL (U i))) = true) : pfx n U (i + 1) = pfx n U i ++ [cdF (rowL (U i)) n] := by rw [pfx, if_pos h]
theorem pfx_f {n : Nat} {U : Nat → List Nat} {i : Nat} (h : pB (fdP n (rowL (U i))) = false) : pfx n U (i + 1) = pfx n U i := by rw [pfx, h]; rfl
theorem pfx_le {n : Nat} {U : Nat → List Nat} {i j : Nat} (h : i ≤ j) : (pfx n U i).length ≤ (pfx n U j).length := by
  induction j with
  | zero => rw [show i = 0 by omega]; exact Nat.le_refl _
  | succ j ih =>
    rcases Nat.lt_or_ge j i with g | g
    · rw [show i = j + 1 by omega]; exact Nat.le_refl _
    · refine Nat.le_trans (ih g) ?_
      rw [pfx]
      split
      · rw [List.length_append]; exact Nat.le_add_right _ _
      · exact Nat.le_refl _
/-- U runs through all rows, one by one -/
def isRun (n M : Nat) (U : Nat → List Nat) : Prop := 0 < M ∧ (∀ j, j < n → rowL (U 0) j = ↑j) ∧ (∀ i, i < M → (U i).length = n ∧ prm n (rowL (U i))) ∧ (∀ i, i + 1 < M → fPl (U i) (n - 1) ≠ 0 ∧ nxL n (U i) = U (i + 1)) ∧ fPl (U (M - 1)) (n - 1) = 0
theorem getD_app_l {L R : List Int} {a : Nat} (h : a < L.length) : (L ++ R).getD a 0 = L.getD a 0 := by rw [List.getD_eq_getElem?_getD, List.getD_eq_getElem?_getD, List.getElem?_append_left h]
theorem getD_app_e {L : List Int} {x : Int} : (L ++ [x]).getD L.length 0 = x := by rw [List.getD_eq_getElem?_getD, List.getElem?_append_right (Nat.le_refl _)]; simp
