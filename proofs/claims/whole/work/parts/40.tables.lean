/-! the rows, by number, as lists; what the kernel counts -/
def fct : Nat → Nat
  | 0 => 1
  | n + 1 => (n + 1) * fct n
/-- the i-th row of what is there -/
def unG : Nat → List Nat → Nat → List Nat
  | 0, _, _ => []
  | m + 1, av, i => av.getD (i / fct m) 0 :: unG m (av.eraseIdx (i / fct m)) (i % fct m)
def unL (n i : Nat) : List Nat := unG n (List.range n) i
def eqL : List Nat → List Nat → Bool
  | [], [] => true
  | a :: l, b :: k => Nat.beq a b && eqL l k
  | _, _ => false
theorem eqL_t : ∀ {l k : List Nat}, eqL l k = true → l = k
  | [], [], _ => rfl
  | a :: l, b :: k, h => by
    rw [eqL, Bool.and_eq_true] at h
    rw [Nat.eq_of_beq_eq_true h.1, eqL_t h.2]
  | [], _ :: _, h => by cases h
  | _ :: _, [], h => by cases h
def stepB (n i : Nat) : Bool := !(Nat.beq (fPl (unL n i) (n - 1)) 0) && eqL (nxL n (unL n i)) (unL n (i + 1))
def allB (P : Nat → Bool) (lo : Nat) : Nat → Bool
  | 0 => true
  | k + 1 => P (lo + k) && allB P lo k
theorem allB_t {P : Nat → Bool} {lo : Nat} : ∀ {k : Nat}, allB P lo k = true → ∀ i, lo ≤ i → i < lo + k → P i = true
  | 0, _, i, h1, h2 => by omega
  | k + 1, h, i, h1, h2 => by
    rw [allB, Bool.and_eq_true] at h
    by_cases e : i = lo + k
    · rw [e]; exact h.1
    · exact allB_t h.2 i h1 (by omega)
/-- a row that holds each leaf once -/
def perB (n : Nat) (L : List Nat) : Bool := Nat.beq L.length n && allB (fun p => Nat.blt (L.getD p 0) n && allB (fun q => Nat.beq p q || !(Nat.beq (L.getD p 0) (L.getD q 0))) 0 n) 0 n
theorem perB_t {n : Nat} {L : List Nat} (h : perB n L = true) : L.length = n ∧ prm n (rowL L) := by
  unfold perB at h
  rw [Bool.and_eq_true] at h
  have h2 := allB_t h.2
  refine ⟨Nat.eq_of_beq_eq_true h.1, fun p hp => ?_, fun p q hp hq e => ?_⟩
  · have h3 := h2 p (Nat.zero_le _) (by omega)
    rw [Bool.and_eq_true] at h3
    have h4 : L.getD p 0 < n := Nat.le_of_ble_eq_true h3.1
    unfold rowL
    omega
  · have h3 := h2 p (Nat.zero_le _) (by omega)
    rw [Bool.and_eq_true] at h3
    have h4 := allB_t h3.2 q (Nat.zero_le _) (by omega)
    rw [Bool.or_eq_true] at h4
    rcases h4 with h5 | h5
    · exact Nat.eq_of_beq_eq_true h5
    · unfold rowL at e
      have e2 : L.getD p 0 = L.getD q 0 := by omega
      rw [e2, Nat.beq_refl] at h5
      cases h5
/-- folded, by its places -/
def wB (v a b : Nat) : Bool := (Nat.blt a v && Nat.blt v b) || (Nat.blt b v && Nat.blt v a)
def ckL (a b : Nat) : List Nat → Bool
  | c :: d :: t => (wB c a b == wB d a b) && ckL a b t
  | _ => true
def fdL : List Nat → Bool
  | a :: b :: t => ckL a b t && fdL (b :: t)
  | _ => true
def ixL : List Nat → Nat → Nat
  | [], _ => 0
  | a :: l, v => if Nat.beq a v then 0 else ixL l v + 1
def fdB (n : Nat) (L : List Nat) : Bool := fdL ((List.range n).map (ixL L))
theorem wB_t {v a b : Nat} : wB v a b = true ↔ wth v a b := by
  unfold wB wth
  rw [Bool.or_eq_true, Bool.and_eq_true, Bool.and_eq_true]
  constructor
  · rintro (⟨h1, h2⟩ | ⟨h1, h2⟩)
    · have := Nat.le_of_ble_eq_true h1; have := Nat.le_of_ble_eq_true h2; omega
    · have := Nat.le_of_ble_eq_true h1; have := Nat.le_of_ble_eq_true h2; omega
  · rintro (⟨h1, h2⟩ | ⟨h1, h2⟩)
    · exact Or.inl ⟨Nat.ble_eq_true_of_le (by omega), Nat.ble_eq_true_of_le (by omega)⟩
    · exact Or.inr ⟨Nat.ble_eq_true_of_le (by omega), Nat.ble_eq_true_of_le (by omega)⟩
theorem ckL_t : ∀ (a b : Nat) (t : List Nat), ckL a b t = true ↔ ∀ m, 2 * m + 1 < t.length → wB (t.getD (2 * m) 0) a b = wB (t.getD (2 * m + 1) 0) a b
  | a, b, [] => ⟨fun _ m h => by simp at h, fun _ => rfl⟩
  | a, b, [c] => ⟨fun _ m h => by simp at h, fun _ => rfl⟩
  | a, b, c :: d :: t => by
    rw [ckL, Bool.and_eq_true, ckL_t a b t]
    constructor
    · intro h m hm
      match m with
      | 0 => exact eq_of_beq h.1
      | m + 1 =>
        have := h.2 m (by simp only [List.length_cons] at hm; omega)
        rw [show 2 * (m + 1) = 2 * m + 1 + 1 by omega]
        simpa using this
    · intro h
      refine ⟨beq_iff_eq.mpr (h 0 (by simp)), fun m hm => ?_⟩
      have := h (m + 1) (by simp only [List.length_cons]; omega)
      rw [show 2 * (m + 1) = 2 * m + 1 + 1 by omega] at this
      simpa using this
theorem fdL_t : ∀ (l : List Nat), fdL l = true ↔ ∀ i m, i + 2 + 2 * m + 1 < l.length → wB (l.getD (i + 2 + 2 * m) 0) (l.getD i 0) (l.getD (i + 1) 0) = wB (l.getD (i + 2 + 2 * m + 1) 0) (l.getD i 0) (l.getD (i + 1) 0)
  | [] => ⟨fun _ i m h => by simp at h, fun _ => rfl⟩
  | [c] => ⟨fun _ i m h => by simp at h, fun _ => rfl⟩
  | a :: b :: t => by
    rw [fdL, Bool.and_eq_true, ckL_t, fdL_t (b :: t)]
    constructor
    · intro h i m hm
      match i with
      | 0 =>
        have := h.1 m (by simp only [List.length_cons] at hm; omega)
        rw [show 0 + 2 + 2 * m = 2 * m + 1 + 1 by omega]
        simpa using this
      | i + 1 =>
        have := h.2 i m (by simp only [List.length_cons] at hm ⊢; omega)
        rw [show i + 1 + 2 + 2 * m = (i + 2 + 2 * m) + 1 by omega]
        simpa using this
    · intro h
      refine ⟨fun m hm => ?_, fun i m hm => ?_⟩
      · have := h 0 m (by simp only [List.length_cons]; omega)
        rw [show 0 + 2 + 2 * m = 2 * m + 1 + 1 by omega] at this
        simpa using this
      · have := h (i + 1) m (by simp only [List.length_cons] at hm ⊢; omega)
        rw [show i + 1 + 2 + 2 * m = (i + 2 + 2 * m) + 1 by omega] at this
        simpa using this
theorem ixL_at : ∀ {L : List Nat} {v p : Nat}, p < L.length → L.getD p 0 = v → ixL L v < L.length ∧ L.getD (ixL L v) 0 = v
  | [], v, p, h, _ => by simp at h
  | a :: l, v, p, h, e => by
    rw [ixL]
    by_cases g : Nat.beq a v = true
    · rw [if_pos g]; exact ⟨by simp, Nat.eq_of_beq_eq_true g⟩
    · rw [if_neg g]
      match p, h, e with
      | 0, _, e => exact absurd (by rw [show a = v by simpa using e]; exact Nat.beq_refl v) g
      | p + 1, h, e =>
        have := ixL_at (L := l) (v := v) (p := p) (by simpa using h) (by simpa using e)
        exact ⟨by simp only [List.length_cons]; omega, by simpa using this.2⟩
theorem ixL_pl {n : Nat} {L : List Nat} (hL : L.length = n) (hp : prm n (rowL L)) {v : Nat} (hv : v < n) : ixL L v = pl n (rowL L) v := by
  have h1 := pl_at hp hv
  have h2 := ixL_at (L := L) (v := v) (p := pl n (rowL L) v) (by omega) (by have := h1.2; unfold rowL at this ⊢; omega)
  exact hp.2 _ _ (by omega) h1.1 (by rw [h1.2]; unfold rowL; rw [h2.2])
theorem fdB_t {n : Nat} {L : List Nat} (hL : L.length = n) (hp : prm n (rowL L)) : fdB n L = true ↔ fdP n (rowL L) := by
  have hg : ∀ v, v < n → ((List.range n).map (ixL L)).getD v 0 = pl n (rowL L) v := by
    intro v hv
    rw [List.getD_eq_getElem?_getD, List.getElem?_map, List.getElem?_range hv]
    exact ixL_pl hL hp hv
  have hw : ∀ {a b x y : Nat}, (wB a x y = wB b x y) ↔ (wth a x y ↔ wth b x y) := by
    intro a b x y
    rw [← wB_t, ← wB_t]
    cases wB a x y <;> cases wB b x y <;> simp
  unfold fdB
  rw [fdL_t]
  unfold fdP crP
  constructor
  · intro h i j h1 h2 h3
    have := h i ((j - i - 2) / 2) (by simp; omega)
    rw [show i + 2 + 2 * ((j - i - 2) / 2) = j by omega, hg j (by omega), hg i (by omega), hg (i + 1) (by omega), hg (j + 1) (by omega)] at this
    exact hw.mp this
  · intro h i m hm
    have hm : i + 2 + 2 * m + 1 < n := by simpa using hm
    have := h i (i + 2 + 2 * m) (by omega) hm (by omega)
    rw [hg _ (by omega), hg i (by omega), hg (i + 1) (by omega), hg _ hm]
    exact hw.mpr this
/-- T: the codes of the folded ones among the last k of M rows -/
def cdL : List Nat → Nat → Nat
  | [], c => c
  | a :: l, c => cdL l (8 * c + a)
def runT (n M : Nat) : Nat → List Nat → Bool
  | 0, T => T.isEmpty
  | k + 1, T => if fdB n (unL n (M - (k + 1))) then (Nat.beq (T.headD 0) (cdL (unL n (M - (k + 1))) 0) && (!T.isEmpty && runT n M k T.tail)) else runT n M k T
