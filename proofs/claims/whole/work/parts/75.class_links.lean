/-! what the class's moves come to, in the reference's words -/
theorem row_dg {n N : Nat} {t : Nat → Int} (hO : OT n N t) (hn7 : n ≤ 7) {g : Nat → Int} (hg : prm n g) {y : Nat} (hy : t y = cdF g n) : ∀ j, j < n → dgF n (t y) j = g j := by
  rw [hy]; exact dg_cd (prm8 hn7 hg)
theorem am_self {n N : Nat} {t : Nat → Int} (hO : OT n N t) (hn7 : n ≤ 7) {k v q : Nat} (hk : k < N) (h : pl n (dgF n (t k)) v = q) : amF n N t k v q = ↑k := by
  unfold amF
  rw [h]
  refine ixF_f hO.2.2.1 hk ?_
  have h1 := (hO.2.1 k hk).2.2
  rw [← h1]
  refine cdF_c (fun j hj => ?_)
  rw [h1]
  unfold shF
  by_cases e : j = q
  · rw [if_pos e, e]
  · rw [if_neg e, if_neg (by omega), if_neg (by omega)]
theorem am_cb {n N : Nat} {t : Nat → Int} (hO : OT n N t) (hn7 : n ≤ 7) {k v q : Nat} (hk : k < N) (hv : v < n) (hq : q < n) (h : pl n (dgF n (t k)) v ≠ q) :
    (cbF n (dgF n (t k)) v q = -1 → amF n N t k v q = -1) ∧ (cbF n (dgF n (t k)) v q ≠ -1 → ∃ y, y < N ∧ amF n N t k v q = ↑y ∧ y ≠ k ∧ t y = cbF n (dgF n (t k)) v q ∧ t y = cdF (shF (dgF n (t k)) (pl n (dgF n (t k)) v) q) n) := by
  have hp := (hO.2.1 k hk).2.1
  have hs := shF_prm hp (pl_lt hp hv) hq
  have hc : cbF n (dgF n (t k)) v q = if pB (fdP n (shF (dgF n (t k)) (pl n (dgF n (t k)) v) q)) = true then cdF (shF (dgF n (t k)) (pl n (dgF n (t k)) v) q) n else -1 := by
    unfold cbF
    rw [if_neg h]
  constructor
  · intro e
    unfold amF
    refine ixF_n (fun y hy e2 => ?_)
    have h1 := row_dg hO hn7 hs e2
    have h2 := (fdP_c h1).mp (hO.2.2.2.2 y hy)
    rw [hc, if_pos (pB_t.mpr h2), ← e2] at e
    have := (hO.2.1 y hy).1
    omega
  · intro e
    obtain ⟨y, h1, h2⟩ := cbF_in hO hk hv hq e
    have h3 : cbF n (dgF n (t k)) v q = cdF (shF (dgF n (t k)) (pl n (dgF n (t k)) v) q) n := by
      rw [hc] at e ⊢
      by_cases e2 : pB (fdP n (shF (dgF n (t k)) (pl n (dgF n (t k)) v) q)) = true
      · rw [if_pos e2]
      · rw [if_neg e2] at e; exact absurd rfl e
    refine ⟨y, h1, ?_, ?_, h2, h2.trans h3⟩
    · unfold amF
      exact ixF_f hO.2.2.1 h1 (h2.trans h3)
    · intro e2
      have h4 := row_dg hO hn7 hs (h2.trans h3) q hq
      rw [e2] at h4
      have h5 : shF (dgF n (t k)) (pl n (dgF n (t k)) v) q q = dgF n (t k) (pl n (dgF n (t k)) v) := by unfold shF; rw [if_pos rfl]
      rw [h5] at h4
      exact h (hp.2 _ _ (pl_lt hp hv) hq h4.symm)
theorem am_may {n N : Nat} {t : Nat → Int} (hO : OT n N t) (hn7 : n ≤ 7) {k v q : Nat} (hk : k < N) (hv : v < n) (hq : q < n) : amF n N t k v q ≠ -1 ↔ (pl n (dgF n (t k)) v = q ∨ cbF n (dgF n (t k)) v q ≠ -1) := by
  by_cases e : pl n (dgF n (t k)) v = q
  · rw [am_self hO hn7 hk e]
    exact ⟨fun _ => Or.inl e, fun _ => by omega⟩
  · have h := am_cb hO hn7 hk hv hq e
    constructor
    · intro h1
      exact Or.inr (fun h2 => h1 (h.1 h2))
    · rintro (h1 | h1)
      · exact absurd h1 e
      · obtain ⟨y, h2, h3, -⟩ := h.2 h1
        rw [h3]; omega
theorem cb_self {n : Nat} {f : Nat → Int} {v q : Nat} (h : pl n f v = q) : cbF n f v q = -1 := by unfold cbF; rw [if_pos h]
theorem am_move {n N : Nat} {t : Nat → Int} (hO : OT n N t) (hn7 : n ≤ 7) {k v q : Nat} (hk : k < N) (hv : v < n) (hq : q < n) : (cbF n (dgF n (t k)) v q = -1 → amF n N t k v q = -1 ∨ amF n N t k v q = ↑k) ∧ (cbF n (dgF n (t k)) v q ≠ -1 → ∃ y, y < N ∧ amF n N t k v q = ↑y ∧ y ≠ k ∧ t y = cbF n (dgF n (t k)) v q ∧ t y = cdF (shF (dgF n (t k)) (pl n (dgF n (t k)) v) q) n) := by
  by_cases e : pl n (dgF n (t k)) v = q
  · exact ⟨fun _ => Or.inr (am_self hO hn7 hk e), fun h => absurd (cb_self e) h⟩
  · have h := am_cb hO hn7 hk hv hq e
    exact ⟨fun h1 => Or.inl (h.1 h1), h.2⟩
theorem am_r {n N : Nat} {t : Nat → Int} {k v q : Nat} : -1 ≤ amF n N t k v q ∧ amF n N t k v q < N := ixF_r
/-- turned over -/
theorem rv_prm {n : Nat} {f : Nat → Int} (h : prm n f) : prm n (fun p => f (n - 1 - p)) :=
  ⟨fun p hp => h.1 (n - 1 - p) (by omega), fun p q hp hq e => by have := h.2 (n - 1 - p) (n - 1 - q) (by omega) (by omega) e; omega⟩
theorem rv_pl {n : Nat} {f : Nat → Int} (h : prm n f) {v : Nat} (hv : v < n) : pl n (fun p => f (n - 1 - p)) v = n - 1 - pl n f v := by
  have h1 := pl_at h hv
  have h2 := pl_of (rv_prm h) (p := n - 1 - pl n f v) (by omega)
  have h3 : f (n - 1 - (n - 1 - pl n f v)) = ↑v := by
    rw [show n - 1 - (n - 1 - pl n f v) = pl n f v by omega]
    exact h1.2
  simp only [h3] at h2
  exact h2
theorem wth_rv {n v a b : Nat} (hv : v < n) (ha : a < n) (hb : b < n) : wth ((n - 1 - v : Nat) : Int) ((n - 1 - a : Nat) : Int) ((n - 1 - b : Nat) : Int) ↔ wth v a b := by
  unfold wth
  omega
theorem rv_fd {n : Nat} {f : Nat → Int} (h : prm n f) (hf : fdP n f) : fdP n (fun p => f (n - 1 - p)) := by
  intro i j h1 h2 h3
  have h4 := hf i j h1 h2 h3
  unfold crP at h4 ⊢
  rw [rv_pl h (by omega), rv_pl h (by omega), rv_pl h (by omega), rv_pl h (by omega), wth_rv (pl_lt h (by omega)) (pl_lt h (by omega)) (pl_lt h (by omega)), wth_rv (pl_lt h (by omega)) (pl_lt h (by omega)) (pl_lt h (by omega))]
  exact h4
theorem tu_in {n N : Nat} {t : Nat → Int} (hO : OT n N t) (hn7 : n ≤ 7) {k : Nat} (hk : k < N) : ∃ y, y < N ∧ tuF n N t k = ↑y ∧ t y = cdF (fun p => dgF n (t k) (n - 1 - p)) n ∧ ∀ j, j < n → dgF n (t y) j = dgF n (t k) (n - 1 - j) := by
  have hp := (hO.2.1 k hk).2.1
  obtain ⟨y, h1, h2⟩ := hO.2.2.2.1 _ (rv_prm hp) (rv_fd hp (hO.2.2.2.2 k hk))
  refine ⟨y, h1, ?_, h2, row_dg hO hn7 (rv_prm hp) h2⟩
  unfold tuF
  exact ixF_f hO.2.2.1 h1 h2
