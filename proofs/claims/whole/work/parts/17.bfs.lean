/-! by how few moves: a search in widening rings, and what it finds -/
def isDist (N : Nat) (E : Nat → Nat → Prop) (s : Nat) (d : Nat → Int) : Prop :=
  d s = 0 ∧ (∀ k, k < N → -1 ≤ d k) ∧ (∀ k, k < N → 0 ≤ d k → ∀ y, y < N → E k y → 0 ≤ d y ∧ d y ≤ d k + 1) ∧ (∀ k, k < N → 0 < d k → ∃ j, j < N ∧ E j k ∧ d j = d k - 1) ∧ ∀ k, k < N → d k = 0 → k = s
theorem isDist_le {N : Nat} {E : Nat → Nat → Prop} {s : Nat} {d e : Nat → Int} (hd : isDist N E s d) (he : isDist N E s e) : ∀ (m : Nat) (k : Nat), k < N → d k = m → 0 ≤ e k ∧ e k ≤ m := by
  intro m
  induction m with
  | zero =>
    intro k hk h
    have := hd.2.2.2.2 k hk h
    subst this
    rw [he.1]
    omega
  | succ m ih =>
    intro k hk h
    obtain ⟨j, h1, h2, h3⟩ := hd.2.2.2.1 k hk (by omega)
    have h4 := ih j h1 (by omega)
    have h5 := he.2.2.1 j h1 h4.1 k hk h2
    omega
theorem isDist_u {N : Nat} {E : Nat → Nat → Prop} {s : Nat} {d e : Nat → Int} (hd : isDist N E s d) (he : isDist N E s e) (k : Nat) (hk : k < N) : d k = e k := by
  have h1 := hd.2.1 k hk
  have h2 := he.2.1 k hk
  by_cases h3 : 0 ≤ d k
  · have h4 := isDist_le hd he (d k).toNat k hk (by omega)
    have h5 := isDist_le he hd (e k).toNat k hk (by omega)
    omega
  · by_cases h4 : 0 ≤ e k
    · have h5 := isDist_le he hd (e k).toNat k hk (by omega)
      omega
    · omega
theorem isDist_c {N : Nat} {E G : Nat → Nat → Prop} {s : Nat} {d : Nat → Int} (h : ∀ a b, a < N → b < N → (E a b ↔ G a b)) (hd : isDist N E s d) : isDist N G s d :=
  ⟨hd.1, hd.2.1, fun k hk h0 y hy e => hd.2.2.1 k hk h0 y hy ((h k y hk hy).mpr e), fun k hk h0 => by
    obtain ⟨j, h1, h2, h3⟩ := hd.2.2.2.1 k hk h0
    exact ⟨j, h1, (h j k h1 hk).mp h2, h3⟩, hd.2.2.2.2⟩
theorem inj_le {N : Nat} : ∀ {c : Nat} {Q : Nat → Int}, (∀ a, a < c → 0 ≤ Q a ∧ Q a < N) → (∀ a b, a < c → b < c → Q a = Q b → a = b) → c ≤ N := by
  intro c Q h1 h2
  apply Classical.byContradiction
  intro h
  exact no_inj N Q (fun p hp => h1 p (by omega)) (fun p q hp hq e => h2 p q (by omega) (by omega) e)
/-- the search: F the distances so far, Q the queue of c orders, h of them done -/
def BI (N : Nat) (E : Nat → Nat → Prop) (s : Nat) (F Q : Nat → Int) (c h : Nat) : Prop :=
  (s < N ∧ h ≤ c ∧ 1 ≤ c ∧ F s = 0) ∧ (∀ a, a < c → 0 ≤ Q a ∧ Q a < N ∧ 0 ≤ F (Q a).toNat ∧ F (Q a).toNat ≤ a) ∧ (∀ x, x < N → F x = -1 ∨ (0 ≤ F x ∧ ∃ a, a < c ∧ Q a = ↑x)) ∧ (∀ a b, a < c → b < c → Q a = Q b → a = b) ∧ (∀ x, x < N → F x = 0 → x = s) ∧ (∀ a b, a ≤ b → b < c → F (Q a).toNat ≤ F (Q b).toNat) ∧ (∀ b, b < c → h < c → F (Q b).toNat ≤ F (Q h).toNat + 1) ∧ (∀ a, a < h → ∀ y, y < N → E (Q a).toNat y → 0 ≤ F y ∧ F y ≤ F (Q a).toNat + 1) ∧ ∀ x, x < N → 0 < F x → ∃ j, j < N ∧ E j x ∧ F j = F x - 1
theorem BI_init {N : Nat} {E : Nat → Nat → Prop} {s : Nat} {F Q : Nat → Int} (hs : s < N) (hF0 : F s = 0) (hF : ∀ x, x < N → x ≠ s → F x = -1) (hQ : Q 0 = ↑s) : BI N E s F Q 1 0 := by
  refine ⟨⟨hs, by omega, by omega, hF0⟩, fun a ha => ?_, fun x hx => ?_, fun a b ha hb _ => by omega, fun x hx e => ?_, fun a b h1 h2 => ?_, fun b hb _ => ?_, fun a ha => absurd ha (Nat.not_lt_zero a), fun x hx h => ?_⟩
  · rw [show a = 0 by omega, hQ]
    rw [show ((s : Int)).toNat = s by omega, hF0]
    omega
  · by_cases e : x = s
    · exact Or.inr ⟨by rw [e, hF0]; omega, 0, by omega, by rw [e]; exact hQ⟩
    · exact Or.inl (hF x hx e)
  · apply Classical.byContradiction
    intro g
    have := hF x hx g
    omega
  · rw [show a = 0 by omega, show b = 0 by omega]; omega
  · rw [show b = 0 by omega]; omega
  · by_cases e : x = s
    · rw [e, hF0] at h; omega
    · have := hF x hx e; omega
theorem BI_le {N : Nat} {E : Nat → Nat → Prop} {s : Nat} {F Q : Nat → Int} {c h : Nat} (H : BI N E s F Q c h) : c ≤ N := inj_le (fun a ha => ⟨(H.2.1 a ha).1, (H.2.1 a ha).2.1⟩) H.2.2.2.1
/-- what is labelled is at most one ring on -/
theorem BI_old {N : Nat} {E : Nat → Nat → Prop} {s : Nat} {F Q : Nat → Int} {c h : Nat} (H : BI N E s F Q c h) (hh : h < c) {y : Nat} (hy : y < N) (hF : ¬ F y = -1) : 0 ≤ F y ∧ F y ≤ F (Q h).toNat + 1 := by
  rcases H.2.2.1 y hy with h1 | ⟨h1, a, h2, h3⟩
  · exact absurd h1 hF
  · have h4 := H.2.2.2.2.2.2.1 a h2 hh
    rw [h3, show ((y : Int)).toNat = y by omega] at h4
    exact ⟨h1, h4⟩
theorem BI_new {N : Nat} {E : Nat → Nat → Prop} {s : Nat} {F Q : Nat → Int} {c h : Nat} (H : BI N E s F Q c h) (hh : h < c) {y : Nat} (hy : y < N) (hF : F y = -1) (hE : E (Q h).toNat y) : BI N E s (uZ F y (F (Q h).toNat + 1)) (uZ Q c ↑y) (c + 1) h := by
  obtain ⟨⟨a1, a2, a3, a4⟩, b, cx, d, e0, f, g, p, q⟩ := H
  have hQ : ∀ a, a < c → uZ Q c ↑y a = Q a := fun a ha => uZ_n (by omega)
  have hne : ∀ a, a < c → (Q a).toNat ≠ y := fun a ha e => by have := (b a ha).2.2.1; rw [e, hF] at this; omega
  have hFQ : ∀ a, a < c → uZ F y (F (Q h).toNat + 1) (uZ Q c ↑y a).toNat = F (Q a).toNat := fun a ha => by rw [hQ a ha]; exact uZ_n (hne a ha)
  have hFc : uZ F y (F (Q h).toNat + 1) (uZ Q c ↑y c).toNat = F (Q h).toNat + 1 := by rw [uZ_s, show ((y : Int)).toNat = y by omega, uZ_s]
  have hFn : ∀ x, x ≠ y → uZ F y (F (Q h).toNat + 1) x = F x := fun x hx => uZ_n hx
  have bh := b h hh
  refine ⟨⟨a1, by omega, by omega, ?_⟩, fun a ha => ?_, fun x hx => ?_, fun i j hi hj e => ?_, fun x hx e => ?_, fun i j hij hj => ?_, fun j hj _ => ?_, fun a ha z hz hEz => ?_, fun x hx hpos => ?_⟩
  · rw [hFn s (fun e => by rw [← e, a4] at hF; omega)]; exact a4
  · rcases Nat.lt_or_ge a c with h1 | h1
    · rw [hFQ a h1, hQ a h1]; have := b a h1; omega
    · have e9 : a = c := by omega
      rw [e9, hFc, uZ_s]; omega
  · by_cases e9 : x = y
    · exact Or.inr ⟨by rw [e9, uZ_s]; omega, c, by omega, by rw [uZ_s, e9]⟩
    · rw [hFn x e9]
      rcases cx x hx with h1 | ⟨h1, a, h2, h3⟩
      · exact Or.inl h1
      · exact Or.inr ⟨h1, a, by omega, by rw [hQ a h2]; exact h3⟩
  · rcases Nat.lt_or_ge i c with h1 | h1 <;> rcases Nat.lt_or_ge j c with h2 | h2
    · rw [hQ i h1, hQ j h2] at e; exact d i j h1 h2 e
    · rw [hQ i h1, show j = c by omega, uZ_s] at e; exact absurd (by rw [e]; omega) (hne i h1)
    · rw [hQ j h2, show i = c by omega, uZ_s] at e; exact absurd (by rw [← e]; omega) (hne j h2)
    · omega
  · by_cases e9 : x = y
    · rw [e9, uZ_s] at e; omega
    · rw [hFn x e9] at e; exact e0 x hx e
  · rcases Nat.lt_or_ge j c with h2 | h2
    · rw [hFQ i (by omega), hFQ j h2]; exact f i j hij h2
    · rw [show j = c by omega, hFc]
      rcases Nat.lt_or_ge i c with h1 | h1
      · rw [hFQ i h1]; exact g i h1 hh
      · rw [show i = c by omega, hFc]; omega
  · rw [hFQ h hh]
    rcases Nat.lt_or_ge j c with h2 | h2
    · rw [hFQ j h2]; exact g j h2 hh
    · rw [show j = c by omega, hFc]; omega
  · rw [hQ a (by omega)] at hEz
    rw [hFQ a (by omega)]
    have h1 := p a ha z hz hEz
    rw [hFn z (fun e => by rw [e, hF] at h1; omega)]
    exact h1
  · by_cases e9 : x = y
    · refine ⟨(Q h).toNat, by omega, by rw [e9]; exact hE, ?_⟩
      rw [e9, uZ_s, hFn _ (hne h hh)]; omega
    · rw [hFn x e9] at hpos ⊢
      obtain ⟨j, h1, h2, h3⟩ := q x hx hpos
      exact ⟨j, h1, h2, by rw [hFn j (fun e => by rw [e, hF] at h3; omega)]; exact h3⟩
theorem BI_next {N : Nat} {E : Nat → Nat → Prop} {s : Nat} {F Q : Nat → Int} {c h : Nat} (H : BI N E s F Q c h) (hh : h < c) (hall : ∀ y, y < N → E (Q h).toNat y → 0 ≤ F y ∧ F y ≤ F (Q h).toNat + 1) : BI N E s F Q c (h + 1) := by
  obtain ⟨⟨a1, a2, a3, a4⟩, b, cx, d, e0, f, g, p, q⟩ := H
  refine ⟨⟨a1, by omega, a3, a4⟩, b, cx, d, e0, f, fun j hj h1 => ?_, lt_s p hall, q⟩
  have h2 := g j hj hh
  have h3 := f h (h + 1) (by omega) h1
  omega
theorem BI_end {N : Nat} {E : Nat → Nat → Prop} {s : Nat} {F Q : Nat → Int} {c : Nat} (H : BI N E s F Q c c) : isDist N E s F := by
  obtain ⟨⟨a1, a2, a3, a4⟩, b, cx, d, e0, f, g, p, q⟩ := H
  refine ⟨a4, fun k hk => ?_, fun k hk h0 y hy e => ?_, q, e0⟩
  · rcases cx k hk with h | h <;> omega
  · rcases cx k hk with h | ⟨h1, a, h2, h3⟩
    · omega
    · have h4 := p a h2 y hy (by rw [h3]; exact e)
      rw [h3, show ((k : Int)).toNat = k by omega] at h4
      exact h4
/-- a move from one order to another -/
def mvE (n : Nat) (t : Nat → Int) (k y : Nat) : Prop := ∃ v q, v < n ∧ q < n ∧ cbF n (dgF n (t k)) v q ≠ -1 ∧ t y = cbF n (dgF n (t k)) v q
theorem cbF_in {n N : Nat} {t : Nat → Int} (hO : OT n N t) {k : Nat} (hk : k < N) {v q : Nat} (hv : v < n) (hq : q < n) (h : cbF n (dgF n (t k)) v q ≠ -1) : ∃ y, y < N ∧ t y = cbF n (dgF n (t k)) v q := by
  have hp := (hO.2.1 k hk).2.1
  unfold cbF at h ⊢
  by_cases e1 : pl n (dgF n (t k)) v = q
  · rw [if_pos e1] at h; exact absurd rfl h
  · rw [if_neg e1] at h ⊢
    by_cases e2 : pB (fdP n (shF (dgF n (t k)) (pl n (dgF n (t k)) v) q)) = true
    · rw [if_pos e2]
      exact hO.2.2.2.1 _ (shF_prm hp (pl_lt hp hv) hq) (pB_t.mp e2)
    · rw [if_neg e2] at h; exact absurd rfl h
theorem p8 : ∀ m, m < 8 → (8 : Int) ^ m ≤ 2097152 := by decide
theorem cbF_r {n : Nat} {f : Nat → Int} (hn7 : n ≤ 7) (hp : prm n f) {v q : Nat} (hv : v < n) (hq : q < n) : -1 ≤ cbF n f v q ∧ cbF n f v q < 2147483648 := by
  unfold cbF
  have h1 := shF_prm hp (pl_lt hp hv) hq
  have h2 := cdF_r (f := shF f (pl n f v) q) (n := n) (fun p hp1 => by have := h1.1 p hp1; omega)
  have h3 := p8 n (by omega)
  split
  · omega
  · split <;> omega
theorem mv_all {n : Nat} {t : Nat → Int} {u z : Nat} {X : Prop} (h : mvE n t u z) (hd : ∀ a, a < n * n → cbF n (dgF n (t u)) (a / n) (a % n) ≠ -1 → t z = cbF n (dgF n (t u)) (a / n) (a % n) → X) : X := by
  obtain ⟨v, q, hv, hq, h1, h2⟩ := h
  have hlt : v * n + q < n * n := by
    have := Nat.mul_le_mul_right n (show v + 1 ≤ n by omega)
    rw [Nat.add_mul] at this
    omega
  have e1 : (v * n + q) / n = v := by rw [Nat.mul_comm, Nat.mul_add_div (by omega), Nat.div_eq_of_lt hq, Nat.add_zero]
  have e2 : (v * n + q) % n = q := by rw [Nat.mul_comm, Nat.mul_add_mod, Nat.mod_eq_of_lt hq]
  exact hd (v * n + q) hlt (by rw [e1, e2]; exact h1) (by rw [e1, e2]; exact h2)
/-- b is the first of the greatest -/
def argx (d : Nat → Int) (N b : Nat) : Prop := b < N ∧ (∀ k, k < N → d k ≤ d b) ∧ ∀ k, k < b → d k < d b
theorem argx_k {d : Nat → Int} {i b : Nat} (h : argx d i b) (hw : d i ≤ d b) : argx d (i + 1) b := ⟨by have := h.1; omega, lt_s h.2.1 hw, h.2.2⟩
theorem argx_n {d : Nat → Int} {i b : Nat} (h : argx d i b) (hw : d b < d i) : argx d (i + 1) i := ⟨by omega, lt_s (fun k hk => by have := h.2.1 k hk; omega) (Int.le_refl _), fun k hk => by have := h.2.1 k hk; omega⟩
theorem argx_u {d : Nat → Int} {N a b : Nat} (h : argx d N a) (g : argx d N b) : a = b := by
  have h1 := h.2.1 b g.1
  have h2 := g.2.1 a h.1
  rcases Nat.lt_trichotomy a b with q | q | q
  · have := g.2.2 a q; omega
  · exact q
  · have := h.2.2 b q; omega
theorem argx_c {d e : Nat → Int} {N b : Nat} (hd : ∀ k, k < N → d k = e k) (h : argx d N b) : argx e N b :=
  ⟨h.1, fun k hk => by rw [← hd k hk, ← hd b h.1]; exact h.2.1 k hk, fun k hk => by rw [← hd k (by have := h.1; omega), ← hd b h.1]; exact h.2.2 k hk⟩
theorem home_f {P : Nat → Prop} {d : Nat → Int} {i : Nat} {x : Int} (h : argm (fun k => d k ≠ -1 ∧ P k) d i x) (hn : ¬ (d i ≠ -1 ∧ (x = -1 ∨ d i < d x.toNat) ∧ P i)) : argm (fun k => d k ≠ -1 ∧ P k) d (i + 1) x := by
  by_cases hp : d i ≠ -1 ∧ P i
  · have hx : ¬ (x = -1 ∨ d i < d x.toNat) := fun g => hn ⟨hp.1, g, hp.2⟩
    refine argm_k h (fun e => hx (Or.inl e)) (fun b e => ?_)
    rw [e] at hx
    have : ((b : Int)).toNat = b := by omega
    rw [this] at hx
    omega
  · exact argm_s h hp
theorem home_t {P : Nat → Prop} {d : Nat → Int} {i : Nat} {x : Int} (h : argm (fun k => d k ≠ -1 ∧ P k) d i x) (hn : d i ≠ -1 ∧ (x = -1 ∨ d i < d x.toNat) ∧ P i) : argm (fun k => d k ≠ -1 ∧ P k) d (i + 1) ↑i := by
  refine argm_n h ⟨hn.1, hn.2.2⟩ (fun b e => ?_)
  have h1 := hn.2.1
  rw [e] at h1
  have : ((b : Int)).toNat = b := by omega
  rw [this] at h1
  omega
