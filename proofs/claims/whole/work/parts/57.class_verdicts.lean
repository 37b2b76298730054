theorem okP2 {a : Int} : okP a 2 ↔ skP a := by unfold okP skP; omega
theorem sm_zero {F : Nat → Int} {a : Nat} : ∀ {b : Nat}, a ≤ b → (∀ p, a ≤ p → p < b → F p = 0) → sm F b = sm F a := by
  intro b hab h
  induction b with
  | zero => rw [show a = 0 by omega]
  | succ b ih =>
    by_cases e : a = b + 1
    · rw [e]
    · rw [sm, ih (by omega) (fun p h1 h2 => h p h1 (by omega)), h b (by omega) (by omega), Int.add_zero]
theorem wdT_0 {n : Nat} {kd f : Nat → Int} {h p : Nat} (e : ¬ wth p (pl n f h) (pl n f (h + 1))) : wdT n kd f h p = 0 := wdT_f (pB_f.mpr e)
theorem wdT_1 {n : Nat} {kd f : Nat → Int} {h p : Nat} (e : wth p (pl n f h) (pl n f (h + 1))) : wdT n kd f h p = thk (kd (f p).toNat) := wdT_t (pB_t.mpr e)
def cVer (n N : Nat) (t : Nat → Int) (S : St) : Prop := S 21 0 = cnt (fun k => pB (ftP n (S 7) t k)) N ∧ ∀ k, k < N → S 22 k = b2 (pB (ftP n (S 7) t k)) ∧ S 23 k = wmF n (S 7) (dgF n (t k))
theorem fit_pl {n : Nat} {kd f : Nat → Int} (hp : prm n f) : fitP n kd f ↔ ∀ v, v < n → rgP n kd f (pl n f v) := by
  constructor
  · intro h v hv; exact h _ (pl_lt hp hv)
  · intro h p hp1
    have h1 := hp.1 p hp1
    have := h (f p).toNat (by omega)
    rw [pl_of hp hp1] at this
    exact this
theorem content_t {n p : Nat} {kd f : Nat → Int} {kv : Int} (h4 : kv = 4 → ¬ otP n p) (hk : kd (f p).toNat = kv) (h3 : ¬ kv = 3) (hl : ¬ (0 < p ∧ skP (kd (f (p - 1)).toNat))) (hr : ¬ (p + 1 < n ∧ skP (kd (f (p + 1)).toNat))) : rgP n kd f p := by
  have hs : ¬ stP n kd f p := fun h => h.elim hl hr
  unfold rgP
  rw [hk]
  exact ⟨fun e => absurd e h3, fun _ => hs, fun e => ⟨hs, h4 e⟩⟩
theorem content_f {n p : Nat} {kd f : Nat → Int} {kv : Int} (hk : kd (f p).toNat = kv) (hs : skP kv) (hst : stP n kd f p) : ¬ rgP n kd f p := by
  unfold rgP
  rw [hk]
  intro h
  rcases hs with e | e
  · exact h.2.1 e hst
  · exact (h.2.2 e).1 hst
