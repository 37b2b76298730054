/-! the search of the class -/
theorem sp_done {F : Nat → Int} {N lo j u y9 : Nat} {s28 : Nat → Int} (hd : ∀ a, lo ≤ a → a < j → ∀ z, z < N → s28 a = ↑z → 0 ≤ F z ∧ F z ≤ F u + 1) (hy : s28 j = ↑y9) (hF : F y9 = -1) {b : Prop} (hu : 0 ≤ F u ∧ b) : ∀ a, lo ≤ a → a < j + 1 → ∀ z, z < N → s28 a = ↑z → 0 ≤ uZ F y9 (F u + 1) z ∧ uZ F y9 (F u + 1) z ≤ uZ F y9 (F u + 1) u + 1 := by
  have hne : u ≠ y9 := fun e => by have h := hu.1; rw [e] at h; omega
  intro a h1 h2 z hz h3
  rw [uZ_n hne]
  rcases Nat.lt_or_ge a j with g | g
  · have h4 := hd a h1 g z hz h3
    rw [uZ_n (fun e => by rw [e] at h4; omega)]
    exact h4
  · rw [show a = j by omega, hy] at h3
    rw [show z = y9 by omega, uZ_s]
    omega
/-- what the search keeps: the steps of so many leaves, and distances from where it began -/
def paI (S : St) : Prop := ∃ l : Nat, S 24 0 = ↑l ∧ (l = 0 ∨ ((2 ≤ l ∧ l ≤ 7) ∧ stI l (nb l) (tb l) (S 27) (S 28) ∧ (S 25 0 = -1 ∨ ∃ k : Nat, k < nb l ∧ S 25 0 = ↑k ∧ isDist (nb l) (mvE l (tb l)) k (S 29))))
theorem tot_cap2 {n N : Nat} {t : Nat → Int} (hn : 2 ≤ n ∧ n ≤ 7) (hN : N = nb n) (ht : t = tb n) : sm (cK9 n N t) N ≤ 3964 := by
  subst hN ht
  exact tot_cap hn
theorem paI_at {S : St} {n N : Nat} {t : Nat → Int} (hN : N = nb n) (ht : t = tb n) (hn : n ≠ 0) (h : paI S) (h24 : S 24 0 = ↑n) : stI n N t (S 27) (S 28) ∧ (S 25 0 = -1 ∨ ∃ k : Nat, k < N ∧ S 25 0 = ↑k ∧ isDist N (mvE n t) k (S 29)) := by
  subst hN ht
  obtain ⟨l, h1, h2⟩ := h
  have e : l = n := by omega
  subst e
  rcases h2 with h2 | ⟨-, h3, h4⟩
  · exact absurd h2 hn
  · exact ⟨h3, h4⟩
theorem paI_of {S : St} {n N k : Nat} {t : Nat → Int} (hn : 2 ≤ n ∧ n ≤ 7) (hN : N = nb n) (ht : t = tb n) (h24 : S 24 0 = ↑n) (hst : stI n N t (S 27) (S 28)) (hk : k < N) (h25 : S 25 0 = ↑k) (hD : isDist N (mvE n t) k (S 29)) : paI S := by
  subst hN ht
  exact ⟨n, h24, Or.inr ⟨hn, hst, Or.inr ⟨k, hk, h25, hD⟩⟩⟩
theorem me_end1 {S : St} {n N k : Nat} {t g24 g26 g27 g28 g29 g30 : Nat → Int} {z25 : Int} (hn : 2 ≤ n ∧ n ≤ 7) (hN : N = nb n) (ht : t = tb n) (h24 : g24 0 = ↑n) (hst : stI n N t g27 g28) (hk : k < N) (hz : z25 = ↑k) (h25 : z25 = -1 ∨ ∃ k2 : Nat, k2 < N ∧ z25 = ↑k2 ∧ isDist N (mvE n t) k2 g29) : paI (sA (sA (sA (sA (sA (sA (sA S 24 g24) 25 (fun _ => z25)) 26 g26) 27 g27) 28 g28) 29 g29) 30 g30) ∧ isDist N (mvE n t) k g29 := by
  have hD : isDist N (mvE n t) k g29 := by
    rcases h25 with h | ⟨k2, h1, h2, h3⟩
    · omega
    · rw [show k = k2 by omega]; exact h3
  exact ⟨paI_of hn hN ht h24 hst hk hz hD, hD⟩
theorem sp_old {F : Nat → Int} {N lo j u y9 : Nat} {s28 : Nat → Int} (hd : ∀ a, lo ≤ a → a < j → ∀ z, z < N → s28 a = ↑z → 0 ≤ F z ∧ F z ≤ F u + 1) (hy : s28 j = ↑y9) (hF : 0 ≤ F y9 ∧ F y9 ≤ F u + 1) : ∀ a, lo ≤ a → a < j + 1 → ∀ z, z < N → s28 a = ↑z → 0 ≤ F z ∧ F z ≤ F u + 1 := by
  intro a h1 h2 z hz h3
  rcases Nat.lt_or_ge a j with g | g
  · exact hd a h1 g z hz h3
  · rw [show a = j by omega, hy] at h3
    rw [show z = y9 by omega]
    exact hF
