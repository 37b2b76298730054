/-! the class's calls that change how it lies: words -/
def moveC (n N : Nat) (kd t : Nat → Int) (k0 : Nat) (mv x y v k' mv' : Int) : Prop :=
  (¬ (isL n x ∧ isL n y) ∧ v = -101 ∧ k' = ↑k0 ∧ mv' = mv) ∨ ((isL n x ∧ isL n y) ∧ cbF n (dgF n (t k0)) x.toNat y.toNat = -1 ∧ v = -103 ∧ k' = ↑k0 ∧ mv' = mv) ∨ ((isL n x ∧ isL n y) ∧ cbF n (dgF n (t k0)) x.toNat y.toNat ≠ -1 ∧ 999 ≤ mv ∧ v = -104 ∧ k' = ↑k0 ∧ mv' = mv) ∨ ((isL n x ∧ isL n y) ∧ cbF n (dgF n (t k0)) x.toNat y.toNat ≠ -1 ∧ mv < 999 ∧ ∃ y9 : Nat, y9 < N ∧ t y9 = cdF (shF (dgF n (t k0)) (pl n (dgF n (t k0)) x.toNat) y.toNat) n ∧ k' = ↑y9 ∧ mv' = mv + 1 ∧ v = opF n kd (dgF n (t y9)))
def turnC (n N : Nat) (t : Nat → Int) (k0 : Nat) (v k' : Int) : Prop := (n = 0 ∧ v = -103 ∧ k' = ↑k0) ∨ (n ≠ 0 ∧ ∃ y9 : Nat, y9 < N ∧ t y9 = cdF (fun p => dgF n (t k0) (n - 1 - p)) n ∧ k' = ↑y9 ∧ v = dgF n (t y9) 0)
def layC (N : Nat) (k0 : Nat) (x v k' : Int) : Prop := (¬ (0 ≤ x ∧ x ≤ N - 1) ∧ v = -101 ∧ k' = ↑k0) ∨ ((0 ≤ x ∧ x ≤ N - 1) ∧ v = ↑k0 ∧ k' = x)
theorem tu_r {n N : Nat} {t : Nat → Int} {k : Nat} : -1 ≤ tuF n N t k ∧ tuF n N t k < N := ixF_r
/-- farthest, as the class goes through them -/
def faI (d : Nat → Int) (k0 i b : Nat) : Prop := (b = k0 ∧ ∀ k, k < i → d k ≤ 0) ∨ (b < i ∧ 0 < d b ∧ (∀ k, k < i → d k ≤ d b) ∧ ∀ k, k < b → d k < d b)
theorem faI_0 (d : Nat → Int) (k0 : Nat) : faI d k0 0 k0 := Or.inl ⟨rfl, fun k h => absurd h (Nat.not_lt_zero k)⟩
theorem faI_n {d : Nat → Int} {k0 i b : Nat} (h0 : d k0 = 0) (h : faI d k0 i b) (hw : d b < d i) : faI d k0 (i + 1) i := by
  rcases h with ⟨h1, h2⟩ | ⟨h1, h2, h3, h4⟩
  · rw [h1, h0] at hw
    exact Or.inr ⟨by omega, hw, lt_s (fun k hk => by have := h2 k hk; omega) (Int.le_refl _), fun k hk => by have := h2 k hk; omega⟩
  · exact Or.inr ⟨by omega, by omega, lt_s (fun k hk => by have := h3 k hk; omega) (Int.le_refl _), fun k hk => by have := h3 k hk; omega⟩
theorem faI_k {d : Nat → Int} {k0 i b : Nat} (h0 : d k0 = 0) (h : faI d k0 i b) (hw : d i ≤ d b) : faI d k0 (i + 1) b := by
  rcases h with ⟨h1, h2⟩ | ⟨h1, h2, h3, h4⟩
  · rw [h1, h0] at hw
    exact Or.inl ⟨h1, lt_s h2 hw⟩
  · exact Or.inr ⟨by omega, h2, lt_s h3 hw, h4⟩
theorem faI_lt {d : Nat → Int} {k0 i b N : Nat} (hk : k0 < N) (hi : i ≤ N) (h : faI d k0 i b) : b < N := by
  rcases h with ⟨h1, h2⟩ | ⟨h1, h2⟩ <;> omega
theorem faI_end {N : Nat} {E : Nat → Nat → Prop} {d : Nat → Int} {k0 b : Nat} (hk : k0 < N) (hD : isDist N E k0 d) (h : faI d k0 N b) : argx d N b := by
  rcases h with ⟨h1, h2⟩ | ⟨h1, h2, h3, h4⟩
  · rw [h1]
    refine ⟨hk, fun k hk => by rw [hD.1]; exact h2 k hk, fun k hk2 => ?_⟩
    have h3 := h2 k (by omega)
    rw [hD.1]
    rcases Int.lt_or_eq_of_le h3 with g | g
    · exact g
    · have := hD.2.2.2.2 k (by omega) g; omega
  · exact ⟨h1, h3, h4⟩
theorem gcd_1 {a b : Int} (h : a ≠ 0) : (if 1 < ((Int.gcd a b : Nat) : Int) then ((Int.gcd a b : Nat) : Int) else 1) = ((Int.gcd a b : Nat) : Int) := by
  have h1 : 0 < Int.gcd a b := Int.gcd_pos_of_ne_zero_left b h
  split <;> omega
/-- what is seen, as the reference would hold it -/
def sgC (lf dp th : Nat → Int) (j : Nat) : Int := if j % 3 = 0 then lf (j / 3) else if j % 3 = 1 then dp (j / 3) else th (j / 3)
theorem sgC_0 (lf dp th : Nat → Int) (a : Nat) : sgC lf dp th (3 * a) = lf a := by unfold sgC; rw [if_pos (by omega), show 3 * a / 3 = a by omega]
theorem sgC_1 (lf dp th : Nat → Int) (a : Nat) : sgC lf dp th (3 * a + 1) = dp a := by unfold sgC; rw [if_neg (by omega), if_pos (by omega), show (3 * a + 1) / 3 = a by omega]
theorem sgC_2 (lf dp th : Nat → Int) (a : Nat) : sgC lf dp th (3 * a + 2) = th a := by unfold sgC; rw [if_neg (by omega), if_neg (by omega), show (3 * a + 2) / 3 = a by omega]
theorem lkC_P {n : Nat} {f lf dp th : Nat → Int} {m : Nat} : lkC n f lf dp th m ↔ lkP n f (sgC lf dp th) m := by
  unfold lkC lkP
  simp only [sgC_0, sgC_1, sgC_2]
theorem cnt_lk {n N : Nat} {t lf dp th : Nat → Int} {m : Nat} : cnt (fun k => pB (lkC n (dgF n (t k)) lf dp th m)) N = cnt (fun k => pB (lkP n (dgF n (t k)) (sgC lf dp th) m)) N := cnt_c (fun k _ => pB_c lkC_P)
theorem tri_c {n N : Nat} {t lf dp th : Nat → Int} {m : Nat} {x : Int} (h : argm (fun _ => 0 < cnt (fun k => pB (lkC n (dgF n (t k)) lf dp th m)) N) (wtC n N (fun k => lkC n (dgF n (t k)) lf dp th m) (fun k v => pl n (dgF n (t k)) v)) (n * n) x) : argm (fun _ => 0 < cnt (fun k => pB (lkP n (dgF n (t k)) (sgC lf dp th) m)) N) (wtF n N t (sgC lf dp th) m) (n * n) x := by
  refine argm_c (fun k _ => by rw [cnt_lk]) (fun k _ => ?_) h
  unfold wtC wtF
  rw [cnt_lk]
  refine congrArg (wsF _) ?_
  unfold ltC
  refine cnt_c (fun j _ => pB_c ?_)
  show (lkC n (dgF n (t j)) lf dp th m ∧ pl n (dgF n (t j)) (k % n) < k / n + 1) ↔ _
  rw [lkC_P]
  have : (pl n (dgF n (t j)) (k % n) < k / n + 1) ↔ (((pl n (dgF n (t j)) (k % n) : Nat) : Int) < ((k / n : Nat) : Int) + 1) := by omega
  rw [this]
theorem seOK_sg {n m : Nat} {S : St} (h : seOK n m S) : sgOK n (sgC (S 11) (S 12) (S 13)) m := by
  refine ⟨h.2.1, fun a ha => ?_⟩
  rw [sgC_0, sgC_2]
  exact h.2.2 a ha
/-- one shuffle, by the numbers of orders -/
theorem shI_t {n N : Nat} {t : Nat → Int} (hO : OT n N t) (hn7 : n ≤ 7) (hn0 : 0 < n) {f0 : Nat → Int} {s0 : Int} (hp : prm n f0) {i o : Nat} (ho : o < N) (he : t o = cdF (shI n f0 s0 i).1 n) :
    (∀ j, j < n → dgF n (t o) j = (shI n f0 s0 i).1 j) ∧ (amF n N t o (sdF (shI n f0 s0 i).2.1 / 65536 % n).toNat (sdF (sdF (shI n f0 s0 i).2.1) / 65536 % n).toNat = -1 ∨ amF n N t o (sdF (shI n f0 s0 i).2.1 / 65536 % n).toNat (sdF (sdF (shI n f0 s0 i).2.1) / 65536 % n).toNat = ↑o → shI n f0 s0 (i + 1) = ((shI n f0 s0 i).1, sdF (sdF (shI n f0 s0 i).2.1), (shI n f0 s0 i).2.2)) ∧ (amF n N t o (sdF (shI n f0 s0 i).2.1 / 65536 % n).toNat (sdF (sdF (shI n f0 s0 i).2.1) / 65536 % n).toNat ≠ -1 → amF n N t o (sdF (shI n f0 s0 i).2.1 / 65536 % n).toNat (sdF (sdF (shI n f0 s0 i).2.1) / 65536 % n).toNat ≠ ↑o → ∃ y, y < N ∧ amF n N t o (sdF (shI n f0 s0 i).2.1 / 65536 % n).toNat (sdF (sdF (shI n f0 s0 i).2.1) / 65536 % n).toNat = ↑y ∧ t y = cdF (shI n f0 s0 (i + 1)).1 n ∧ (shI n f0 s0 (i + 1)).2.1 = sdF (sdF (shI n f0 s0 i).2.1) ∧ (shI n f0 s0 (i + 1)).2.2 = (shI n f0 s0 i).2.2 + 1) := by
  have hpi := shI_prm hn0 hp s0 i
  have hd := row_dg hO hn7 hpi he
  have d1 := dr_lt hn0 (sdF (shI n f0 s0 i).2.1)
  have d2 := dr_lt hn0 (sdF (sdF (shI n f0 s0 i).2.1))
  have hc := cbF_c hd (pl_lt hpi d1) d2
  refine ⟨hd, fun h => ?_, fun h1 h2 => ?_⟩
  · have h3 := am_no hO hn7 ho d1 d2 h
    rw [shI, if_neg (by rw [← hc]; exact fun g => g h3)]
  · obtain ⟨h3, y, g1, g2, g3⟩ := am_yes hO hn7 ho d1 d2 h1 h2
    rw [shI, if_pos (by rw [← hc]; exact h3)]
    refine ⟨y, g1, g2, ?_, rfl, rfl⟩
    rw [g3, pl_c hd]
    exact cdF_c (shF_c hd (pl_lt hpi d1) d2)
theorem la_to {n N : Nat} {t : Nat → Int} {x w : Int} (hx : 0 ≤ x ∧ x < N) (hw : 10 ≤ w) : (if (0 ≤ x ∧ x < (N : Int)) ∧ (0 ≤ w - 10 ∧ w - 10 < (n : Int)) then dgF n (t x.toNat) (w - 10).toNat else -1) = if w - 10 < (n : Int) then dgF n (t x.toNat) (w - 10).toNat else -1 := by
  by_cases h : w - 10 < (n : Int)
  · rw [if_pos h, if_pos ⟨hx, by omega, h⟩]
  · rw [if_neg h, if_neg (fun g => h g.2.2)]
theorem far_w1 {d : Nat → Int} {N : Nat} {w x : Int} (h2 : w < 2) (hw : w % 2 = 1) (h : ∃ b : Nat, argx d N b ∧ x = ↑b) : ∃ b, argx d N b ∧ x = if w = 0 then d b else ↑b := by
  obtain ⟨b, h1, h3⟩ := h
  exact ⟨b, h1, by rw [if_neg (by omega)]; exact h3⟩
theorem far_w0 {d : Nat → Int} {N : Nat} {w x : Int} (h2 : w < 2) (hw : 0 ≤ w ∧ ¬ w % 2 = 1) (h : ∃ b : Nat, argx d N b ∧ x = ↑b) : ∃ b, argx d N b ∧ (if (0 : Int) ≤ x ∧ (x : Int) < ↑N then d (x : Int).toNat else -1) = if w = 0 then d b else ↑b := by
  obtain ⟨b, h1, h3⟩ := h
  refine ⟨b, h1, ?_⟩
  have := h1.1
  rw [if_pos (by omega), if_pos (by omega), h3]
  rfl
theorem far_w3 {P : Nat → Prop} {d : Nat → Int} {N : Nat} {w x : Int} (hw3 : w ≤ 3) (h2 : 2 ≤ w) (hw : w % 2 = 1) (h : argm P d N x) : ∃ y, argm P d N y ∧ x = if y = -1 ∨ w = 3 then y else d y.toNat :=
  ⟨x, h, by rw [if_pos (by omega)]⟩
theorem far_w2 {P : Nat → Prop} {d : Nat → Int} {N : Nat} {w x : Int} (h2 : 2 ≤ w) (hw3 : w ≤ 3) (hw : ¬ w % 2 = 1) (h : argm P d N x) : ∃ y, argm P d N y ∧ (if (0 : Int) ≤ x ∧ (x : Int) < ↑N then d (x : Int).toNat else -1) = if y = -1 ∨ w = 3 then y else d y.toNat := by
  refine ⟨x, h, ?_⟩
  have := argm_r h
  by_cases e : x = -1
  · rw [if_neg (by omega), if_pos (Or.inl e), e]
  · rw [if_pos (by omega), if_neg (by omega)]
theorem gcd_le {a b : Int} (ha : 0 < a) (h : a ≤ 462) : ((Int.gcd a b : Nat) : Int) ≤ 462 := by
  have h1 : (Int.gcd a b) ∣ a.natAbs := Int.gcd_dvd_natAbs_left a b
  have h2 := Nat.le_of_dvd (by omega) h1
  omega
