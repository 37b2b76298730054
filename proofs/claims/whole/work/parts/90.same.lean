/-! the class's words and the reference's: the same, where their rows are -/
section SM
variable {n : Nat} {kd kd' f g : Nat → Int}
theorem rgP_k (hk : ∀ j, j < n → kd j = kd' j) (hp : prm n f) {p : Nat} (h : p < n) : rgP n kd f p ↔ rgP n kd' f p := by
  have e : ∀ q, q < n → kd (f q).toNat = kd' (f q).toNat := fun q hq => hk _ (by have := hp.1 q hq; omega)
  have hst : stP n kd f p ↔ stP n kd' f p := by
    unfold stP
    rw [e (p - 1) (by omega)]
    by_cases e2 : p + 1 < n
    · rw [e (p + 1) e2]
    · simp only [e2, false_and]
  unfold rgP
  rw [e p h, hst]
theorem rg2 (hk : ∀ j, j < n → kd j = kd' j) (hf : ∀ j, j < n → f j = g j) (hp : prm n g) {p : Nat} (h : p < n) : rgP n kd f p ↔ rgP n kd' g p := (rgP_c hf h).trans (rgP_k hk hp h)
theorem fit2 (hk : ∀ j, j < n → kd j = kd' j) (hf : ∀ j, j < n → f j = g j) (hp : prm n g) : fitP n kd f ↔ fitP n kd' g :=
  ⟨fun H p h => (rg2 hk hf hp h).mp (H p h), fun H p h => (rg2 hk hf hp h).mpr (H p h)⟩
theorem wd2 (hk : ∀ j, j < n → kd j = kd' j) (hf : ∀ j, j < n → f j = g j) (hp : prm n g) (q : Nat) : wdF n kd f q = wdF n kd' g q := by
  rw [wdF_c hf q]
  unfold wdF
  refine sm_c (fun k h => ?_)
  unfold wdT
  rw [hk (g k).toNat (by have := hp.1 k h; omega)]
theorem wm2 (hk : ∀ j, j < n → kd j = kd' j) (hf : ∀ j, j < n → f j = g j) (hp : prm n g) : wmF n kd f = wmF n kd' g := mxF_c (fun k _ => wd2 hk hf hp k)
theorem op2 (hk : ∀ j, j < n → kd j = kd' j) (hf : ∀ j, j < n → f j = g j) (hp : prm n g) : opF n kd f = opF n kd' g := by
  unfold opF
  exact cnt_c (fun q _ => by rw [wd2 hk hf hp q])
theorem mvs2 (hf : ∀ j, j < n → f j = g j) (hp : prm n g) : mvsF n f = mvsF n g := by
  unfold mvsF
  refine cnt_c (fun a h => ?_)
  have hn : 0 < n := Nat.pos_of_ne_zero (fun e => by subst e; omega)
  rw [cbF_c hf (pl_lt hp (Nat.div_lt_of_lt_mul h)) (Nat.mod_lt a hn)]
theorem tl2 (hk : ∀ j, j < n → kd j = kd' j) (hf : ∀ j, j < n → f j = g j) (hp : prm n g) {v : Nat} (hv : v < n) (w : Int) : tlF n kd f v w = tlF n kd' g v w := by
  unfold tlF
  rw [hk v hv, pl_c hf, pB_c (rg2 hk hf hp (pl_lt hp hv))]
theorem leaf2 (hk : ∀ j, j < n → kd j = kd' j) (hf : ∀ j, j < n → f j = g j) (hp : prm n g) (x w : Int) : leafF n kd f x w = leafF n kd' g x w := by
  unfold leafF
  by_cases h : 0 ≤ x ∧ x ≤ n - 1
  · rw [if_pos h, if_pos h, tl2 hk hf hp (by omega)]
  · rw [if_neg h, if_neg h]
theorem as2 (hk : ∀ j, j < n → kd j = kd' j) (x w : Int) : asF n kd x w = asF n kd' x w := by
  unfold asF
  by_cases h : 0 ≤ x ∧ x ≤ n - 1
  · rw [if_pos h, if_pos h, hk x.toNat (by omega)]
  · rw [if_neg h, if_neg h]
theorem hinge2 (hk : ∀ j, j < n → kd j = kd' j) (hf : ∀ j, j < n → f j = g j) (hp : prm n g) (x w : Int) : hingeF n kd f x w = hingeF n kd' g x w := by
  unfold hingeF
  rw [wd2 hk hf hp]
theorem at2 (hf : ∀ j, j < n → f j = g j) (x : Int) : atF n f x = atF n g x := by
  unfold atF
  by_cases h : 0 ≤ x ∧ x ≤ n - 1
  · rw [if_pos h, if_pos h, hf x.toNat (by omega)]
  · rw [if_neg h, if_neg h]
theorem may2 (hf : ∀ j, j < n → f j = g j) (hp : prm n g) (x y : Int) : mayF n f x y = mayF n g x y := by
  unfold mayF
  by_cases h : (0 ≤ x ∧ x ≤ n - 1) ∧ (0 ≤ y ∧ y ≤ n - 1)
  · rw [if_pos h, if_pos h, pl_c hf, cbF_c hf (pl_lt hp (by omega)) (by omega)]
  · rw [if_neg h, if_neg h]
theorem ct2 (hk : ∀ j, j < n → kd j = kd' j) (hf : ∀ j, j < n → f j = g j) (hp : prm n g) (mv m9 sz rd w : Int) : ctF n kd f mv m9 sz rd w = ctF n kd' g mv m9 sz rd w := by
  have a1 : sm (fun k => thk (kd k)) n = sm (fun k => thk (kd' k)) n := sm_c (fun k h => by rw [hk k h])
  have a4 : cnt (fun q => pB (rgP n kd f q)) n = cnt (fun q => pB (rgP n kd' g q)) n := cnt_c (fun q h => pB_c (rg2 hk hf hp h))
  unfold ctF
  rw [a1, wm2 hk hf hp, op2 hk hf hp, a4, mvs2 hf hp]
end SM
section SN
variable {n N : Nat} {kd kd' f g t : Nat → Int}
theorem ft2 (hO : OT n N t) (hk : ∀ j, j < n → kd j = kd' j) {k : Nat} (h : k < N) : ftP n kd t k ↔ ftP n kd' t k := fit2 hk (fun _ _ => rfl) (hO.2.1 k h).2.1
theorem cft2 (hO : OT n N t) (hk : ∀ j, j < n → kd j = kd' j) : cnt (fun k => pB (ftP n kd t k)) N = cnt (fun k => pB (ftP n kd' t k)) N := cnt_c (fun _ h => pB_c (ft2 hO hk h))
theorem ors2 (hO : OT n N t) (hk : ∀ j, j < n → kd j = kd' j) (hf : ∀ j, j < n → f j = g j) (hp : prm n g) (k0 : Nat) (w : Int) : orsF n N kd f t k0 w = orsF n N kd' g t k0 w := by
  unfold orsF
  rw [cft2 hO hk, pB_c (fit2 hk hf hp)]
theorem orders2 (hO : n ≠ 0 → OT n N t) (hk : ∀ j, j < n → kd j = kd' j) (hf : ∀ j, j < n → f j = g j) (hp : prm n g) (k0 : Nat) (w : Int) : ordersF n N kd f t k0 w = ordersF n N kd' g t k0 w := by
  unfold ordersF
  by_cases e : n = 0
  · rw [if_pos e, if_pos e]
  · rw [if_neg e, if_neg e, ors2 (hO e) hk hf hp]
theorem order2 (hO : n ≠ 0 → OT n N t) (hk : ∀ j, j < n → kd j = kd' j) (x w : Int) : orderF n N kd t x w = orderF n N kd' t x w := by
  unfold orderF
  by_cases h : n ≠ 0 ∧ 0 ≤ x ∧ x ≤ N - 1
  · have hp := ((hO h.1).2.1 x.toNat (by omega)).2.1
    rw [if_pos h, if_pos h]
    unfold toF
    rw [wm2 hk (fun _ _ => rfl) hp, pB_c (fit2 hk (fun _ _ => rfl) hp)]
  · rw [if_neg h, if_neg h]
theorem topA2 (hO : OT n N t) (hk : ∀ j, j < n → kd j = kd' j) (x w : Int) : topA n N kd t x w = topA n N kd' t x w := by
  unfold topA
  exact cnt_c (fun k h => pB_c (by rw [ft2 hO hk h]))
theorem tops2 (hO : n ≠ 0 → OT n N t) (hk : ∀ j, j < n → kd j = kd' j) (x w : Int) : topsF n N kd t x w = topsF n N kd' t x w := by
  unfold topsF
  by_cases h : 0 ≤ x ∧ x ≤ n - 1
  · have h2 := topA2 (hO (by omega)) hk x w
    unfold topA at h2
    rw [if_pos h, if_pos h, h2]
  · rw [if_neg h, if_neg h]
theorem up2 (hO : OT n N t) (hk : ∀ j, j < n → kd j = kd' j) (a b : Nat) : cnt (fun k => pB (ftP n kd t k ∧ pl n (dgF n (t k)) a < pl n (dgF n (t k)) b)) N = cnt (fun k => pB (ftP n kd' t k ∧ pl n (dgF n (t k)) a < pl n (dgF n (t k)) b)) N := cnt_c (fun k h => pB_c (by rw [ft2 hO hk h]))
theorem odds2 (hO : n ≠ 0 → OT n N t) (hk : ∀ j, j < n → kd j = kd' j) (x y w : Int) : oddsF n N kd t x y w = oddsF n N kd' t x y w := by
  unfold oddsF
  by_cases h : (0 ≤ x ∧ x ≤ n - 1) ∧ (0 ≤ y ∧ y ≤ n - 1) ∧ x ≠ y
  · have hO2 := hO (by omega)
    rw [if_pos h, if_pos h, cft2 hO2 hk, up2 hO2 hk]
  · rw [if_neg h, if_neg h]
theorem odV2 (hO : OT n N t) (hk : ∀ j, j < n → kd j = kd' j) (w : Int) : odV n N kd t w = odV n N kd' t w := by
  unfold odV
  rw [cft2 hO hk, up2 hO hk]
theorem trim2 (hO : n ≠ 0 → OT n N t) (hk : ∀ j, j < n → kd j = kd' j) {w v v' : Int} (h : trimR n N kd t w v) (h' : trimR n N kd' t w v') : v = v' := by
  rcases h with ⟨a1, a2⟩ | ⟨a1, a2, a3⟩ | ⟨a1, a2, x, a3, a4⟩ <;> rcases h' with ⟨b1, b2⟩ | ⟨b1, b2, b3⟩ | ⟨b1, b2, y, b3, b4⟩
  · omega
  · exact absurd b1 a1
  · exact absurd b1 a1
  · exact absurd a1 b1
  · omega
  · exact absurd a2 b2
  · exact absurd a1 b1
  · exact absurd b2 a2
  · have hO2 := hO a2
    have e := argm_u (argm_c (fun k h => ft2 hO2 hk h) (fun k h => wm2 hk (fun _ _ => rfl) (hO2.2.1 k h).2.1) a3) b3
    subst e
    have hr := argm_r a3
    rw [a4, b4]
    by_cases e2 : x = -1 ∨ w = 0
    · rw [if_pos e2, if_pos e2]
    · rw [if_neg e2, if_neg e2, wm2 hk (fun _ _ => rfl) (hO2.2.1 x.toNat (by omega)).2.1]
theorem mvE2 {t' : Nat → Int} (ht : ∀ k, k < N → t k = t' k) : ∀ a b, a < N → b < N → (mvE n t a b ↔ mvE n t' a b) := fun a b ha hb => by
  unfold mvE
  rw [ht a ha, ht b hb]
theorem near2 {t' : Nat → Int} (ht : ∀ k, k < N → t k = t' k) {k0 : Nat} {x v v' : Int} (h : nearR n N t k0 x v) (h' : nearR n N t' k0 x v') : v = v' := by
  rcases h with ⟨a1, a2, a3, d, a4, a5⟩ | ⟨a1, a2⟩ <;> rcases h' with ⟨b1, b2, b3, e, b4, b5⟩ | ⟨b1, b2⟩
  · rw [a5, b5]
    exact isDist_u (isDist_c (mvE2 ht) a4) b4 x.toNat (by omega)
  · exact absurd ⟨a1, a2, a3⟩ b1
  · exact absurd ⟨b1, b2, b3⟩ a1
  · omega
theorem far2 {t' : Nat → Int} (ht : ∀ k, k < N → t k = t' k) (hO : n ≠ 0 → OT n N t') (hk : ∀ j, j < n → kd j = kd' j) {k0 : Nat} {w v v' : Int} (h : farR n N kd t k0 w v) (h' : farR n N kd' t' k0 w v') : v = v' := by
  rcases h with ⟨a1, a2⟩ | ⟨a1, a2, a3⟩ | ⟨a1, a2, d, a3, a4⟩ <;> rcases h' with ⟨b1, b2⟩ | ⟨b1, b2, b3⟩ | ⟨b1, b2, e, b3, b4⟩
  · omega
  · exact absurd b1 a1
  · exact absurd b1 a1
  · exact absurd a1 b1
  · omega
  · exact absurd a2 b2
  · exact absurd a1 b1
  · exact absurd b2 a2
  · have hO2 := hO a2
    have hde := isDist_u (isDist_c (mvE2 ht) a3) b3
    rcases a4 with ⟨c1, b, c2, c3⟩ | ⟨c1, x, c2, c3⟩ <;> rcases b4 with ⟨d1, b', d2, d3⟩ | ⟨d1, y, d2, d3⟩
    · have e1 := argx_u (argx_c hde c2) d2
      subst e1
      rw [c3, d3, hde b c2.1]
    · omega
    · omega
    · have hP : ∀ k, k < N → ((d k ≠ -1 ∧ ftP n kd t k) ↔ (e k ≠ -1 ∧ ftP n kd' t' k)) := fun k h => by
        have h1 : ftP n kd t k ↔ ftP n kd' t' k := by
          have h2 : ftP n kd t k ↔ ftP n kd t' k := by unfold ftP; rw [ht k h]
          exact h2.trans (ft2 hO2 hk h)
        rw [hde k h, h1]
      have e1 := argm_u (argm_c hP hde c2) d2
      subst e1
      have hr := argm_r c2
      rw [c3, d3]
      by_cases e2 : x = -1 ∨ w = 3
      · rw [if_pos e2, if_pos e2]
      · rw [if_neg e2, if_neg e2, hde x.toNat (by omega)]
theorem lk2 {sg sg' : Nat → Int} {m : Nat} (hs : ∀ a, a < m → sg (3 * a) = sg' (3 * a) ∧ sg (3 * a + 1) = sg' (3 * a + 1) ∧ sg (3 * a + 2) = sg' (3 * a + 2)) (F : Nat → Int) : lkP n F sg m ↔ lkP n F sg' m := by
  unfold lkP
  constructor
  · intro h a ha
    rw [← (hs a ha).1, ← (hs a ha).2.1, ← (hs a ha).2.2]
    exact h a ha
  · intro h a ha
    rw [(hs a ha).1, (hs a ha).2.1, (hs a ha).2.2]
    exact h a ha
theorem clk2 {sg sg' : Nat → Int} {m : Nat} (hs : ∀ a, a < m → sg (3 * a) = sg' (3 * a) ∧ sg (3 * a + 1) = sg' (3 * a + 1) ∧ sg (3 * a + 2) = sg' (3 * a + 2)) : cnt (fun k => pB (lkP n (dgF n (t k)) sg m)) N = cnt (fun k => pB (lkP n (dgF n (t k)) sg' m)) N := cnt_c (fun _ _ => pB_c (lk2 hs _))
theorem co2 {sg sg' : Nat → Int} {m : Nat} (hs : ∀ a, a < m → sg (3 * a) = sg' (3 * a) ∧ sg (3 * a + 1) = sg' (3 * a + 1) ∧ sg (3 * a + 2) = sg' (3 * a + 2)) : coF n N t sg m = coF n N t sg' m := by
  unfold coF
  rw [clk2 hs]
theorem wt2 {sg sg' : Nat → Int} {m : Nat} (hs : ∀ a, a < m → sg (3 * a) = sg' (3 * a) ∧ sg (3 * a + 1) = sg' (3 * a + 1) ∧ sg (3 * a + 2) = sg' (3 * a + 2)) (k : Nat) : wtF n N t sg m k = wtF n N t sg' m k := by
  have e : cnt (fun j => pB (lkP n (dgF n (t j)) sg m ∧ ((pl n (dgF n (t j)) (k % n) : Nat) : Int) < ((k / n : Nat) : Int) + 1)) N = cnt (fun j => pB (lkP n (dgF n (t j)) sg' m ∧ ((pl n (dgF n (t j)) (k % n) : Nat) : Int) < ((k / n : Nat) : Int) + 1)) N := cnt_c (fun j _ => pB_c (and_congr (lk2 hs _) Iff.rfl))
  unfold wtF
  rw [clk2 hs, e]
theorem trial2 {sg sg' : Nat → Int} {m : Nat} (hs : ∀ a, a < m → sg (3 * a) = sg' (3 * a) ∧ sg (3 * a + 1) = sg' (3 * a + 1) ∧ sg (3 * a + 2) = sg' (3 * a + 2)) {v v' : Int} (h : trialR n N t sg m v) (h' : trialR n N t sg' m v') : v = v' := by
  rcases h with ⟨a1, a2⟩ | ⟨a1, x, a2, a3⟩ <;> rcases h' with ⟨b1, b2⟩ | ⟨b1, y, b2, b3⟩
  · omega
  · exact absurd a1 b1
  · exact absurd b1 a1
  · have e := argm_u (argm_c (fun k _ => by rw [clk2 hs]) (fun k _ => wt2 hs k) a2) b2
    rw [a3, b3, e]
theorem shI2 (hn : 0 < n) (hf : ∀ j, j < n → f j = g j) (hp : prm n g) (s0 : Int) : ∀ k, (∀ j, j < n → (shI n f s0 k).1 j = (shI n g s0 k).1 j) ∧ (shI n f s0 k).2 = (shI n g s0 k).2
  | 0 => ⟨hf, rfl⟩
  | k + 1 => by
    have ih := shI2 hn hf hp s0 k
    have hpk := shI_prm hn hp s0 k
    have d1 := dr_lt hn (sdF (shI n g s0 k).2.1)
    have d2 := dr_lt hn (sdF (sdF (shI n g s0 k).2.1))
    have hc := cbF_c ih.1 (pl_lt hpk d1) d2
    rw [shI, shI, ih.2, hc]
    by_cases e : cbF n (shI n g s0 k).1 (sdF (shI n g s0 k).2.1 / 65536 % n).toNat (sdF (sdF (shI n g s0 k).2.1) / 65536 % n).toNat ≠ -1
    · rw [if_pos e, if_pos e]
      refine ⟨fun j hj => ?_, rfl⟩
      show shF (shI n f s0 k).1 (pl n (shI n f s0 k).1 _) _ j = shF (shI n g s0 k).1 _ _ j
      rw [pl_c ih.1]
      exact shF_c ih.1 (pl_lt hpk d1) d2 j hj
    · rw [if_neg e, if_neg e]
      exact ⟨ih.1, rfl⟩
theorem shuf2 (hO : n ≠ 0 → OT n N t) (hf : ∀ j, j < n → f j = g j) (hp : prm n g) {x s w v v' : Int} (h : shufR n N t f x s w v) (h' : shufR n N t g x s w v') : v = v' := by
  rcases h with ⟨a1, a2⟩ | ⟨a1, a2, a3⟩ | ⟨a1, a2, a3⟩ <;> rcases h' with ⟨b1, b2⟩ | ⟨b1, b2, b3⟩ | ⟨b1, b2, b3⟩
  · omega
  · exact absurd b1 a1
  · exact absurd b1 a1
  · exact absurd a1 b1
  · omega
  · exact absurd a2 b2
  · exact absurd a1 b1
  · exact absurd b2 a2
  · have e := shI2 (Nat.pos_of_ne_zero a2) hf hp s x.toNat
    rcases a3 with ⟨c1, c2⟩ | ⟨c1, y, c2, c3, c4⟩ | ⟨c1, c2⟩ <;> rcases b3 with ⟨d1, d2⟩ | ⟨d1, z, d2, d3, d4⟩ | ⟨d1, d2⟩
    · rw [c2, d2, e.2]
    · omega
    · omega
    · omega
    · have h3 : t y = t z := by rw [c3, d3, cdF_c e.1]
      have := (hO a2).2.2.1 y z c2 d2 h3
      omega
    · omega
    · omega
    · omega
    · rw [c2, d2, e.2]
end SN
theorem itF_c {G K : Nat → Int → Int} {b : Int} {m : Nat} (h : ∀ k, k < m → ∀ x, G k x = K k x) : itF G b m = itF K b m := by
  induction m with
  | zero => rfl
  | succ m ih => rw [itF, itF, ih (fun k hk => h k (by omega)), h m (by omega)]
section SD
variable {n N : Nat} {kd kd' f g t : Nat → Int}
theorem H1_2 (hO : n ≠ 0 → OT n N t) (hk : ∀ j, j < n → kd j = kd' j) (hf : ∀ j, j < n → f j = g j) (hp : prm n g) {m : Nat} (hm : m ≤ n) : H1 n N kd f t m = H1 n N kd' g t m := by
  unfold H1
  refine itF_c (fun k h x => ?_)
  have hO2 := hO (by omega)
  rw [topA2 hO2 hk, topA2 hO2 hk]
  have e : itF (fun w h => hx9 h (tlF n kd f k ↑w)) x 4 = itF (fun w h => hx9 h (tlF n kd' g k ↑w)) x 4 := itF_c (fun w _ y => by rw [tl2 hk hf hp (by omega)])
  rw [e]
theorem H2_2 (hO : n ≠ 0 → OT n N t) (hk : ∀ j, j < n → kd j = kd' j) (hf : ∀ j, j < n → f j = g j) (hp : prm n g) (m : Nat) : H2 n N kd f t m = H2 n N kd' g t m := by
  unfold H2
  rw [H1_2 hO hk hf hp (Nat.le_refl n)]
  exact itF_c (fun k _ x => by rw [wd2 hk hf hp])
theorem H3_2 (hO : OT n N t) (hk : ∀ j, j < n → kd j = kd' j) (hf : ∀ j, j < n → f j = g j) (hp : prm n g) {sg sg' : Nat → Int} {m : Nat} (hs : ∀ a, a < m → sg (3 * a) = sg' (3 * a) ∧ sg (3 * a + 1) = sg' (3 * a + 1) ∧ sg (3 * a + 2) = sg' (3 * a + 2)) (k0 : Nat) {x : Int} (hx : -1 ≤ x ∧ x < N) (b : Int) : H3 n N kd f t sg k0 m x b = H3 n N kd' g t sg' k0 m x b := by
  have e : itF (fun w h => hx9 h (orsF n N kd f t k0 ↑w)) b 4 = itF (fun w h => hx9 h (orsF n N kd' g t k0 ↑w)) b 4 := itF_c (fun w _ y => by rw [ors2 hO hk hf hp])
  have e2 : ∀ w, tmV n kd t x w = tmV n kd' t x w := fun w => by
    unfold tmV
    by_cases e3 : x = -1 ∨ w = 0
    · rw [if_pos e3, if_pos e3]
    · rw [if_neg e3, if_neg e3, wm2 hk (fun _ _ => rfl) (hO.2.1 x.toNat (by omega)).2.1]
  unfold H3
  rw [e, e2, e2, odV2 hO hk, odV2 hO hk, clk2 hs]
theorem H5_2 (hk : ∀ j, j < n → kd j = kd' j) (hf : ∀ j, j < n → f j = g j) (hp : prm n g) {pg pg' : Nat → Int} {sz : Nat} (hg : ∀ j, j < sz → pg j = pg' j) (mv m9 rd b : Int) : H5 n kd f pg mv m9 ↑sz rd b = H5 n kd' g pg' mv m9 ↑sz rd b := by
  have e : itF (fun k h => hx9 h (pg k)) b ((sz : Int)).toNat = itF (fun k h => hx9 h (pg' k)) b ((sz : Int)).toNat := itF_c (fun k h y => by rw [hg k (by omega)])
  unfold H5
  rw [e]
  exact itF_c (fun w _ y => by rw [ct2 hk hf hp])
theorem dig2 (hO : n ≠ 0 → OT n N t) (hk : ∀ j, j < n → kd j = kd' j) (hf : ∀ j, j < n → f j = g j) (hp : prm n g) {sg sg' : Nat → Int} {m : Nat} (hs : ∀ a, a < m → sg (3 * a) = sg' (3 * a) ∧ sg (3 * a + 1) = sg' (3 * a + 1) ∧ sg (3 * a + 2) = sg' (3 * a + 2)) {pg pg' : Nat → Int} {sz k0 : Nat} (hg : ∀ j, j < sz → pg j = pg' j) {mv m9 rd v v' : Int} (h : digR n N kd f t sg pg k0 m mv m9 ↑sz rd v) (h' : digR n N kd' g t sg' pg' k0 m mv m9 ↑sz rd v') : v = v' := by
  rcases h with ⟨a1, a2⟩ | ⟨a1, x, a2, a3⟩ <;> rcases h' with ⟨b1, b2⟩ | ⟨b1, y, b2, b3⟩
  · rw [a2, b2, H2_2 hO hk hf hp, H5_2 hk hf hp hg]
  · exact absurd a1 b1
  · exact absurd b1 a1
  · have hO2 := hO a1
    have e := argm_u (argm_c (fun k h => ft2 hO2 hk h) (fun k h => wm2 hk (fun _ _ => rfl) (hO2.2.1 k h).2.1) a2) b2
    subst e
    have hr := argm_r a2
    rw [a3, b3, H2_2 hO hk hf hp, H3_2 hO2 hk hf hp hs k0 hr, H5_2 hk hf hp hg]
end SD
