/-! seeds, shuffles, sums -/
def sdF (s : Int) : Int := (1103515245 * s + 12345) % 2147483648
theorem sdF_r (s : Int) : 0 ≤ sdF s ∧ sdF s < 2147483648 := ⟨Int.emod_nonneg _ (by decide), Int.emod_lt_of_pos _ (by decide)⟩
theorem zL_tn {a : Int} (h0 : 0 ≤ a) (h1 : a < 9223372036854775808) : (zL a).toBitVec.toNat = a.toNat := by
  obtain ⟨x, rfl⟩ := Int.eq_ofNat_of_zero_le h0
  show (Int64.ofInt (x : Int)).toBitVec.toNat = x
  rw [Int64.ofInt_eq_ofNat]
  show (BitVec.ofNat 64 x).toNat = x
  rw [BitVec.toNat_ofNat]
  omega
theorem zL_and31 {a : Int} (h0 : 0 ≤ a) (h1 : a < 9223372036854775808) : zL a &&& zL 2147483647 = zL (a % 2147483648) := by
  apply Int64.toBitVec_inj.mp
  apply BitVec.eq_of_toNat_eq
  rw [Int64.toBitVec_and, BitVec.toNat_and, zL_tn h0 h1, zL_tn (by decide) (by decide), zL_tn (Int.emod_nonneg _ (by decide)) (by omega)]
  rw [show (2147483647 : Int).toNat = 2 ^ 31 - 1 by decide, Nat.and_two_pow_sub_one_eq_mod]
  omega
section ZX
variable {p : Program} {l : Launch} {e : Env} {R : Room} {s : State} {m : MethodId} {args : Array Value} {below : List Frame} {meth : Method} {c : Code} {H : Heap} {locs : List Loc} {cells slots : Nat} {Q : State → Prop}
variable {cc : ByteArray} {pc : Nat} {ls : Array Slot} {rest : List Value}
theorem z_land31 (hexec : p.tables.exec = Jvm.exec) (hb : c.code = cc) {a : Int} (h0 : 0 ≤ a) (h1 : a < 9223372036854775808) (hdg : decode cc pc = .ok (.land, 1)) (k : W p l e R s m args below meth c H locs cells slots Q (F0 m (pc + 1) ls (.long (zL (a % 2147483648)) :: rest))) : W p l e R s m args below meth c H locs cells slots Q (F0 m pc ls (.long (zL 2147483647) :: .long (zL a) :: rest)) := lv_land hexec hb hdg (by rw [zL_and31 h0 h1]; exact k)
end ZX
/-- so many shuffles: the row, the seed, how many were done -/
noncomputable def shI (n : Nat) (f0 : Nat → Int) (s0 : Int) : Nat → (Nat → Int) × Int × Int
  | 0 => (f0, s0, 0)
  | k + 1 => if cbF n (shI n f0 s0 k).1 (sdF (shI n f0 s0 k).2.1 / 65536 % n).toNat (sdF (sdF (shI n f0 s0 k).2.1) / 65536 % n).toNat ≠ -1 then (shF (shI n f0 s0 k).1 (pl n (shI n f0 s0 k).1 (sdF (shI n f0 s0 k).2.1 / 65536 % n).toNat) (sdF (sdF (shI n f0 s0 k).2.1) / 65536 % n).toNat, sdF (sdF (shI n f0 s0 k).2.1), (shI n f0 s0 k).2.2 + 1) else ((shI n f0 s0 k).1, sdF (sdF (shI n f0 s0 k).2.1), (shI n f0 s0 k).2.2)
theorem dr_lt {n : Nat} (hn : 0 < n) (s : Int) : (s / 65536 % (n : Int)).toNat < n := by
  have h1 := Int.emod_nonneg (s / 65536) (show (n : Int) ≠ 0 by omega)
  have h2 := Int.emod_lt_of_pos (s / 65536) (show 0 < (n : Int) by omega)
  omega
theorem shI_prm {n : Nat} (hn : 0 < n) {f0 : Nat → Int} (hp : prm n f0) (s0 : Int) (k : Nat) : prm n (shI n f0 s0 k).1 := by
  induction k with
  | zero => exact hp
  | succ k ih =>
    rw [shI]
    split
    · exact shF_prm ih (pl_lt ih (dr_lt hn _)) (dr_lt hn _)
    · exact ih
theorem shI_r (n : Nat) (f0 : Nat → Int) {s0 : Int} (h : 0 ≤ s0 ∧ s0 < 2147483648) (k : Nat) : 0 ≤ (shI n f0 s0 k).2.1 ∧ (shI n f0 s0 k).2.1 < 2147483648 := by
  cases k with
  | zero => exact h
  | succ k =>
    rw [shI]
    split <;> exact sdF_r _
theorem dg_cd {f : Nat → Int} {n : Nat} (h : ∀ p, p < n → 0 ≤ f p ∧ f p < 8) : ∀ j, j < n → dgF n (cdF f n) j = f j := by
  induction n with
  | zero => intro j hj; omega
  | succ n ih =>
    intro j hj
    have h1 := h n (by omega)
    have h2 := cdF_r (f := f) (n := n) (fun p hp => h p (by omega))
    unfold dgF
    rw [cdF]
    by_cases e : j = n
    · subst e
      rw [show j + 1 - 1 - j = 0 by omega]
      simp only [Int.pow_zero, Int.ediv_one]
      omega
    · have h3 := ih (fun p hp => h p (by omega)) j (by omega)
      unfold dgF at h3
      rw [show n + 1 - 1 - j = (n - 1 - j) + 1 by omega, Int.pow_succ, Int.mul_comm (8 ^ (n - 1 - j)) 8, ← Int.ediv_ediv_of_nonneg (by omega), show (8 * cdF f n + f n) / 8 = cdF f n by omega]
      exact h3
theorem prm8 {n : Nat} (hn7 : n ≤ 7) {f : Nat → Int} (hp : prm n f) : ∀ p, p < n → 0 ≤ f p ∧ f p < 8 := fun p h => by have := hp.1 p h; omega
/-- a row of the table, moved, is a row of the table -/
theorem row_move {n N : Nat} (hn7 : n ≤ 7) {t : Nat → Int} (hO : OT n N t) {f : Nat → Int} (hp : prm n f) {k v q : Nat} (hk : k < N) (he : t k = cdF f n) (hv : v < n) (hq : q < n) (h : cbF n f v q ≠ -1) : ∃ y, y < N ∧ t y = cdF (shF f (pl n f v) q) n := by
  have hd : ∀ j, j < n → dgF n (t k) j = f j := by rw [he]; exact dg_cd (prm8 hn7 hp)
  have hc := cbF_c hd (pl_lt hp hv) hq
  obtain ⟨y, h1, h2⟩ := cbF_in hO hk hv hq (by rw [hc]; exact h)
  refine ⟨y, h1, ?_⟩
  rw [h2, hc]
  unfold cbF at h ⊢
  by_cases e1 : pl n f v = q
  · rw [if_pos e1] at h; exact absurd rfl h
  · rw [if_neg e1] at h ⊢
    by_cases e2 : pB (fdP n (shF f (pl n f v) q)) = true
    · rw [if_pos e2]
    · rw [if_neg e2] at h; exact absurd rfl h
theorem shI_in {n N : Nat} (hn : 0 < n) (hn7 : n ≤ 7) {t : Nat → Int} (hO : OT n N t) {f0 : Nat → Int} (hp : prm n f0) {k0 : Nat} (hk : k0 < N) (he : t k0 = cdF f0 n) (s0 : Int) (k : Nat) : ∃ y, y < N ∧ t y = cdF (shI n f0 s0 k).1 n := by
  induction k with
  | zero => exact ⟨k0, hk, he⟩
  | succ k ih =>
    obtain ⟨y, h1, h2⟩ := ih
    rw [shI]
    split
    · rename_i e
      exact row_move hn7 hO (shI_prm hn hp s0 k) h1 h2 (dr_lt hn _) (dr_lt hn _) e
    · exact ⟨y, h1, h2⟩
def shufR (n N : Nat) (t f : Nat → Int) (x s w v : Int) : Prop := (¬ ((1 ≤ x ∧ x ≤ 99) ∧ 0 ≤ s ∧ (0 ≤ w ∧ w ≤ 2)) ∧ v = -102) ∨ (((1 ≤ x ∧ x ≤ 99) ∧ 0 ≤ s ∧ (0 ≤ w ∧ w ≤ 2)) ∧ n = 0 ∧ v = -103) ∨ (((1 ≤ x ∧ x ≤ 99) ∧ 0 ≤ s ∧ (0 ≤ w ∧ w ≤ 2)) ∧ n ≠ 0 ∧ ((w = 0 ∧ v = (shI n f s x.toNat).2.2) ∨ (w = 1 ∧ ∃ y : Nat, y < N ∧ t y = cdF (shI n f s x.toNat).1 n ∧ v = ↑y) ∨ (w = 2 ∧ v = (shI n f s x.toNat).2.1)))
/-- a sum that goes on, step by step -/
def itF (G : Nat → Int → Int) (b : Int) : Nat → Int
  | 0 => b
  | k + 1 => G k (itF G b k)
def hx9 (h v : Int) : Int := 31 * h + v
noncomputable def topA (n N : Nat) (kd t : Nat → Int) (x w : Int) : Int := cnt (fun k => pB ((w = 0 ∨ ftP n kd t k) ∧ dgF n (t k) 0 = x)) N
noncomputable def H1 (n N : Nat) (kd f t : Nat → Int) : Nat → Int := itF (fun k h => hx9 (hx9 (itF (fun w h => hx9 h (tlF n kd f k ↑w)) h 4) (topA n N kd t ↑k 0)) (topA n N kd t ↑k 1)) 1319
noncomputable def H2 (n N : Nat) (kd f t : Nat → Int) : Nat → Int := itF (fun i h => hx9 (hx9 h ((i : Int) % 2)) (wdF n kd f i)) (H1 n N kd f t n)
noncomputable def tmV (n : Nat) (kd t : Nat → Int) (x w : Int) : Int := if x = -1 ∨ w = 0 then x else wmF n kd (dgF n (t x.toNat))
noncomputable def odV (n N : Nat) (kd t : Nat → Int) (w : Int) : Int := odF (cnt (fun k => pB (ftP n kd t k)) N) (cnt (fun k => pB (ftP n kd t k ∧ pl n (dgF n (t k)) 0 < pl n (dgF n (t k)) 1)) N) w
/-- with a strip -/
noncomputable def H3 (n N : Nat) (kd f t sg : Nat → Int) (k0 m : Nat) (x b : Int) : Int := hx9 (hx9 (hx9 (hx9 (hx9 (itF (fun w h => hx9 h (orsF n N kd f t k0 ↑w)) b 4) (tmV n kd t x 0)) (tmV n kd t x 1)) (odV n N kd t 0)) (odV n N kd t 1)) (cnt (fun k => pB (lkP n (dgF n (t k)) sg m)) N)
noncomputable def H5 (n : Nat) (kd f pg : Nat → Int) (mv m9 sz rd b : Int) : Int := itF (fun w h => hx9 h (ctF n kd f mv m9 sz rd ↑w)) (itF (fun k h => hx9 h (pg k)) b sz.toNat) 10
def digR (n N : Nat) (kd f t sg pg : Nat → Int) (k0 m : Nat) (mv m9 sz rd v : Int) : Prop := (n = 0 ∧ v = H5 n kd f pg mv m9 sz rd (H2 n N kd f t (n - 1))) ∨ (n ≠ 0 ∧ ∃ x, argm (ftP n kd t) (fun k => wmF n kd (dgF n (t k))) N x ∧ v = H5 n kd f pg mv m9 sz rd (H3 n N kd f t sg k0 m x (H2 n N kd f t (n - 1))))
theorem orsF_r {n N : Nat} {kd f t : Nat → Int} {k0 : Nat} {w : Int} (hN : N ≤ 462) (hk : k0 < N) : 0 ≤ orsF n N kd f t k0 w ∧ orsF n N kd f t k0 w ≤ 462 := by
  have h1 := cnt_r (fun k => pB (ftP n kd t k)) N
  have h2 := b2_r (pB (fitP n kd f))
  unfold orsF
  (repeat' split) <;> omega
theorem tmV_r {n N : Nat} {kd t : Nat → Int} {x w : Int} (hn : n ≤ 7) (hN : N ≤ 462) (h : argm (ftP n kd t) (fun k => wmF n kd (dgF n (t k))) N x) : -1 ≤ tmV n kd t x w ∧ tmV n kd t x w ≤ 462 := by
  have h1 := argm_r h
  have h2 := wmF_r n kd (dgF n (t x.toNat))
  unfold tmV
  split <;> omega
theorem odF_r {a u w : Int} (ha : 0 ≤ a ∧ a ≤ 462) (hu : 0 ≤ u ∧ u ≤ 462) (hw : 0 ≤ w ∧ w ≤ 1) : 0 ≤ odF a u w ∧ odF a u w ≤ 462 := by
  have e1 := Int.ediv_nonneg hu.1 (Int.natCast_nonneg (Int.gcd a u))
  have e2 := Int.ediv_nonneg ha.1 (Int.natCast_nonneg (Int.gcd a u))
  have e3 := Int.ediv_le_self ((Int.gcd a u : Nat) : Int) hu.1
  have e4 := Int.ediv_le_self ((Int.gcd a u : Nat) : Int) ha.1
  unfold odF
  (repeat' split) <;> omega
theorem odV_r {n N : Nat} {kd t : Nat → Int} {w : Int} (hN : N ≤ 462) (hw : 0 ≤ w ∧ w ≤ 1) : 0 ≤ odV n N kd t w ∧ odV n N kd t w ≤ 462 := by
  have h1 := cnt_r (fun k => pB (ftP n kd t k)) N
  have h2 := cnt_r (fun k => pB (ftP n kd t k ∧ pl n (dgF n (t k)) 0 < pl n (dgF n (t k)) 1)) N
  exact odF_r (by omega) (by omega) hw
theorem tlF_r {n : Nat} {kd f : Nat → Int} {v : Nat} {w : Int} (hn : n ≤ 7) (hp : prm n f) (hv : v < n) (hk : -2147483648 ≤ kd v ∧ kd v < 2147483648) : -2147483648 ≤ tlF n kd f v w ∧ tlF n kd f v w < 2147483648 := by
  have h1 := thk_r (kd v)
  have h2 := pl_lt hp hv
  have h3 := b2_r (pB (rgP n kd f (pl n f v)))
  unfold tlF
  (repeat' split) <;> omega
theorem topA_r {n N : Nat} {kd t : Nat → Int} {x w : Int} (hN : N ≤ 462) : 0 ≤ topA n N kd t x w ∧ topA n N kd t x w ≤ 462 := by
  have := cnt_r (fun k => pB ((w = 0 ∨ ftP n kd t k) ∧ dgF n (t k) 0 = x)) N
  unfold topA
  omega
theorem ctF_r {n : Nat} {kd f : Nat → Int} {mv m9 sz rd w : Int} (hn : n ≤ 7) (h1 : -2147483648 ≤ mv ∧ mv < 2147483648) (h2 : -2147483648 ≤ m9 ∧ m9 < 2147483648) (h3 : -2147483648 ≤ sz ∧ sz < 2147483648) (h4 : -2147483648 ≤ rd ∧ rd < 2147483648) : -2147483648 ≤ ctF n kd f mv m9 sz rd w ∧ ctF n kd f mv m9 sz rd w < 2147483648 := by
  have a1 := sm_r (F := fun k => thk (kd k)) (b := 3) (n := n) (fun k _ => by have := thk_r (kd k); omega)
  have a2 := wmF_r n kd f
  have a3 := cnt_r (fun q => pB (0 < wdF n kd f q)) (n - 1)
  have a4 := cnt_r (fun q => pB (rgP n kd f q)) n
  have a5 := cnt_r (fun a => pB (cbF n f (a / n) (a % n) ≠ -1)) (n * n)
  have a6 : n * n ≤ 49 := Nat.mul_le_mul hn hn
  have a7 : (((n * n : Nat)) : Int) ≤ 49 := Int.ofNat_le.mpr a6
  unfold ctF opF mvsF
  (repeat' split) <;> omega
theorem dig_end {n N : Nat} {kd f t sg pg : Nat → Int} {k0 m : Nat} {mv m9 sz rd v x : Int} (hx : n ≠ 0 → argm (ftP n kd t) (fun k => wmF n kd (dgF n (t k))) N x) (h : v = H5 n kd f pg mv m9 sz rd (if n = 0 then H2 n N kd f t (n - 1) else H3 n N kd f t sg k0 m x (H2 n N kd f t (n - 1)))) : digR n N kd f t sg pg k0 m mv m9 sz rd v := by
  by_cases e : n = 0
  · rw [if_pos e] at h; exact Or.inl ⟨e, h⟩
  · rw [if_neg e] at h; exact Or.inr ⟨e, x, hx e, h⟩
