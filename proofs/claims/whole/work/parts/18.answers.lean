/-! what each call answers, in the words of both sides -/
noncomputable def tlF (n : Nat) (kd f : Nat → Int) (v : Nat) (w : Int) : Int := if w = 0 then kd v else if w = 1 then thk (kd v) else if w = 2 then ↑(pl n f v) else if w = 3 then b2 (pB (rgP n kd f (pl n f v))) else -102
noncomputable def leafF (n : Nat) (kd f : Nat → Int) (x w : Int) : Int := if 0 ≤ x ∧ x ≤ n - 1 then tlF n kd f x.toNat w else -101
def asF (n : Nat) (kd : Nat → Int) (x w : Int) : Int := if 0 ≤ x ∧ x ≤ n - 1 then (if 0 ≤ w ∧ w ≤ 4 then (if w = 0 ∨ w = kd x.toNat ∨ (w = 1 ∧ kd x.toNat = 3) ∨ (w = 2 ∧ kd x.toNat = 4) then x else -1) else -102) else -101
noncomputable def hingeF (n : Nat) (kd f : Nat → Int) (x w : Int) : Int := if 0 ≤ x ∧ x ≤ n - 2 then (if 0 ≤ w ∧ w ≤ 1 then (if w = 0 then x % 2 else wdF n kd f x.toNat) else -102) else -101
def atF (n : Nat) (f : Nat → Int) (x : Int) : Int := if 0 ≤ x ∧ x ≤ n - 1 then f x.toNat else -101
noncomputable def mayF (n : Nat) (f : Nat → Int) (x y : Int) : Int := if (0 ≤ x ∧ x ≤ n - 1) ∧ (0 ≤ y ∧ y ≤ n - 1) then b2 (pB (pl n f x.toNat = y.toNat ∨ cbF n f x.toNat y.toNat ≠ -1)) else -101
noncomputable def orsF (n N : Nat) (kd f t : Nat → Int) (k0 : Nat) (w : Int) : Int := if w = 0 then ↑N else if w = 1 then cnt (fun k => pB (ftP n kd t k)) N else if w = 2 then ↑k0 else b2 (pB (fitP n kd f))
noncomputable def toF (n : Nat) (kd f : Nat → Int) (w : Int) : Int := if w < 2 then (if w = 1 then wmF n kd f else b2 (pB (fitP n kd f))) else if w - 10 < n then f (w - 10).toNat else -1
noncomputable def mvsF (n : Nat) (f : Nat → Int) : Int := cnt (fun a => pB (cbF n f (a / n) (a % n) ≠ -1)) (n * n)
noncomputable def opF (n : Nat) (kd f : Nat → Int) : Int := cnt (fun q => pB (0 < wdF n kd f q)) (n - 1)
noncomputable def ctF (n : Nat) (kd f : Nat → Int) (mv m9 sz rd w : Int) : Int := if w = 0 then ↑n else if w = 1 then sm (fun k => thk (kd k)) n else if w = 2 then wmF n kd f else if w = 3 then opF n kd f else if w = 4 then cnt (fun q => pB (rgP n kd f q)) n else if w = 5 then mvsF n f else if w = 6 then mv else if w = 7 then m9 else if w = 8 then sz else if w = 9 then rd else -102
theorem sA_cm (S : St) {r q : Nat} (f g : Nat → Int) (h : r ≠ q) : sA (sA S r f) q g = sA (sA S q g) r f := by
  funext k
  unfold sA
  by_cases e1 : k = q
  · subst e1
    simp [Ne.symm h]
  · simp [e1]
/-- with a strip: the table stands, and how it lies is order k0 -/
def STp (n N k0 : Nat) (S : St) : Prop := S 8 0 = ↑N ∧ OT n N (S 7) ∧ k0 < N ∧ S 7 k0 = cdF (S 6) n
def isL (n : Nat) (x : Int) : Prop := 0 ≤ x ∧ x ≤ n - 1
def nearR (n N : Nat) (t : Nat → Int) (k0 : Nat) (x v : Int) : Prop := (n ≠ 0 ∧ 0 ≤ x ∧ x ≤ N - 1 ∧ ∃ d, isDist N (mvE n t) k0 d ∧ v = d x.toNat) ∨ (¬ (n ≠ 0 ∧ 0 ≤ x ∧ x ≤ N - 1) ∧ v = -101)
def farR (n N : Nat) (kd t : Nat → Int) (k0 : Nat) (w v : Int) : Prop := (¬ (0 ≤ w ∧ w ≤ 3) ∧ v = -102) ∨ ((0 ≤ w ∧ w ≤ 3) ∧ n = 0 ∧ v = -103) ∨ ((0 ≤ w ∧ w ≤ 3) ∧ n ≠ 0 ∧ ∃ d, isDist N (mvE n t) k0 d ∧ ((w < 2 ∧ ∃ b, argx d N b ∧ v = if w = 0 then d b else ↑b) ∨ (2 ≤ w ∧ ∃ x, argm (fun k => d k ≠ -1 ∧ ftP n kd t k) d N x ∧ v = if x = -1 ∨ w = 3 then x else d x.toNat)))
def trimR (n N : Nat) (kd t : Nat → Int) (w v : Int) : Prop := (¬ (0 ≤ w ∧ w ≤ 1) ∧ v = -102) ∨ ((0 ≤ w ∧ w ≤ 1) ∧ n = 0 ∧ v = -103) ∨ ((0 ≤ w ∧ w ≤ 1) ∧ n ≠ 0 ∧ ∃ x, argm (ftP n kd t) (fun k => wmF n kd (dgF n (t k))) N x ∧ v = if x = -1 ∨ w = 0 then x else wmF n kd (dgF n (t x.toNat)))
def trialR (n N : Nat) (t sg : Nat → Int) (m : Nat) (v : Int) : Prop := (n = 0 ∧ v = -103) ∨ (n ≠ 0 ∧ ∃ x, argm (fun _ => 0 < cnt (fun k => pB (lkP n (dgF n (t k)) sg m)) N) (wtF n N t sg m) (n * n) x ∧ v = trF n x)
noncomputable def coF (n N : Nat) (t sg : Nat → Int) (m : Nat) : Int := if n = 0 then -103 else cnt (fun k => pB (lkP n (dgF n (t k)) sg m)) N
noncomputable def oddsF (n N : Nat) (kd t : Nat → Int) (x y w : Int) : Int := if (0 ≤ x ∧ x ≤ n - 1) ∧ (0 ≤ y ∧ y ≤ n - 1) ∧ x ≠ y then (if 0 ≤ w ∧ w ≤ 1 then odF (cnt (fun k => pB (ftP n kd t k)) N) (cnt (fun k => pB (ftP n kd t k ∧ pl n (dgF n (t k)) x.toNat < pl n (dgF n (t k)) y.toNat)) N) w else -102) else -101
noncomputable def topsF (n N : Nat) (kd t : Nat → Int) (x w : Int) : Int := if 0 ≤ x ∧ x ≤ n - 1 then (if 0 ≤ w ∧ w ≤ 1 then cnt (fun k => pB ((w = 0 ∨ ftP n kd t k) ∧ dgF n (t k) 0 = x)) N else -102) else -101
noncomputable def ordersF (n N : Nat) (kd f t : Nat → Int) (k0 : Nat) (w : Int) : Int := if 0 ≤ w ∧ w ≤ 3 then (if n = 0 then -103 else orsF n N kd f t k0 w) else -102
noncomputable def orderF (n N : Nat) (kd t : Nat → Int) (x w : Int) : Int := if n ≠ 0 ∧ 0 ≤ x ∧ x ≤ N - 1 then (if (0 ≤ w ∧ w ≤ 1) ∨ (10 ≤ w ∧ w ≤ 16) then toF n kd (dgF n (t x.toNat)) w else -102) else -101
def moveR (n : Nat) (kd f : Nat → Int) (mv x y v : Int) (f' : Nat → Int) (mv' : Int) : Prop :=
  (¬ (isL n x ∧ isL n y) ∧ v = -101 ∧ f' = f ∧ mv' = mv) ∨ ((isL n x ∧ isL n y) ∧ cbF n f x.toNat y.toNat = -1 ∧ v = -103 ∧ f' = f ∧ mv' = mv) ∨ ((isL n x ∧ isL n y) ∧ cbF n f x.toNat y.toNat ≠ -1 ∧ mv = 999 ∧ v = -104 ∧ f' = f ∧ mv' = mv) ∨ ((isL n x ∧ isL n y) ∧ cbF n f x.toNat y.toNat ≠ -1 ∧ mv ≠ 999 ∧ v = opF n kd f' ∧ f' = shF f (pl n f x.toNat) y.toNat ∧ mv' = mv + 1)
def turnR (n : Nat) (f : Nat → Int) (v : Int) (f' : Nat → Int) : Prop := (n = 0 ∧ v = -103 ∧ f' = f) ∨ (n ≠ 0 ∧ v = f (n - 1) ∧ ∀ j, j < n → f' j = f (n - 1 - j))
def layR (n N : Nat) (t f : Nat → Int) (k0 : Nat) (x v : Int) (f' : Nat → Int) : Prop := (¬ (n ≠ 0 ∧ 0 ≤ x ∧ x ≤ N - 1) ∧ v = -101 ∧ f' = f) ∨ ((n ≠ 0 ∧ 0 ≤ x ∧ x ≤ N - 1) ∧ v = ↑k0 ∧ ∀ j, j < n → f' j = dgF n (t x.toNat) j)
def changeR (n : Nat) (kd : Nat → Int) (x w v : Int) (kd' : Nat → Int) : Prop := (¬ isL n x ∧ v = -101 ∧ kd' = kd) ∨ (isL n x ∧ ¬ (0 ≤ w ∧ w ≤ 4) ∧ v = -102 ∧ kd' = kd) ∨ (isL n x ∧ (0 ≤ w ∧ w ≤ 4) ∧ v = kd x.toNat ∧ kd' = uZ kd x.toNat w)
def seeR (n m : Nat) (sg : Nat → Int) (x y z v : Int) (sg' : Nat → Int) (m' : Int) : Prop := (¬ isL n x ∧ v = -101 ∧ sg' = sg ∧ m' = m) ∨ (isL n x ∧ ¬ (1 ≤ y ∧ y ≤ n) ∧ v = -102 ∧ sg' = sg ∧ m' = m) ∨ (isL n x ∧ (1 ≤ y ∧ y ≤ n) ∧ m = 6 ∧ v = -104 ∧ sg' = sg ∧ m' = m) ∨ (isL n x ∧ (1 ≤ y ∧ y ≤ n) ∧ m ≠ 6 ∧ v = m + 1 ∧ sg' = uZ (uZ (uZ sg (3 * m) x) (3 * m + 1) y) (3 * m + 2) z ∧ m' = m + 1)
