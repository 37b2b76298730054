/-! what each call answers, in the words of both sides -/
noncomputable def tlF (n : Nat) (kd f : Nat → Int) (v : Nat) (w : Int) : Int := if w = 0 then kd v else if w = 1 then thk (kd v) else if w = 2 then ↑(pl n f v) else if w = 3 then b2 (pB (rgP n kd f (pl n f v))) else -102
noncomputable def leafF (n : Nat) (kd f : Nat → Int) (x w : Int) : Int := if 0 ≤ x ∧ x ≤ n - 1 then tlF n kd f x.toNat w else -101
def asF (n : Nat) (kd : Nat → Int) (x w : Int) : Int := if 0 ≤ x ∧ x ≤ n - 1 then (if 0 ≤ w ∧ w ≤ 4 then (if w = 0 ∨ w = kd x.toNat ∨ (w = 1 ∧ kd x.toNat = 3) ∨ (w = 2 ∧ kd x.toNat = 4) then x else -1) else -102) else -101
noncomputable def hingeF (n : Nat) (kd f : Nat → Int) (x w : Int) : Int := if 0 ≤ x ∧ x ≤ n - 2 then (if 0 ≤ w ∧ w ≤ 1 then (if w = 0 then x % 2 else wdF n kd f x.toNat) else -102) else -101
def atF (n : Nat) (f : Nat → Int) (x : Int) : Int := if 0 ≤ x ∧ x ≤ n - 1 then f x.toNat else -101
noncomputable def mayF (n : Nat) (f : Nat → Int) (x y : Int) : Int := if (0 ≤ x ∧ x ≤ n - 1) ∧ (0 ≤ y ∧ y ≤ n - 1) then b2 (pB (pl n f x.toNat = y.toNat ∨ cbF n f x.toNat y.toNat ≠ -1)) else -101
noncomputable def orsF (n N : Nat) (kd f t : Nat → Int) (k0 : Nat) (w : Int) : Int := if w = 0 then ↑N else if w = 1 then cnt (fun k => pB (ftP n kd t k)) N else if w = 2 then ↑k0 else b2 (pB (fitP n kd f))
noncomputable def toF (n : Nat) (kd f : Nat → Int) (w : Int) : Int := if w < 2 then (if w = 1 then wmF n kd f else b2 (pB (fitP n kd f))) else if w - 10 < n then f (w - 10).toNat else -1
noncomputable def mvsF (n : Nat) (f : Nat → Int) : Int := cnt (fun a => pB (cbF n f (a / n) (a % n) ≠ -1)) (n * n)
noncomputable def opF (n : Nat) (kd f : Nat → Int) : Int := cnt (fun q => pB (0 < wdF n kd f q)) (n - 1)
noncomputable def ctF (n : Nat) (kd f : Nat → Int) (mv m9 sz rd w : Int) : Int := if w = 0 then ↑n else if w = 1 then sm (fun k => thk (kd k)) n else if w = 2 then wmF n kd f else if w = 3 then opF n kd f else if w = 4 then cnt (fun q => pB (rgP n kd f q)) n else if w = 5 then mvsF n f else if w = 6 then mv else if w = 7 then m9 else if w = 8 then sz else if w = 9 then rd else -102
theorem sA_cm (S : St) {r q : Nat} (f g : Nat → Int) (h : r ≠ q) : sA (sA S r f) q g = sA (sA S q g) r f := by
  funext k
  unfold sA
  by_cases e1 : k = q
  · subst e1
    simp [Ne.symm h]
  · simp [e1]
