theorem trF_r {n : Nat} {x : Int} (hn : 0 < n) (hn7 : n ≤ 7) (hx : -1 ≤ x ∧ x < 50) : (trF n x = -1 → x = -1) ∧ -1 ≤ trF n x ∧ trF n x ≤ 600 := by
  unfold trF
  by_cases e : x = -1
  · rw [if_pos e]; omega
  · rw [if_neg e]
    have h1 := Int.ediv_nonneg (show 0 ≤ x by omega) (show (0 : Int) ≤ n by omega)
    have h2 := Int.ediv_le_self (n : Int) (show 0 ≤ x by omega)
    have h3 := Int.emod_nonneg x (show (n : Int) ≠ 0 by omega)
    have h4 := Int.emod_lt_of_pos x (show 0 < (n : Int) by omega)
    omega
theorem dm_k {n d j : Nat} (hd : 1 ≤ d) (hj : j < n) : ((d - 1) * n + j) / n + 1 = d ∧ ((d - 1) * n + j) % n = j := by
  rw [Nat.mul_comm, Nat.mul_add_div (by omega), Nat.mul_add_mod, Nat.div_eq_of_lt hj, Nat.mod_eq_of_lt hj]
  omega
theorem trF_k {n d j : Nat} (hd : 1 ≤ d) (hj : j < n) : trF n ((((d - 1) * n + j : Nat)) : Int) = 10 * d + j := by
  unfold trF
  have h := dm_k hd hj
  rw [if_neg (by omega)]
  rw [← Int.natCast_ediv, ← Int.natCast_emod]
  omega
theorem wtC_k {n N : Nat} {P : Nat → Prop} {q : Nat → Nat → Nat} {d j : Nat} (hd : 1 ≤ d) (hj : j < n) : wtC n N P q ((d - 1) * n + j) = wsF (cnt (fun j => pB (P j)) N) (ltC P q d j N) := by
  have h := dm_k hd hj
  unfold wtC
  rw [h.1, h.2]
theorem dn_le {n d j : Nat} (hn : n ≤ 7) (hd : 1 ≤ d) (hd2 : d ≤ n) (hj : j ≤ n) : (d - 1) * n + j ≤ 49 := by
  have h1 : (d - 1) * n ≤ 6 * 7 := Nat.mul_le_mul (by omega) hn
  omega
theorem dn_s {n d : Nat} (hd : 1 ≤ d) : (d - 1) * n + n = (d + 1 - 1) * n + 0 := by
  rw [show d + 1 - 1 = (d - 1) + 1 by omega, Nat.add_mul]; omega
