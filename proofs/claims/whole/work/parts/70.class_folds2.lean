theorem okN_1 {n : Nat} {o : List Nat} {v : Nat} (h : pnN o v ≠ 0) : okN n o v = false := by
  cases e : okN n o v
  · rfl
  · exact absurd (okN_n e) h
theorem okN_2 {n : Nat} {o : List Nat} {v : Nat} (h : crN n o v 0 = true) : okN n o v = false := by unfold okN; rw [h]; simp
theorem okN_3 {n : Nat} {o : List Nat} {v : Nat} (h : crN n o v 1 = true) : okN n o v = false := by unfold okN; rw [h]; simp
theorem okN_4 {n : Nat} {o : List Nat} {v : Nat} (h : pnN o v = 0) (h0 : crN n o v 0 = false) (h1 : crN n o v 1 = false) : okN n o v = true := by unfold okN; rw [h, h0, h1]; rfl
theorem dfs_p (n : Nat) {dd : Nat} (o : List Nat) (h : dd ≠ 0) : dfs n dd o = dfsW n (dfs n (dd - 1)) o n := by
  obtain ⟨d, rfl⟩ : ∃ d, dd = d + 1 := ⟨dd - 1, by omega⟩
  rfl
theorem dfsW_t {n : Nat} {F : List Nat → List (List Nat)} {o : List Nat} {i : Nat} (h : okN n o i = true) : dfsW n F o (i + 1) = dfsW n F o i ++ F (o ++ [i]) := by rw [dfsW, h]; rfl
theorem dfsW_f {n : Nat} {F : List Nat → List (List Nat)} {o : List Nat} {i : Nat} (h : okN n o i = false) : dfsW n F o (i + 1) = dfsW n F o i := by rw [dfsW, h]; exact List.append_nil _
theorem dfsW_cap {n : Nat} {F : List Nat → List (List Nat)} {o : List Nat} {i : Nat} (h : okN n o i = true) (hi : i < n) : (dfsW n F o i).length + (F (o ++ [i])).length ≤ (dfsW n F o n).length := by
  have h1 := dfsW_le n F o (show i + 1 ≤ n from hi)
  rw [dfsW_t h, List.length_append] at h1
  exact h1
theorem pn_up {n : Nat} {o : List Nat} {g : Nat → Int} {i : Nat} {x : Int} (h : ∀ v, v < n → g v = (pnN o v : Int) - 1) (hi : pnN o i = 0) (hx : x = o.length) : ∀ v, v < n → uZ g i x v = (pnN (o ++ [i]) v : Int) - 1 := by
  intro v hv
  rw [pnN_snoc]
  by_cases e : v = i
  · subst e
    rw [uZ_s, if_pos hi, if_pos rfl, hx]
    omega
  · rw [uZ_n e, h v hv]
    by_cases e2 : pnN o v = 0
    · rw [if_pos e2, if_neg (fun h => e h.symm), e2]
    · rw [if_neg e2]
theorem pn_bk {n : Nat} {o : List Nat} {s6 g e : Nat → Int} {i : Nat} {x : Int} (hp : ∀ v, v < n → s6 v = (pnN o v : Int) - 1) (hi : pnN o i = 0) (hil : i < n) (h : ∀ v, v < n → g v = s6 v) (he : ∀ v, v < n → e v = uZ g i x v) : ∀ v, v < n → uZ e i (-1) v = s6 v := by
  intro v hv
  by_cases e1 : v = i
  · subst e1
    rw [uZ_s, hp v hv, hi]
    rfl
  · rw [uZ_n e1, he v hv, uZ_n e1, h v hv]
theorem plO_r {o : List Nat} {i : Nat} (h : ∀ v, v < i → pnN o v ≠ 0 ∧ pnN o v ≤ 8) : 0 ≤ plO i o ∧ plO i o < 2 ^ (3 * i) := by
  induction i with
  | zero => exact ⟨Int.le_refl _, show (0 : Int) < 2 ^ 0 by decide⟩
  | succ i ih =>
    have h1 := ih (fun v hv => h v (by omega))
    have h2 := h i (by omega)
    unfold plO at h1 ⊢
    rw [sm, show 3 * (i + 1) = 3 * i + 3 by omega, Int.pow_add, show (2 : Int) ^ 3 = 8 by decide]
    have h3 : 0 ≤ ((pnN o i : Int) - 1) * 2 ^ (3 * i) := Int.mul_nonneg (by omega) (Int.pow_nonneg (by decide))
    have h4 : ((pnN o i : Int) - 1) * 2 ^ (3 * i) ≤ 7 * 2 ^ (3 * i) := Int.mul_le_mul_of_nonneg_right (by omega) (Int.pow_nonneg (by decide))
    omega
theorem plO_dig {o : List Nat} {i : Nat} (h : ∀ v, v < i → pnN o v ≠ 0 ∧ pnN o v ≤ 8) {v : Nat} (hv : v < i) : plO i o / 2 ^ (3 * v) % 8 = (pnN o v : Int) - 1 := by
  induction i with
  | zero => omega
  | succ i ih =>
    have h1 := plO_r (o := o) (i := i) (fun v hv => h v (by omega))
    have h2 := h i (by omega)
    have e0 : plO (i + 1) o = plO i o + ((pnN o i : Int) - 1) * 2 ^ (3 * i) := rfl
    rw [e0]
    by_cases e : v = i
    · subst e
      rw [Int.add_mul_ediv_right _ _ (Int.ne_of_gt (Int.pow_pos (by decide))), Int.ediv_eq_zero_of_lt h1.1 h1.2]
      omega
    · have h3 := ih (fun v hv => h v (by omega)) (by omega)
      rw [show 3 * i = 3 * v + 3 + 3 * (i - v - 1) by omega, Int.pow_add, Int.pow_add, show (2 : Int) ^ 3 = 8 by decide,
        show ((pnN o i : Int) - 1) * (2 ^ (3 * v) * 8 * 2 ^ (3 * (i - v - 1))) = (((pnN o i : Int) - 1) * 2 ^ (3 * (i - v - 1)) * 8) * 2 ^ (3 * v) by ac_rfl,
        Int.add_mul_ediv_right _ _ (Int.ne_of_gt (Int.pow_pos (by decide))), Int.add_mul_emod_self_right]
      exact h3
section ZF
variable {p : Program} {l : Launch} {e : Env} {R : Room} {s : State} {m : MethodId} {args : Array Value} {below : List Frame} {meth : Method} {c : Code} {H : Heap} {locs : List Loc} {cells slots : Nat} {Q : State → Prop}
variable {cc : ByteArray} {pc : Nat} {ls : Array Slot} {rest : List Value}
theorem zI_orT {a b : Int} (k : Nat) (h0 : 0 ≤ a) (ha : a < 2 ^ k) (hb0 : 0 ≤ b) (hb : b % 2 ^ k = 0) : zI a ||| zI b = zI (a + b) := by
  have h := zI_orS k hb0 hb h0 ha
  rw [Int.add_comm a b, ← h]
  exact Int32.or_comm _ _
theorem z_iorT (hexec : p.tables.exec = Jvm.exec) (hb : c.code = cc) {a b : Int} (k : Nat) (h0 : 0 ≤ a) (ha : a < 2 ^ k) (hb0 : 0 ≤ b) (hbk : b % 2 ^ k = 0) (hdg : decode cc pc = .ok (.ior, 1)) (kk : W p l e R s m args below meth c H locs cells slots Q (F0 m (pc + 1) ls (.int (zI (a + b)) :: rest))) : W p l e R s m args below meth c H locs cells slots Q (F0 m pc ls (.int (zI b) :: .int (zI a) :: rest)) := lv_ior hexec hb hdg (by rw [zI_orT k h0 ha hb0 hbk]; exact kk)
end ZF
