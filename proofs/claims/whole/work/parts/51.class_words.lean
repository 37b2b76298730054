def okP (a k : Int) : Prop := k = 0 ∨ a = k ∨ (k = 1 ∧ a = 3) ∨ (k = 2 ∧ a = 4)
theorem zL_rem {a b : Int} (a0 : 0 ≤ a) (a2 : a < 9223372036854775808) (b0 : 0 < b) (b2 : b < 9223372036854775808) : zL a - zL a / zL b * zL b = zL (a % b) := by
  obtain ⟨x, rfl⟩ := Int.eq_ofNat_of_zero_le a0
  obtain ⟨y, rfl⟩ := Int.eq_ofNat_of_zero_le (Int.le_of_lt b0)
  have e : ∀ n : Nat, zL (n : Int) = lN n := fun n => Int64.ofInt_eq_ofNat
  rw [e, e, pk_lRem (by omega) (by omega) (by omega), ← e, Int.natCast_emod]
theorem zL_ne0 {b : Int} (b0 : 0 < b) (b2 : b < 9223372036854775808) : ¬ zL b = 0 := by
  show ¬ zL b = zL 0
  rw [zL_eq (by omega) b2 (by omega) (by omega)]
  omega
section ZD
variable {p : Program} {l : Launch} {e : Env} {R : Room} {s : State} {m : MethodId} {args : Array Value} {below : List Frame} {meth : Method} {c : Code} {H : Heap} {locs : List Loc} {cells slots : Nat} {Q : State → Prop}
variable {cc : ByteArray} {pc : Nat} {ls : Array Slot} {rest : List Value}
theorem z_lrem (hexec : p.tables.exec = Jvm.exec) (hb : c.code = cc) {a b : Int} (a0 : 0 ≤ a) (a2 : a < 9223372036854775808) (b0 : 0 < b) (b2 : b < 9223372036854775808) (hdg : decode cc pc = .ok (.lrem, 1)) (k : W p l e R s m args below meth c H locs cells slots Q (F0 m (pc + 1) ls (.long (zL (a % b)) :: rest))) : W p l e R s m args below meth c H locs cells slots Q (F0 m pc ls (.long (zL b) :: .long (zL a) :: rest)) := lv_lrem hexec hb hdg (zL_ne0 b0 b2) (by rw [zL_rem a0 a2 b0 b2]; exact k)
theorem zI_if {a b : Int} (a1 : -2147483648 ≤ a) (a2 : a < 2147483648) (b1 : -2147483648 ≤ b) (b2 : b < 2147483648) : (if zI a < zI b then zI b else zI a) = zI (if a < b then b else a) := by
  by_cases h : a < b
  · rw [if_pos h, if_pos ((zI_lt a1 a2 b1 b2).mpr h)]
  · rw [if_neg h, if_neg (fun g => h ((zI_lt a1 a2 b1 b2).mp g))]
theorem z_mmax (hexec : p.tables.exec = Jvm.exec) (hb : c.code = cc) (hml : c.maxLocals = ls.size) {own : String} {index : Nat} (hown : s.vm.findClass own = some m.cls) (hlink : (Cond.methodLink own index Lib.Math.max.name).before args s = true) (hstat : (Cond.static Lib.Math.max.name).before args s = true) (hini : (Cond.initialized "java/lang/Math").before args s = true) (hcode : (Cond.code Lib.Math.max.name Lib.Math.max.code 2 (some .int)).before args s = true) (hframes : 1 ≤ R.frames) (hlocals : (rest.map fun v => v.category).sum + 13 ≤ R.locals) (hc : cells ≤ R.cells) (hs : slots ≤ R.slots) {a b : Int} (a1 : -2147483648 ≤ a) (a2 : a < 2147483648) (b1 : -2147483648 ≤ b) (b2 : b < 2147483648) (hdg : decode cc pc = .ok (.invokestatic index, 3)) (kk : W p l e R s m args below meth c H locs cells slots Q (F0 m (pc + 3) ls (.int (zI (if a < b then b else a)) :: rest))) : W p l e R s m args below meth c H locs cells slots Q (F0 m pc ls (.int (zI b) :: .int (zI a) :: rest)) :=
  va_mmax hexec hb hml hown hlink hstat hini hcode hframes hlocals hc hs hdg (by rw [zI_if a1 a2 b1 b2]; exact kk)
end ZD
/-- seven digits: one taken out, one put in -/
def tkF (f : Nat → Int) (p : Nat) : Nat → Int := fun j => if j < p then f j else if j < 6 then f (j + 1) else 0
def ptF (f : Nat → Int) (v : Int) (q : Nat) : Nat → Int := fun j => if j < q then f j else if j = q then v else f (j - 1)
def d7 (f : Nat → Int) : Prop := ∀ j, j < 7 → 0 ≤ f j ∧ f j < 8
theorem cd7 (f : Nat → Int) : cdF f 7 = 262144 * f 0 + 32768 * f 1 + 4096 * f 2 + 512 * f 3 + 64 * f 4 + 8 * f 5 + f 6 := by
  simp only [cdF]
  omega
theorem tk_eq {f : Nat → Int} (h : d7 f) {p : Nat} (hp : p < 7) : cdF f 7 / 2 ^ (3 * (6 - p) + 3) * 2 ^ (3 * (6 - p) + 3) + cdF f 7 % 2 ^ (3 * (6 - p)) * 8 = cdF (tkF f p) 7 := by
  have h0 := h 0 (by omega); have h1 := h 1 (by omega); have h2 := h 2 (by omega); have h3 := h 3 (by omega); have h4 := h 4 (by omega); have h5 := h 5 (by omega); have h6 := h 6 (by omega)
  rw [cd7, cd7]
  rcases (show p = 0 ∨ p = 1 ∨ p = 2 ∨ p = 3 ∨ p = 4 ∨ p = 5 ∨ p = 6 by omega) with e | e | e | e | e | e | e <;> subst e <;> simp [tkF] <;> omega
theorem pt_eq {f : Nat → Int} (h : d7 f) (h6 : f 6 = 0) {v : Int} (hv : 0 ≤ v ∧ v < 8) {q : Nat} (hq : q < 7) : cdF f 7 / 2 ^ (3 * (6 - q) + 3) * 2 ^ (3 * (6 - q) + 3) + v * 2 ^ (3 * (6 - q)) + cdF f 7 % 2 ^ (3 * (6 - q) + 3) / 8 = cdF (ptF f v q) 7 := by
  have h0 := h 0 (by omega); have h1 := h 1 (by omega); have h2 := h 2 (by omega); have h3 := h 3 (by omega); have h4 := h 4 (by omega); have h5 := h 5 (by omega)
  rw [cd7, cd7]
  rcases (show q = 0 ∨ q = 1 ∨ q = 2 ∨ q = 3 ∨ q = 4 ∨ q = 5 ∨ q = 6 by omega) with e | e | e | e | e | e | e <;> subst e <;> simp [ptF] <;> omega
theorem tk_d7 {f : Nat → Int} (h : d7 f) (p : Nat) : d7 (tkF f p) := by
  intro j hj
  unfold tkF
  split
  · exact h j hj
  · split
    · exact h (j + 1) (by omega)
    · omega
theorem pt_d7 {f : Nat → Int} (h : d7 f) {v : Int} (hv : 0 ≤ v ∧ v < 8) (q : Nat) : d7 (ptF f v q) := by
  intro j hj
  unfold ptF
  split
  · exact h j hj
  · split
    · exact hv
    · exact h (j - 1) (by omega)
theorem q_mmax : Cond.code Lib.Math.max.name Lib.Math.max.code 2 (some .int) ∈ lwT := q_259
theorem q_mmin : Cond.code Lib.Math.min.name Lib.Math.min.code 2 (some .int) ∈ lwT := q_262
section ZE
variable {p : Program} {l : Launch} {e : Env} {R : Room} {s : State} {m : MethodId} {args : Array Value} {below : List Frame} {meth : Method} {c : Code} {H : Heap} {locs : List Loc} {cells slots : Nat} {Q : State → Prop}
variable {cc : ByteArray} {pc : Nat} {ls : Array Slot} {rest : List Value}
theorem zI_if2 {a b : Int} (a1 : -2147483648 ≤ a) (a2 : a < 2147483648) (b1 : -2147483648 ≤ b) (b2 : b < 2147483648) : (if zI b < zI a then zI b else zI a) = zI (if b < a then b else a) := by
  by_cases h : b < a
  · rw [if_pos h, if_pos ((zI_lt b1 b2 a1 a2).mpr h)]
  · rw [if_neg h, if_neg (fun g => h ((zI_lt b1 b2 a1 a2).mp g))]
theorem z_mmin (hexec : p.tables.exec = Jvm.exec) (hb : c.code = cc) (hml : c.maxLocals = ls.size) {own : String} {index : Nat} (hown : s.vm.findClass own = some m.cls) (hlink : (Cond.methodLink own index Lib.Math.min.name).before args s = true) (hstat : (Cond.static Lib.Math.min.name).before args s = true) (hini : (Cond.initialized "java/lang/Math").before args s = true) (hcode : (Cond.code Lib.Math.min.name Lib.Math.min.code 2 (some .int)).before args s = true) (hframes : 1 ≤ R.frames) (hlocals : (rest.map fun v => v.category).sum + 13 ≤ R.locals) (hc : cells ≤ R.cells) (hs : slots ≤ R.slots) {a b : Int} (a1 : -2147483648 ≤ a) (a2 : a < 2147483648) (b1 : -2147483648 ≤ b) (b2 : b < 2147483648) (hdg : decode cc pc = .ok (.invokestatic index, 3)) (kk : W p l e R s m args below meth c H locs cells slots Q (F0 m (pc + 3) ls (.int (zI (if b < a then b else a)) :: rest))) : W p l e R s m args below meth c H locs cells slots Q (F0 m pc ls (.int (zI b) :: .int (zI a) :: rest)) :=
  va_mmin hexec hb hml hown hlink hstat hini hcode hframes hlocals hc hs hdg (by rw [zI_if2 a1 a2 b1 b2]; exact kk)
end ZE
