/-! ints as numbers: zI n, for n of any sign; rows of the kit over them -/
def zI (n : Int) : Int32 := Int32.ofInt n
def zL (n : Int) : Int64 := Int64.ofInt n
theorem zI_toInt {n : Int} (h1 : -2147483648 ≤ n) (h2 : n < 2147483648) : (zI n).toInt = n := by
  unfold zI
  exact Int32.toInt_ofInt_of_le (by omega) (by omega)
theorem zI_of (x : Int32) : zI x.toInt = x := Int32.ofInt_toInt x
theorem zI_nat (n : Nat) : zI (n : Int) = nI n := Int32.ofInt_eq_ofNat
theorem zI_add (a b : Int) : zI a + zI b = zI (a + b) := (Int32.ofInt_add a b).symm
theorem zI_sub (a b : Int) : zI a - zI b = zI (a - b) := (Int32.ofInt_sub a b).symm
theorem zI_mul (a b : Int) : zI a * zI b = zI (a * b) := (Int32.ofInt_mul a b).symm
theorem zI_le {a b : Int} (a1 : -2147483648 ≤ a) (a2 : a < 2147483648) (b1 : -2147483648 ≤ b) (b2 : b < 2147483648) : zI a ≤ zI b ↔ a ≤ b := by
  rw [Int32.le_iff_toInt_le, zI_toInt a1 a2, zI_toInt b1 b2]
theorem zI_lt {a b : Int} (a1 : -2147483648 ≤ a) (a2 : a < 2147483648) (b1 : -2147483648 ≤ b) (b2 : b < 2147483648) : zI a < zI b ↔ a < b := by
  rw [Int32.lt_iff_toInt_lt, zI_toInt a1 a2, zI_toInt b1 b2]
theorem zI_eq {a b : Int} (a1 : -2147483648 ≤ a) (a2 : a < 2147483648) (b1 : -2147483648 ≤ b) (b2 : b < 2147483648) : zI a = zI b ↔ a = b := by
  rw [← Int32.toInt_inj, zI_toInt a1 a2, zI_toInt b1 b2]
theorem zI_clamp {i : Int} (h0 : 0 ≤ i) (h : i < 2147483648) : (zI i).toNatClampNeg = i.toNat := by
  show (zI i).toInt.toNat = i.toNat
  rw [zI_toInt (by omega) h]
theorem zI_in {i : Int} {n : Nat} (h0 : 0 ≤ i) (h1 : i < n) (hn : n < 2147483648) : vp_in (zI i) n := vp_in_iff.mpr (by
  rw [zI_toInt (by omega) (by omega)]; exact ⟨h0, h1⟩)
theorem zI_div {a b : Int} (a0 : 0 ≤ a) (a2 : a < 2147483648) (b0 : 0 < b) (b2 : b < 2147483648) : zI a / zI b = zI (a / b) := by
  obtain ⟨x, rfl⟩ := Int.eq_ofNat_of_zero_le a0
  obtain ⟨y, rfl⟩ := Int.eq_ofNat_of_zero_le (Int.le_of_lt b0)
  rw [zI_nat, zI_nat, pk_div (by omega) (by omega) (by omega), ← zI_nat, Int.natCast_ediv]
theorem zI_rem {a b : Int} (a0 : 0 ≤ a) (a2 : a < 2147483648) (b0 : 0 < b) (b2 : b < 2147483648) : zI a - zI a / zI b * zI b = zI (a % b) := by
  obtain ⟨x, rfl⟩ := Int.eq_ofNat_of_zero_le a0
  obtain ⟨y, rfl⟩ := Int.eq_ofNat_of_zero_le (Int.le_of_lt b0)
  rw [zI_nat, zI_nat, pk_rem (by omega) (by omega) (by omega), ← zI_nat, Int.natCast_emod]
theorem zI_ne0 {b : Int} (b0 : 0 < b) (b2 : b < 2147483648) : ¬ zI b = 0 := by
  show ¬ zI b = zI 0
  rw [zI_eq (by omega) b2 (by omega) (by omega)]
  omega
/-- a truth as a number -/
def b2 (b : Bool) : Int := if b then 1 else 0
theorem b2_r (b : Bool) : 0 ≤ b2 b ∧ b2 b ≤ 1 := by cases b <;> decide
theorem b2_t : b2 true = 1 := rfl
theorem b2_f : b2 false = 0 := rfl
theorem b2_0 {b : Bool} (h : b2 b = 0) : b = false := by cases b with | false => rfl | true => exact absurd h (by decide)
theorem b2_1 {b : Bool} (h : ¬ b2 b = 0) : b = true := by cases b with | true => rfl | false => exact absurd rfl h

section ZW
variable {p : Program} {l : Launch} {e : Env} {R : Room} {s : State} {m : MethodId} {args : Array Value} {below : List Frame} {meth : Method} {c : Code} {H : Heap} {locs : List Loc} {cells slots : Nat} {Q : State → Prop}
variable {cc : ByteArray} {pc : Nat} {ls : Array Slot} {rest : List Value}
theorem z_iadd (hexec : p.tables.exec = Jvm.exec) (hb : c.code = cc) {a b : Int} (hdg : decode cc pc = .ok (.iadd, 1)) (k : W p l e R s m args below meth c H locs cells slots Q (F0 m (pc + 1) ls (.int (zI (a + b)) :: rest))) : W p l e R s m args below meth c H locs cells slots Q (F0 m (pc) ls (.int (zI b) :: .int (zI a) :: rest)) := lv_iadd hexec hb hdg (by rw [zI_add]; exact k)
theorem z_isub (hexec : p.tables.exec = Jvm.exec) (hb : c.code = cc) {a b : Int} (hdg : decode cc pc = .ok (.isub, 1)) (k : W p l e R s m args below meth c H locs cells slots Q (F0 m (pc + 1) ls (.int (zI (a - b)) :: rest))) : W p l e R s m args below meth c H locs cells slots Q (F0 m (pc) ls (.int (zI b) :: .int (zI a) :: rest)) := lv_isub hexec hb hdg (by rw [zI_sub]; exact k)
theorem z_imul (hexec : p.tables.exec = Jvm.exec) (hb : c.code = cc) {a b : Int} (hdg : decode cc pc = .ok (.imul, 1)) (k : W p l e R s m args below meth c H locs cells slots Q (F0 m (pc + 1) ls (.int (zI (a * b)) :: rest))) : W p l e R s m args below meth c H locs cells slots Q (F0 m (pc) ls (.int (zI b) :: .int (zI a) :: rest)) := lv_imul hexec hb hdg (by rw [zI_mul]; exact k)
theorem z_idiv (hexec : p.tables.exec = Jvm.exec) (hb : c.code = cc) {a b : Int} (a0 : 0 ≤ a) (a2 : a < 2147483648) (b0 : 0 < b) (b2 : b < 2147483648) (hdg : decode cc pc = .ok (.idiv, 1)) (k : W p l e R s m args below meth c H locs cells slots Q (F0 m (pc + 1) ls (.int (zI (a / b)) :: rest))) : W p l e R s m args below meth c H locs cells slots Q (F0 m (pc) ls (.int (zI b) :: .int (zI a) :: rest)) := lv_idiv hexec hb hdg (zI_ne0 b0 b2) (by rw [zI_div a0 a2 b0 b2]; exact k)
theorem z_irem (hexec : p.tables.exec = Jvm.exec) (hb : c.code = cc) {a b : Int} (a0 : 0 ≤ a) (a2 : a < 2147483648) (b0 : 0 < b) (b2 : b < 2147483648) (hdg : decode cc pc = .ok (.irem, 1)) (k : W p l e R s m args below meth c H locs cells slots Q (F0 m (pc + 1) ls (.int (zI (a % b)) :: rest))) : W p l e R s m args below meth c H locs cells slots Q (F0 m (pc) ls (.int (zI b) :: .int (zI a) :: rest)) := lv_irem hexec hb hdg (zI_ne0 b0 b2) (by rw [zI_rem a0 a2 b0 b2]; exact k)
theorem z_iconst (hexec : p.tables.exec = Jvm.exec) (hb : c.code = cc) {n : Int} (hdg : decode cc pc = .ok (.iconst n, 1)) (k : W p l e R s m args below meth c H locs cells slots Q (F0 m (pc + 1) ls (.int (zI n) :: rest))) : W p l e R s m args below meth c H locs cells slots Q (F0 m (pc) ls (rest)) := lv_iconst hexec hb hdg rfl k
theorem z_bipush (hexec : p.tables.exec = Jvm.exec) (hb : c.code = cc) {n : Int} (hdg : decode cc pc = .ok (.bipush n, 2)) (hv : (Int8.ofInt n).toInt32 = zI n) (k : W p l e R s m args below meth c H locs cells slots Q (F0 m (pc + 2) ls (.int (zI n) :: rest))) : W p l e R s m args below meth c H locs cells slots Q (F0 m (pc) ls (rest)) := lv_bipush hexec hb hdg hv k
theorem z_sipush (hexec : p.tables.exec = Jvm.exec) (hb : c.code = cc) {n : Int} (hdg : decode cc pc = .ok (.sipush n, 3)) (hv : (Int16.ofInt n).toInt32 = zI n) (k : W p l e R s m args below meth c H locs cells slots Q (F0 m (pc + 3) ls (.int (zI n) :: rest))) : W p l e R s m args below meth c H locs cells slots Q (F0 m (pc) ls (rest)) := lv_sipush hexec hb hdg hv k
theorem z_iinc (hexec : p.tables.exec = Jvm.exec) (hb : c.code = cc) {i nL k : Nat} {n a : Int} {lv lv' : List (Nat × Value)} (hdg : decode cc pc = .ok (.iinc i n, 3)) (h : lv_has ls nL lv) (hk : lv[k]? = some (i, .int (zI a))) (hn : i < nL) (hl : (i, Value.int (zI (a + n))) :: lv.filter (fun q => !(q.1 == i) && !(q.1 + 1 == i && q.2.category == 2)) = lv') (kk : ∀ ls' : Array Slot, lv_has ls' nL lv' → W p l e R s m args below meth c H locs cells slots Q (F0 m (pc + 3) ls' rest)) : W p l e R s m args below meth c H locs cells slots Q (F0 m (pc) ls (rest)) := lv_iinc hexec hb hdg h hk (show zI a + zI n = zI (a + n) from zI_add a n) hn hl kk
theorem z_icmp_eq (hexec : p.tables.exec = Jvm.exec) (hb : c.code = cc) {a b off : Int} {tgt : Nat} (a1 : -2147483648 ≤ a) (a2 : a < 2147483648) (b1 : -2147483648 ≤ b) (b2 : b < 2147483648) (hdg : decode cc pc = .ok (.if_icmp .eq off, 3)) (ht : (pc : Int) + off = (tgt : Int)) (kt : a = b → W p l e R s m args below meth c H locs cells slots Q (F0 m (tgt) ls (rest))) (kf : ¬ a = b → W p l e R s m args below meth c H locs cells slots Q (F0 m (pc + 3) ls (rest))) : W p l e R s m args below meth c H locs cells slots Q (F0 m (pc) ls (.int (zI b) :: .int (zI a) :: rest)) := lv_icmp_eq hexec hb hdg ht (fun h => kt ((zI_eq a1 a2 b1 b2).mp h)) (fun h => kf (fun g => h ((zI_eq a1 a2 b1 b2).mpr g)))
theorem z_if_eq (hexec : p.tables.exec = Jvm.exec) (hb : c.code = cc) {a off : Int} {tgt : Nat} (a1 : -2147483648 ≤ a) (a2 : a < 2147483648) (hdg : decode cc pc = .ok (.ifCond .eq off, 3)) (ht : (pc : Int) + off = (tgt : Int)) (kt : a = 0 → W p l e R s m args below meth c H locs cells slots Q (F0 m (tgt) ls (rest))) (kf : ¬ a = 0 → W p l e R s m args below meth c H locs cells slots Q (F0 m (pc + 3) ls (rest))) : W p l e R s m args below meth c H locs cells slots Q (F0 m (pc) ls (.int (zI a) :: rest)) := by
  have b1 : (-2147483648 : Int) ≤ 0 := by omega
  have b2 : (0 : Int) < 2147483648 := by omega
  exact lv_if_eq hexec hb hdg ht (fun h => kt ((zI_eq (a := a) (b := 0) a1 a2 b1 b2).mp h)) (fun h => kf (fun g => h ((zI_eq (a := a) (b := 0) a1 a2 b1 b2).mpr g)))
theorem z_icmp_ne (hexec : p.tables.exec = Jvm.exec) (hb : c.code = cc) {a b off : Int} {tgt : Nat} (a1 : -2147483648 ≤ a) (a2 : a < 2147483648) (b1 : -2147483648 ≤ b) (b2 : b < 2147483648) (hdg : decode cc pc = .ok (.if_icmp .ne off, 3)) (ht : (pc : Int) + off = (tgt : Int)) (kt : ¬ a = b → W p l e R s m args below meth c H locs cells slots Q (F0 m (tgt) ls (rest))) (kf : a = b → W p l e R s m args below meth c H locs cells slots Q (F0 m (pc + 3) ls (rest))) : W p l e R s m args below meth c H locs cells slots Q (F0 m (pc) ls (.int (zI b) :: .int (zI a) :: rest)) := lv_icmp_ne hexec hb hdg ht (fun h => kt (fun g => h ((zI_eq a1 a2 b1 b2).mpr g))) (fun h => kf ((zI_eq a1 a2 b1 b2).mp h))
theorem z_if_ne (hexec : p.tables.exec = Jvm.exec) (hb : c.code = cc) {a off : Int} {tgt : Nat} (a1 : -2147483648 ≤ a) (a2 : a < 2147483648) (hdg : decode cc pc = .ok (.ifCond .ne off, 3)) (ht : (pc : Int) + off = (tgt : Int)) (kt : ¬ a = 0 → W p l e R s m args below meth c H locs cells slots Q (F0 m (tgt) ls (rest))) (kf : a = 0 → W p l e R s m args below meth c H locs cells slots Q (F0 m (pc + 3) ls (rest))) : W p l e R s m args below meth c H locs cells slots Q (F0 m (pc) ls (.int (zI a) :: rest)) := by
  have b1 : (-2147483648 : Int) ≤ 0 := by omega
  have b2 : (0 : Int) < 2147483648 := by omega
  exact lv_if_ne hexec hb hdg ht (fun h => kt (fun g => h ((zI_eq (a := a) (b := 0) a1 a2 b1 b2).mpr g))) (fun h => kf ((zI_eq (a := a) (b := 0) a1 a2 b1 b2).mp h))
theorem z_icmp_lt (hexec : p.tables.exec = Jvm.exec) (hb : c.code = cc) {a b off : Int} {tgt : Nat} (a1 : -2147483648 ≤ a) (a2 : a < 2147483648) (b1 : -2147483648 ≤ b) (b2 : b < 2147483648) (hdg : decode cc pc = .ok (.if_icmp .lt off, 3)) (ht : (pc : Int) + off = (tgt : Int)) (kt : a < b → W p l e R s m args below meth c H locs cells slots Q (F0 m (tgt) ls (rest))) (kf : b ≤ a → W p l e R s m args below meth c H locs cells slots Q (F0 m (pc + 3) ls (rest))) : W p l e R s m args below meth c H locs cells slots Q (F0 m (pc) ls (.int (zI b) :: .int (zI a) :: rest)) := lv_icmp_lt hexec hb hdg ht (fun h => kt ((zI_lt a1 a2 b1 b2).mp h)) (fun h => kf (by have := (not_congr (zI_lt a1 a2 b1 b2)).mp h; omega))
theorem z_if_lt (hexec : p.tables.exec = Jvm.exec) (hb : c.code = cc) {a off : Int} {tgt : Nat} (a1 : -2147483648 ≤ a) (a2 : a < 2147483648) (hdg : decode cc pc = .ok (.ifCond .lt off, 3)) (ht : (pc : Int) + off = (tgt : Int)) (kt : a < 0 → W p l e R s m args below meth c H locs cells slots Q (F0 m (tgt) ls (rest))) (kf : 0 ≤ a → W p l e R s m args below meth c H locs cells slots Q (F0 m (pc + 3) ls (rest))) : W p l e R s m args below meth c H locs cells slots Q (F0 m (pc) ls (.int (zI a) :: rest)) := by
  have b1 : (-2147483648 : Int) ≤ 0 := by omega
  have b2 : (0 : Int) < 2147483648 := by omega
  exact lv_if_lt hexec hb hdg ht (fun h => kt ((zI_lt (a := a) (b := 0) a1 a2 b1 b2).mp h)) (fun h => kf (by have := (not_congr (zI_lt (a := a) (b := 0) a1 a2 b1 b2)).mp h; omega))
theorem z_icmp_ge (hexec : p.tables.exec = Jvm.exec) (hb : c.code = cc) {a b off : Int} {tgt : Nat} (a1 : -2147483648 ≤ a) (a2 : a < 2147483648) (b1 : -2147483648 ≤ b) (b2 : b < 2147483648) (hdg : decode cc pc = .ok (.if_icmp .ge off, 3)) (ht : (pc : Int) + off = (tgt : Int)) (kt : b ≤ a → W p l e R s m args below meth c H locs cells slots Q (F0 m (tgt) ls (rest))) (kf : a < b → W p l e R s m args below meth c H locs cells slots Q (F0 m (pc + 3) ls (rest))) : W p l e R s m args below meth c H locs cells slots Q (F0 m (pc) ls (.int (zI b) :: .int (zI a) :: rest)) := lv_icmp_ge hexec hb hdg ht (fun h => kt ((zI_le b1 b2 a1 a2).mp h)) (fun h => kf (by have := (not_congr (zI_le b1 b2 a1 a2)).mp h; omega))
theorem z_if_ge (hexec : p.tables.exec = Jvm.exec) (hb : c.code = cc) {a off : Int} {tgt : Nat} (a1 : -2147483648 ≤ a) (a2 : a < 2147483648) (hdg : decode cc pc = .ok (.ifCond .ge off, 3)) (ht : (pc : Int) + off = (tgt : Int)) (kt : 0 ≤ a → W p l e R s m args below meth c H locs cells slots Q (F0 m (tgt) ls (rest))) (kf : a < 0 → W p l e R s m args below meth c H locs cells slots Q (F0 m (pc + 3) ls (rest))) : W p l e R s m args below meth c H locs cells slots Q (F0 m (pc) ls (.int (zI a) :: rest)) := by
  have b1 : (-2147483648 : Int) ≤ 0 := by omega
  have b2 : (0 : Int) < 2147483648 := by omega
  exact lv_if_ge hexec hb hdg ht (fun h => kt ((zI_le (a := 0) (b := a) b1 b2 a1 a2).mp h)) (fun h => kf (by have := (not_congr (zI_le (a := 0) (b := a) b1 b2 a1 a2)).mp h; omega))
theorem z_icmp_gt (hexec : p.tables.exec = Jvm.exec) (hb : c.code = cc) {a b off : Int} {tgt : Nat} (a1 : -2147483648 ≤ a) (a2 : a < 2147483648) (b1 : -2147483648 ≤ b) (b2 : b < 2147483648) (hdg : decode cc pc = .ok (.if_icmp .gt off, 3)) (ht : (pc : Int) + off = (tgt : Int)) (kt : b < a → W p l e R s m args below meth c H locs cells slots Q (F0 m (tgt) ls (rest))) (kf : a ≤ b → W p l e R s m args below meth c H locs cells slots Q (F0 m (pc + 3) ls (rest))) : W p l e R s m args below meth c H locs cells slots Q (F0 m (pc) ls (.int (zI b) :: .int (zI a) :: rest)) := lv_icmp_gt hexec hb hdg ht (fun h => kt ((zI_lt b1 b2 a1 a2).mp h)) (fun h => kf (by have := (not_congr (zI_lt b1 b2 a1 a2)).mp h; omega))
theorem z_if_gt (hexec : p.tables.exec = Jvm.exec) (hb : c.code = cc) {a off : Int} {tgt : Nat} (a1 : -2147483648 ≤ a) (a2 : a < 2147483648) (hdg : decode cc pc = .ok (.ifCond .gt off, 3)) (ht : (pc : Int) + off = (tgt : Int)) (kt : 0 < a → W p l e R s m args below meth c H locs cells slots Q (F0 m (tgt) ls (rest))) (kf : a ≤ 0 → W p l e R s m args below meth c H locs cells slots Q (F0 m (pc + 3) ls (rest))) : W p l e R s m args below meth c H locs cells slots Q (F0 m (pc) ls (.int (zI a) :: rest)) := by
  have b1 : (-2147483648 : Int) ≤ 0 := by omega
  have b2 : (0 : Int) < 2147483648 := by omega
  exact lv_if_gt hexec hb hdg ht (fun h => kt ((zI_lt (a := 0) (b := a) b1 b2 a1 a2).mp h)) (fun h => kf (by have := (not_congr (zI_lt (a := 0) (b := a) b1 b2 a1 a2)).mp h; omega))
theorem z_icmp_le (hexec : p.tables.exec = Jvm.exec) (hb : c.code = cc) {a b off : Int} {tgt : Nat} (a1 : -2147483648 ≤ a) (a2 : a < 2147483648) (b1 : -2147483648 ≤ b) (b2 : b < 2147483648) (hdg : decode cc pc = .ok (.if_icmp .le off, 3)) (ht : (pc : Int) + off = (tgt : Int)) (kt : a ≤ b → W p l e R s m args below meth c H locs cells slots Q (F0 m (tgt) ls (rest))) (kf : b < a → W p l e R s m args below meth c H locs cells slots Q (F0 m (pc + 3) ls (rest))) : W p l e R s m args below meth c H locs cells slots Q (F0 m (pc) ls (.int (zI b) :: .int (zI a) :: rest)) := lv_icmp_le hexec hb hdg ht (fun h => kt ((zI_le a1 a2 b1 b2).mp h)) (fun h => kf (by have := (not_congr (zI_le a1 a2 b1 b2)).mp h; omega))
theorem z_if_le (hexec : p.tables.exec = Jvm.exec) (hb : c.code = cc) {a off : Int} {tgt : Nat} (a1 : -2147483648 ≤ a) (a2 : a < 2147483648) (hdg : decode cc pc = .ok (.ifCond .le off, 3)) (ht : (pc : Int) + off = (tgt : Int)) (kt : a ≤ 0 → W p l e R s m args below meth c H locs cells slots Q (F0 m (tgt) ls (rest))) (kf : 0 < a → W p l e R s m args below meth c H locs cells slots Q (F0 m (pc + 3) ls (rest))) : W p l e R s m args below meth c H locs cells slots Q (F0 m (pc) ls (.int (zI a) :: rest)) := by
  have b1 : (-2147483648 : Int) ≤ 0 := by omega
  have b2 : (0 : Int) < 2147483648 := by omega
  exact lv_if_le hexec hb hdg ht (fun h => kt ((zI_le (a := a) (b := 0) a1 a2 b1 b2).mp h)) (fun h => kf (by have := (not_congr (zI_le (a := a) (b := 0) a1 a2 b1 b2)).mp h; omega))
theorem z_ifeqB (hexec : p.tables.exec = Jvm.exec) (hb : c.code = cc) {b : Bool} {off : Int} {tgt : Nat} (hdg : decode cc pc = .ok (.ifCond .eq off, 3)) (ht : (pc : Int) + off = (tgt : Int)) (kt : b = false → W p l e R s m args below meth c H locs cells slots Q (F0 m (tgt) ls (rest))) (kf : b = true → W p l e R s m args below meth c H locs cells slots Q (F0 m (pc + 3) ls (rest))) : W p l e R s m args below meth c H locs cells slots Q (F0 m (pc) ls (.int (zI (b2 b)) :: rest)) := z_if_eq hexec hb (by have := b2_r b; omega) (by have := b2_r b; omega) hdg ht (fun h => kt (b2_0 h)) (fun h => kf (b2_1 h))
theorem z_ifneB (hexec : p.tables.exec = Jvm.exec) (hb : c.code = cc) {b : Bool} {off : Int} {tgt : Nat} (hdg : decode cc pc = .ok (.ifCond .ne off, 3)) (ht : (pc : Int) + off = (tgt : Int)) (kt : b = true → W p l e R s m args below meth c H locs cells slots Q (F0 m (tgt) ls (rest))) (kf : b = false → W p l e R s m args below meth c H locs cells slots Q (F0 m (pc + 3) ls (rest))) : W p l e R s m args below meth c H locs cells slots Q (F0 m (pc) ls (.int (zI (b2 b)) :: rest)) := z_if_ne hexec hb (by have := b2_r b; omega) (by have := b2_r b; omega) hdg ht (fun h => kt (b2_1 h)) (fun h => kf (b2_0 h))
end ZW
/-! registers: S k j, the number at place j of register k (a field that is no array: at place 0) -/
abbrev St : Type := Nat → Nat → Int
def sA (S : St) (r : Nat) (f : Nat → Int) : St := fun k => if k = r then f else S k
def uZ (f : Nat → Int) (k : Nat) (v : Int) : Nat → Int := fun j => if j = k then v else f j
theorem sA_s (S : St) (r : Nat) (f : Nat → Int) : sA S r f r = f := by simp [sA]
theorem sA_n {S : St} {r k : Nat} {f : Nat → Int} (h : k ≠ r) : sA S r f k = S k := by simp [sA, h]
theorem uZ_s (f : Nat → Int) (k : Nat) (v : Int) : uZ f k v k = v := by simp [uZ]
theorem uZ_n {f : Nat → Int} {k j : Nat} {v : Int} (h : j ≠ k) : uZ f k v j = f j := by simp [uZ, h]
theorem upd_zI (f : Nat → Int) (k : Nat) (v : Int) : upd (fun j => zI (f j)) k (zI v) = fun j => zI (uZ f k v j) := by
  funext j
  unfold upd uZ
  by_cases h : j = k <;> simp [h]
/-- all registers hold ints -/
def RS (S : St) : Prop := ∀ k j, k ≠ 99 → -2147483648 ≤ S k j ∧ S k j < 2147483648
theorem RS.set {S : St} (h : RS S) {r : Nat} {f : Nat → Int} (hf : r ≠ 99 → ∀ j, -2147483648 ≤ f j ∧ f j < 2147483648) : RS (sA S r f) := by
  intro k j hk
  unfold sA
  by_cases e : k = r
  · rw [if_pos e]; exact hf (e ▸ hk) j
  · rw [if_neg e]; exact h k j hk
theorem RS.put {S : St} (h : RS S) {r i : Nat} {v : Int} (h1 : -2147483648 ≤ v) (h2 : v < 2147483648) : RS (sA S r (uZ (S r) i v)) := by
  refine h.set (fun hr j => ?_)
  unfold uZ
  by_cases e : j = i
  · rw [if_pos e]; exact ⟨h1, h2⟩
  · rw [if_neg e]; exact h r j hr
theorem RS.one {S : St} (h : RS S) {r : Nat} {v : Int} (h1 : -2147483648 ≤ v) (h2 : v < 2147483648) : RS (sA S r (fun _ => v)) := h.set (fun _ _ => ⟨h1, h2⟩)

/-- the reference's cells -/
def mW (cI : ClassId) (ad : Nat → Nat) (S : St) : va_W :=
  [(ad 26, .inr (7, [.ref (ad 0), .int (zI (S 1 0)), .int (zI (S 2 0)), .int (zI (S 3 0)), .int (zI (S 4 0)), .ref (ad 5), .ref (ad 6), .ref (ad 7), .int (zI (S 8 0)), .ref (ad 9), .ref (ad 10), .ref (ad 11), .ref (ad 12), .ref (ad 13), .int (zI (S 14 0)), .int (zI (S 15 0)), .ref (ad 16), .int (zI (S 17 0)), .ref (ad 18), .int (zI (S 19 0)), .int (zI (S 20 0)), .int (zI (S 21 0)), .ref (ad 22), .ref (ad 23), .ref (ad 24), .long (zL (S 99 0))])),
   (ad 0, .inl (cI, 9, .inl (fun j => zI (S 0 j)))),
   (ad 5, .inl (cI, 7, .inl (fun j => zI (S 5 j)))),
   (ad 6, .inl (cI, 7, .inl (fun j => zI (S 6 j)))),
   (ad 7, .inl (cI, 462, .inl (fun j => zI (S 7 j)))),
   (ad 9, .inl (cI, 7, .inl (fun j => zI (S 9 j)))),
   (ad 10, .inl (cI, 7, .inl (fun j => zI (S 10 j)))),
   (ad 11, .inl (cI, 7, .inl (fun j => zI (S 11 j)))),
   (ad 12, .inl (cI, 462, .inl (fun j => zI (S 12 j)))),
   (ad 13, .inl (cI, 462, .inl (fun j => zI (S 13 j)))),
   (ad 16, .inl (cI, 18, .inl (fun j => zI (S 16 j)))),
   (ad 18, .inl (cI, 7, .inl (fun j => zI (S 18 j)))),
   (ad 22, .inl (cI, 7, .inl (fun j => zI (S 22 j)))),
   (ad 23, .inl (cI, 7, .inl (fun j => zI (S 23 j)))),
   (ad 24, .inl (cI, 18, .inl (fun j => zI (S 24 j))))]
/-- the class's cells -/
def cW (cI cZ : ClassId) (ad : Nat → Nat) (S : St) : va_W :=
  [(ad 40, .inr (6, [.ref (ad 41), .ref (ad 42), .ref (ad 43), .ref (ad 44), .ref (ad 45), .ref (ad 46), .ref (ad 47), .int (zI (S 32 0)), .int (zI (S 33 0))])),
   (ad 41, .inr (2, [.ref (ad 0), .int (zI (S 1 0))])),
   (ad 42, .inr (0, [.int (zI (S 2 0)), .int (zI (S 3 0)), .ref (ad 4), .ref (ad 5), .ref (ad 6)])),
   (ad 43, .inr (4, [.ref (ad 7), .int (zI (S 8 0)), .int (zI (S 9 0)), .int (zI (S 10 0)), .ref (ad 11), .ref (ad 12), .ref (ad 13)])),
   (ad 44, .inr (4, [.ref (ad 14), .int (zI (S 15 0)), .int (zI (S 16 0)), .int (zI (S 17 0)), .ref (ad 18), .ref (ad 19), .ref (ad 20)])),
   (ad 45, .inr (5, [.int (zI (S 21 0)), .ref (ad 42), .ref (ad 7), .ref (ad 22), .ref (ad 23)])),
   (ad 46, .inr (3, [.ref (ad 42), .int (zI (S 24 0)), .int (zI (S 25 0)), .int (zI (S 26 0)), .ref (ad 27), .ref (ad 28), .ref (ad 29), .ref (ad 30)])),
   (ad 47, .inr (1, [.ref (ad 42), .ref (ad 43), .ref (ad 31)])),
   (ad 0, .inl (cI, 9, .inl (fun j => zI (S 0 j)))),
   (ad 4, .inl (cI, 462, .inl (fun j => zI (S 4 j)))),
   (ad 5, .inl (cI, 462, .inl (fun j => zI (S 5 j)))),
   (ad 6, .inl (cI, 7, .inl (fun j => zI (S 6 j)))),
   (ad 7, .inl (cI, 7, .inl (fun j => zI (S 7 j)))),
   (ad 11, .inl (cI, 6, .inl (fun j => zI (S 11 j)))),
   (ad 12, .inl (cI, 6, .inl (fun j => zI (S 12 j)))),
   (ad 13, .inl (cZ, 6, .inl (fun j => zI (S 13 j)))),
   (ad 14, .inl (cI, 7, .inl (fun j => zI (S 14 j)))),
   (ad 18, .inl (cI, 6, .inl (fun j => zI (S 18 j)))),
   (ad 19, .inl (cI, 6, .inl (fun j => zI (S 19 j)))),
   (ad 20, .inl (cZ, 6, .inl (fun j => zI (S 20 j)))),
   (ad 22, .inl (cZ, 462, .inl (fun j => zI (S 22 j)))),
   (ad 23, .inl (cI, 462, .inl (fun j => zI (S 23 j)))),
   (ad 27, .inl (cI, 463, .inl (fun j => zI (S 27 j)))),
   (ad 28, .inl (cI, 3964, .inl (fun j => zI (S 28 j)))),
   (ad 29, .inl (cI, 462, .inl (fun j => zI (S 29 j)))),
   (ad 30, .inl (cI, 462, .inl (fun j => zI (S 30 j)))),
   (ad 31, .inl (cI, 49, .inl (fun j => zI (S 31 j))))]
def mpos : Nat → Nat := fun k => match k with
  | 26 => 0
  | 0 => 1
  | 5 => 2
  | 6 => 3
  | 7 => 4
  | 9 => 5
  | 10 => 6
  | 11 => 7
  | 12 => 8
  | 13 => 9
  | 16 => 10
  | 18 => 11
  | 22 => 12
  | 23 => 13
  | 24 => 14
  | _ => 0
def mlen : Nat → Nat := fun k => match k with
  | 0 => 9
  | 5 => 7
  | 6 => 7
  | 7 => 462
  | 9 => 7
  | 10 => 7
  | 11 => 7
  | 12 => 462
  | 13 => 462
  | 16 => 18
  | 18 => 7
  | 22 => 7
  | 23 => 7
  | 24 => 18
  | _ => 0
def mArr (r : Nat) : Bool := [0, 5, 6, 7, 9, 10, 11, 12, 13, 16, 18, 22, 23, 24].contains r
def mAd (r : Nat) : Bool := [26, 0, 5, 6, 7, 9, 10, 11, 12, 13, 16, 18, 22, 23, 24].contains r
def cAd (r : Nat) : Bool := [40, 41, 42, 43, 44, 45, 46, 47, 0, 4, 5, 6, 7, 11, 12, 13, 14, 18, 19, 20, 22, 23, 27, 28, 29, 30, 31].contains r
/-- which cells are its own; they are apart -/
def mA (ad : Nat → Nat) : Nat → Prop := fun q => ∃ r, mAd r = true ∧ q = ad r
def mInj (ad : Nat → Nat) : Prop := ∀ i j, mAd i = true → mAd j = true → ad i = ad j → i = j
def mRegs : List Nat := [26, 0, 5, 6, 7, 9, 10, 11, 12, 13, 16, 18, 22, 23, 24]
theorem mW_map (cI : ClassId) (ad : Nat → Nat) (S : St) : (mW cI ad S).map (fun q => q.1) = mRegs.map ad := rfl
theorem mW_ad (cI : ClassId) (ad : Nat → Nat) (S : St) {k : Nat} {q : Nat × va_E} (h : (mW cI ad S)[k]? = some q) : ∃ r, mRegs[k]? = some r ∧ q.1 = ad r := by
  have h1 : ((mW cI ad S).map (fun q => q.1))[k]? = some q.1 := by rw [List.getElem?_map, h]; rfl
  rw [mW_map, List.getElem?_map] at h1
  cases hr : mRegs[k]? with
  | none => rw [hr] at h1; cases h1
  | some r => rw [hr] at h1; exact ⟨r, rfl, (Option.some.inj h1).symm⟩
theorem mRegs_ok : ∀ r ∈ mRegs, mAd r = true := by decide
theorem mRegs_nd : ∀ i, i < 15 → ∀ j, j < 15 → mRegs[i]? = mRegs[j]? → i = j := by decide +kernel
theorem mD {ad : Nat → Nat} (hinj : mInj ad) (cI : ClassId) (S : St) : va_D (mA ad) (mW cI ad S) := by
  refine ⟨fun i j p q hp hq e => ?_, fun k q hq => ?_⟩
  · obtain ⟨r, h1, h2⟩ := mW_ad cI ad S hp
    obtain ⟨r', h3, h4⟩ := mW_ad cI ad S hq
    have e2 : r = r' := hinj r r' (mRegs_ok r (List.mem_of_getElem? h1)) (mRegs_ok r' (List.mem_of_getElem? h3)) (by rw [← h2, ← h4]; exact e)
    subst e2
    exact mRegs_nd i (List.getElem?_eq_some_iff.mp h1).1 j (List.getElem?_eq_some_iff.mp h3).1 (h1.trans h3.symm)
  · obtain ⟨r, h1, h2⟩ := mW_ad cI ad S hq
    exact ⟨r, mRegs_ok r (List.mem_of_getElem? h1), h2⟩
/-- which cells are its own; they are apart -/
def cA (ad : Nat → Nat) : Nat → Prop := fun q => ∃ r, cAd r = true ∧ q = ad r
def cInj (ad : Nat → Nat) : Prop := ∀ i j, cAd i = true → cAd j = true → ad i = ad j → i = j
def cRegs : List Nat := [40, 41, 42, 43, 44, 45, 46, 47, 0, 4, 5, 6, 7, 11, 12, 13, 14, 18, 19, 20, 22, 23, 27, 28, 29, 30, 31]
theorem cW_map (cI cZ : ClassId) (ad : Nat → Nat) (S : St) : (cW cI cZ ad S).map (fun q => q.1) = cRegs.map ad := rfl
theorem cW_ad (cI cZ : ClassId) (ad : Nat → Nat) (S : St) {k : Nat} {q : Nat × va_E} (h : (cW cI cZ ad S)[k]? = some q) : ∃ r, cRegs[k]? = some r ∧ q.1 = ad r := by
  have h1 : ((cW cI cZ ad S).map (fun q => q.1))[k]? = some q.1 := by rw [List.getElem?_map, h]; rfl
  rw [cW_map, List.getElem?_map] at h1
  cases hr : cRegs[k]? with
  | none => rw [hr] at h1; cases h1
  | some r => rw [hr] at h1; exact ⟨r, rfl, (Option.some.inj h1).symm⟩
theorem cRegs_ok : ∀ r ∈ cRegs, cAd r = true := by decide
theorem cRegs_nd : ∀ i, i < 27 → ∀ j, j < 27 → cRegs[i]? = cRegs[j]? → i = j := by decide +kernel
theorem cD {ad : Nat → Nat} (hinj : cInj ad) (cI cZ : ClassId) (S : St) : va_D (cA ad) (cW cI cZ ad S) := by
  refine ⟨fun i j p q hp hq e => ?_, fun k q hq => ?_⟩
  · obtain ⟨r, h1, h2⟩ := cW_ad cI cZ ad S hp
    obtain ⟨r', h3, h4⟩ := cW_ad cI cZ ad S hq
    have e2 : r = r' := hinj r r' (cRegs_ok r (List.mem_of_getElem? h1)) (cRegs_ok r' (List.mem_of_getElem? h3)) (by rw [← h2, ← h4]; exact e)
    subst e2
    exact cRegs_nd i (List.getElem?_eq_some_iff.mp h1).1 j (List.getElem?_eq_some_iff.mp h3).1 (h1.trans h3.symm)
  · obtain ⟨r, h1, h2⟩ := cW_ad cI cZ ad S hq
    exact ⟨r, cRegs_ok r (List.mem_of_getElem? h1), h2⟩
theorem mW_at (cI : ClassId) (ad : Nat → Nat) (S : St) {r : Nat} (hr : mArr r = true) : (mW cI ad S)[mpos r]? = some (ad r, .inl (cI, mlen r, .inl (fun j => zI (S r j)))) := by
  have h : r = 0 ∨ r = 5 ∨ r = 6 ∨ r = 7 ∨ r = 9 ∨ r = 10 ∨ r = 11 ∨ r = 12 ∨ r = 13 ∨ r = 16 ∨ r = 18 ∨ r = 22 ∨ r = 23 ∨ r = 24 := by simpa [mArr] using hr
  rcases h with rfl | rfl | rfl | rfl | rfl | rfl | rfl | rfl | rfl | rfl | rfl | rfl | rfl | rfl <;> rfl
theorem mW_set (cI : ClassId) (ad : Nat → Nat) (S : St) {r : Nat} (hr : mArr r = true) (f : Nat → Int) : (mW cI ad S).set (mpos r) (ad r, .inl (cI, mlen r, .inl (fun j => zI (f j)))) = mW cI ad (sA S r f) := by
  have h : r = 0 ∨ r = 5 ∨ r = 6 ∨ r = 7 ∨ r = 9 ∨ r = 10 ∨ r = 11 ∨ r = 12 ∨ r = 13 ∨ r = 16 ∨ r = 18 ∨ r = 22 ∨ r = 23 ∨ r = 24 := by simpa [mArr] using hr
  rcases h with rfl | rfl | rfl | rfl | rfl | rfl | rfl | rfl | rfl | rfl | rfl | rfl | rfl | rfl <;> rfl

