/-! bits -/
theorem z_sl : ∀ n, n < 32 → ((nI n &&& 31).toBitVec.smod 32).toNat = n := by decide +kernel
theorem z_fand (a b : Nat) : nI a &&& nI b = nI (a &&& b) := by
  apply Int32.toBitVec_inj.1
  show BitVec.ofNat 32 a &&& BitVec.ofNat 32 b = BitVec.ofNat 32 (a &&& b)
  apply BitVec.eq_of_getLsbD_eq
  intro i hi
  simp [hi]
theorem z_for (a b : Nat) : nI a ||| nI b = nI (a ||| b) := by
  apply Int32.toBitVec_inj.1
  show BitVec.ofNat 32 a ||| BitVec.ofNat 32 b = BitVec.ofNat 32 (a ||| b)
  apply BitVec.eq_of_getLsbD_eq
  intro i hi
  simp [hi]
theorem zI_shl {a : Int} {k : Nat} (hk : k < 32) (h0 : 0 ≤ a) (h1 : a * 2 ^ k < 2147483648) : zI a <<< (zI (k : Int) &&& 31) = zI (a * 2 ^ k) := by
  obtain ⟨x, rfl⟩ := Int.eq_ofNat_of_zero_le h0
  have e : ((x : Int) * 2 ^ k) = ((x * 2 ^ k : Nat) : Int) := by simp
  rw [e] at h1 ⊢
  rw [zI_nat, zI_nat, zI_nat]
  exact pk_shlN _ k (z_sl k hk) (by omega)
theorem zI_shr {a : Int} {k : Nat} (hk : k < 32) (h0 : 0 ≤ a) (h1 : a < 2147483648) : zI a >>> (zI (k : Int) &&& 31) = zI (a / 2 ^ k) := by
  obtain ⟨x, rfl⟩ := Int.eq_ofNat_of_zero_le h0
  have e : ((x : Int) / 2 ^ k) = ((x / 2 ^ k : Nat) : Int) := by simp
  rw [e, zI_nat, zI_nat, zI_nat]
  exact pk_shrN (by omega) _ k (z_sl k hk)
theorem zI_andM {a : Int} (k : Nat) (h0 : 0 ≤ a) : zI a &&& zI (2 ^ k - 1) = zI (a % 2 ^ k) := by
  obtain ⟨x, rfl⟩ := Int.eq_ofNat_of_zero_le h0
  have e : ((x : Int) % 2 ^ k) = ((x % 2 ^ k : Nat) : Int) := by simp
  have hp : 1 ≤ 2 ^ k := Nat.one_le_two_pow
  have e2 : ((2 : Int) ^ k - 1) = ((2 ^ k - 1 : Nat) : Int) := by
    rw [Int.ofNat_sub hp]; simp
  rw [e, e2, zI_nat, zI_nat, zI_nat, z_fand, Nat.and_two_pow_sub_one_eq_mod]
theorem zI_orS {a b : Int} (k : Nat) (h0 : 0 ≤ a) (ha : a % 2 ^ k = 0) (hb0 : 0 ≤ b) (hb : b < 2 ^ k) : zI a ||| zI b = zI (a + b) := by
  obtain ⟨x, rfl⟩ := Int.eq_ofNat_of_zero_le h0
  obtain ⟨y, rfl⟩ := Int.eq_ofNat_of_zero_le hb0
  have ha2 : x % 2 ^ k = 0 := by
    have e : ((x : Int) % 2 ^ k) = ((x % 2 ^ k : Nat) : Int) := by simp
    rw [e] at ha; omega
  have hb2 : y < 2 ^ k := by
    have e : ((2 : Int) ^ k) = ((2 ^ k : Nat) : Int) := by simp
    rw [e] at hb; omega
  have hx : x = 2 ^ k * (x / 2 ^ k) := by have := Nat.div_add_mod x (2 ^ k); omega
  rw [zI_nat, zI_nat, z_for, hx, ← Nat.two_pow_add_eq_or_of_lt hb2, ← zI_nat]
  congr 1
section ZB
variable {p : Program} {l : Launch} {e : Env} {R : Room} {s : State} {m : MethodId} {args : Array Value} {below : List Frame} {meth : Method} {c : Code} {H : Heap} {locs : List Loc} {cells slots : Nat} {Q : State → Prop}
variable {cc : ByteArray} {pc : Nat} {ls : Array Slot} {rest : List Value}
theorem z_ishl (hexec : p.tables.exec = Jvm.exec) (hb : c.code = cc) {a b : Int} (k : Nat) (hbk : b = ↑k) (hk : k < 32) (h0 : 0 ≤ a) (h1 : a * 2 ^ k < 2147483648) (hdg : decode cc pc = .ok (.ishl, 1)) (kk : W p l e R s m args below meth c H locs cells slots Q (F0 m (pc + 1) ls (.int (zI (a * 2 ^ k)) :: rest))) : W p l e R s m args below meth c H locs cells slots Q (F0 m pc ls (.int (zI b) :: .int (zI a) :: rest)) := by
  subst hbk
  exact lv_ishl hexec hb hdg (by rw [zI_shl hk h0 h1]; exact kk)
theorem z_ishr (hexec : p.tables.exec = Jvm.exec) (hb : c.code = cc) {a b : Int} (k : Nat) (hbk : b = ↑k) (hk : k < 32) (h0 : 0 ≤ a) (h1 : a < 2147483648) (hdg : decode cc pc = .ok (.ishr, 1)) (kk : W p l e R s m args below meth c H locs cells slots Q (F0 m (pc + 1) ls (.int (zI (a / 2 ^ k)) :: rest))) : W p l e R s m args below meth c H locs cells slots Q (F0 m pc ls (.int (zI b) :: .int (zI a) :: rest)) := by
  subst hbk
  exact lv_ishr hexec hb hdg (by rw [zI_shr hk h0 h1]; exact kk)
theorem z_iandM (hexec : p.tables.exec = Jvm.exec) (hb : c.code = cc) {a b : Int} (k : Nat) (hbk : b = 2 ^ k - 1) (h0 : 0 ≤ a) (hdg : decode cc pc = .ok (.iand, 1)) (kk : W p l e R s m args below meth c H locs cells slots Q (F0 m (pc + 1) ls (.int (zI (a % 2 ^ k)) :: rest))) : W p l e R s m args below meth c H locs cells slots Q (F0 m pc ls (.int (zI b) :: .int (zI a) :: rest)) := by
  subst hbk
  exact lv_iand hexec hb hdg (by rw [zI_andM k h0]; exact kk)
theorem z_iorS (hexec : p.tables.exec = Jvm.exec) (hb : c.code = cc) {a b : Int} (k : Nat) (h0 : 0 ≤ a) (ha : a % 2 ^ k = 0) (hb0 : 0 ≤ b) (hbk : b < 2 ^ k) (hdg : decode cc pc = .ok (.ior, 1)) (kk : W p l e R s m args below meth c H locs cells slots Q (F0 m (pc + 1) ls (.int (zI (a + b)) :: rest))) : W p l e R s m args below meth c H locs cells slots Q (F0 m pc ls (.int (zI b) :: .int (zI a) :: rest)) := lv_ior hexec hb hdg (by rw [zI_orS k h0 ha hb0 hbk]; exact kk)
end ZB
/-! the class's side: what the tables say, and the text of the letters -/
def cE (D : va_G) (cI cZ : ClassId) (ad : Nat → Nat) (az av : Nat) (U : State) : Prop :=
  va_K D vwCl [(cI, .int), (cZ, .boolean)] U ∧ va_Nw (.methodLinkNest RX5 50 yX6_isOfKind RX6) U ∧ va_Nw (.methodLinkNest RX5 68 yX6_thickness RX6) U ∧ vk_R RX2 19 "lbwct" az U ∧ vk_R RX6 251 "lbwct" az U ∧ vk_S 1 [5] [[108, 98, 119, 99, 116]] (fun _ => az) (fun _ => av) (cA ad) U U.heap ∧ va_Z "java/lang/String" "COMPACT_STRINGS" "Z" (.int 1) (cA ad) U U.heap
theorem cEb (D : va_G) (cI cZ : ClassId) (ad : Nat → Nat) (az av : Nat) : Eb (cE D cI cZ ad az av) := by
  intro a U g mk h
  obtain ⟨h1, h2, h3, h4, h5, h6, h7⟩ := h
  exact ⟨va_K.moved (u := U) (U := U.calling g mk a) (Vm.Alike.refl U.vm) h1, va_Nw.same (u := U) rfl rfl h2, va_Nw.same (u := U) rfl rfl h3, vk_R.same (u := U) rfl h4, vk_R.same (u := U) rfl h5, vk_S.moved (u := U) (U := U.calling g mk a) (Vm.Alike.refl U.vm) h6, va_Z.moved (u := U) (U := U.calling g mk a) (Vm.Alike.refl U.vm) h7⟩
theorem cEk (D : va_G) (cI cZ : ClassId) (ad : Nat → Nat) (az av : Nat) : Ek (cE D cI cZ ad az av) (cA ad) := by
  intro s U H locs h hS hH hW
  obtain ⟨h1, h2, h3, h4, h5, h6, h7⟩ := h
  refine ⟨va_K.moved hW.alike h1, va_Nw.warmM hW h2, va_Nw.warmM hW h3, vk_R.warm hW h4, vk_R.warm hW h5, ?_, ?_⟩
  · rw [hH]; exact (vk_S.moved hW.alike h6).kept hS.2.1
  · rw [hH]; exact (va_Z.moved hW.alike h7).kept hS.2.1
