/-! the text of the letters -/
def btF (j : Nat) : Int := if j = 0 then 108 else if j = 1 then 98 else if j = 2 then 119 else if j = 3 then 99 else 116
theorem bt_eq : ∀ j, j < 5 → (([[108, 98, 119, 99, 116]] : List (List Int32)).getD 0 []).getD j 0 = zI (btF j) := by decide +kernel
theorem z_i2cE : ∀ a : Nat, a < 128 → ((zI (a : Int)).toUInt32 % 65536).toInt32 = zI (a : Int) := by decide +kernel
theorem z_i2bE : ∀ a : Nat, a < 128 → (zI (a : Int)).toInt8.toInt32 = zI (a : Int) := by decide +kernel
theorem kb_no {c : Int} (h : ∀ j, j < 5 → btF j ≠ c) : kbF c = -1 := by
  have h0 := h 0 (by omega); have h1 := h 1 (by omega); have h2 := h 2 (by omega); have h3 := h 3 (by omega); have h4 := h 4 (by omega)
  simp only [btF] at h0 h1 h2 h3 h4
  simp at h0 h1 h2 h3 h4
  unfold kbF
  rw [if_neg (by omega), if_neg (by omega), if_neg (by omega), if_neg (by omega), if_neg (by omega)]
theorem kb_at : ∀ j, j < 5 → kbF (btF j) = ↑j := by decide
theorem bt_r (j : Nat) : 98 ≤ btF j ∧ btF j ≤ 119 := by unfold btF; (repeat' split) <;> omega
section ZT
variable {p : Program} {l : Launch} {e : Env} {R : Room} {s : State} {m : MethodId} {args : Array Value} {below : List Frame} {meth : Method} {c : Code} {H : Heap} {locs : List Loc} {cells slots : Nat} {Q : State → Prop}
variable {cc : ByteArray} {pc : Nat} {ls : Array Slot} {rest : List Value} {D : va_G} {cI cZ : ClassId} {ad : Nat → Nat} {az av : Nat} {own : String}
theorem z_cs (hexec : p.tables.exec = Jvm.exec) (hb : c.code = cc) (hE : cE D cI cZ ad az av s) (hS : va_S (cA ad) s.heap H locs) (hown : s.vm.findClass own = some m.cls) {index : Nat} (hlink : (Cond.fieldLink own index "java/lang/String" "COMPACT_STRINGS" "Z").before args s = true) (hdg : decode cc pc = .ok (.getstatic index, 3)) (k : W p l e R s m args below meth c H locs cells slots Q (F0 m (pc + 3) ls (.int (zI 1) :: rest))) : W p l e R s m args below meth c H locs cells slots Q (F0 m pc ls rest) :=
  va_gets hexec hb hE.2.2.2.2.2.2 hS hown hlink (fun _ h => h) hdg k
theorem z_cod (hexec : p.tables.exec = Jvm.exec) (hb : c.code = cc) (hE : cE D cI cZ ad az av s) (hS : va_S (cA ad) s.heap H locs) (hown : s.vm.findClass own = some m.cls) {index : Nat} (hlink : (Cond.fieldLink own index "java/lang/String" "coder" "B").before args s = true) (hdg : decode cc pc = .ok (.getfield index, 3)) (k : W p l e R s m args below meth c H locs cells slots Q (F0 m (pc + 3) ls (.int (zI 0) :: rest))) : W p l e R s m args below meth c H locs cells slots Q (F0 m pc ls (.ref az :: rest)) :=
  vk_getf hexec hb (hE.2.2.2.2.2.1.1 0 (by decide)).2.1 hS hown hlink (fun _ h => h) hdg k
theorem z_val (hexec : p.tables.exec = Jvm.exec) (hb : c.code = cc) (hE : cE D cI cZ ad az av s) (hS : va_S (cA ad) s.heap H locs) (hown : s.vm.findClass own = some m.cls) {index : Nat} (hlink : (Cond.fieldLink own index "java/lang/String" "value" "[B").before args s = true) (hdg : decode cc pc = .ok (.getfield index, 3)) (k : W p l e R s m args below meth c H locs cells slots Q (F0 m (pc + 3) ls (.ref av :: rest))) : W p l e R s m args below meth c H locs cells slots Q (F0 m pc ls (.ref az :: rest)) :=
  vk_getf hexec hb (hE.2.2.2.2.2.1.1 0 (by decide)).2.2.1 hS hown hlink (fun _ h => h) hdg k
theorem z_blen (hexec : p.tables.exec = Jvm.exec) (hb : c.code = cc) (hE : cE D cI cZ ad az av s) (hS : va_S (cA ad) s.heap H locs) (hdg : decode cc pc = .ok (.arraylength, 1)) (k : W p l e R s m args below meth c H locs cells slots Q (F0 m (pc + 1) ls (.int (zI 5) :: rest))) : W p l e R s m args below meth c H locs cells slots Q (F0 m pc ls (.ref av :: rest)) :=
  va_tlen hexec hb (hE.2.2.2.2.2.1.1 0 (by decide)).2.2.2 hS rfl hdg k
theorem z_bal (hexec : p.tables.exec = Jvm.exec) (hb : c.code = cc) (hE : cE D cI cZ ad az av s) (hS : va_S (cA ad) s.heap H locs) {j : Nat} (hj : j < 5) (hdg : decode cc pc = .ok (.baload, 1)) (k : W p l e R s m args below meth c H locs cells slots Q (F0 m (pc + 1) ls (.int (zI (btF j)) :: rest))) : W p l e R s m args below meth c H locs cells slots Q (F0 m pc ls (.int (zI ↑j) :: .ref av :: rest)) := by
  rw [zI_nat]
  exact va_tb hexec hb (hE.2.2.2.2.2.1.1 0 (by decide)).2.2.2 hS (i := nI j) (vp_in_nI hj (by decide)) (by rw [nI_clamp (by omega)]; exact congrArg Value.int (bt_eq j hj)) hdg k
theorem z_i2c (hexec : p.tables.exec = Jvm.exec) (hb : c.code = cc) {a : Int} (h0 : 0 ≤ a) (h1 : a < 128) (hdg : decode cc pc = .ok (.i2c, 1)) (k : W p l e R s m args below meth c H locs cells slots Q (F0 m (pc + 1) ls (.int (zI a) :: rest))) : W p l e R s m args below meth c H locs cells slots Q (F0 m pc ls (.int (zI a) :: rest)) := by
  obtain ⟨x, rfl⟩ := Int.eq_ofNat_of_zero_le h0
  exact lv_i2c hexec hb hdg (z_i2cE x (by omega)) k
theorem z_i2b (hexec : p.tables.exec = Jvm.exec) (hb : c.code = cc) {a : Int} (h0 : 0 ≤ a) (h1 : a < 128) (hdg : decode cc pc = .ok (.i2b, 1)) (k : W p l e R s m args below meth c H locs cells slots Q (F0 m (pc + 1) ls (.int (zI a) :: rest))) : W p l e R s m args below meth c H locs cells slots Q (F0 m pc ls (.int (zI a) :: rest)) := by
  obtain ⟨x, rfl⟩ := Int.eq_ofNat_of_zero_le h0
  exact lv_i2b hexec hb hdg (z_i2bE x (by omega)) k
theorem g_bret {Wf : St → va_W} {A : Nat → Prop} {post : Int32 → St → Prop} {S1 : St} (hx : p.tables.exec = Jvm.exec) (hb : c.code = cc) (hr : meth.sig.returnType = some .byte) (hlocks : meth.locks = false) (hP : va_P D vwCl (Wf S1) H) (hR : RS S1) (hS : va_S A s.heap H locs) (hp : post (zI 0) S1) (hdg : decode cc pc = .ok (.ireturn, 1)) : W p l e R s m args below meth c H locs cells slots (MQ below (va_Qi post (gB D Wf) A) args s cells slots A) (F0 m pc ls [.int (zI 0)]) :=
  W.zret (v := zI 0) hx hb hr (by decide) (fun t ht hW => ⟨⟨zI 0, S1, rfl, hp, by rw [gB, ht]; exact ⟨hP, hR⟩⟩, hS.F ht⟩) hS.2.2 hdg hlocks
end ZT
theorem hdJ0_length_8abf5 : yJ0_length_8abf5.cls = RJ0 ∧ yJ0_length_8abf5.cls ≠ "java/lang/invoke/MethodHandle" ∧ yJ0_length_8abf5.cls ≠ "java/lang/invoke/VarHandle" ∧ (parseMethodDescriptor yJ0_length_8abf5.desc).map (fun d => d.parameters.length) = some 0 := by decide +kernel
theorem hdJ0_indexOf_0f7a4 : yJ0_indexOf_0f7a4.cls = RJ0 ∧ yJ0_indexOf_0f7a4.cls ≠ "java/lang/invoke/MethodHandle" ∧ yJ0_indexOf_0f7a4.cls ≠ "java/lang/invoke/VarHandle" ∧ (parseMethodDescriptor yJ0_indexOf_0f7a4.desc).map (fun d => d.parameters.length) = some 1 := by decide +kernel
theorem hdJ0_indexOf_7cf53 : yJ0_indexOf_7cf53.cls = RJ0 ∧ yJ0_indexOf_7cf53.cls ≠ "java/lang/invoke/MethodHandle" ∧ yJ0_indexOf_7cf53.cls ≠ "java/lang/invoke/VarHandle" ∧ (parseMethodDescriptor yJ0_indexOf_7cf53.desc).map (fun d => d.parameters.length) = some 2 := by decide +kernel
theorem hdJ0_coder_7d493 : yJ0_coder_7d493.cls = RJ0 ∧ yJ0_coder_7d493.cls ≠ "java/lang/invoke/MethodHandle" ∧ yJ0_coder_7d493.cls ≠ "java/lang/invoke/VarHandle" ∧ (parseMethodDescriptor yJ0_coder_7d493.desc).map (fun d => d.parameters.length) = some 0 := by decide +kernel
theorem hdJ0_isLatin1_aae02 : yJ0_isLatin1_aae02.cls = RJ0 ∧ yJ0_isLatin1_aae02.cls ≠ "java/lang/invoke/MethodHandle" ∧ yJ0_isLatin1_aae02.cls ≠ "java/lang/invoke/VarHandle" ∧ (parseMethodDescriptor yJ0_isLatin1_aae02.desc).map (fun d => d.parameters.length) = some 0 := by decide +kernel
theorem hdJ1_canEncode_9a6ad : yJ1_canEncode_9a6ad.cls = RJ1 ∧ yJ1_canEncode_9a6ad.cls ≠ "java/lang/invoke/MethodHandle" ∧ yJ1_canEncode_9a6ad.cls ≠ "java/lang/invoke/VarHandle" ∧ (parseMethodDescriptor yJ1_canEncode_9a6ad.desc).map (fun d => d.parameters.length) = some 1 := by decide +kernel
theorem hdJ1_indexOf_4cfef : yJ1_indexOf_4cfef.cls = RJ1 ∧ yJ1_indexOf_4cfef.cls ≠ "java/lang/invoke/MethodHandle" ∧ yJ1_indexOf_4cfef.cls ≠ "java/lang/invoke/VarHandle" ∧ (parseMethodDescriptor yJ1_indexOf_4cfef.desc).map (fun d => d.parameters.length) = some 4 := by decide +kernel
theorem hdJ1_indexOfChar_4cfef : yJ1_indexOfChar_4cfef.cls = RJ1 ∧ yJ1_indexOfChar_4cfef.cls ≠ "java/lang/invoke/MethodHandle" ∧ yJ1_indexOfChar_4cfef.cls ≠ "java/lang/invoke/VarHandle" ∧ (parseMethodDescriptor yJ1_indexOfChar_4cfef.desc).map (fun d => d.parameters.length) = some 4 := by decide +kernel
theorem gSx {Ts : List Cond} (hT : ∀ w ∈ lwT, w ∈ Ts) {own : String} {idx : Nat} {y : MethodName} {cB : Cond} (h1 : Cond.methodLink own idx y ∈ lwT) (h2 : Cond.static y ∈ lwT) (h4 : Cond.initialized y.cls ∈ lwT) (h5 : cB ∈ lwT) : GoodIn Ts (va_wsS own idx y (cB :: lwT)) := by
  have hq : ∀ w ∈ va_wsS own idx y (cB :: lwT), w ∈ lwT := by
    intro w hw
    unfold va_wsS at hw
    rcases List.mem_append.mp hw with h | h
    · simp only [List.mem_cons, List.not_mem_nil, or_false] at h
      rcases h with rfl | rfl | rfl <;> assumption
    · rcases List.mem_cons.mp h with rfl | h
      · exact h5
      · exact h
  exact fun w hw => ⟨hT w (hq w hw), lwT_good w (hq w hw)⟩
