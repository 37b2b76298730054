set_option maxHeartbeats 4000000 in
set_option maxRecDepth 100000 in
theorem k_J0_coder_7d493 (l : Launch) (D : va_G) (cI cZ : ClassId) (ad : Nat → Nat) (az av : Nat) (hinj : cInj ad) (S : St) (hR : RS S)  : Met l yJ0_coder_7d493 (Cond.code yJ0_coder_7d493 cJ0_coder_7d493 1 (some .byte) :: lwT) ({ frames := 0, cells := 0, slots := 0, locals := 0 }) (gPc D (cW cI cZ ad) (cE D cI cZ ad az av) S [.ref az]) (va_Qi (fun (r : Int32) (S' : St) => S' = S ∧ r = zI 0) (gB D (cW cI cZ ad)) (cA ad)) 0 0 (cA ad) := by
  refine Met.ofW (cc := cJ0_coder_7d493) (maxL := 1) (ret := (some .byte)) (by decide) rfl ?_
  intro p e s m args below meth c s₁ B hml hv
  obtain ⟨rfl, hP, hE⟩ := hv
  have hx := B.exec
  have hb := B.bytes
  have hr := B.returns
  have hts := atoms_spec (ws := Cond.code yJ0_coder_7d493 cJ0_coder_7d493 1 (some .byte) :: lwT) B.pre
  have hT := fun w (h : w ∈ lwT) => hts w (List.mem_cons_of_mem _ h)
  have hsub : ∀ w ∈ lwT, w ∈ (Cond.code yJ0_coder_7d493 cJ0_coder_7d493 1 (some .byte) :: lwT) := fun w h => List.mem_cons_of_mem _ h
  have hown : s.vm.findClass RJ0 = some m.cls := findClass_of_methodNamed B.named
  have hlocks := B.notSynchronized
  have hK : va_K D vwCl [(cI, .int), (cZ, .boolean)] s := hE.1
  have hS : va_S (cA ad) s.heap s.heap [] := va_S.rf
  have hl := lv_entry ([.ref az]) (n := 1) (Nat.le_of_ble_eq_true rfl)
  rw [lg_entry_eq]
  generalize (lg_sl ([.ref az]) ++ List.replicate (1 - (lg_sl ([.ref az])).length) Slot.unset).toArray = ls at hl ⊢
  have hl : lv_has ls 1 [(0, .ref az)] := hl
  refine z_cs hx hb hE hS hown (hT _ q_241) dJ0_coder_7d493_0 ?_
  refine z_if_eq (tgt := 13) hx hb (by omega) (by omega) dJ0_coder_7d493_3 (by decide) (fun c_1 => ?_) (fun c_1 => ?_)
  · exact False.elim (by omega)
  · have h9 : True := trivial
    refine lv_aload_n hx hb dJ0_coder_7d493_6 rfl (lv_at hl 0 rfl) ?_
    refine z_cod hx hb hE hS hown (hT _ q_1073) dJ0_coder_7d493_7 ?_
    refine lv_goto (tgt := 14) hx hb dJ0_coder_7d493_10 (by decide) ?_
    exact g_bret (S1 := S) hx hb hr hlocks hP hR hS (⟨rfl, rfl⟩) dJ0_coder_7d493_14
set_option maxHeartbeats 4000000 in
set_option maxRecDepth 100000 in
theorem k_J0_isLatin1_aae02 (l : Launch) (D : va_G) (cI cZ : ClassId) (ad : Nat → Nat) (az av : Nat) (hinj : cInj ad) (S : St) (hR : RS S)  : Met l yJ0_isLatin1_aae02 (Cond.code yJ0_isLatin1_aae02 cJ0_isLatin1_aae02 1 (some .boolean) :: lwT) ({ frames := 0, cells := 0, slots := 0, locals := 0 }) (gPc D (cW cI cZ ad) (cE D cI cZ ad az av) S [.ref az]) (va_Qi (fun (r : Int32) (S' : St) => S' = S ∧ r = zI 1) (gB D (cW cI cZ ad)) (cA ad)) 0 0 (cA ad) := by
  refine Met.ofW (cc := cJ0_isLatin1_aae02) (maxL := 1) (ret := (some .boolean)) (by decide) rfl ?_
  intro p e s m args below meth c s₁ B hml hv
  obtain ⟨rfl, hP, hE⟩ := hv
  have hx := B.exec
  have hb := B.bytes
  have hr := B.returns
  have hts := atoms_spec (ws := Cond.code yJ0_isLatin1_aae02 cJ0_isLatin1_aae02 1 (some .boolean) :: lwT) B.pre
  have hT := fun w (h : w ∈ lwT) => hts w (List.mem_cons_of_mem _ h)
  have hsub : ∀ w ∈ lwT, w ∈ (Cond.code yJ0_isLatin1_aae02 cJ0_isLatin1_aae02 1 (some .boolean) :: lwT) := fun w h => List.mem_cons_of_mem _ h
  have hown : s.vm.findClass RJ0 = some m.cls := findClass_of_methodNamed B.named
  have hlocks := B.notSynchronized
  have hK : va_K D vwCl [(cI, .int), (cZ, .boolean)] s := hE.1
  have hS : va_S (cA ad) s.heap s.heap [] := va_S.rf
  have hl := lv_entry ([.ref az]) (n := 1) (Nat.le_of_ble_eq_true rfl)
  rw [lg_entry_eq]
  generalize (lg_sl ([.ref az]) ++ List.replicate (1 - (lg_sl ([.ref az])).length) Slot.unset).toArray = ls at hl ⊢
  have hl : lv_has ls 1 [(0, .ref az)] := hl
  refine z_cs hx hb hE hS hown (hT _ q_241) dJ0_isLatin1_aae02_0 ?_
  refine z_if_eq (tgt := 17) hx hb (by omega) (by omega) dJ0_isLatin1_aae02_3 (by decide) (fun c_1 => ?_) (fun c_1 => ?_)
  · exact False.elim (by omega)
  · have h9 : True := trivial
    refine lv_aload_n hx hb dJ0_isLatin1_aae02_6 rfl (lv_at hl 0 rfl) ?_
    refine z_cod hx hb hE hS hown (hT _ q_1073) dJ0_isLatin1_aae02_7 ?_
    refine z_if_ne (tgt := 17) hx hb (by omega) (by omega) dJ0_isLatin1_aae02_10 (by decide) (fun c_2 => ?_) (fun c_2 => ?_)
    · exact False.elim (by omega)
    · have h9 : True := trivial
      refine z_iconst hx hb dJ0_isLatin1_aae02_13 ?_
      refine lv_goto (tgt := 18) hx hb dJ0_isLatin1_aae02_14 (by decide) ?_
      exact g_zret (S1 := S) (bo := true) hx hb hr hlocks hP hR hS (⟨rfl, rfl⟩) dJ0_isLatin1_aae02_18
set_option maxHeartbeats 4000000 in
set_option maxRecDepth 100000 in
theorem k_J0_length_8abf5 (l : Launch) (D : va_G) (cI cZ : ClassId) (ad : Nat → Nat) (az av : Nat) (hinj : cInj ad) (S : St) (hR : RS S)  : Met l yJ0_length_8abf5 (Cond.code yJ0_length_8abf5 cJ0_length_8abf5 1 (some .int) :: lwT) ({ frames := 1, cells := 0, slots := 0, locals := 20 }) (gPc D (cW cI cZ ad) (cE D cI cZ ad az av) S [.ref az]) (va_Qi (fun (r : Int32) (S' : St) => S' = S ∧ r = zI 5) (gB D (cW cI cZ ad)) (cA ad)) 0 0 (cA ad) := by
  refine Met.ofW (cc := cJ0_length_8abf5) (maxL := 1) (ret := (some .int)) (by decide) rfl ?_
  intro p e s m args below meth c s₁ B hml hv
  obtain ⟨rfl, hP, hE⟩ := hv
  have hx := B.exec
  have hb := B.bytes
  have hr := B.returns
  have hts := atoms_spec (ws := Cond.code yJ0_length_8abf5 cJ0_length_8abf5 1 (some .int) :: lwT) B.pre
  have hT := fun w (h : w ∈ lwT) => hts w (List.mem_cons_of_mem _ h)
  have hsub : ∀ w ∈ lwT, w ∈ (Cond.code yJ0_length_8abf5 cJ0_length_8abf5 1 (some .int) :: lwT) := fun w h => List.mem_cons_of_mem _ h
  have hown : s.vm.findClass RJ0 = some m.cls := findClass_of_methodNamed B.named
  have hlocks := B.notSynchronized
  have hK : va_K D vwCl [(cI, .int), (cZ, .boolean)] s := hE.1
  have hS : va_S (cA ad) s.heap s.heap [] := va_S.rf
  have hl := lv_entry ([.ref az]) (n := 1) (Nat.le_of_ble_eq_true rfl)
  rw [lg_entry_eq]
  generalize (lg_sl ([.ref az]) ++ List.replicate (1 - (lg_sl ([.ref az])).length) Slot.unset).toArray = ls at hl ⊢
  have hl : lv_has ls 1 [(0, .ref az)] := hl
  refine lv_aload_n hx hb dJ0_length_8abf5_0 rfl (lv_at hl 0 rfl) ?_
  refine z_val hx hb hE hS hown (hT _ q_1074) dJ0_length_8abf5_1 ?_
  refine z_blen hx hb hE hS dJ0_length_8abf5_4 ?_
  refine lv_aload_n hx hb dJ0_length_8abf5_5 rfl (lv_at hl 0 rfl) ?_
  refine g_callVi (As := []) (rest := [.int (zI (5))]) ⟨hx, hb, hml, hown, hts⟩ (k_J0_coder_7d493 l D cI cZ ad az av hinj S hR ) (cwV 0 hts (gV hsub q_247 q_248 q_249 q_9 q_250) rfl rfl rfl hdJ0_coder_7d493 ⟨Nat.le_of_ble_eq_true rfl, Nat.le_of_ble_eq_true rfl⟩) (cEb D cI cZ ad az av) (cEk D cI cZ ad az av) hE (vk_recv (i := 0) hE.2.2.2.2.2.1 (by decide) hS) hP hS rfl hl.1 rfl (Nat.le_of_ble_eq_true rfl) dJ0_length_8abf5_6 ⟨Nat.le_of_ble_eq_true rfl, Nat.le_of_ble_eq_true rfl⟩ (fun r_1 S_2 H locs hq_3 hP hR hS _ => ?_)
  obtain ⟨hs9, rfl⟩ := hq_3
  obtain rfl := hs9.symm
  refine z_top (b := 0) rfl ?_
  refine z_ishr hx hb (0) (by omega) (by omega) (by omega) (by omega) dJ0_length_8abf5_9 ?_
  exact g_iret (S1 := S) (v := zI (5 / 2 ^ 0)) hx hb hr hlocks hP hR hS (⟨rfl, rfl⟩) dJ0_length_8abf5_10
set_option maxHeartbeats 4000000 in
set_option maxRecDepth 100000 in
theorem k_J1_canEncode_9a6ad (l : Launch) (D : va_G) (cI cZ : ClassId) (ad : Nat → Nat) (az av : Nat) (hinj : cInj ad) (S : St) (hR : RS S) (x : Int) (hx1 : 0 ≤ x ∧ x < 128) : Met l yJ1_canEncode_9a6ad (Cond.code yJ1_canEncode_9a6ad cJ1_canEncode_9a6ad 1 (some .boolean) :: lwT) ({ frames := 0, cells := 0, slots := 0, locals := 0 }) (gPc D (cW cI cZ ad) (cE D cI cZ ad az av) S [.int (zI (x))]) (va_Qi (fun (r : Int32) (S' : St) => S' = S ∧ r = zI 1) (gB D (cW cI cZ ad)) (cA ad)) 0 0 (cA ad) := by
  refine Met.ofW (cc := cJ1_canEncode_9a6ad) (maxL := 1) (ret := (some .boolean)) (by decide) rfl ?_
  intro p e s m args below meth c s₁ B hml hv
  obtain ⟨rfl, hP, hE⟩ := hv
  have hx := B.exec
  have hb := B.bytes
  have hr := B.returns
  have hts := atoms_spec (ws := Cond.code yJ1_canEncode_9a6ad cJ1_canEncode_9a6ad 1 (some .boolean) :: lwT) B.pre
  have hT := fun w (h : w ∈ lwT) => hts w (List.mem_cons_of_mem _ h)
  have hsub : ∀ w ∈ lwT, w ∈ (Cond.code yJ1_canEncode_9a6ad cJ1_canEncode_9a6ad 1 (some .boolean) :: lwT) := fun w h => List.mem_cons_of_mem _ h
  have hown : s.vm.findClass RJ1 = some m.cls := findClass_of_methodNamed B.named
  have hlocks := B.notSynchronized
  have hK : va_K D vwCl [(cI, .int), (cZ, .boolean)] s := hE.1
  have hS : va_S (cA ad) s.heap s.heap [] := va_S.rf
  have hl := lv_entry ([.int (zI (x))]) (n := 1) (Nat.le_of_ble_eq_true rfl)
  rw [lg_entry_eq]
  generalize (lg_sl ([.int (zI (x))]) ++ List.replicate (1 - (lg_sl ([.int (zI (x))])).length) Slot.unset).toArray = ls at hl ⊢
  have hl : lv_has ls 1 [(0, .int (zI (x)))] := hl
  refine lv_iload_n hx hb dJ1_canEncode_9a6ad_0 rfl (lv_at hl 0 rfl) ?_
  refine z_if_lt (tgt := 15) hx hb (by omega) (by omega) dJ1_canEncode_9a6ad_1 (by decide) (fun c_1 => ?_) (fun c_1 => ?_)
  · exact False.elim (by omega)
  · have h9 : True := trivial
    refine lv_iload_n hx hb dJ1_canEncode_9a6ad_4 rfl (lv_at hl 0 rfl) ?_
    refine z_sipush hx hb dJ1_canEncode_9a6ad_5 (by decide) ?_
    refine z_icmp_gt (tgt := 15) hx hb (by omega) (by omega) (by omega) (by omega) dJ1_canEncode_9a6ad_8 (by decide) (fun c_2 => ?_) (fun c_2 => ?_)
    · exact False.elim (by omega)
    · have h9 : True := trivial
      refine z_iconst hx hb dJ1_canEncode_9a6ad_11 ?_
      refine lv_goto (tgt := 16) hx hb dJ1_canEncode_9a6ad_12 (by decide) ?_
      exact g_zret (S1 := S) (bo := true) hx hb hr hlocks hP hR hS (⟨rfl, rfl⟩) dJ1_canEncode_9a6ad_16
set_option maxHeartbeats 4000000 in
set_option maxRecDepth 100000 in
theorem k_J1_indexOfChar_4cfef (l : Launch) (D : va_G) (cI cZ : ClassId) (ad : Nat → Nat) (az av : Nat) (hinj : cInj ad) (S : St) (hR : RS S) (x : Int) (hx1 : 0 ≤ x ∧ x < 128) : Met l yJ1_indexOfChar_4cfef (Cond.code yJ1_indexOfChar_4cfef cJ1_indexOfChar_4cfef 6 (some .int) :: lwT) ({ frames := 0, cells := 0, slots := 0, locals := 0 }) (gPc D (cW cI cZ ad) (cE D cI cZ ad az av) S [.ref av, .int (zI (x)), .int (zI (0)), .int (zI (5))]) (va_Qi (fun (r : Int32) (S' : St) => S' = S ∧ r = zI (kbF x)) (gB D (cW cI cZ ad)) (cA ad)) 0 0 (cA ad) := by
  refine Met.ofW (cc := cJ1_indexOfChar_4cfef) (maxL := 6) (ret := (some .int)) (by decide) rfl ?_
  intro p e s m args below meth c s₁ B hml hv
  obtain ⟨rfl, hP, hE⟩ := hv
  have hx := B.exec
  have hb := B.bytes
  have hr := B.returns
  have hts := atoms_spec (ws := Cond.code yJ1_indexOfChar_4cfef cJ1_indexOfChar_4cfef 6 (some .int) :: lwT) B.pre
  have hT := fun w (h : w ∈ lwT) => hts w (List.mem_cons_of_mem _ h)
  have hsub : ∀ w ∈ lwT, w ∈ (Cond.code yJ1_indexOfChar_4cfef cJ1_indexOfChar_4cfef 6 (some .int) :: lwT) := fun w h => List.mem_cons_of_mem _ h
  have hown : s.vm.findClass RJ1 = some m.cls := findClass_of_methodNamed B.named
  have hlocks := B.notSynchronized
  have hK : va_K D vwCl [(cI, .int), (cZ, .boolean)] s := hE.1
  have hS : va_S (cA ad) s.heap s.heap [] := va_S.rf
  have hl := lv_entry ([.ref av, .int (zI (x)), .int (zI (0)), .int (zI (5))]) (n := 6) (Nat.le_of_ble_eq_true rfl)
  rw [lg_entry_eq]
  generalize (lg_sl ([.ref av, .int (zI (x)), .int (zI (0)), .int (zI (5))]) ++ List.replicate (6 - (lg_sl ([.ref av, .int (zI (x)), .int (zI (0)), .int (zI (5))])).length) Slot.unset).toArray = ls at hl ⊢
  have hl : lv_has ls 6 [(0, .ref av), (1, .int (zI (x))), (2, .int (zI (0))), (3, .int (zI (5)))] := hl
  refine lv_iload_n hx hb dJ1_indexOfChar_4cfef_0 rfl (lv_at hl 1 rfl) ?_
  refine z_i2b hx hb (by omega) (by omega) dJ1_indexOfChar_4cfef_1 ?_
  refine lv_istore (lv' := [(4, .int (zI (x))), (0, .ref av), (1, .int (zI (x))), (2, .int (zI (0))), (3, .int (zI (5)))]) hx hb dJ1_indexOfChar_4cfef_2 hl (by decide) rfl (fun ls hl => ?_)
  refine lv_iload_n hx hb dJ1_indexOfChar_4cfef_4 rfl (lv_at hl 3 rfl) ?_
  refine lv_istore (lv' := [(5, .int (zI (0))), (4, .int (zI (x))), (0, .ref av), (1, .int (zI (x))), (2, .int (zI (0))), (3, .int (zI (5)))]) hx hb dJ1_indexOfChar_4cfef_5 hl (by decide) rfl (fun ls hl => ?_)
  have cut_7 : ∀ (k9 : Nat) (i : Nat) (H : Heap) (locs : List Loc) (ls : Array Slot), (i ≤ 5) → (∀ j, j < i → btF j ≠ x) → (5 - i) < k9 → va_P D vwCl (cW cI cZ ad S) H → RS S → va_S (cA ad) s.heap H locs → lv_has ls 6 [(0, .ref av), (1, .int (zI (x))), (2, .int (zI (0))), (3, .int (zI (5))), (4, .int (zI (x))), (5, .int (zI (↑i)))] → W p l e (headSpec (Cond.code yJ1_indexOfChar_4cfef cJ1_indexOfChar_4cfef 6 (some .int) :: lwT) ({ frames := 0, cells := 0, slots := 0, locals := 0 })).room s m ([.ref av, .int (zI (x)), .int (zI (0)), .int (zI (5))] : List Value).toArray below meth c H locs 0 0 (MQ below (va_Qi (fun (r : Int32) (S' : St) => S' = S ∧ r = zI (kbF x)) (gB D (cW cI cZ ad)) (cA ad)) ([.ref av, .int (zI (x)), .int (zI (0)), .int (zI (5))] : List Value).toArray s 0 0 (cA ad)) (F0 m 7 ls []) := by
    intro k9
    induction k9 with
    | zero =>
      intro i H locs ls hi hno hk9 hP hR hS hl
      exact absurd hk9 (Nat.not_lt_zero _)
    | succ k9 ih_7 =>
      intro i H locs ls hi hno hk9 hP hR hS hl
      refine lv_iload hx hb dJ1_indexOfChar_4cfef_7 (lv_at hl 5 rfl) ?_
      refine lv_iload_n hx hb dJ1_indexOfChar_4cfef_9 rfl (lv_at hl 3 rfl) ?_
      refine z_icmp_ge (tgt := 31) hx hb (by omega) (by omega) (by omega) (by omega) dJ1_indexOfChar_4cfef_10 (by decide) (fun c_1 => ?_) (fun c_1 => ?_)
      · have h9 : True := trivial
        refine z_iconst hx hb dJ1_indexOfChar_4cfef_31 ?_
        exact g_iret (S1 := S) (v := zI (-1)) hx hb hr hlocks hP hR hS (⟨rfl, by rw [kb_no (fun j h => hno j (by omega))]⟩) dJ1_indexOfChar_4cfef_32
      · have h9 : True := trivial
        refine lv_aload_n hx hb dJ1_indexOfChar_4cfef_13 rfl (lv_at hl 0 rfl) ?_
        refine lv_iload hx hb dJ1_indexOfChar_4cfef_14 (lv_at hl 5 rfl) ?_
        have hbr := bt_r i
        refine z_bal hx hb hE hS (j := i) (by omega) dJ1_indexOfChar_4cfef_16 ?_
        refine lv_iload hx hb dJ1_indexOfChar_4cfef_17 (lv_at hl 4 rfl) ?_
        refine z_icmp_ne (tgt := 25) hx hb (by omega) (by omega) (by omega) (by omega) dJ1_indexOfChar_4cfef_19 (by decide) (fun c_2 => ?_) (fun c_2 => ?_)
        · have h9 : True := trivial
          refine z_iinc (lv' := [(5, .int (zI (↑i + 1))), (0, .ref av), (1, .int (zI (x))), (2, .int (zI (0))), (3, .int (zI (5))), (4, .int (zI (x)))]) hx hb dJ1_indexOfChar_4cfef_25 hl (k := 5) rfl (by decide) rfl (fun ls hl => ?_)
          refine lv_goto (tgt := 7) hx hb dJ1_indexOfChar_4cfef_28 (by decide) ?_
          exact ih_7 (i + 1) _ _ _ (by omega) (lt_s hno (by omega)) (by omega) hP hR hS (lv_sub hl [1, 2, 3, 4, 5, 0] rfl)
        · have h9 : True := trivial
          refine lv_iload hx hb dJ1_indexOfChar_4cfef_22 (lv_at hl 5 rfl) ?_
          exact g_iret (S1 := S) (v := zI (↑i)) hx hb hr hlocks hP hR hS (⟨rfl, by rw [show x = btF i by omega, kb_at i (by omega)]⟩) dJ1_indexOfChar_4cfef_24
  exact cut_7 _ 0 _ _ _ (by omega) (fun j h => absurd h (Nat.not_lt_zero j)) (Nat.lt_succ_self _) hP hR hS (lv_sub hl [2, 3, 4, 5, 1, 0] rfl)
set_option maxHeartbeats 4000000 in
set_option maxRecDepth 100000 in
theorem k_J1_indexOf_4cfef (l : Launch) (D : va_G) (cI cZ : ClassId) (ad : Nat → Nat) (az av : Nat) (hinj : cInj ad) (S : St) (hR : RS S) (x : Int) (hx1 : 0 ≤ x ∧ x < 128) : Met l yJ1_indexOf_4cfef (Cond.code yJ1_indexOf_4cfef cJ1_indexOf_4cfef 4 (some .int) :: lwT) ({ frames := 1, cells := 0, slots := 0, locals := 25 }) (gPc D (cW cI cZ ad) (cE D cI cZ ad az av) S [.ref av, .int (zI (x)), .int (zI (0)), .int (zI (5))]) (va_Qi (fun (r : Int32) (S' : St) => S' = S ∧ r = zI (kbF x)) (gB D (cW cI cZ ad)) (cA ad)) 0 0 (cA ad) := by
  refine Met.ofW (cc := cJ1_indexOf_4cfef) (maxL := 4) (ret := (some .int)) (by decide) rfl ?_
  intro p e s m args below meth c s₁ B hml hv
  obtain ⟨rfl, hP, hE⟩ := hv
  have hx := B.exec
  have hb := B.bytes
  have hr := B.returns
  have hts := atoms_spec (ws := Cond.code yJ1_indexOf_4cfef cJ1_indexOf_4cfef 4 (some .int) :: lwT) B.pre
  have hT := fun w (h : w ∈ lwT) => hts w (List.mem_cons_of_mem _ h)
  have hsub : ∀ w ∈ lwT, w ∈ (Cond.code yJ1_indexOf_4cfef cJ1_indexOf_4cfef 4 (some .int) :: lwT) := fun w h => List.mem_cons_of_mem _ h
  have hown : s.vm.findClass RJ1 = some m.cls := findClass_of_methodNamed B.named
  have hlocks := B.notSynchronized
  have hK : va_K D vwCl [(cI, .int), (cZ, .boolean)] s := hE.1
  have hS : va_S (cA ad) s.heap s.heap [] := va_S.rf
  have hl := lv_entry ([.ref av, .int (zI (x)), .int (zI (0)), .int (zI (5))]) (n := 4) (Nat.le_of_ble_eq_true rfl)
  rw [lg_entry_eq]
  generalize (lg_sl ([.ref av, .int (zI (x)), .int (zI (0)), .int (zI (5))]) ++ List.replicate (4 - (lg_sl ([.ref av, .int (zI (x)), .int (zI (0)), .int (zI (5))])).length) Slot.unset).toArray = ls at hl ⊢
  have hl : lv_has ls 4 [(0, .ref av), (1, .int (zI (x))), (2, .int (zI (0))), (3, .int (zI (5)))] := hl
  refine lv_iload_n hx hb dJ1_indexOf_4cfef_0 rfl (lv_at hl 1 rfl) ?_
  refine g_callSi (As := [.int (zI (x))]) (rest := []) ⟨hx, hb, hml, hown, hts⟩ (k_J1_canEncode_9a6ad l D cI cZ ad az av hinj S hR x (by omega)) (cwS 1 hts (gS hsub q_254 q_255 q_10 q_256) rfl rfl rfl hdJ1_canEncode_9a6ad ⟨Nat.le_of_ble_eq_true rfl, Nat.le_of_ble_eq_true rfl⟩) (cEb D cI cZ ad az av) (cEk D cI cZ ad az av) hE hP hS rfl hl.1 rfl (Nat.le_of_ble_eq_true rfl) dJ1_indexOf_4cfef_1 ⟨Nat.le_of_ble_eq_true rfl, Nat.le_of_ble_eq_true rfl⟩ (fun r_1 S_2 H locs hq_3 hP hR hS _ => ?_)
  obtain ⟨hs9, rfl⟩ := hq_3
  obtain rfl := hs9.symm
  refine z_top (b := 1) rfl ?_
  refine z_if_ne (tgt := 9) hx hb (by omega) (by omega) dJ1_indexOf_4cfef_4 (by decide) (fun c_4 => ?_) (fun c_4 => ?_)
  · have h9 : True := trivial
    refine lv_iload_n hx hb dJ1_indexOf_4cfef_9 rfl (lv_at hl 2 rfl) ?_
    refine z_iconst hx hb dJ1_indexOf_4cfef_10 ?_
    refine z_mmax hx hb (hml.trans hl.1.symm) hown (hT _ q_257) (hT _ q_258) (hT _ q_11) (hT _ q_mmax) (Nat.le_of_ble_eq_true rfl) (Nat.le_of_ble_eq_true rfl) (Nat.le_of_ble_eq_true rfl) (Nat.le_of_ble_eq_true rfl) (by omega) (by omega) (by omega) (by omega) dJ1_indexOf_4cfef_11 ?_
    refine z_top (b := 0) (by decide) ?_
    refine lv_istore_n (lv' := [(2, .int (zI (0))), (0, .ref av), (1, .int (zI (x))), (3, .int (zI (5)))]) hx hb dJ1_indexOf_4cfef_14 rfl hl (by decide) rfl (fun ls hl => ?_)
    refine lv_iload_n hx hb dJ1_indexOf_4cfef_15 rfl (lv_at hl 3 rfl) ?_
    refine lv_aload_n hx hb dJ1_indexOf_4cfef_16 rfl (lv_at hl 1 rfl) ?_
    refine z_blen hx hb hE hS dJ1_indexOf_4cfef_17 ?_
    refine z_mmin hx hb (hml.trans hl.1.symm) hown (hT _ q_260) (hT _ q_261) (hT _ q_11) (hT _ q_mmin) (Nat.le_of_ble_eq_true rfl) (Nat.le_of_ble_eq_true rfl) (Nat.le_of_ble_eq_true rfl) (Nat.le_of_ble_eq_true rfl) (by omega) (by omega) (by omega) (by omega) dJ1_indexOf_4cfef_18 ?_
    refine z_top (b := 5) (by decide) ?_
    refine lv_istore_n (lv' := [(3, .int (zI (5))), (2, .int (zI (0))), (0, .ref av), (1, .int (zI (x)))]) hx hb dJ1_indexOf_4cfef_21 rfl hl (by decide) rfl (fun ls hl => ?_)
    refine lv_iload_n hx hb dJ1_indexOf_4cfef_22 rfl (lv_at hl 1 rfl) ?_
    refine lv_iload_n hx hb dJ1_indexOf_4cfef_23 rfl (lv_at hl 0 rfl) ?_
    refine z_icmp_lt (tgt := 29) hx hb (by omega) (by omega) (by omega) (by omega) dJ1_indexOf_4cfef_24 (by decide) (fun c_5 => ?_) (fun c_5 => ?_)
    · have h9 : True := trivial
      refine lv_aload_n hx hb dJ1_indexOf_4cfef_29 rfl (lv_at hl 2 rfl) ?_
      refine lv_iload_n hx hb dJ1_indexOf_4cfef_30 rfl (lv_at hl 3 rfl) ?_
      refine lv_iload_n hx hb dJ1_indexOf_4cfef_31 rfl (lv_at hl 1 rfl) ?_
      refine lv_iload_n hx hb dJ1_indexOf_4cfef_32 rfl (lv_at hl 0 rfl) ?_
      refine g_callSi (As := [.ref av, .int (zI (x)), .int (zI (0)), .int (zI (5))]) (rest := []) ⟨hx, hb, hml, hown, hts⟩ (k_J1_indexOfChar_4cfef l D cI cZ ad az av hinj S hR x (by omega)) (cwS 4 hts (gS hsub q_263 q_264 q_10 q_265) rfl rfl rfl hdJ1_indexOfChar_4cfef ⟨Nat.le_of_ble_eq_true rfl, Nat.le_of_ble_eq_true rfl⟩) (cEb D cI cZ ad az av) (cEk D cI cZ ad az av) hE hP hS rfl hl.1 rfl (Nat.le_of_ble_eq_true rfl) dJ1_indexOf_4cfef_33 ⟨Nat.le_of_ble_eq_true rfl, Nat.le_of_ble_eq_true rfl⟩ (fun r_6 S_7 H locs hq_8 hP hR hS _ => ?_)
      obtain ⟨hs9, rfl⟩ := hq_8
      obtain rfl := hs9.symm
      refine z_top (b := kbF x) rfl ?_
      have g_9 := kbF_r x
      exact g_iret (S1 := S) (v := zI (kbF x)) hx hb hr hlocks hP hR hS (⟨rfl, rfl⟩) dJ1_indexOf_4cfef_36
    · exact False.elim (by omega)
  · exact False.elim (by omega)
set_option maxHeartbeats 4000000 in
set_option maxRecDepth 100000 in
theorem k_J0_indexOf_7cf53 (l : Launch) (D : va_G) (cI cZ : ClassId) (ad : Nat → Nat) (az av : Nat) (hinj : cInj ad) (S : St) (hR : RS S) (x : Int) (hx1 : 0 ≤ x ∧ x < 128) : Met l yJ0_indexOf_7cf53 (Cond.code yJ0_indexOf_7cf53 cJ0_indexOf_7cf53 3 (some .int) :: lwT) ({ frames := 2, cells := 0, slots := 0, locals := 48 }) (gPc D (cW cI cZ ad) (cE D cI cZ ad az av) S [.ref az, .int (zI (x)), .int (zI (0))]) (va_Qi (fun (r : Int32) (S' : St) => S' = S ∧ r = zI (kbF x)) (gB D (cW cI cZ ad)) (cA ad)) 0 0 (cA ad) := by
  refine Met.ofW (cc := cJ0_indexOf_7cf53) (maxL := 3) (ret := (some .int)) (by decide) rfl ?_
  intro p e s m args below meth c s₁ B hml hv
  obtain ⟨rfl, hP, hE⟩ := hv
  have hx := B.exec
  have hb := B.bytes
  have hr := B.returns
  have hts := atoms_spec (ws := Cond.code yJ0_indexOf_7cf53 cJ0_indexOf_7cf53 3 (some .int) :: lwT) B.pre
  have hT := fun w (h : w ∈ lwT) => hts w (List.mem_cons_of_mem _ h)
  have hsub : ∀ w ∈ lwT, w ∈ (Cond.code yJ0_indexOf_7cf53 cJ0_indexOf_7cf53 3 (some .int) :: lwT) := fun w h => List.mem_cons_of_mem _ h
  have hown : s.vm.findClass RJ0 = some m.cls := findClass_of_methodNamed B.named
  have hlocks := B.notSynchronized
  have hK : va_K D vwCl [(cI, .int), (cZ, .boolean)] s := hE.1
  have hS : va_S (cA ad) s.heap s.heap [] := va_S.rf
  have hl := lv_entry ([.ref az, .int (zI (x)), .int (zI (0))]) (n := 3) (Nat.le_of_ble_eq_true rfl)
  rw [lg_entry_eq]
  generalize (lg_sl ([.ref az, .int (zI (x)), .int (zI (0))]) ++ List.replicate (3 - (lg_sl ([.ref az, .int (zI (x)), .int (zI (0))])).length) Slot.unset).toArray = ls at hl ⊢
  have hl : lv_has ls 3 [(0, .ref az), (1, .int (zI (x))), (2, .int (zI (0)))] := hl
  refine lv_aload_n hx hb dJ0_indexOf_7cf53_0 rfl (lv_at hl 0 rfl) ?_
  refine g_callVi (As := []) (rest := []) ⟨hx, hb, hml, hown, hts⟩ (k_J0_isLatin1_aae02 l D cI cZ ad az av hinj S hR ) (cwV 0 hts (gV hsub q_237 q_238 q_239 q_9 q_240) rfl rfl rfl hdJ0_isLatin1_aae02 ⟨Nat.le_of_ble_eq_true rfl, Nat.le_of_ble_eq_true rfl⟩) (cEb D cI cZ ad az av) (cEk D cI cZ ad az av) hE (vk_recv (i := 0) hE.2.2.2.2.2.1 (by decide) hS) hP hS rfl hl.1 rfl (Nat.le_of_ble_eq_true rfl) dJ0_indexOf_7cf53_1 ⟨Nat.le_of_ble_eq_true rfl, Nat.le_of_ble_eq_true rfl⟩ (fun r_1 S_2 H locs hq_3 hP hR hS _ => ?_)
  obtain ⟨hs9, rfl⟩ := hq_3
  obtain rfl := hs9.symm
  refine z_top (b := 1) rfl ?_
  refine z_if_eq (tgt := 23) hx hb (by omega) (by omega) dJ0_indexOf_7cf53_4 (by decide) (fun c_4 => ?_) (fun c_4 => ?_)
  · exact False.elim (by omega)
  · have h9 : True := trivial
    refine lv_aload_n hx hb dJ0_indexOf_7cf53_7 rfl (lv_at hl 0 rfl) ?_
    refine z_val hx hb hE hS hown (hT _ q_1074) dJ0_indexOf_7cf53_8 ?_
    refine lv_iload_n hx hb dJ0_indexOf_7cf53_11 rfl (lv_at hl 1 rfl) ?_
    refine lv_iload_n hx hb dJ0_indexOf_7cf53_12 rfl (lv_at hl 2 rfl) ?_
    refine lv_aload_n hx hb dJ0_indexOf_7cf53_13 rfl (lv_at hl 0 rfl) ?_
    refine g_callVi (As := []) (rest := [.int (zI (0)), .int (zI (x)), .ref av]) ⟨hx, hb, hml, hown, hts⟩ (k_J0_length_8abf5 l D cI cZ ad az av hinj S hR ) (cwV 0 hts (gV hsub q_243 q_244 q_245 q_9 q_246) rfl rfl rfl hdJ0_length_8abf5 ⟨Nat.le_of_ble_eq_true rfl, Nat.le_of_ble_eq_true rfl⟩) (cEb D cI cZ ad az av) (cEk D cI cZ ad az av) hE (vk_recv (i := 0) hE.2.2.2.2.2.1 (by decide) hS) hP hS rfl hl.1 rfl (Nat.le_of_ble_eq_true rfl) dJ0_indexOf_7cf53_14 ⟨Nat.le_of_ble_eq_true rfl, Nat.le_of_ble_eq_true rfl⟩ (fun r_5 S_6 H locs hq_7 hP hR hS _ => ?_)
    obtain ⟨hs9, rfl⟩ := hq_7
    obtain rfl := hs9.symm
    refine z_top (b := 5) rfl ?_
    refine g_callSi (As := [.ref av, .int (zI (x)), .int (zI (0)), .int (zI (5))]) (rest := []) ⟨hx, hb, hml, hown, hts⟩ (k_J1_indexOf_4cfef l D cI cZ ad az av hinj S hR x (by omega)) (va_cwS 4 hts (gSx hsub q_251 q_252 q_10 q_253) rfl rfl rfl hdJ1_indexOf_4cfef.2 ⟨Nat.le_of_ble_eq_true rfl, Nat.le_of_ble_eq_true rfl⟩) (cEb D cI cZ ad az av) (cEk D cI cZ ad az av) hE hP hS rfl hl.1 rfl (Nat.le_of_ble_eq_true rfl) dJ0_indexOf_7cf53_17 ⟨Nat.le_of_ble_eq_true rfl, Nat.le_of_ble_eq_true rfl⟩ (fun r_8 S_9 H locs hq_10 hP hR hS _ => ?_)
    obtain ⟨hs9, rfl⟩ := hq_10
    obtain rfl := hs9.symm
    refine z_top (b := kbF x) rfl ?_
    have g_11 := kbF_r x
    refine lv_goto (tgt := 36) hx hb dJ0_indexOf_7cf53_20 (by decide) ?_
    exact g_iret (S1 := S) (v := zI (kbF x)) hx hb hr hlocks hP hR hS (⟨rfl, rfl⟩) dJ0_indexOf_7cf53_36
set_option maxHeartbeats 4000000 in
set_option maxRecDepth 100000 in
theorem k_J0_indexOf_0f7a4 (l : Launch) (D : va_G) (cI cZ : ClassId) (ad : Nat → Nat) (az av : Nat) (hinj : cInj ad) (S : St) (hR : RS S) (x : Int) (hx1 : 0 ≤ x ∧ x < 128) : Met l yJ0_indexOf_0f7a4 (Cond.code yJ0_indexOf_0f7a4 cJ0_indexOf_0f7a4 2 (some .int) :: lwT) ({ frames := 3, cells := 0, slots := 0, locals := 70 }) (gPc D (cW cI cZ ad) (cE D cI cZ ad az av) S [.ref az, .int (zI (x))]) (va_Qi (fun (r : Int32) (S' : St) => S' = S ∧ r = zI (kbF x)) (gB D (cW cI cZ ad)) (cA ad)) 0 0 (cA ad) := by
  refine Met.ofW (cc := cJ0_indexOf_0f7a4) (maxL := 2) (ret := (some .int)) (by decide) rfl ?_
  intro p e s m args below meth c s₁ B hml hv
  obtain ⟨rfl, hP, hE⟩ := hv
  have hx := B.exec
  have hb := B.bytes
  have hr := B.returns
  have hts := atoms_spec (ws := Cond.code yJ0_indexOf_0f7a4 cJ0_indexOf_0f7a4 2 (some .int) :: lwT) B.pre
  have hT := fun w (h : w ∈ lwT) => hts w (List.mem_cons_of_mem _ h)
  have hsub : ∀ w ∈ lwT, w ∈ (Cond.code yJ0_indexOf_0f7a4 cJ0_indexOf_0f7a4 2 (some .int) :: lwT) := fun w h => List.mem_cons_of_mem _ h
  have hown : s.vm.findClass RJ0 = some m.cls := findClass_of_methodNamed B.named
  have hlocks := B.notSynchronized
  have hK : va_K D vwCl [(cI, .int), (cZ, .boolean)] s := hE.1
  have hS : va_S (cA ad) s.heap s.heap [] := va_S.rf
  have hl := lv_entry ([.ref az, .int (zI (x))]) (n := 2) (Nat.le_of_ble_eq_true rfl)
  rw [lg_entry_eq]
  generalize (lg_sl ([.ref az, .int (zI (x))]) ++ List.replicate (2 - (lg_sl ([.ref az, .int (zI (x))])).length) Slot.unset).toArray = ls at hl ⊢
  have hl : lv_has ls 2 [(0, .ref az), (1, .int (zI (x)))] := hl
  refine lv_aload_n hx hb dJ0_indexOf_0f7a4_0 rfl (lv_at hl 0 rfl) ?_
  refine lv_iload_n hx hb dJ0_indexOf_0f7a4_1 rfl (lv_at hl 1 rfl) ?_
  refine z_iconst hx hb dJ0_indexOf_0f7a4_2 ?_
  refine g_callVi (As := [.int (zI (x)), .int (zI (0))]) (rest := []) ⟨hx, hb, hml, hown, hts⟩ (k_J0_indexOf_7cf53 l D cI cZ ad az av hinj S hR x (by omega)) (cwV 2 hts (gV hsub q_233 q_234 q_235 q_9 q_236) rfl rfl rfl hdJ0_indexOf_7cf53 ⟨Nat.le_of_ble_eq_true rfl, Nat.le_of_ble_eq_true rfl⟩) (cEb D cI cZ ad az av) (cEk D cI cZ ad az av) hE (vk_recv (i := 0) hE.2.2.2.2.2.1 (by decide) hS) hP hS rfl hl.1 rfl (Nat.le_of_ble_eq_true rfl) dJ0_indexOf_0f7a4_3 ⟨Nat.le_of_ble_eq_true rfl, Nat.le_of_ble_eq_true rfl⟩ (fun r_1 S_2 H locs hq_3 hP hR hS _ => ?_)
  obtain ⟨hs9, rfl⟩ := hq_3
  obtain rfl := hs9.symm
  refine z_top (b := kbF x) rfl ?_
  have g_4 := kbF_r x
  exact g_iret (S1 := S) (v := zI (kbF x)) hx hb hr hlocks hP hR hS (⟨rfl, rfl⟩) dJ0_indexOf_0f7a4_6
set_option maxHeartbeats 4000000 in
set_option maxRecDepth 100000 in
theorem k_X2_kindAt (l : Launch) (D : va_G) (cI cZ : ClassId) (ad : Nat → Nat) (az av : Nat) (hinj : cInj ad) (S : St) (hR : RS S) (sz : Nat) (hsz : S 1 0 = ↑sz) (hsz9 : sz ≤ 9) (hpg : ∀ j, j < sz → 1 ≤ S 0 j ∧ S 0 j ≤ 126) (x : Int) (hx1 : -2147483648 ≤ x) (hx2 : x < 2147483648) : Met l yX2_kindAt (Cond.code yX2_kindAt cX2_kindAt 2 (some .int) :: lwT) ({ frames := 4, cells := 0, slots := 0, locals := 91 }) (gPc D (cW cI cZ ad) (cE D cI cZ ad az av) S [.ref (ad 41), .int (zI (x))]) (va_Qi (fun (r : Int32) (S' : St) => S' = S ∧ r = zI (if 0 ≤ x ∧ x < sz then kbF (S 0 x.toNat) else -1)) (gB D (cW cI cZ ad)) (cA ad)) 0 0 (cA ad) := by
  refine Met.ofW (cc := cX2_kindAt) (maxL := 2) (ret := (some .int)) (by decide) rfl ?_
  intro p e s m args below meth c s₁ B hml hv
  obtain ⟨rfl, hP, hE⟩ := hv
  have hx := B.exec
  have hb := B.bytes
  have hr := B.returns
  have hts := atoms_spec (ws := Cond.code yX2_kindAt cX2_kindAt 2 (some .int) :: lwT) B.pre
  have hT := fun w (h : w ∈ lwT) => hts w (List.mem_cons_of_mem _ h)
  have hsub : ∀ w ∈ lwT, w ∈ (Cond.code yX2_kindAt cX2_kindAt 2 (some .int) :: lwT) := fun w h => List.mem_cons_of_mem _ h
  have hown : s.vm.findClass RX2 = some m.cls := findClass_of_methodNamed B.named
  have hlocks := B.notSynchronized
  have hK : va_K D vwCl [(cI, .int), (cZ, .boolean)] s := hE.1
  have hS : va_S (cA ad) s.heap s.heap [] := va_S.rf
  have hl := lv_entry ([.ref (ad 41), .int (zI (x))]) (n := 2) (Nat.le_of_ble_eq_true rfl)
  rw [lg_entry_eq]
  generalize (lg_sl ([.ref (ad 41), .int (zI (x))]) ++ List.replicate (2 - (lg_sl ([.ref (ad 41), .int (zI (x))])).length) Slot.unset).toArray = ls at hl ⊢
  have hl : lv_has ls 2 [(0, .ref (ad 41)), (1, .int (zI (x)))] := hl
  refine lv_iload_n hx hb dX2_kindAt_0 rfl (lv_at hl 1 rfl) ?_
  refine z_if_lt (tgt := 12) hx hb (by omega) (by omega) dX2_kindAt_1 (by decide) (fun c_1 => ?_) (fun c_1 => ?_)
  · have h9 : True := trivial
    refine z_iconst hx hb dX2_kindAt_12 ?_
    exact g_iret (S1 := S) (v := zI (-1)) hx hb hr hlocks hP hR hS (⟨rfl, by rw [if_neg (by omega)]⟩) dX2_kindAt_13
  · have h9 : True := trivial
    refine lv_iload_n hx hb dX2_kindAt_4 rfl (lv_at hl 1 rfl) ?_
    refine lv_aload_n hx hb dX2_kindAt_5 rfl (lv_at hl 0 rfl) ?_
    have g_2 : -2147483648 ≤ S 1 0 ∧ S 1 0 < 2147483648 := hR 1 0 (by decide)
    refine va_get (D := D) (ci := 2) (v := .int (zI (S 1 0))) (C := RX2) (T := TX2) (N := 2) hx hb hT inX2 hown hK hP 1 rfl rfl 1 (by decide) (hT _ q_31) (fun _ h9 => h9) rfl dX2_kindAt_6 ?_
    refine z_icmp_lt (tgt := 14) hx hb (by omega) (by omega) (by omega) (by omega) dX2_kindAt_9 (by decide) (fun c_3 => ?_) (fun c_3 => ?_)
    · have h9 : True := trivial
      refine va_ldcS hx hb hown hE.2.2.2.1 dX2_kindAt_14 ?_
      refine lv_aload_n hx hb dX2_kindAt_16 rfl (lv_at hl 0 rfl) ?_
      refine va_get (D := D) (ci := 2) (v := .ref (ad 0)) (C := RX2) (T := TX2) (N := 2) hx hb hT inX2 hown hK hP 1 rfl rfl 0 (by decide) (hT _ q_29) (fun _ h9 => h9) rfl dX2_kindAt_17 ?_
      have hpx := hpg x.toNat (by omega)
      refine lv_iload_n hx hb dX2_kindAt_20 rfl (lv_at hl 1 rfl) ?_
      have g_4 : -2147483648 ≤ S 0 (x).toNat ∧ S 0 (x).toNat < 2147483648 := hR 0 ((x).toNat) (by decide)
      refine z_ald (f := S 0) hx hb hK hP 8 0 rfl rfl (by omega) (by omega) (by decide) (j := (x).toNat) rfl dX2_kindAt_21 ?_
      refine z_i2c hx hb (by omega) (by omega) dX2_kindAt_22 ?_
      refine g_callVi (As := [.int (zI (S 0 (x).toNat))]) (rest := []) ⟨hx, hb, hml, hown, hts⟩ (k_J0_indexOf_0f7a4 l D cI cZ ad az av hinj S hR (S 0 (x).toNat) (by omega)) (cwV 1 hts (gV hsub q_229 q_230 q_231 q_9 q_232) rfl rfl rfl hdJ0_indexOf_0f7a4 ⟨Nat.le_of_ble_eq_true rfl, Nat.le_of_ble_eq_true rfl⟩) (cEb D cI cZ ad az av) (cEk D cI cZ ad az av) hE (vk_recv (i := 0) hE.2.2.2.2.2.1 (by decide) hS) hP hS rfl hl.1 rfl (Nat.le_of_ble_eq_true rfl) dX2_kindAt_23 ⟨Nat.le_of_ble_eq_true rfl, Nat.le_of_ble_eq_true rfl⟩ (fun r_5 S_6 H locs hq_7 hP hR hS _ => ?_)
      obtain ⟨hs9, rfl⟩ := hq_7
      obtain rfl := hs9.symm
      refine z_top (b := kbF (S 0 (x).toNat)) rfl ?_
      have g_8 := kbF_r (S 0 (x).toNat)
      exact g_iret (S1 := S) (v := zI (kbF (S 0 (x).toNat))) hx hb hr hlocks hP hR hS (⟨rfl, by rw [if_pos (by omega)]⟩) dX2_kindAt_26
    · have h9 : True := trivial
      refine z_iconst hx hb dX2_kindAt_12 ?_
      exact g_iret (S1 := S) (v := zI (-1)) hx hb hr hlocks hP hR hS (⟨rfl, by rw [if_neg (by omega)]⟩) dX2_kindAt_13
set_option maxHeartbeats 4000000 in
set_option maxRecDepth 100000 in
theorem k_X2_firstWrong (l : Launch) (D : va_G) (cI cZ : ClassId) (ad : Nat → Nat) (az av : Nat) (hinj : cInj ad) (S : St) (hR : RS S) (sz : Nat) (hsz : S 1 0 = ↑sz) (hsz9 : sz ≤ 9) (hpg : ∀ j, j < sz → 1 ≤ S 0 j ∧ S 0 j ≤ 126) : Met l yX2_firstWrong (Cond.code yX2_firstWrong cX2_firstWrong 2 (some .int) :: lwT) ({ frames := 5, cells := 0, slots := 0, locals := 112 }) (gPc D (cW cI cZ ad) (cE D cI cZ ad az av) S [.ref (ad 41)]) (va_Qi (fun (r : Int32) (S' : St) => ∃ y : Nat, S' = S ∧ isFlt (S 0) sz y ∧ r = zI ↑y) (gB D (cW cI cZ ad)) (cA ad)) 0 0 (cA ad) := by
  refine Met.ofW (cc := cX2_firstWrong) (maxL := 2) (ret := (some .int)) (by decide) rfl ?_
  intro p e s m args below meth c s₁ B hml hv
  obtain ⟨rfl, hP, hE⟩ := hv
  have hx := B.exec
  have hb := B.bytes
  have hr := B.returns
  have hts := atoms_spec (ws := Cond.code yX2_firstWrong cX2_firstWrong 2 (some .int) :: lwT) B.pre
  have hT := fun w (h : w ∈ lwT) => hts w (List.mem_cons_of_mem _ h)
  have hsub : ∀ w ∈ lwT, w ∈ (Cond.code yX2_firstWrong cX2_firstWrong 2 (some .int) :: lwT) := fun w h => List.mem_cons_of_mem _ h
  have hown : s.vm.findClass RX2 = some m.cls := findClass_of_methodNamed B.named
  have hlocks := B.notSynchronized
  have hK : va_K D vwCl [(cI, .int), (cZ, .boolean)] s := hE.1
  have hS : va_S (cA ad) s.heap s.heap [] := va_S.rf
  have hl := lv_entry ([.ref (ad 41)]) (n := 2) (Nat.le_of_ble_eq_true rfl)
  rw [lg_entry_eq]
  generalize (lg_sl ([.ref (ad 41)]) ++ List.replicate (2 - (lg_sl ([.ref (ad 41)])).length) Slot.unset).toArray = ls at hl ⊢
  have hl : lv_has ls 2 [(0, .ref (ad 41))] := hl
  refine z_iconst hx hb dX2_firstWrong_0 ?_
  refine lv_istore_n (lv' := [(1, .int (zI (0))), (0, .ref (ad 41))]) hx hb dX2_firstWrong_1 rfl hl (by decide) rfl (fun ls hl => ?_)
  have cut_2 : ∀ (k9 : Nat) (i : Nat) (H : Heap) (locs : List Loc) (ls : Array Slot), (i ≤ sz ∧ i ≤ 7) → (∀ j, j < i → kbF (S 0 j) ≠ -1) → (sz - i) < k9 → va_P D vwCl (cW cI cZ ad S) H → RS S → va_S (cA ad) s.heap H locs → lv_has ls 2 [(0, .ref (ad 41)), (1, .int (zI (↑i)))] → W p l e (headSpec (Cond.code yX2_firstWrong cX2_firstWrong 2 (some .int) :: lwT) ({ frames := 5, cells := 0, slots := 0, locals := 112 })).room s m ([.ref (ad 41)] : List Value).toArray below meth c H locs 0 0 (MQ below (va_Qi (fun (r : Int32) (S' : St) => ∃ y : Nat, S' = S ∧ isFlt (S 0) sz y ∧ r = zI ↑y) (gB D (cW cI cZ ad)) (cA ad)) ([.ref (ad 41)] : List Value).toArray s 0 0 (cA ad)) (F0 m 2 ls []) := by
    intro k9
    induction k9 with
    | zero =>
      intro i H locs ls hi hok hk9 hP hR hS hl
      exact absurd hk9 (Nat.not_lt_zero _)
    | succ k9 ih_2 =>
      intro i H locs ls hi hok hk9 hP hR hS hl
      refine lv_iload_n hx hb dX2_firstWrong_2 rfl (lv_at hl 1 rfl) ?_
      refine lv_aload_n hx hb dX2_firstWrong_3 rfl (lv_at hl 0 rfl) ?_
      have g_1 : -2147483648 ≤ S 1 0 ∧ S 1 0 < 2147483648 := hR 1 0 (by decide)
      refine va_get (D := D) (ci := 2) (v := .int (zI (S 1 0))) (C := RX2) (T := TX2) (N := 2) hx hb hT inX2 hown hK hP 1 rfl rfl 1 (by decide) (hT _ q_31) (fun _ h9 => h9) rfl dX2_firstWrong_4 ?_
      refine z_icmp_ge (tgt := 33) hx hb (by omega) (by omega) (by omega) (by omega) dX2_firstWrong_7 (by decide) (fun c_2 => ?_) (fun c_2 => ?_)
      · have h9 : True := trivial
        refine lv_aload_n hx hb dX2_firstWrong_33 rfl (lv_at hl 0 rfl) ?_
        refine va_get (D := D) (ci := 2) (v := .int (zI (S 1 0))) (C := RX2) (T := TX2) (N := 2) hx hb hT inX2 hown hK hP 1 rfl rfl 1 (by decide) (hT _ q_31) (fun _ h9 => h9) rfl dX2_firstWrong_34 ?_
        exact g_iret (S1 := S) (v := zI (S 1 0)) hx hb hr hlocks hP hR hS (⟨i, rfl, ⟨by omega, by omega, hok, by omega⟩, by rw [show S 1 0 = ↑i by omega]⟩) dX2_firstWrong_37
      · have h9 : True := trivial
        refine lv_iload_n hx hb dX2_firstWrong_10 rfl (lv_at hl 1 rfl) ?_
        refine z_bipush hx hb dX2_firstWrong_11 (by decide) ?_
        refine z_icmp_ge (tgt := 25) hx hb (by omega) (by omega) (by omega) (by omega) dX2_firstWrong_13 (by decide) (fun c_3 => ?_) (fun c_3 => ?_)
        · have h9 : True := trivial
          refine lv_iload_n hx hb dX2_firstWrong_25 rfl (lv_at hl 1 rfl) ?_
          exact g_iret (S1 := S) (v := zI (↑i)) hx hb hr hlocks hP hR hS (⟨i, rfl, ⟨by omega, by omega, hok, by omega⟩, rfl⟩) dX2_firstWrong_26
        · have h9 : True := trivial
          refine lv_aload_n hx hb dX2_firstWrong_16 rfl (lv_at hl 0 rfl) ?_
          refine lv_iload_n hx hb dX2_firstWrong_17 rfl (lv_at hl 1 rfl) ?_
          refine g_callVi (As := [.int (zI (↑i))]) (rest := []) ⟨hx, hb, hml, hown, hts⟩ (k_X2_kindAt l D cI cZ ad az av hinj S hR sz hsz hsz9 hpg ↑i (by omega) (by omega)) (cwV 1 hts (gV hsub q_224 q_225 q_226 q_2 q_227) rfl rfl rfl hdX2_kindAt ⟨Nat.le_of_ble_eq_true rfl, Nat.le_of_ble_eq_true rfl⟩) (cEb D cI cZ ad az av) (cEk D cI cZ ad az av) hE (va_recv (ci := 2) (q0 := 1) hK hP rfl rfl) hP hS rfl hl.1 rfl (Nat.le_of_ble_eq_true rfl) dX2_firstWrong_18 ⟨Nat.le_of_ble_eq_true rfl, Nat.le_of_ble_eq_true rfl⟩ (fun r_4 S_5 H locs hq_6 hP hR hS _ => ?_)
          obtain ⟨hs9, rfl⟩ := hq_6
          obtain rfl := hs9.symm
          refine z_top (b := if (0 : Int) ≤ ↑i ∧ (↑i : Int) < ↑sz then kbF (S 0 (↑i : Int).toNat) else -1) rfl ?_
          have hkr := kbF_r (S 0 i)
          refine z_top (b := kbF (S 0 i)) (by rw [if_pos (by omega)]; rfl) ?_
          refine z_iconst hx hb dX2_firstWrong_21 ?_
          refine z_icmp_ne (tgt := 27) hx hb (by omega) (by omega) (by omega) (by omega) dX2_firstWrong_22 (by decide) (fun c_7 => ?_) (fun c_7 => ?_)
          · have h9 : True := trivial
            refine z_iinc (lv' := [(1, .int (zI (↑i + 1))), (0, .ref (ad 41))]) hx hb dX2_firstWrong_27 hl (k := 1) rfl (by decide) rfl (fun ls hl => ?_)
            refine lv_goto (tgt := 2) hx hb dX2_firstWrong_30 (by decide) ?_
            exact ih_2 (i + 1) _ _ _ (by omega) (lt_s hok (by omega)) (by omega) hP hR hS (lv_sub hl [1, 0] rfl)
          · have h9 : True := trivial
            refine lv_iload_n hx hb dX2_firstWrong_25 rfl (lv_at hl 1 rfl) ?_
            exact g_iret (S1 := S) (v := zI (↑i)) hx hb hr hlocks hP hR hS (⟨i, rfl, ⟨by omega, by omega, hok, by omega⟩, rfl⟩) dX2_firstWrong_26
  exact cut_2 _ 0 _ _ _ (by omega) (fun j h => absurd h (Nat.not_lt_zero j)) (Nat.lt_succ_self _) hP hR hS (lv_sub hl [1, 0] rfl)
set_option maxHeartbeats 4000000 in
set_option maxRecDepth 100000 in
theorem k_X6_isKind (l : Launch) (D : va_G) (cI cZ : ClassId) (ad : Nat → Nat) (az av : Nat) (hinj : cInj ad) (S : St) (hR : RS S) (x : Int) (hx1 : -2147483648 ≤ x) (hx2 : x < 2147483648) : Met l yX6_isKind (Cond.code yX6_isKind cX6_isKind 1 (some .boolean) :: lwT) ({ frames := 2, cells := 0, slots := 0, locals := 40 }) (gPc D (cW cI cZ ad) (cE D cI cZ ad az av) S [.int (zI (x))]) (va_Qi (fun (r : Int32) (S' : St) => S' = S ∧ r = zI (b2 (pB (0 ≤ x ∧ x ≤ 4)))) (gB D (cW cI cZ ad)) (cA ad)) 0 0 (cA ad) := by
  refine Met.ofW (cc := cX6_isKind) (maxL := 1) (ret := (some .boolean)) (by decide) rfl ?_
  intro p e s m args below meth c s₁ B hml hv
  obtain ⟨rfl, hP, hE⟩ := hv
  have hx := B.exec
  have hb := B.bytes
  have hr := B.returns
  have hts := atoms_spec (ws := Cond.code yX6_isKind cX6_isKind 1 (some .boolean) :: lwT) B.pre
  have hT := fun w (h : w ∈ lwT) => hts w (List.mem_cons_of_mem _ h)
  have hsub : ∀ w ∈ lwT, w ∈ (Cond.code yX6_isKind cX6_isKind 1 (some .boolean) :: lwT) := fun w h => List.mem_cons_of_mem _ h
  have hown : s.vm.findClass RX6 = some m.cls := findClass_of_methodNamed B.named
  have hlocks := B.notSynchronized
  have hK : va_K D vwCl [(cI, .int), (cZ, .boolean)] s := hE.1
  have hS : va_S (cA ad) s.heap s.heap [] := va_S.rf
  have hl := lv_entry ([.int (zI (x))]) (n := 1) (Nat.le_of_ble_eq_true rfl)
  rw [lg_entry_eq]
  generalize (lg_sl ([.int (zI (x))]) ++ List.replicate (1 - (lg_sl ([.int (zI (x))])).length) Slot.unset).toArray = ls at hl ⊢
  have hl : lv_has ls 1 [(0, .int (zI (x)))] := hl
  refine lv_iload_n hx hb dX6_isKind_0 rfl (lv_at hl 0 rfl) ?_
  refine z_if_lt (tgt := 17) hx hb (by omega) (by omega) dX6_isKind_1 (by decide) (fun c_1 => ?_) (fun c_1 => ?_)
  · have h9 : True := trivial
    refine z_iconst hx hb dX6_isKind_17 ?_
    exact g_zret (S1 := S) (bo := false) hx hb hr hlocks hP hR hS (⟨rfl, pF (by omega)⟩) dX6_isKind_18
  · have h9 : True := trivial
    refine lv_iload_n hx hb dX6_isKind_4 rfl (lv_at hl 0 rfl) ?_
    refine va_ldcS hx hb hown hE.2.2.2.2.1 dX6_isKind_5 ?_
    refine g_callVi (As := []) (rest := [.int (zI (x))]) ⟨hx, hb, hml, hown, hts⟩ (k_J0_length_8abf5 l D cI cZ ad az av hinj S hR ) (cwV 0 hts (gV hsub q_413 q_244 q_245 q_9 q_246) rfl rfl rfl hdJ0_length_8abf5 ⟨Nat.le_of_ble_eq_true rfl, Nat.le_of_ble_eq_true rfl⟩) (cEb D cI cZ ad az av) (cEk D cI cZ ad az av) hE (vk_recv (i := 0) hE.2.2.2.2.2.1 (by decide) hS) hP hS rfl hl.1 rfl (Nat.le_of_ble_eq_true rfl) dX6_isKind_7 ⟨Nat.le_of_ble_eq_true rfl, Nat.le_of_ble_eq_true rfl⟩ (fun r_2 S_3 H locs hq_4 hP hR hS _ => ?_)
    obtain ⟨hs9, rfl⟩ := hq_4
    obtain rfl := hs9.symm
    refine z_top (b := 5) rfl ?_
    refine z_icmp_ge (tgt := 17) hx hb (by omega) (by omega) (by omega) (by omega) dX6_isKind_10 (by decide) (fun c_5 => ?_) (fun c_5 => ?_)
    · have h9 : True := trivial
      refine z_iconst hx hb dX6_isKind_17 ?_
      exact g_zret (S1 := S) (bo := false) hx hb hr hlocks hP hR hS (⟨rfl, pF (by omega)⟩) dX6_isKind_18
    · have h9 : True := trivial
      refine z_iconst hx hb dX6_isKind_13 ?_
      refine lv_goto (tgt := 18) hx hb dX6_isKind_14 (by decide) ?_
      exact g_zret (S1 := S) (bo := true) hx hb hr hlocks hP hR hS (⟨rfl, pT (by omega)⟩) dX6_isKind_18
