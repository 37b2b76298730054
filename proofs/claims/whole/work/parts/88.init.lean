set_option maxHeartbeats 4000000 in
set_option maxRecDepth 100000 in
theorem i_X2 (l : Launch) (D : va_G) (cI cZ : ClassId) (h0 sz : Nat) : Met l yX2_init (Cond.code yX2_init cX2_init 1 none :: lwT) ({ frames := 1, cells := 1, slots := 9, locals := 20 }) (iPc D cI cZ sz [(h0, .inr (2, [.null, .int (zI 0)]))] [.ref h0]) (va_Qv (fun a : Nat → Nat => True) (iB D (fun a : Nat → Nat => [(h0, .inr (2, [.ref (a 0), .int (zI 0)])), ((a 0), .inl (cI, 9, .inl (fun _ => zI 0)))]) (va_A [(h0, .inr (2, [.null, .int (zI 0)]))] sz)) (va_A [(h0, .inr (2, [.null, .int (zI 0)]))] sz)) 1 9 (va_A [(h0, .inr (2, [.null, .int (zI 0)]))] sz) := by
  refine Met.ofW (cc := cX2_init) (maxL := 1) (ret := none) (by decide) rfl ?_
  intro p e s m args below meth c s₁ B hml hv
  obtain ⟨rfl, hsz, hP, hK⟩ := hv
  have hx := B.exec
  have hb := B.bytes
  have hr := B.returns
  have hts := atoms_spec (ws := Cond.code yX2_init cX2_init 1 none :: lwT) B.pre
  have hT := fun w (h : w ∈ lwT) => hts w (List.mem_cons_of_mem _ h)
  have hsub : ∀ w ∈ lwT, w ∈ (Cond.code yX2_init cX2_init 1 none :: lwT) := fun w h => List.mem_cons_of_mem _ h
  have hown : s.vm.findClass RX2 = some m.cls := findClass_of_methodNamed B.named
  have hlocks := B.notSynchronized
  have hin : meth.name = "<init>" := (name_of_methodNamed B.named B.method).1
  subst hsz
  have hD0 : va_D (fun _ => True) [(h0, .inr (2, [.null, .int (zI 0)]))] := ⟨fun i j p q h1 h2 _ => by
    have e1 : i < 1 := (List.getElem?_eq_some_iff.mp h1).1
    have e2 : j < 1 := (List.getElem?_eq_some_iff.mp h2).1
    omega, fun _ _ _ => trivial⟩
  have hD := hD0.self (sz := s.heap.size)
  generalize hAe : va_A [(h0, .inr (2, [.null, .int (zI 0)]))] s.heap.size = A at hD ⊢
  have hA : ∀ q : Nat, s.heap.size ≤ q → A q := fun q h => by rw [← hAe]; exact Or.inr h
  have hS : va_S A s.heap s.heap [] := va_S.rf
  have hP : va_P D vwCl [(h0, .inr (2, [.null, .int (zI 0)]))] s.heap := hP
  have hl := lv_entry ([.ref h0]) (n := 1) (Nat.le_of_ble_eq_true rfl)
  rw [lg_entry_eq]
  generalize (lg_sl ([.ref h0]) ++ List.replicate (1 - (lg_sl ([.ref h0])).length) Slot.unset).toArray = ls at hl ⊢
  have hl : lv_has ls 1 [(0, .ref h0)] := hl
  refine lv_aload_n hx hb dX2_init_0 rfl (lv_at hl 0 rfl) ?_
  refine W.objInit hx hb hown (hT _ q_28) (hT _ q_21) (hT _ q_22) rfl (by rw [hml]; exact hl.1) rfl dX2_init_1 (Nat.le_of_ble_eq_true rfl) (Nat.le_of_ble_eq_true rfl) ?_
  refine W.eq (g2 := F0 m 4 ls []) rfl ?_
  refine lv_aload_n hx hb dX2_init_4 rfl (lv_at hl 0 rfl) ?_
  refine z_bipush hx hb dX2_init_5 (by decide) ?_
  refine i_newI (Ts := lwT) hx hb (hT _ q_38) hK hP hD hS hA 9 (by decide) (Nat.le_of_ble_eq_true rfl) (Nat.le_of_ble_eq_true rfl) dX2_init_7 (fun q7 H hP hD hS => ?_)
  have hP : va_P D vwCl [(h0, .inr (2, [.null, .int (zI 0)])), (q7, .inl (cI, 9, .inl (fun _ => zI 0)))] H := hP
  have hD : va_D A [(h0, .inr (2, [.null, .int (zI 0)])), (q7, .inl (cI, 9, .inl (fun _ => zI 0)))] := hD
  refine W.widen (k := 1) (n := 9) (Nat.le_of_ble_eq_true rfl) (Nat.le_of_ble_eq_true rfl) ?_
  refine va_putF (D := D) (ci := 2) (v := .ref q7) (ty := .array .int) (C := RX2) (T := TX2) (N := 2) hx hb hT inX2 tyX2 tyX2_ok nmX2 hown hK hP hD hS 0 rfl rfl 0 (by decide) (hT _ q_29) (fun _ h9 => h9) rfl hin rfl (by decide +kernel) rfl rfl (Nat.le_of_ble_eq_true rfl) dX2_init_9 (fun H locs hP hD hS => ?_)
  have hP : va_P D vwCl [(h0, .inr (2, [.ref q7, .int (zI 0)])), (q7, .inl (cI, 9, .inl (fun _ => zI 0)))] H := hP
  have hD : va_D A [(h0, .inr (2, [.ref q7, .int (zI 0)])), (q7, .inl (cI, 9, .inl (fun _ => zI 0)))] := hD
  refine lv_aload_n hx hb dX2_init_12 rfl (lv_at hl 0 rfl) ?_
  refine z_iconst hx hb dX2_init_13 ?_
  refine va_put (D := D) (ci := 2) (v := .int (zI 0)) (ty := .int) (C := RX2) (T := TX2) (N := 2) hx hb hT inX2 tyX2 tyX2_ok nmX2 hown hK hP hD hS 0 rfl rfl 1 (by decide) (hT _ q_31) (fun _ h9 => h9) rfl (by decide +kernel) rfl rfl (Nat.le_of_ble_eq_true rfl) dX2_init_14 (fun H locs hP hD hS => ?_)
  have hP : va_P D vwCl [(h0, .inr (2, [.ref q7, .int (zI 0)])), (q7, .inl (cI, 9, .inl (fun _ => zI 0)))] H := hP
  have hD : va_D A [(h0, .inr (2, [.ref q7, .int (zI 0)])), (q7, .inl (cI, 9, .inl (fun _ => zI 0)))] := hD
  have hP9 : va_P D vwCl ((fun a : Nat → Nat => [(h0, .inr (2, [.ref (a 0), .int (zI 0)])), ((a 0), .inl (cI, 9, .inl (fun _ => zI 0)))]) (fun k => [q7].getD k 0)) H := hP.sub (ws' := [(h0, .inr (2, [.ref q7, .int (zI 0)])), (q7, .inl (cI, 9, .inl (fun _ => zI 0)))]) [0, 1] rfl
  have hD9 : va_D A ((fun a : Nat → Nat => [(h0, .inr (2, [.ref (a 0), .int (zI 0)])), ((a 0), .inl (cI, 9, .inl (fun _ => zI 0)))]) (fun k => [q7].getD k 0)) := hD.sub (ws' := [(h0, .inr (2, [.ref q7, .int (zI 0)])), (q7, .inl (cI, 9, .inl (fun _ => zI 0)))]) [0, 1] (by decide) rfl
  exact W.vret hx hb hr (fun t ht hW => ⟨⟨(fun k => [q7].getD k 0), rfl, trivial, by rw [ht]; exact hP9, hD9⟩, hS.F ht⟩) hS.2.2 dX2_init_17
set_option maxHeartbeats 4000000 in
set_option maxRecDepth 100000 in
theorem i_X0 (l : Launch) (D : va_G) (cI cZ : ClassId) (h0 sz : Nat) : Met l yX0_init (Cond.code yX0_init cX0_init 1 none :: lwT) ({ frames := 1, cells := 3, slots := 931, locals := 20 }) (iPc D cI cZ sz [(h0, .inr (0, [.int (zI 0), .int (zI 0), .null, .null, .null]))] [.ref h0]) (va_Qv (fun a : Nat → Nat => True) (iB D (fun a : Nat → Nat => [(h0, .inr (0, [.int (zI 0), .int (zI 0), .ref (a 0), .ref (a 1), .ref (a 2)])), ((a 0), .inl (cI, 462, .inl (fun _ => zI 0))), ((a 1), .inl (cI, 462, .inl (fun _ => zI 0))), ((a 2), .inl (cI, 7, .inl (fun _ => zI 0)))]) (va_A [(h0, .inr (0, [.int (zI 0), .int (zI 0), .null, .null, .null]))] sz)) (va_A [(h0, .inr (0, [.int (zI 0), .int (zI 0), .null, .null, .null]))] sz)) 3 931 (va_A [(h0, .inr (0, [.int (zI 0), .int (zI 0), .null, .null, .null]))] sz) := by
  refine Met.ofW (cc := cX0_init) (maxL := 1) (ret := none) (by decide) rfl ?_
  intro p e s m args below meth c s₁ B hml hv
  obtain ⟨rfl, hsz, hP, hK⟩ := hv
  have hx := B.exec
  have hb := B.bytes
  have hr := B.returns
  have hts := atoms_spec (ws := Cond.code yX0_init cX0_init 1 none :: lwT) B.pre
  have hT := fun w (h : w ∈ lwT) => hts w (List.mem_cons_of_mem _ h)
  have hsub : ∀ w ∈ lwT, w ∈ (Cond.code yX0_init cX0_init 1 none :: lwT) := fun w h => List.mem_cons_of_mem _ h
  have hown : s.vm.findClass RX0 = some m.cls := findClass_of_methodNamed B.named
  have hlocks := B.notSynchronized
  have hin : meth.name = "<init>" := (name_of_methodNamed B.named B.method).1
  subst hsz
  have hD0 : va_D (fun _ => True) [(h0, .inr (0, [.int (zI 0), .int (zI 0), .null, .null, .null]))] := ⟨fun i j p q h1 h2 _ => by
    have e1 : i < 1 := (List.getElem?_eq_some_iff.mp h1).1
    have e2 : j < 1 := (List.getElem?_eq_some_iff.mp h2).1
    omega, fun _ _ _ => trivial⟩
  have hD := hD0.self (sz := s.heap.size)
  generalize hAe : va_A [(h0, .inr (0, [.int (zI 0), .int (zI 0), .null, .null, .null]))] s.heap.size = A at hD ⊢
  have hA : ∀ q : Nat, s.heap.size ≤ q → A q := fun q h => by rw [← hAe]; exact Or.inr h
  have hS : va_S A s.heap s.heap [] := va_S.rf
  have hP : va_P D vwCl [(h0, .inr (0, [.int (zI 0), .int (zI 0), .null, .null, .null]))] s.heap := hP
  have hl := lv_entry ([.ref h0]) (n := 1) (Nat.le_of_ble_eq_true rfl)
  rw [lg_entry_eq]
  generalize (lg_sl ([.ref h0]) ++ List.replicate (1 - (lg_sl ([.ref h0])).length) Slot.unset).toArray = ls at hl ⊢
  have hl : lv_has ls 1 [(0, .ref h0)] := hl
  refine lv_aload_n hx hb dX0_init_0 rfl (lv_at hl 0 rfl) ?_
  refine W.objInit hx hb hown (hT _ q_44) (hT _ q_21) (hT _ q_22) rfl (by rw [hml]; exact hl.1) rfl dX0_init_1 (Nat.le_of_ble_eq_true rfl) (Nat.le_of_ble_eq_true rfl) ?_
  refine W.eq (g2 := F0 m 4 ls []) rfl ?_
  refine lv_aload_n hx hb dX0_init_4 rfl (lv_at hl 0 rfl) ?_
  refine z_iconst hx hb dX0_init_5 ?_
  refine va_put (D := D) (ci := 0) (v := .int (zI 0)) (ty := .int) (C := RX0) (T := TX0) (N := 5) hx hb hT inX0 tyX0 tyX0_ok nmX0 hown hK hP hD hS 0 rfl rfl 0 (by decide) (hT _ q_45) (fun _ h9 => h9) rfl (by decide +kernel) rfl rfl (Nat.le_of_ble_eq_true rfl) dX0_init_6 (fun H locs hP hD hS => ?_)
  have hP : va_P D vwCl [(h0, .inr (0, [.int (zI 0), .int (zI 0), .null, .null, .null]))] H := hP
  have hD : va_D A [(h0, .inr (0, [.int (zI 0), .int (zI 0), .null, .null, .null]))] := hD
  refine lv_aload_n hx hb dX0_init_9 rfl (lv_at hl 0 rfl) ?_
  refine z_iconst hx hb dX0_init_10 ?_
  refine va_put (D := D) (ci := 0) (v := .int (zI 0)) (ty := .int) (C := RX0) (T := TX0) (N := 5) hx hb hT inX0 tyX0 tyX0_ok nmX0 hown hK hP hD hS 0 rfl rfl 1 (by decide) (hT _ q_50) (fun _ h9 => h9) rfl (by decide +kernel) rfl rfl (Nat.le_of_ble_eq_true rfl) dX0_init_11 (fun H locs hP hD hS => ?_)
  have hP : va_P D vwCl [(h0, .inr (0, [.int (zI 0), .int (zI 0), .null, .null, .null]))] H := hP
  have hD : va_D A [(h0, .inr (0, [.int (zI 0), .int (zI 0), .null, .null, .null]))] := hD
  refine lv_aload_n hx hb dX0_init_14 rfl (lv_at hl 0 rfl) ?_
  refine z_sipush hx hb dX0_init_15 (by decide) ?_
  refine i_newI (Ts := lwT) hx hb (hT _ q_38) hK hP hD hS hA 462 (by decide) (Nat.le_of_ble_eq_true rfl) (Nat.le_of_ble_eq_true rfl) dX0_init_18 (fun q18 H hP hD hS => ?_)
  have hP : va_P D vwCl [(h0, .inr (0, [.int (zI 0), .int (zI 0), .null, .null, .null])), (q18, .inl (cI, 462, .inl (fun _ => zI 0)))] H := hP
  have hD : va_D A [(h0, .inr (0, [.int (zI 0), .int (zI 0), .null, .null, .null])), (q18, .inl (cI, 462, .inl (fun _ => zI 0)))] := hD
  refine W.widen (k := 1) (n := 462) (Nat.le_of_ble_eq_true rfl) (Nat.le_of_ble_eq_true rfl) ?_
  refine va_putF (D := D) (ci := 0) (v := .ref q18) (ty := .array .int) (C := RX0) (T := TX0) (N := 5) hx hb hT inX0 tyX0 tyX0_ok nmX0 hown hK hP hD hS 0 rfl rfl 2 (by decide) (hT _ q_55) (fun _ h9 => h9) rfl hin rfl (by decide +kernel) rfl rfl (Nat.le_of_ble_eq_true rfl) dX0_init_20 (fun H locs hP hD hS => ?_)
  have hP : va_P D vwCl [(h0, .inr (0, [.int (zI 0), .int (zI 0), .ref q18, .null, .null])), (q18, .inl (cI, 462, .inl (fun _ => zI 0)))] H := hP
  have hD : va_D A [(h0, .inr (0, [.int (zI 0), .int (zI 0), .ref q18, .null, .null])), (q18, .inl (cI, 462, .inl (fun _ => zI 0)))] := hD
  refine lv_aload_n hx hb dX0_init_23 rfl (lv_at hl 0 rfl) ?_
  refine z_sipush hx hb dX0_init_24 (by decide) ?_
  refine i_newI (Ts := lwT) hx hb (hT _ q_38) hK hP hD hS hA 462 (by decide) (Nat.le_of_ble_eq_true rfl) (Nat.le_of_ble_eq_true rfl) dX0_init_27 (fun q27 H hP hD hS => ?_)
  have hP : va_P D vwCl [(h0, .inr (0, [.int (zI 0), .int (zI 0), .ref q18, .null, .null])), (q18, .inl (cI, 462, .inl (fun _ => zI 0))), (q27, .inl (cI, 462, .inl (fun _ => zI 0)))] H := hP
  have hD : va_D A [(h0, .inr (0, [.int (zI 0), .int (zI 0), .ref q18, .null, .null])), (q18, .inl (cI, 462, .inl (fun _ => zI 0))), (q27, .inl (cI, 462, .inl (fun _ => zI 0)))] := hD
  refine W.widen (k := 2) (n := 924) (Nat.le_of_ble_eq_true rfl) (Nat.le_of_ble_eq_true rfl) ?_
  refine va_putF (D := D) (ci := 0) (v := .ref q27) (ty := .array .int) (C := RX0) (T := TX0) (N := 5) hx hb hT inX0 tyX0 tyX0_ok nmX0 hown hK hP hD hS 0 rfl rfl 3 (by decide) (hT _ q_56) (fun _ h9 => h9) rfl hin rfl (by decide +kernel) rfl rfl (Nat.le_of_ble_eq_true rfl) dX0_init_29 (fun H locs hP hD hS => ?_)
  have hP : va_P D vwCl [(h0, .inr (0, [.int (zI 0), .int (zI 0), .ref q18, .ref q27, .null])), (q18, .inl (cI, 462, .inl (fun _ => zI 0))), (q27, .inl (cI, 462, .inl (fun _ => zI 0)))] H := hP
  have hD : va_D A [(h0, .inr (0, [.int (zI 0), .int (zI 0), .ref q18, .ref q27, .null])), (q18, .inl (cI, 462, .inl (fun _ => zI 0))), (q27, .inl (cI, 462, .inl (fun _ => zI 0)))] := hD
  refine lv_aload_n hx hb dX0_init_32 rfl (lv_at hl 0 rfl) ?_
  refine z_bipush hx hb dX0_init_33 (by decide) ?_
  refine i_newI (Ts := lwT) hx hb (hT _ q_38) hK hP hD hS hA 7 (by decide) (Nat.le_of_ble_eq_true rfl) (Nat.le_of_ble_eq_true rfl) dX0_init_35 (fun q35 H hP hD hS => ?_)
  have hP : va_P D vwCl [(h0, .inr (0, [.int (zI 0), .int (zI 0), .ref q18, .ref q27, .null])), (q18, .inl (cI, 462, .inl (fun _ => zI 0))), (q27, .inl (cI, 462, .inl (fun _ => zI 0))), (q35, .inl (cI, 7, .inl (fun _ => zI 0)))] H := hP
  have hD : va_D A [(h0, .inr (0, [.int (zI 0), .int (zI 0), .ref q18, .ref q27, .null])), (q18, .inl (cI, 462, .inl (fun _ => zI 0))), (q27, .inl (cI, 462, .inl (fun _ => zI 0))), (q35, .inl (cI, 7, .inl (fun _ => zI 0)))] := hD
  refine W.widen (k := 3) (n := 931) (Nat.le_of_ble_eq_true rfl) (Nat.le_of_ble_eq_true rfl) ?_
  refine va_putF (D := D) (ci := 0) (v := .ref q35) (ty := .array .int) (C := RX0) (T := TX0) (N := 5) hx hb hT inX0 tyX0 tyX0_ok nmX0 hown hK hP hD hS 0 rfl rfl 4 (by decide) (hT _ q_57) (fun _ h9 => h9) rfl hin rfl (by decide +kernel) rfl rfl (Nat.le_of_ble_eq_true rfl) dX0_init_37 (fun H locs hP hD hS => ?_)
  have hP : va_P D vwCl [(h0, .inr (0, [.int (zI 0), .int (zI 0), .ref q18, .ref q27, .ref q35])), (q18, .inl (cI, 462, .inl (fun _ => zI 0))), (q27, .inl (cI, 462, .inl (fun _ => zI 0))), (q35, .inl (cI, 7, .inl (fun _ => zI 0)))] H := hP
  have hD : va_D A [(h0, .inr (0, [.int (zI 0), .int (zI 0), .ref q18, .ref q27, .ref q35])), (q18, .inl (cI, 462, .inl (fun _ => zI 0))), (q27, .inl (cI, 462, .inl (fun _ => zI 0))), (q35, .inl (cI, 7, .inl (fun _ => zI 0)))] := hD
  have hP9 : va_P D vwCl ((fun a : Nat → Nat => [(h0, .inr (0, [.int (zI 0), .int (zI 0), .ref (a 0), .ref (a 1), .ref (a 2)])), ((a 0), .inl (cI, 462, .inl (fun _ => zI 0))), ((a 1), .inl (cI, 462, .inl (fun _ => zI 0))), ((a 2), .inl (cI, 7, .inl (fun _ => zI 0)))]) (fun k => [q18, q27, q35].getD k 0)) H := hP.sub (ws' := [(h0, .inr (0, [.int (zI 0), .int (zI 0), .ref q18, .ref q27, .ref q35])), (q18, .inl (cI, 462, .inl (fun _ => zI 0))), (q27, .inl (cI, 462, .inl (fun _ => zI 0))), (q35, .inl (cI, 7, .inl (fun _ => zI 0)))]) [0, 1, 2, 3] rfl
  have hD9 : va_D A ((fun a : Nat → Nat => [(h0, .inr (0, [.int (zI 0), .int (zI 0), .ref (a 0), .ref (a 1), .ref (a 2)])), ((a 0), .inl (cI, 462, .inl (fun _ => zI 0))), ((a 1), .inl (cI, 462, .inl (fun _ => zI 0))), ((a 2), .inl (cI, 7, .inl (fun _ => zI 0)))]) (fun k => [q18, q27, q35].getD k 0)) := hD.sub (ws' := [(h0, .inr (0, [.int (zI 0), .int (zI 0), .ref q18, .ref q27, .ref q35])), (q18, .inl (cI, 462, .inl (fun _ => zI 0))), (q27, .inl (cI, 462, .inl (fun _ => zI 0))), (q35, .inl (cI, 7, .inl (fun _ => zI 0)))]) [0, 1, 2, 3] (by decide) rfl
  exact W.vret hx hb hr (fun t ht hW => ⟨⟨(fun k => [q18, q27, q35].getD k 0), rfl, trivial, by rw [ht]; exact hP9, hD9⟩, hS.F ht⟩) hS.2.2 dX0_init_40
set_option maxHeartbeats 4000000 in
set_option maxRecDepth 100000 in
theorem i_X4 (l : Launch) (D : va_G) (cI cZ : ClassId) (h0 sz : Nat) : Met l yX4_init (Cond.code yX4_init cX4_init 1 none :: lwT) ({ frames := 1, cells := 4, slots := 25, locals := 20 }) (iPc D cI cZ sz [(h0, .inr (4, [.null, .int (zI 0), .int (zI 0), .int (zI 0), .null, .null, .null]))] [.ref h0]) (va_Qv (fun a : Nat → Nat => True) (iB D (fun a : Nat → Nat => [(h0, .inr (4, [.ref (a 0), .int (zI 0), .int (zI 0), .int (zI 0), .ref (a 1), .ref (a 2), .ref (a 3)])), ((a 0), .inl (cI, 7, .inl (fun _ => zI 0))), ((a 1), .inl (cI, 6, .inl (fun _ => zI 0))), ((a 2), .inl (cI, 6, .inl (fun _ => zI 0))), ((a 3), .inl (cZ, 6, .inl (fun _ => zI 0)))]) (va_A [(h0, .inr (4, [.null, .int (zI 0), .int (zI 0), .int (zI 0), .null, .null, .null]))] sz)) (va_A [(h0, .inr (4, [.null, .int (zI 0), .int (zI 0), .int (zI 0), .null, .null, .null]))] sz)) 4 25 (va_A [(h0, .inr (4, [.null, .int (zI 0), .int (zI 0), .int (zI 0), .null, .null, .null]))] sz) := by
  refine Met.ofW (cc := cX4_init) (maxL := 1) (ret := none) (by decide) rfl ?_
  intro p e s m args below meth c s₁ B hml hv
  obtain ⟨rfl, hsz, hP, hK⟩ := hv
  have hx := B.exec
  have hb := B.bytes
  have hr := B.returns
  have hts := atoms_spec (ws := Cond.code yX4_init cX4_init 1 none :: lwT) B.pre
  have hT := fun w (h : w ∈ lwT) => hts w (List.mem_cons_of_mem _ h)
  have hsub : ∀ w ∈ lwT, w ∈ (Cond.code yX4_init cX4_init 1 none :: lwT) := fun w h => List.mem_cons_of_mem _ h
  have hown : s.vm.findClass RX4 = some m.cls := findClass_of_methodNamed B.named
  have hlocks := B.notSynchronized
  have hin : meth.name = "<init>" := (name_of_methodNamed B.named B.method).1
  subst hsz
  have hD0 : va_D (fun _ => True) [(h0, .inr (4, [.null, .int (zI 0), .int (zI 0), .int (zI 0), .null, .null, .null]))] := ⟨fun i j p q h1 h2 _ => by
    have e1 : i < 1 := (List.getElem?_eq_some_iff.mp h1).1
    have e2 : j < 1 := (List.getElem?_eq_some_iff.mp h2).1
    omega, fun _ _ _ => trivial⟩
  have hD := hD0.self (sz := s.heap.size)
  generalize hAe : va_A [(h0, .inr (4, [.null, .int (zI 0), .int (zI 0), .int (zI 0), .null, .null, .null]))] s.heap.size = A at hD ⊢
  have hA : ∀ q : Nat, s.heap.size ≤ q → A q := fun q h => by rw [← hAe]; exact Or.inr h
  have hS : va_S A s.heap s.heap [] := va_S.rf
  have hP : va_P D vwCl [(h0, .inr (4, [.null, .int (zI 0), .int (zI 0), .int (zI 0), .null, .null, .null]))] s.heap := hP
  have hl := lv_entry ([.ref h0]) (n := 1) (Nat.le_of_ble_eq_true rfl)
  rw [lg_entry_eq]
  generalize (lg_sl ([.ref h0]) ++ List.replicate (1 - (lg_sl ([.ref h0])).length) Slot.unset).toArray = ls at hl ⊢
  have hl : lv_has ls 1 [(0, .ref h0)] := hl
  refine lv_aload_n hx hb dX4_init_0 rfl (lv_at hl 0 rfl) ?_
  refine W.objInit hx hb hown (hT _ q_74) (hT _ q_21) (hT _ q_22) rfl (by rw [hml]; exact hl.1) rfl dX4_init_1 (Nat.le_of_ble_eq_true rfl) (Nat.le_of_ble_eq_true rfl) ?_
  refine W.eq (g2 := F0 m 4 ls []) rfl ?_
  refine lv_aload_n hx hb dX4_init_4 rfl (lv_at hl 0 rfl) ?_
  refine z_bipush hx hb dX4_init_5 (by decide) ?_
  refine i_newI (Ts := lwT) hx hb (hT _ q_38) hK hP hD hS hA 7 (by decide) (Nat.le_of_ble_eq_true rfl) (Nat.le_of_ble_eq_true rfl) dX4_init_7 (fun q7 H hP hD hS => ?_)
  have hP : va_P D vwCl [(h0, .inr (4, [.null, .int (zI 0), .int (zI 0), .int (zI 0), .null, .null, .null])), (q7, .inl (cI, 7, .inl (fun _ => zI 0)))] H := hP
  have hD : va_D A [(h0, .inr (4, [.null, .int (zI 0), .int (zI 0), .int (zI 0), .null, .null, .null])), (q7, .inl (cI, 7, .inl (fun _ => zI 0)))] := hD
  refine W.widen (k := 1) (n := 7) (Nat.le_of_ble_eq_true rfl) (Nat.le_of_ble_eq_true rfl) ?_
  refine va_putF (D := D) (ci := 4) (v := .ref q7) (ty := .array .int) (C := RX4) (T := TX4) (N := 7) hx hb hT inX4 tyX4 tyX4_ok nmX4 hown hK hP hD hS 0 rfl rfl 0 (by decide) (hT _ q_75) (fun _ h9 => h9) rfl hin rfl (by decide +kernel) rfl rfl (Nat.le_of_ble_eq_true rfl) dX4_init_9 (fun H locs hP hD hS => ?_)
  have hP : va_P D vwCl [(h0, .inr (4, [.ref q7, .int (zI 0), .int (zI 0), .int (zI 0), .null, .null, .null])), (q7, .inl (cI, 7, .inl (fun _ => zI 0)))] H := hP
  have hD : va_D A [(h0, .inr (4, [.ref q7, .int (zI 0), .int (zI 0), .int (zI 0), .null, .null, .null])), (q7, .inl (cI, 7, .inl (fun _ => zI 0)))] := hD
  refine lv_aload_n hx hb dX4_init_12 rfl (lv_at hl 0 rfl) ?_
  refine z_iconst hx hb dX4_init_13 ?_
  refine va_put (D := D) (ci := 4) (v := .int (zI 0)) (ty := .int) (C := RX4) (T := TX4) (N := 7) hx hb hT inX4 tyX4 tyX4_ok nmX4 hown hK hP hD hS 0 rfl rfl 1 (by decide) (hT _ q_77) (fun _ h9 => h9) rfl (by decide +kernel) rfl rfl (Nat.le_of_ble_eq_true rfl) dX4_init_14 (fun H locs hP hD hS => ?_)
  have hP : va_P D vwCl [(h0, .inr (4, [.ref q7, .int (zI 0), .int (zI 0), .int (zI 0), .null, .null, .null])), (q7, .inl (cI, 7, .inl (fun _ => zI 0)))] H := hP
  have hD : va_D A [(h0, .inr (4, [.ref q7, .int (zI 0), .int (zI 0), .int (zI 0), .null, .null, .null])), (q7, .inl (cI, 7, .inl (fun _ => zI 0)))] := hD
  refine lv_aload_n hx hb dX4_init_17 rfl (lv_at hl 0 rfl) ?_
  refine z_iconst hx hb dX4_init_18 ?_
  refine va_put (D := D) (ci := 4) (v := .int (zI 0)) (ty := .int) (C := RX4) (T := TX4) (N := 7) hx hb hT inX4 tyX4 tyX4_ok nmX4 hown hK hP hD hS 0 rfl rfl 2 (by decide) (hT _ q_79) (fun _ h9 => h9) rfl (by decide +kernel) rfl rfl (Nat.le_of_ble_eq_true rfl) dX4_init_19 (fun H locs hP hD hS => ?_)
  have hP : va_P D vwCl [(h0, .inr (4, [.ref q7, .int (zI 0), .int (zI 0), .int (zI 0), .null, .null, .null])), (q7, .inl (cI, 7, .inl (fun _ => zI 0)))] H := hP
  have hD : va_D A [(h0, .inr (4, [.ref q7, .int (zI 0), .int (zI 0), .int (zI 0), .null, .null, .null])), (q7, .inl (cI, 7, .inl (fun _ => zI 0)))] := hD
  refine lv_aload_n hx hb dX4_init_22 rfl (lv_at hl 0 rfl) ?_
  refine z_iconst hx hb dX4_init_23 ?_
  refine va_put (D := D) (ci := 4) (v := .int (zI 0)) (ty := .int) (C := RX4) (T := TX4) (N := 7) hx hb hT inX4 tyX4 tyX4_ok nmX4 hown hK hP hD hS 0 rfl rfl 3 (by decide) (hT _ q_81) (fun _ h9 => h9) rfl (by decide +kernel) rfl rfl (Nat.le_of_ble_eq_true rfl) dX4_init_24 (fun H locs hP hD hS => ?_)
  have hP : va_P D vwCl [(h0, .inr (4, [.ref q7, .int (zI 0), .int (zI 0), .int (zI 0), .null, .null, .null])), (q7, .inl (cI, 7, .inl (fun _ => zI 0)))] H := hP
  have hD : va_D A [(h0, .inr (4, [.ref q7, .int (zI 0), .int (zI 0), .int (zI 0), .null, .null, .null])), (q7, .inl (cI, 7, .inl (fun _ => zI 0)))] := hD
  refine lv_aload_n hx hb dX4_init_27 rfl (lv_at hl 0 rfl) ?_
  refine z_bipush hx hb dX4_init_28 (by decide) ?_
  refine i_newI (Ts := lwT) hx hb (hT _ q_38) hK hP hD hS hA 6 (by decide) (Nat.le_of_ble_eq_true rfl) (Nat.le_of_ble_eq_true rfl) dX4_init_30 (fun q30 H hP hD hS => ?_)
  have hP : va_P D vwCl [(h0, .inr (4, [.ref q7, .int (zI 0), .int (zI 0), .int (zI 0), .null, .null, .null])), (q7, .inl (cI, 7, .inl (fun _ => zI 0))), (q30, .inl (cI, 6, .inl (fun _ => zI 0)))] H := hP
  have hD : va_D A [(h0, .inr (4, [.ref q7, .int (zI 0), .int (zI 0), .int (zI 0), .null, .null, .null])), (q7, .inl (cI, 7, .inl (fun _ => zI 0))), (q30, .inl (cI, 6, .inl (fun _ => zI 0)))] := hD
  refine W.widen (k := 2) (n := 13) (Nat.le_of_ble_eq_true rfl) (Nat.le_of_ble_eq_true rfl) ?_
  refine va_putF (D := D) (ci := 4) (v := .ref q30) (ty := .array .int) (C := RX4) (T := TX4) (N := 7) hx hb hT inX4 tyX4 tyX4_ok nmX4 hown hK hP hD hS 0 rfl rfl 4 (by decide) (hT _ q_84) (fun _ h9 => h9) rfl hin rfl (by decide +kernel) rfl rfl (Nat.le_of_ble_eq_true rfl) dX4_init_32 (fun H locs hP hD hS => ?_)
  have hP : va_P D vwCl [(h0, .inr (4, [.ref q7, .int (zI 0), .int (zI 0), .int (zI 0), .ref q30, .null, .null])), (q7, .inl (cI, 7, .inl (fun _ => zI 0))), (q30, .inl (cI, 6, .inl (fun _ => zI 0)))] H := hP
  have hD : va_D A [(h0, .inr (4, [.ref q7, .int (zI 0), .int (zI 0), .int (zI 0), .ref q30, .null, .null])), (q7, .inl (cI, 7, .inl (fun _ => zI 0))), (q30, .inl (cI, 6, .inl (fun _ => zI 0)))] := hD
  refine lv_aload_n hx hb dX4_init_35 rfl (lv_at hl 0 rfl) ?_
  refine z_bipush hx hb dX4_init_36 (by decide) ?_
  refine i_newI (Ts := lwT) hx hb (hT _ q_38) hK hP hD hS hA 6 (by decide) (Nat.le_of_ble_eq_true rfl) (Nat.le_of_ble_eq_true rfl) dX4_init_38 (fun q38 H hP hD hS => ?_)
  have hP : va_P D vwCl [(h0, .inr (4, [.ref q7, .int (zI 0), .int (zI 0), .int (zI 0), .ref q30, .null, .null])), (q7, .inl (cI, 7, .inl (fun _ => zI 0))), (q30, .inl (cI, 6, .inl (fun _ => zI 0))), (q38, .inl (cI, 6, .inl (fun _ => zI 0)))] H := hP
  have hD : va_D A [(h0, .inr (4, [.ref q7, .int (zI 0), .int (zI 0), .int (zI 0), .ref q30, .null, .null])), (q7, .inl (cI, 7, .inl (fun _ => zI 0))), (q30, .inl (cI, 6, .inl (fun _ => zI 0))), (q38, .inl (cI, 6, .inl (fun _ => zI 0)))] := hD
  refine W.widen (k := 3) (n := 19) (Nat.le_of_ble_eq_true rfl) (Nat.le_of_ble_eq_true rfl) ?_
  refine va_putF (D := D) (ci := 4) (v := .ref q38) (ty := .array .int) (C := RX4) (T := TX4) (N := 7) hx hb hT inX4 tyX4 tyX4_ok nmX4 hown hK hP hD hS 0 rfl rfl 5 (by decide) (hT _ q_86) (fun _ h9 => h9) rfl hin rfl (by decide +kernel) rfl rfl (Nat.le_of_ble_eq_true rfl) dX4_init_40 (fun H locs hP hD hS => ?_)
  have hP : va_P D vwCl [(h0, .inr (4, [.ref q7, .int (zI 0), .int (zI 0), .int (zI 0), .ref q30, .ref q38, .null])), (q7, .inl (cI, 7, .inl (fun _ => zI 0))), (q30, .inl (cI, 6, .inl (fun _ => zI 0))), (q38, .inl (cI, 6, .inl (fun _ => zI 0)))] H := hP
  have hD : va_D A [(h0, .inr (4, [.ref q7, .int (zI 0), .int (zI 0), .int (zI 0), .ref q30, .ref q38, .null])), (q7, .inl (cI, 7, .inl (fun _ => zI 0))), (q30, .inl (cI, 6, .inl (fun _ => zI 0))), (q38, .inl (cI, 6, .inl (fun _ => zI 0)))] := hD
  refine lv_aload_n hx hb dX4_init_43 rfl (lv_at hl 0 rfl) ?_
  refine z_bipush hx hb dX4_init_44 (by decide) ?_
  refine i_newZ (Ts := lwT) hx hb (hT _ q_105) hK hP hD hS hA 6 (by decide) (Nat.le_of_ble_eq_true rfl) (Nat.le_of_ble_eq_true rfl) dX4_init_46 (fun q46 H hP hD hS => ?_)
  have hP : va_P D vwCl [(h0, .inr (4, [.ref q7, .int (zI 0), .int (zI 0), .int (zI 0), .ref q30, .ref q38, .null])), (q7, .inl (cI, 7, .inl (fun _ => zI 0))), (q30, .inl (cI, 6, .inl (fun _ => zI 0))), (q38, .inl (cI, 6, .inl (fun _ => zI 0))), (q46, .inl (cZ, 6, .inl (fun _ => zI 0)))] H := hP
  have hD : va_D A [(h0, .inr (4, [.ref q7, .int (zI 0), .int (zI 0), .int (zI 0), .ref q30, .ref q38, .null])), (q7, .inl (cI, 7, .inl (fun _ => zI 0))), (q30, .inl (cI, 6, .inl (fun _ => zI 0))), (q38, .inl (cI, 6, .inl (fun _ => zI 0))), (q46, .inl (cZ, 6, .inl (fun _ => zI 0)))] := hD
  refine W.widen (k := 4) (n := 25) (Nat.le_of_ble_eq_true rfl) (Nat.le_of_ble_eq_true rfl) ?_
  refine va_putF (D := D) (ci := 4) (v := .ref q46) (ty := .array .boolean) (C := RX4) (T := TX4) (N := 7) hx hb hT inX4 tyX4 tyX4_ok nmX4 hown hK hP hD hS 0 rfl rfl 6 (by decide) (hT _ q_88) (fun _ h9 => h9) rfl hin rfl (by decide +kernel) rfl rfl (Nat.le_of_ble_eq_true rfl) dX4_init_48 (fun H locs hP hD hS => ?_)
  have hP : va_P D vwCl [(h0, .inr (4, [.ref q7, .int (zI 0), .int (zI 0), .int (zI 0), .ref q30, .ref q38, .ref q46])), (q7, .inl (cI, 7, .inl (fun _ => zI 0))), (q30, .inl (cI, 6, .inl (fun _ => zI 0))), (q38, .inl (cI, 6, .inl (fun _ => zI 0))), (q46, .inl (cZ, 6, .inl (fun _ => zI 0)))] H := hP
  have hD : va_D A [(h0, .inr (4, [.ref q7, .int (zI 0), .int (zI 0), .int (zI 0), .ref q30, .ref q38, .ref q46])), (q7, .inl (cI, 7, .inl (fun _ => zI 0))), (q30, .inl (cI, 6, .inl (fun _ => zI 0))), (q38, .inl (cI, 6, .inl (fun _ => zI 0))), (q46, .inl (cZ, 6, .inl (fun _ => zI 0)))] := hD
  have hP9 : va_P D vwCl ((fun a : Nat → Nat => [(h0, .inr (4, [.ref (a 0), .int (zI 0), .int (zI 0), .int (zI 0), .ref (a 1), .ref (a 2), .ref (a 3)])), ((a 0), .inl (cI, 7, .inl (fun _ => zI 0))), ((a 1), .inl (cI, 6, .inl (fun _ => zI 0))), ((a 2), .inl (cI, 6, .inl (fun _ => zI 0))), ((a 3), .inl (cZ, 6, .inl (fun _ => zI 0)))]) (fun k => [q7, q30, q38, q46].getD k 0)) H := hP.sub (ws' := [(h0, .inr (4, [.ref q7, .int (zI 0), .int (zI 0), .int (zI 0), .ref q30, .ref q38, .ref q46])), (q7, .inl (cI, 7, .inl (fun _ => zI 0))), (q30, .inl (cI, 6, .inl (fun _ => zI 0))), (q38, .inl (cI, 6, .inl (fun _ => zI 0))), (q46, .inl (cZ, 6, .inl (fun _ => zI 0)))]) [0, 1, 2, 3, 4] rfl
  have hD9 : va_D A ((fun a : Nat → Nat => [(h0, .inr (4, [.ref (a 0), .int (zI 0), .int (zI 0), .int (zI 0), .ref (a 1), .ref (a 2), .ref (a 3)])), ((a 0), .inl (cI, 7, .inl (fun _ => zI 0))), ((a 1), .inl (cI, 6, .inl (fun _ => zI 0))), ((a 2), .inl (cI, 6, .inl (fun _ => zI 0))), ((a 3), .inl (cZ, 6, .inl (fun _ => zI 0)))]) (fun k => [q7, q30, q38, q46].getD k 0)) := hD.sub (ws' := [(h0, .inr (4, [.ref q7, .int (zI 0), .int (zI 0), .int (zI 0), .ref q30, .ref q38, .ref q46])), (q7, .inl (cI, 7, .inl (fun _ => zI 0))), (q30, .inl (cI, 6, .inl (fun _ => zI 0))), (q38, .inl (cI, 6, .inl (fun _ => zI 0))), (q46, .inl (cZ, 6, .inl (fun _ => zI 0)))]) [0, 1, 2, 3, 4] (by decide) rfl
  exact W.vret hx hb hr (fun t ht hW => ⟨⟨(fun k => [q7, q30, q38, q46].getD k 0), rfl, trivial, by rw [ht]; exact hP9, hD9⟩, hS.F ht⟩) hS.2.2 dX4_init_51
set_option maxHeartbeats 4000000 in
set_option maxRecDepth 100000 in
theorem i_X5 (l : Launch) (D : va_G) (cI cZ : ClassId) (h0 sz : Nat) (hf : Nat) (hk : Nat) : Met l yX5_init (Cond.code yX5_init cX5_init 3 none :: lwT) ({ frames := 1, cells := 2, slots := 924, locals := 20 }) (iPc D cI cZ sz [(h0, .inr (5, [.int (zI 0), .null, .null, .null, .null]))] [.ref h0, .ref hf, .ref hk]) (va_Qv (fun a : Nat → Nat => True) (iB D (fun a : Nat → Nat => [(h0, .inr (5, [.int (zI 0), .ref hf, .ref hk, .ref (a 0), .ref (a 1)])), ((a 0), .inl (cZ, 462, .inl (fun _ => zI 0))), ((a 1), .inl (cI, 462, .inl (fun _ => zI 0)))]) (va_A [(h0, .inr (5, [.int (zI 0), .null, .null, .null, .null]))] sz)) (va_A [(h0, .inr (5, [.int (zI 0), .null, .null, .null, .null]))] sz)) 2 924 (va_A [(h0, .inr (5, [.int (zI 0), .null, .null, .null, .null]))] sz) := by
  refine Met.ofW (cc := cX5_init) (maxL := 3) (ret := none) (by decide) rfl ?_
  intro p e s m args below meth c s₁ B hml hv
  obtain ⟨rfl, hsz, hP, hK⟩ := hv
  have hx := B.exec
  have hb := B.bytes
  have hr := B.returns
  have hts := atoms_spec (ws := Cond.code yX5_init cX5_init 3 none :: lwT) B.pre
  have hT := fun w (h : w ∈ lwT) => hts w (List.mem_cons_of_mem _ h)
  have hsub : ∀ w ∈ lwT, w ∈ (Cond.code yX5_init cX5_init 3 none :: lwT) := fun w h => List.mem_cons_of_mem _ h
  have hown : s.vm.findClass RX5 = some m.cls := findClass_of_methodNamed B.named
  have hlocks := B.notSynchronized
  have hin : meth.name = "<init>" := (name_of_methodNamed B.named B.method).1
  subst hsz
  have hD0 : va_D (fun _ => True) [(h0, .inr (5, [.int (zI 0), .null, .null, .null, .null]))] := ⟨fun i j p q h1 h2 _ => by
    have e1 : i < 1 := (List.getElem?_eq_some_iff.mp h1).1
    have e2 : j < 1 := (List.getElem?_eq_some_iff.mp h2).1
    omega, fun _ _ _ => trivial⟩
  have hD := hD0.self (sz := s.heap.size)
  generalize hAe : va_A [(h0, .inr (5, [.int (zI 0), .null, .null, .null, .null]))] s.heap.size = A at hD ⊢
  have hA : ∀ q : Nat, s.heap.size ≤ q → A q := fun q h => by rw [← hAe]; exact Or.inr h
  have hS : va_S A s.heap s.heap [] := va_S.rf
  have hP : va_P D vwCl [(h0, .inr (5, [.int (zI 0), .null, .null, .null, .null]))] s.heap := hP
  have hl := lv_entry ([.ref h0, .ref hf, .ref hk]) (n := 3) (Nat.le_of_ble_eq_true rfl)
  rw [lg_entry_eq]
  generalize (lg_sl ([.ref h0, .ref hf, .ref hk]) ++ List.replicate (3 - (lg_sl ([.ref h0, .ref hf, .ref hk])).length) Slot.unset).toArray = ls at hl ⊢
  have hl : lv_has ls 3 [(0, .ref h0), (1, .ref hf), (2, .ref hk)] := hl
  refine lv_aload_n hx hb dX5_init_0 rfl (lv_at hl 0 rfl) ?_
  refine W.objInit hx hb hown (hT _ q_111) (hT _ q_21) (hT _ q_22) rfl (by rw [hml]; exact hl.1) rfl dX5_init_1 (Nat.le_of_ble_eq_true rfl) (Nat.le_of_ble_eq_true rfl) ?_
  refine W.eq (g2 := F0 m 4 ls []) rfl ?_
  refine lv_aload_n hx hb dX5_init_4 rfl (lv_at hl 0 rfl) ?_
  refine z_iconst hx hb dX5_init_5 ?_
  refine va_put (D := D) (ci := 5) (v := .int (zI 0)) (ty := .int) (C := RX5) (T := TX5) (N := 5) hx hb hT inX5 tyX5 tyX5_ok nmX5 hown hK hP hD hS 0 rfl rfl 0 (by decide) (hT _ q_112) (fun _ h9 => h9) rfl (by decide +kernel) rfl rfl (Nat.le_of_ble_eq_true rfl) dX5_init_6 (fun H locs hP hD hS => ?_)
  have hP : va_P D vwCl [(h0, .inr (5, [.int (zI 0), .null, .null, .null, .null]))] H := hP
  have hD : va_D A [(h0, .inr (5, [.int (zI 0), .null, .null, .null, .null]))] := hD
  refine lv_aload_n hx hb dX5_init_9 rfl (lv_at hl 0 rfl) ?_
  refine z_sipush hx hb dX5_init_10 (by decide) ?_
  refine i_newZ (Ts := lwT) hx hb (hT _ q_105) hK hP hD hS hA 462 (by decide) (Nat.le_of_ble_eq_true rfl) (Nat.le_of_ble_eq_true rfl) dX5_init_13 (fun q13 H hP hD hS => ?_)
  have hP : va_P D vwCl [(h0, .inr (5, [.int (zI 0), .null, .null, .null, .null])), (q13, .inl (cZ, 462, .inl (fun _ => zI 0)))] H := hP
  have hD : va_D A [(h0, .inr (5, [.int (zI 0), .null, .null, .null, .null])), (q13, .inl (cZ, 462, .inl (fun _ => zI 0)))] := hD
  refine W.widen (k := 1) (n := 462) (Nat.le_of_ble_eq_true rfl) (Nat.le_of_ble_eq_true rfl) ?_
  refine va_putF (D := D) (ci := 5) (v := .ref q13) (ty := .array .boolean) (C := RX5) (T := TX5) (N := 5) hx hb hT inX5 tyX5 tyX5_ok nmX5 hown hK hP hD hS 0 rfl rfl 3 (by decide) (hT _ q_116) (fun _ h9 => h9) rfl hin rfl (by decide +kernel) rfl rfl (Nat.le_of_ble_eq_true rfl) dX5_init_15 (fun H locs hP hD hS => ?_)
  have hP : va_P D vwCl [(h0, .inr (5, [.int (zI 0), .null, .null, .ref q13, .null])), (q13, .inl (cZ, 462, .inl (fun _ => zI 0)))] H := hP
  have hD : va_D A [(h0, .inr (5, [.int (zI 0), .null, .null, .ref q13, .null])), (q13, .inl (cZ, 462, .inl (fun _ => zI 0)))] := hD
  refine lv_aload_n hx hb dX5_init_18 rfl (lv_at hl 0 rfl) ?_
  refine z_sipush hx hb dX5_init_19 (by decide) ?_
  refine i_newI (Ts := lwT) hx hb (hT _ q_38) hK hP hD hS hA 462 (by decide) (Nat.le_of_ble_eq_true rfl) (Nat.le_of_ble_eq_true rfl) dX5_init_22 (fun q22 H hP hD hS => ?_)
  have hP : va_P D vwCl [(h0, .inr (5, [.int (zI 0), .null, .null, .ref q13, .null])), (q13, .inl (cZ, 462, .inl (fun _ => zI 0))), (q22, .inl (cI, 462, .inl (fun _ => zI 0)))] H := hP
  have hD : va_D A [(h0, .inr (5, [.int (zI 0), .null, .null, .ref q13, .null])), (q13, .inl (cZ, 462, .inl (fun _ => zI 0))), (q22, .inl (cI, 462, .inl (fun _ => zI 0)))] := hD
  refine W.widen (k := 2) (n := 924) (Nat.le_of_ble_eq_true rfl) (Nat.le_of_ble_eq_true rfl) ?_
  refine va_putF (D := D) (ci := 5) (v := .ref q22) (ty := .array .int) (C := RX5) (T := TX5) (N := 5) hx hb hT inX5 tyX5 tyX5_ok nmX5 hown hK hP hD hS 0 rfl rfl 4 (by decide) (hT _ q_117) (fun _ h9 => h9) rfl hin rfl (by decide +kernel) rfl rfl (Nat.le_of_ble_eq_true rfl) dX5_init_24 (fun H locs hP hD hS => ?_)
  have hP : va_P D vwCl [(h0, .inr (5, [.int (zI 0), .null, .null, .ref q13, .ref q22])), (q13, .inl (cZ, 462, .inl (fun _ => zI 0))), (q22, .inl (cI, 462, .inl (fun _ => zI 0)))] H := hP
  have hD : va_D A [(h0, .inr (5, [.int (zI 0), .null, .null, .ref q13, .ref q22])), (q13, .inl (cZ, 462, .inl (fun _ => zI 0))), (q22, .inl (cI, 462, .inl (fun _ => zI 0)))] := hD
  refine lv_aload_n hx hb dX5_init_27 rfl (lv_at hl 0 rfl) ?_
  refine lv_aload_n hx hb dX5_init_28 rfl (lv_at hl 1 rfl) ?_
  refine va_putF (D := D) (ci := 5) (v := .ref hf) (ty := .object "FoldedStrip$Folds") (C := RX5) (T := TX5) (N := 5) hx hb hT inX5 tyX5 tyX5_ok nmX5 hown hK hP hD hS 0 rfl rfl 1 (by decide) (hT _ q_114) (fun _ h9 => h9) rfl hin rfl (by decide +kernel) rfl rfl (Nat.le_of_ble_eq_true rfl) dX5_init_29 (fun H locs hP hD hS => ?_)
  have hP : va_P D vwCl [(h0, .inr (5, [.int (zI 0), .ref hf, .null, .ref q13, .ref q22])), (q13, .inl (cZ, 462, .inl (fun _ => zI 0))), (q22, .inl (cI, 462, .inl (fun _ => zI 0)))] H := hP
  have hD : va_D A [(h0, .inr (5, [.int (zI 0), .ref hf, .null, .ref q13, .ref q22])), (q13, .inl (cZ, 462, .inl (fun _ => zI 0))), (q22, .inl (cI, 462, .inl (fun _ => zI 0)))] := hD
  refine lv_aload_n hx hb dX5_init_32 rfl (lv_at hl 0 rfl) ?_
  refine lv_aload_n hx hb dX5_init_33 rfl (lv_at hl 2 rfl) ?_
  refine va_putF (D := D) (ci := 5) (v := .ref hk) (ty := .array .int) (C := RX5) (T := TX5) (N := 5) hx hb hT inX5 tyX5 tyX5_ok nmX5 hown hK hP hD hS 0 rfl rfl 2 (by decide) (hT _ q_115) (fun _ h9 => h9) rfl hin rfl (by decide +kernel) rfl rfl (Nat.le_of_ble_eq_true rfl) dX5_init_34 (fun H locs hP hD hS => ?_)
  have hP : va_P D vwCl [(h0, .inr (5, [.int (zI 0), .ref hf, .ref hk, .ref q13, .ref q22])), (q13, .inl (cZ, 462, .inl (fun _ => zI 0))), (q22, .inl (cI, 462, .inl (fun _ => zI 0)))] H := hP
  have hD : va_D A [(h0, .inr (5, [.int (zI 0), .ref hf, .ref hk, .ref q13, .ref q22])), (q13, .inl (cZ, 462, .inl (fun _ => zI 0))), (q22, .inl (cI, 462, .inl (fun _ => zI 0)))] := hD
  have hP9 : va_P D vwCl ((fun a : Nat → Nat => [(h0, .inr (5, [.int (zI 0), .ref hf, .ref hk, .ref (a 0), .ref (a 1)])), ((a 0), .inl (cZ, 462, .inl (fun _ => zI 0))), ((a 1), .inl (cI, 462, .inl (fun _ => zI 0)))]) (fun k => [q13, q22].getD k 0)) H := hP.sub (ws' := [(h0, .inr (5, [.int (zI 0), .ref hf, .ref hk, .ref q13, .ref q22])), (q13, .inl (cZ, 462, .inl (fun _ => zI 0))), (q22, .inl (cI, 462, .inl (fun _ => zI 0)))]) [0, 1, 2] rfl
  have hD9 : va_D A ((fun a : Nat → Nat => [(h0, .inr (5, [.int (zI 0), .ref hf, .ref hk, .ref (a 0), .ref (a 1)])), ((a 0), .inl (cZ, 462, .inl (fun _ => zI 0))), ((a 1), .inl (cI, 462, .inl (fun _ => zI 0)))]) (fun k => [q13, q22].getD k 0)) := hD.sub (ws' := [(h0, .inr (5, [.int (zI 0), .ref hf, .ref hk, .ref q13, .ref q22])), (q13, .inl (cZ, 462, .inl (fun _ => zI 0))), (q22, .inl (cI, 462, .inl (fun _ => zI 0)))]) [0, 1, 2] (by decide) rfl
  exact W.vret hx hb hr (fun t ht hW => ⟨⟨(fun k => [q13, q22].getD k 0), rfl, trivial, by rw [ht]; exact hP9, hD9⟩, hS.F ht⟩) hS.2.2 dX5_init_37
set_option maxHeartbeats 4000000 in
set_option maxRecDepth 100000 in
theorem i_X3 (l : Launch) (D : va_G) (cI cZ : ClassId) (h0 sz : Nat) (hf : Nat) : Met l yX3_init (Cond.code yX3_init cX3_init 2 none :: lwT) ({ frames := 1, cells := 4, slots := 5351, locals := 20 }) (iPc D cI cZ sz [(h0, .inr (3, [.null, .int (zI 0), .int (zI 0), .int (zI 0), .null, .null, .null, .null]))] [.ref h0, .ref hf]) (va_Qv (fun a : Nat → Nat => True) (iB D (fun a : Nat → Nat => [(h0, .inr (3, [.ref hf, .int (zI 0), .int (zI (-1)), .int (zI 0), .ref (a 0), .ref (a 1), .ref (a 2), .ref (a 3)])), ((a 0), .inl (cI, 463, .inl (fun _ => zI 0))), ((a 1), .inl (cI, 3964, .inl (fun _ => zI 0))), ((a 2), .inl (cI, 462, .inl (fun _ => zI 0))), ((a 3), .inl (cI, 462, .inl (fun _ => zI 0)))]) (va_A [(h0, .inr (3, [.null, .int (zI 0), .int (zI 0), .int (zI 0), .null, .null, .null, .null]))] sz)) (va_A [(h0, .inr (3, [.null, .int (zI 0), .int (zI 0), .int (zI 0), .null, .null, .null, .null]))] sz)) 4 5351 (va_A [(h0, .inr (3, [.null, .int (zI 0), .int (zI 0), .int (zI 0), .null, .null, .null, .null]))] sz) := by
  refine Met.ofW (cc := cX3_init) (maxL := 2) (ret := none) (by decide) rfl ?_
  intro p e s m args below meth c s₁ B hml hv
  obtain ⟨rfl, hsz, hP, hK⟩ := hv
  have hx := B.exec
  have hb := B.bytes
  have hr := B.returns
  have hts := atoms_spec (ws := Cond.code yX3_init cX3_init 2 none :: lwT) B.pre
  have hT := fun w (h : w ∈ lwT) => hts w (List.mem_cons_of_mem _ h)
  have hsub : ∀ w ∈ lwT, w ∈ (Cond.code yX3_init cX3_init 2 none :: lwT) := fun w h => List.mem_cons_of_mem _ h
  have hown : s.vm.findClass RX3 = some m.cls := findClass_of_methodNamed B.named
  have hlocks := B.notSynchronized
  have hin : meth.name = "<init>" := (name_of_methodNamed B.named B.method).1
  subst hsz
  have hD0 : va_D (fun _ => True) [(h0, .inr (3, [.null, .int (zI 0), .int (zI 0), .int (zI 0), .null, .null, .null, .null]))] := ⟨fun i j p q h1 h2 _ => by
    have e1 : i < 1 := (List.getElem?_eq_some_iff.mp h1).1
    have e2 : j < 1 := (List.getElem?_eq_some_iff.mp h2).1
    omega, fun _ _ _ => trivial⟩
  have hD := hD0.self (sz := s.heap.size)
  generalize hAe : va_A [(h0, .inr (3, [.null, .int (zI 0), .int (zI 0), .int (zI 0), .null, .null, .null, .null]))] s.heap.size = A at hD ⊢
  have hA : ∀ q : Nat, s.heap.size ≤ q → A q := fun q h => by rw [← hAe]; exact Or.inr h
  have hS : va_S A s.heap s.heap [] := va_S.rf
  have hP : va_P D vwCl [(h0, .inr (3, [.null, .int (zI 0), .int (zI 0), .int (zI 0), .null, .null, .null, .null]))] s.heap := hP
  have hl := lv_entry ([.ref h0, .ref hf]) (n := 2) (Nat.le_of_ble_eq_true rfl)
  rw [lg_entry_eq]
  generalize (lg_sl ([.ref h0, .ref hf]) ++ List.replicate (2 - (lg_sl ([.ref h0, .ref hf])).length) Slot.unset).toArray = ls at hl ⊢
  have hl : lv_has ls 2 [(0, .ref h0), (1, .ref hf)] := hl
  refine lv_aload_n hx hb dX3_init_0 rfl (lv_at hl 0 rfl) ?_
  refine W.objInit hx hb hown (hT _ q_134) (hT _ q_21) (hT _ q_22) rfl (by rw [hml]; exact hl.1) rfl dX3_init_1 (Nat.le_of_ble_eq_true rfl) (Nat.le_of_ble_eq_true rfl) ?_
  refine W.eq (g2 := F0 m 4 ls []) rfl ?_
  refine lv_aload_n hx hb dX3_init_4 rfl (lv_at hl 0 rfl) ?_
  refine z_iconst hx hb dX3_init_5 ?_
  refine va_put (D := D) (ci := 3) (v := .int (zI 0)) (ty := .int) (C := RX3) (T := TX3) (N := 8) hx hb hT inX3 tyX3 tyX3_ok nmX3 hown hK hP hD hS 0 rfl rfl 1 (by decide) (hT _ q_136) (fun _ h9 => h9) rfl (by decide +kernel) rfl rfl (Nat.le_of_ble_eq_true rfl) dX3_init_6 (fun H locs hP hD hS => ?_)
  have hP : va_P D vwCl [(h0, .inr (3, [.null, .int (zI 0), .int (zI 0), .int (zI 0), .null, .null, .null, .null]))] H := hP
  have hD : va_D A [(h0, .inr (3, [.null, .int (zI 0), .int (zI 0), .int (zI 0), .null, .null, .null, .null]))] := hD
  refine lv_aload_n hx hb dX3_init_9 rfl (lv_at hl 0 rfl) ?_
  refine z_iconst hx hb dX3_init_10 ?_
  refine va_put (D := D) (ci := 3) (v := .int (zI (-1))) (ty := .int) (C := RX3) (T := TX3) (N := 8) hx hb hT inX3 tyX3 tyX3_ok nmX3 hown hK hP hD hS 0 rfl rfl 2 (by decide) (hT _ q_137) (fun _ h9 => h9) rfl (by decide +kernel) rfl rfl (Nat.le_of_ble_eq_true rfl) dX3_init_11 (fun H locs hP hD hS => ?_)
  have hP : va_P D vwCl [(h0, .inr (3, [.null, .int (zI 0), .int (zI (-1)), .int (zI 0), .null, .null, .null, .null]))] H := hP
  have hD : va_D A [(h0, .inr (3, [.null, .int (zI 0), .int (zI (-1)), .int (zI 0), .null, .null, .null, .null]))] := hD
  refine lv_aload_n hx hb dX3_init_14 rfl (lv_at hl 0 rfl) ?_
  refine z_iconst hx hb dX3_init_15 ?_
  refine va_put (D := D) (ci := 3) (v := .int (zI 0)) (ty := .int) (C := RX3) (T := TX3) (N := 8) hx hb hT inX3 tyX3 tyX3_ok nmX3 hown hK hP hD hS 0 rfl rfl 3 (by decide) (hT _ q_138) (fun _ h9 => h9) rfl (by decide +kernel) rfl rfl (Nat.le_of_ble_eq_true rfl) dX3_init_16 (fun H locs hP hD hS => ?_)
  have hP : va_P D vwCl [(h0, .inr (3, [.null, .int (zI 0), .int (zI (-1)), .int (zI 0), .null, .null, .null, .null]))] H := hP
  have hD : va_D A [(h0, .inr (3, [.null, .int (zI 0), .int (zI (-1)), .int (zI 0), .null, .null, .null, .null]))] := hD
  refine lv_aload_n hx hb dX3_init_19 rfl (lv_at hl 0 rfl) ?_
  refine z_sipush hx hb dX3_init_20 (by decide) ?_
  refine i_newI (Ts := lwT) hx hb (hT _ q_38) hK hP hD hS hA 463 (by decide) (Nat.le_of_ble_eq_true rfl) (Nat.le_of_ble_eq_true rfl) dX3_init_23 (fun q23 H hP hD hS => ?_)
  have hP : va_P D vwCl [(h0, .inr (3, [.null, .int (zI 0), .int (zI (-1)), .int (zI 0), .null, .null, .null, .null])), (q23, .inl (cI, 463, .inl (fun _ => zI 0)))] H := hP
  have hD : va_D A [(h0, .inr (3, [.null, .int (zI 0), .int (zI (-1)), .int (zI 0), .null, .null, .null, .null])), (q23, .inl (cI, 463, .inl (fun _ => zI 0)))] := hD
  refine W.widen (k := 1) (n := 463) (Nat.le_of_ble_eq_true rfl) (Nat.le_of_ble_eq_true rfl) ?_
  refine va_putF (D := D) (ci := 3) (v := .ref q23) (ty := .array .int) (C := RX3) (T := TX3) (N := 8) hx hb hT inX3 tyX3 tyX3_ok nmX3 hown hK hP hD hS 0 rfl rfl 4 (by decide) (hT _ q_139) (fun _ h9 => h9) rfl hin rfl (by decide +kernel) rfl rfl (Nat.le_of_ble_eq_true rfl) dX3_init_25 (fun H locs hP hD hS => ?_)
  have hP : va_P D vwCl [(h0, .inr (3, [.null, .int (zI 0), .int (zI (-1)), .int (zI 0), .ref q23, .null, .null, .null])), (q23, .inl (cI, 463, .inl (fun _ => zI 0)))] H := hP
  have hD : va_D A [(h0, .inr (3, [.null, .int (zI 0), .int (zI (-1)), .int (zI 0), .ref q23, .null, .null, .null])), (q23, .inl (cI, 463, .inl (fun _ => zI 0)))] := hD
  refine lv_aload_n hx hb dX3_init_28 rfl (lv_at hl 0 rfl) ?_
  refine z_sipush hx hb dX3_init_29 (by decide) ?_
  refine i_newI (Ts := lwT) hx hb (hT _ q_38) hK hP hD hS hA 3964 (by decide) (Nat.le_of_ble_eq_true rfl) (Nat.le_of_ble_eq_true rfl) dX3_init_32 (fun q32 H hP hD hS => ?_)
  have hP : va_P D vwCl [(h0, .inr (3, [.null, .int (zI 0), .int (zI (-1)), .int (zI 0), .ref q23, .null, .null, .null])), (q23, .inl (cI, 463, .inl (fun _ => zI 0))), (q32, .inl (cI, 3964, .inl (fun _ => zI 0)))] H := hP
  have hD : va_D A [(h0, .inr (3, [.null, .int (zI 0), .int (zI (-1)), .int (zI 0), .ref q23, .null, .null, .null])), (q23, .inl (cI, 463, .inl (fun _ => zI 0))), (q32, .inl (cI, 3964, .inl (fun _ => zI 0)))] := hD
  refine W.widen (k := 2) (n := 4427) (Nat.le_of_ble_eq_true rfl) (Nat.le_of_ble_eq_true rfl) ?_
  refine va_putF (D := D) (ci := 3) (v := .ref q32) (ty := .array .int) (C := RX3) (T := TX3) (N := 8) hx hb hT inX3 tyX3 tyX3_ok nmX3 hown hK hP hD hS 0 rfl rfl 5 (by decide) (hT _ q_140) (fun _ h9 => h9) rfl hin rfl (by decide +kernel) rfl rfl (Nat.le_of_ble_eq_true rfl) dX3_init_34 (fun H locs hP hD hS => ?_)
  have hP : va_P D vwCl [(h0, .inr (3, [.null, .int (zI 0), .int (zI (-1)), .int (zI 0), .ref q23, .ref q32, .null, .null])), (q23, .inl (cI, 463, .inl (fun _ => zI 0))), (q32, .inl (cI, 3964, .inl (fun _ => zI 0)))] H := hP
  have hD : va_D A [(h0, .inr (3, [.null, .int (zI 0), .int (zI (-1)), .int (zI 0), .ref q23, .ref q32, .null, .null])), (q23, .inl (cI, 463, .inl (fun _ => zI 0))), (q32, .inl (cI, 3964, .inl (fun _ => zI 0)))] := hD
  refine lv_aload_n hx hb dX3_init_37 rfl (lv_at hl 0 rfl) ?_
  refine z_sipush hx hb dX3_init_38 (by decide) ?_
  refine i_newI (Ts := lwT) hx hb (hT _ q_38) hK hP hD hS hA 462 (by decide) (Nat.le_of_ble_eq_true rfl) (Nat.le_of_ble_eq_true rfl) dX3_init_41 (fun q41 H hP hD hS => ?_)
  have hP : va_P D vwCl [(h0, .inr (3, [.null, .int (zI 0), .int (zI (-1)), .int (zI 0), .ref q23, .ref q32, .null, .null])), (q23, .inl (cI, 463, .inl (fun _ => zI 0))), (q32, .inl (cI, 3964, .inl (fun _ => zI 0))), (q41, .inl (cI, 462, .inl (fun _ => zI 0)))] H := hP
  have hD : va_D A [(h0, .inr (3, [.null, .int (zI 0), .int (zI (-1)), .int (zI 0), .ref q23, .ref q32, .null, .null])), (q23, .inl (cI, 463, .inl (fun _ => zI 0))), (q32, .inl (cI, 3964, .inl (fun _ => zI 0))), (q41, .inl (cI, 462, .inl (fun _ => zI 0)))] := hD
  refine W.widen (k := 3) (n := 4889) (Nat.le_of_ble_eq_true rfl) (Nat.le_of_ble_eq_true rfl) ?_
  refine va_putF (D := D) (ci := 3) (v := .ref q41) (ty := .array .int) (C := RX3) (T := TX3) (N := 8) hx hb hT inX3 tyX3 tyX3_ok nmX3 hown hK hP hD hS 0 rfl rfl 6 (by decide) (hT _ q_141) (fun _ h9 => h9) rfl hin rfl (by decide +kernel) rfl rfl (Nat.le_of_ble_eq_true rfl) dX3_init_43 (fun H locs hP hD hS => ?_)
  have hP : va_P D vwCl [(h0, .inr (3, [.null, .int (zI 0), .int (zI (-1)), .int (zI 0), .ref q23, .ref q32, .ref q41, .null])), (q23, .inl (cI, 463, .inl (fun _ => zI 0))), (q32, .inl (cI, 3964, .inl (fun _ => zI 0))), (q41, .inl (cI, 462, .inl (fun _ => zI 0)))] H := hP
  have hD : va_D A [(h0, .inr (3, [.null, .int (zI 0), .int (zI (-1)), .int (zI 0), .ref q23, .ref q32, .ref q41, .null])), (q23, .inl (cI, 463, .inl (fun _ => zI 0))), (q32, .inl (cI, 3964, .inl (fun _ => zI 0))), (q41, .inl (cI, 462, .inl (fun _ => zI 0)))] := hD
  refine lv_aload_n hx hb dX3_init_46 rfl (lv_at hl 0 rfl) ?_
  refine z_sipush hx hb dX3_init_47 (by decide) ?_
  refine i_newI (Ts := lwT) hx hb (hT _ q_38) hK hP hD hS hA 462 (by decide) (Nat.le_of_ble_eq_true rfl) (Nat.le_of_ble_eq_true rfl) dX3_init_50 (fun q50 H hP hD hS => ?_)
  have hP : va_P D vwCl [(h0, .inr (3, [.null, .int (zI 0), .int (zI (-1)), .int (zI 0), .ref q23, .ref q32, .ref q41, .null])), (q23, .inl (cI, 463, .inl (fun _ => zI 0))), (q32, .inl (cI, 3964, .inl (fun _ => zI 0))), (q41, .inl (cI, 462, .inl (fun _ => zI 0))), (q50, .inl (cI, 462, .inl (fun _ => zI 0)))] H := hP
  have hD : va_D A [(h0, .inr (3, [.null, .int (zI 0), .int (zI (-1)), .int (zI 0), .ref q23, .ref q32, .ref q41, .null])), (q23, .inl (cI, 463, .inl (fun _ => zI 0))), (q32, .inl (cI, 3964, .inl (fun _ => zI 0))), (q41, .inl (cI, 462, .inl (fun _ => zI 0))), (q50, .inl (cI, 462, .inl (fun _ => zI 0)))] := hD
  refine W.widen (k := 4) (n := 5351) (Nat.le_of_ble_eq_true rfl) (Nat.le_of_ble_eq_true rfl) ?_
  refine va_putF (D := D) (ci := 3) (v := .ref q50) (ty := .array .int) (C := RX3) (T := TX3) (N := 8) hx hb hT inX3 tyX3 tyX3_ok nmX3 hown hK hP hD hS 0 rfl rfl 7 (by decide) (hT _ q_142) (fun _ h9 => h9) rfl hin rfl (by decide +kernel) rfl rfl (Nat.le_of_ble_eq_true rfl) dX3_init_52 (fun H locs hP hD hS => ?_)
  have hP : va_P D vwCl [(h0, .inr (3, [.null, .int (zI 0), .int (zI (-1)), .int (zI 0), .ref q23, .ref q32, .ref q41, .ref q50])), (q23, .inl (cI, 463, .inl (fun _ => zI 0))), (q32, .inl (cI, 3964, .inl (fun _ => zI 0))), (q41, .inl (cI, 462, .inl (fun _ => zI 0))), (q50, .inl (cI, 462, .inl (fun _ => zI 0)))] H := hP
  have hD : va_D A [(h0, .inr (3, [.null, .int (zI 0), .int (zI (-1)), .int (zI 0), .ref q23, .ref q32, .ref q41, .ref q50])), (q23, .inl (cI, 463, .inl (fun _ => zI 0))), (q32, .inl (cI, 3964, .inl (fun _ => zI 0))), (q41, .inl (cI, 462, .inl (fun _ => zI 0))), (q50, .inl (cI, 462, .inl (fun _ => zI 0)))] := hD
  refine lv_aload_n hx hb dX3_init_55 rfl (lv_at hl 0 rfl) ?_
  refine lv_aload_n hx hb dX3_init_56 rfl (lv_at hl 1 rfl) ?_
  refine va_putF (D := D) (ci := 3) (v := .ref hf) (ty := .object "FoldedStrip$Folds") (C := RX3) (T := TX3) (N := 8) hx hb hT inX3 tyX3 tyX3_ok nmX3 hown hK hP hD hS 0 rfl rfl 0 (by decide) (hT _ q_135) (fun _ h9 => h9) rfl hin rfl (by decide +kernel) rfl rfl (Nat.le_of_ble_eq_true rfl) dX3_init_57 (fun H locs hP hD hS => ?_)
  have hP : va_P D vwCl [(h0, .inr (3, [.ref hf, .int (zI 0), .int (zI (-1)), .int (zI 0), .ref q23, .ref q32, .ref q41, .ref q50])), (q23, .inl (cI, 463, .inl (fun _ => zI 0))), (q32, .inl (cI, 3964, .inl (fun _ => zI 0))), (q41, .inl (cI, 462, .inl (fun _ => zI 0))), (q50, .inl (cI, 462, .inl (fun _ => zI 0)))] H := hP
  have hD : va_D A [(h0, .inr (3, [.ref hf, .int (zI 0), .int (zI (-1)), .int (zI 0), .ref q23, .ref q32, .ref q41, .ref q50])), (q23, .inl (cI, 463, .inl (fun _ => zI 0))), (q32, .inl (cI, 3964, .inl (fun _ => zI 0))), (q41, .inl (cI, 462, .inl (fun _ => zI 0))), (q50, .inl (cI, 462, .inl (fun _ => zI 0)))] := hD
  have hP9 : va_P D vwCl ((fun a : Nat → Nat => [(h0, .inr (3, [.ref hf, .int (zI 0), .int (zI (-1)), .int (zI 0), .ref (a 0), .ref (a 1), .ref (a 2), .ref (a 3)])), ((a 0), .inl (cI, 463, .inl (fun _ => zI 0))), ((a 1), .inl (cI, 3964, .inl (fun _ => zI 0))), ((a 2), .inl (cI, 462, .inl (fun _ => zI 0))), ((a 3), .inl (cI, 462, .inl (fun _ => zI 0)))]) (fun k => [q23, q32, q41, q50].getD k 0)) H := hP.sub (ws' := [(h0, .inr (3, [.ref hf, .int (zI 0), .int (zI (-1)), .int (zI 0), .ref q23, .ref q32, .ref q41, .ref q50])), (q23, .inl (cI, 463, .inl (fun _ => zI 0))), (q32, .inl (cI, 3964, .inl (fun _ => zI 0))), (q41, .inl (cI, 462, .inl (fun _ => zI 0))), (q50, .inl (cI, 462, .inl (fun _ => zI 0)))]) [0, 1, 2, 3, 4] rfl
  have hD9 : va_D A ((fun a : Nat → Nat => [(h0, .inr (3, [.ref hf, .int (zI 0), .int (zI (-1)), .int (zI 0), .ref (a 0), .ref (a 1), .ref (a 2), .ref (a 3)])), ((a 0), .inl (cI, 463, .inl (fun _ => zI 0))), ((a 1), .inl (cI, 3964, .inl (fun _ => zI 0))), ((a 2), .inl (cI, 462, .inl (fun _ => zI 0))), ((a 3), .inl (cI, 462, .inl (fun _ => zI 0)))]) (fun k => [q23, q32, q41, q50].getD k 0)) := hD.sub (ws' := [(h0, .inr (3, [.ref hf, .int (zI 0), .int (zI (-1)), .int (zI 0), .ref q23, .ref q32, .ref q41, .ref q50])), (q23, .inl (cI, 463, .inl (fun _ => zI 0))), (q32, .inl (cI, 3964, .inl (fun _ => zI 0))), (q41, .inl (cI, 462, .inl (fun _ => zI 0))), (q50, .inl (cI, 462, .inl (fun _ => zI 0)))]) [0, 1, 2, 3, 4] (by decide) rfl
  exact W.vret hx hb hr (fun t ht hW => ⟨⟨(fun k => [q23, q32, q41, q50].getD k 0), rfl, trivial, by rw [ht]; exact hP9, hD9⟩, hS.F ht⟩) hS.2.2 dX3_init_60
set_option maxHeartbeats 4000000 in
set_option maxRecDepth 100000 in
theorem i_X1 (l : Launch) (D : va_G) (cI cZ : ClassId) (h0 sz : Nat) (hf : Nat) (hp : Nat) : Met l yX1_init (Cond.code yX1_init cX1_init 3 none :: lwT) ({ frames := 1, cells := 1, slots := 49, locals := 20 }) (iPc D cI cZ sz [(h0, .inr (1, [.null, .null, .null]))] [.ref h0, .ref hf, .ref hp]) (va_Qv (fun a : Nat → Nat => True) (iB D (fun a : Nat → Nat => [(h0, .inr (1, [.ref hf, .ref hp, .ref (a 0)])), ((a 0), .inl (cI, 49, .inl (fun _ => zI 0)))]) (va_A [(h0, .inr (1, [.null, .null, .null]))] sz)) (va_A [(h0, .inr (1, [.null, .null, .null]))] sz)) 1 49 (va_A [(h0, .inr (1, [.null, .null, .null]))] sz) := by
  refine Met.ofW (cc := cX1_init) (maxL := 3) (ret := none) (by decide) rfl ?_
  intro p e s m args below meth c s₁ B hml hv
  obtain ⟨rfl, hsz, hP, hK⟩ := hv
  have hx := B.exec
  have hb := B.bytes
  have hr := B.returns
  have hts := atoms_spec (ws := Cond.code yX1_init cX1_init 3 none :: lwT) B.pre
  have hT := fun w (h : w ∈ lwT) => hts w (List.mem_cons_of_mem _ h)
  have hsub : ∀ w ∈ lwT, w ∈ (Cond.code yX1_init cX1_init 3 none :: lwT) := fun w h => List.mem_cons_of_mem _ h
  have hown : s.vm.findClass RX1 = some m.cls := findClass_of_methodNamed B.named
  have hlocks := B.notSynchronized
  have hin : meth.name = "<init>" := (name_of_methodNamed B.named B.method).1
  subst hsz
  have hD0 : va_D (fun _ => True) [(h0, .inr (1, [.null, .null, .null]))] := ⟨fun i j p q h1 h2 _ => by
    have e1 : i < 1 := (List.getElem?_eq_some_iff.mp h1).1
    have e2 : j < 1 := (List.getElem?_eq_some_iff.mp h2).1
    omega, fun _ _ _ => trivial⟩
  have hD := hD0.self (sz := s.heap.size)
  generalize hAe : va_A [(h0, .inr (1, [.null, .null, .null]))] s.heap.size = A at hD ⊢
  have hA : ∀ q : Nat, s.heap.size ≤ q → A q := fun q h => by rw [← hAe]; exact Or.inr h
  have hS : va_S A s.heap s.heap [] := va_S.rf
  have hP : va_P D vwCl [(h0, .inr (1, [.null, .null, .null]))] s.heap := hP
  have hl := lv_entry ([.ref h0, .ref hf, .ref hp]) (n := 3) (Nat.le_of_ble_eq_true rfl)
  rw [lg_entry_eq]
  generalize (lg_sl ([.ref h0, .ref hf, .ref hp]) ++ List.replicate (3 - (lg_sl ([.ref h0, .ref hf, .ref hp])).length) Slot.unset).toArray = ls at hl ⊢
  have hl : lv_has ls 3 [(0, .ref h0), (1, .ref hf), (2, .ref hp)] := hl
  refine lv_aload_n hx hb dX1_init_0 rfl (lv_at hl 0 rfl) ?_
  refine W.objInit hx hb hown (hT _ q_165) (hT _ q_21) (hT _ q_22) rfl (by rw [hml]; exact hl.1) rfl dX1_init_1 (Nat.le_of_ble_eq_true rfl) (Nat.le_of_ble_eq_true rfl) ?_
  refine W.eq (g2 := F0 m 4 ls []) rfl ?_
  refine lv_aload_n hx hb dX1_init_4 rfl (lv_at hl 0 rfl) ?_
  refine z_bipush hx hb dX1_init_5 (by decide) ?_
  refine i_newI (Ts := lwT) hx hb (hT _ q_38) hK hP hD hS hA 49 (by decide) (Nat.le_of_ble_eq_true rfl) (Nat.le_of_ble_eq_true rfl) dX1_init_7 (fun q7 H hP hD hS => ?_)
  have hP : va_P D vwCl [(h0, .inr (1, [.null, .null, .null])), (q7, .inl (cI, 49, .inl (fun _ => zI 0)))] H := hP
  have hD : va_D A [(h0, .inr (1, [.null, .null, .null])), (q7, .inl (cI, 49, .inl (fun _ => zI 0)))] := hD
  refine W.widen (k := 1) (n := 49) (Nat.le_of_ble_eq_true rfl) (Nat.le_of_ble_eq_true rfl) ?_
  refine va_putF (D := D) (ci := 1) (v := .ref q7) (ty := .array .int) (C := RX1) (T := TX1) (N := 3) hx hb hT inX1 tyX1 tyX1_ok nmX1 hown hK hP hD hS 0 rfl rfl 2 (by decide) (hT _ q_168) (fun _ h9 => h9) rfl hin rfl (by decide +kernel) rfl rfl (Nat.le_of_ble_eq_true rfl) dX1_init_9 (fun H locs hP hD hS => ?_)
  have hP : va_P D vwCl [(h0, .inr (1, [.null, .null, .ref q7])), (q7, .inl (cI, 49, .inl (fun _ => zI 0)))] H := hP
  have hD : va_D A [(h0, .inr (1, [.null, .null, .ref q7])), (q7, .inl (cI, 49, .inl (fun _ => zI 0)))] := hD
  refine lv_aload_n hx hb dX1_init_12 rfl (lv_at hl 0 rfl) ?_
  refine lv_aload_n hx hb dX1_init_13 rfl (lv_at hl 1 rfl) ?_
  refine va_putF (D := D) (ci := 1) (v := .ref hf) (ty := .object "FoldedStrip$Folds") (C := RX1) (T := TX1) (N := 3) hx hb hT inX1 tyX1 tyX1_ok nmX1 hown hK hP hD hS 0 rfl rfl 0 (by decide) (hT _ q_166) (fun _ h9 => h9) rfl hin rfl (by decide +kernel) rfl rfl (Nat.le_of_ble_eq_true rfl) dX1_init_14 (fun H locs hP hD hS => ?_)
  have hP : va_P D vwCl [(h0, .inr (1, [.ref hf, .null, .ref q7])), (q7, .inl (cI, 49, .inl (fun _ => zI 0)))] H := hP
  have hD : va_D A [(h0, .inr (1, [.ref hf, .null, .ref q7])), (q7, .inl (cI, 49, .inl (fun _ => zI 0)))] := hD
  refine lv_aload_n hx hb dX1_init_17 rfl (lv_at hl 0 rfl) ?_
  refine lv_aload_n hx hb dX1_init_18 rfl (lv_at hl 2 rfl) ?_
  refine va_putF (D := D) (ci := 1) (v := .ref hp) (ty := .object "FoldedStrip$Pile") (C := RX1) (T := TX1) (N := 3) hx hb hT inX1 tyX1 tyX1_ok nmX1 hown hK hP hD hS 0 rfl rfl 1 (by decide) (hT _ q_167) (fun _ h9 => h9) rfl hin rfl (by decide +kernel) rfl rfl (Nat.le_of_ble_eq_true rfl) dX1_init_19 (fun H locs hP hD hS => ?_)
  have hP : va_P D vwCl [(h0, .inr (1, [.ref hf, .ref hp, .ref q7])), (q7, .inl (cI, 49, .inl (fun _ => zI 0)))] H := hP
  have hD : va_D A [(h0, .inr (1, [.ref hf, .ref hp, .ref q7])), (q7, .inl (cI, 49, .inl (fun _ => zI 0)))] := hD
  have hP9 : va_P D vwCl ((fun a : Nat → Nat => [(h0, .inr (1, [.ref hf, .ref hp, .ref (a 0)])), ((a 0), .inl (cI, 49, .inl (fun _ => zI 0)))]) (fun k => [q7].getD k 0)) H := hP.sub (ws' := [(h0, .inr (1, [.ref hf, .ref hp, .ref q7])), (q7, .inl (cI, 49, .inl (fun _ => zI 0)))]) [0, 1] rfl
  have hD9 : va_D A ((fun a : Nat → Nat => [(h0, .inr (1, [.ref hf, .ref hp, .ref (a 0)])), ((a 0), .inl (cI, 49, .inl (fun _ => zI 0)))]) (fun k => [q7].getD k 0)) := hD.sub (ws' := [(h0, .inr (1, [.ref hf, .ref hp, .ref q7])), (q7, .inl (cI, 49, .inl (fun _ => zI 0)))]) [0, 1] (by decide) rfl
  exact W.vret hx hb hr (fun t ht hW => ⟨⟨(fun k => [q7].getD k 0), rfl, trivial, by rw [ht]; exact hP9, hD9⟩, hS.F ht⟩) hS.2.2 dX1_init_22
/-- what a new object holds -/
def mS0 : St := fun k _ => if k = 19 then -1 else 0
def cS0 : St := fun k _ => if k = 25 then -1 else 0
set_option maxHeartbeats 4000000 in
set_option maxRecDepth 100000 in
theorem i_X7 (l : Launch) (D : va_G) (cI cZ : ClassId) (h0 sz : Nat) : Met l yX7_init (Cond.code yX7_init cX7_init 1 none :: lwT) ({ frames := 1, cells := 14, slots := 1487, locals := 20 }) (iPc D cI cZ sz [(h0, .inr (7, [.null, .int (zI 0), .int (zI 0), .int (zI 0), .int (zI 0), .null, .null, .null, .int (zI 0), .null, .null, .null, .null, .null, .int (zI 0), .int (zI 0), .null, .int (zI 0), .null, .int (zI 0), .int (zI 0), .int (zI 0), .null, .null, .null, .long (zL 0)]))] [.ref h0]) (va_Qv (fun a : Nat → Nat => a 26 = h0) (iB D (fun ad : Nat → Nat => mW cI ad mS0) (va_A [(h0, .inr (7, [.null, .int (zI 0), .int (zI 0), .int (zI 0), .int (zI 0), .null, .null, .null, .int (zI 0), .null, .null, .null, .null, .null, .int (zI 0), .int (zI 0), .null, .int (zI 0), .null, .int (zI 0), .int (zI 0), .int (zI 0), .null, .null, .null, .long (zL 0)]))] sz)) (va_A [(h0, .inr (7, [.null, .int (zI 0), .int (zI 0), .int (zI 0), .int (zI 0), .null, .null, .null, .int (zI 0), .null, .null, .null, .null, .null, .int (zI 0), .int (zI 0), .null, .int (zI 0), .null, .int (zI 0), .int (zI 0), .int (zI 0), .null, .null, .null, .long (zL 0)]))] sz)) 14 1487 (va_A [(h0, .inr (7, [.null, .int (zI 0), .int (zI 0), .int (zI 0), .int (zI 0), .null, .null, .null, .int (zI 0), .null, .null, .null, .null, .null, .int (zI 0), .int (zI 0), .null, .int (zI 0), .null, .int (zI 0), .int (zI 0), .int (zI 0), .null, .null, .null, .long (zL 0)]))] sz) := by
  refine Met.ofW (cc := cX7_init) (maxL := 1) (ret := none) (by decide) rfl ?_
  intro p e s m args below meth c s₁ B hml hv
  obtain ⟨rfl, hsz, hP, hK⟩ := hv
  have hx := B.exec
  have hb := B.bytes
  have hr := B.returns
  have hts := atoms_spec (ws := Cond.code yX7_init cX7_init 1 none :: lwT) B.pre
  have hT := fun w (h : w ∈ lwT) => hts w (List.mem_cons_of_mem _ h)
  have hsub : ∀ w ∈ lwT, w ∈ (Cond.code yX7_init cX7_init 1 none :: lwT) := fun w h => List.mem_cons_of_mem _ h
  have hown : s.vm.findClass RX7 = some m.cls := findClass_of_methodNamed B.named
  have hlocks := B.notSynchronized
  have hin : meth.name = "<init>" := (name_of_methodNamed B.named B.method).1
  subst hsz
  have hD0 : va_D (fun _ => True) [(h0, .inr (7, [.null, .int (zI 0), .int (zI 0), .int (zI 0), .int (zI 0), .null, .null, .null, .int (zI 0), .null, .null, .null, .null, .null, .int (zI 0), .int (zI 0), .null, .int (zI 0), .null, .int (zI 0), .int (zI 0), .int (zI 0), .null, .null, .null, .long (zL 0)]))] := ⟨fun i j p q h1 h2 _ => by
    have e1 : i < 1 := (List.getElem?_eq_some_iff.mp h1).1
    have e2 : j < 1 := (List.getElem?_eq_some_iff.mp h2).1
    omega, fun _ _ _ => trivial⟩
  have hD := hD0.self (sz := s.heap.size)
  generalize hAe : va_A [(h0, .inr (7, [.null, .int (zI 0), .int (zI 0), .int (zI 0), .int (zI 0), .null, .null, .null, .int (zI 0), .null, .null, .null, .null, .null, .int (zI 0), .int (zI 0), .null, .int (zI 0), .null, .int (zI 0), .int (zI 0), .int (zI 0), .null, .null, .null, .long (zL 0)]))] s.heap.size = A at hD ⊢
  have hA : ∀ q : Nat, s.heap.size ≤ q → A q := fun q h => by rw [← hAe]; exact Or.inr h
  have hS : va_S A s.heap s.heap [] := va_S.rf
  have hP : va_P D vwCl [(h0, .inr (7, [.null, .int (zI 0), .int (zI 0), .int (zI 0), .int (zI 0), .null, .null, .null, .int (zI 0), .null, .null, .null, .null, .null, .int (zI 0), .int (zI 0), .null, .int (zI 0), .null, .int (zI 0), .int (zI 0), .int (zI 0), .null, .null, .null, .long (zL 0)]))] s.heap := hP
  have hl := lv_entry ([.ref h0]) (n := 1) (Nat.le_of_ble_eq_true rfl)
  rw [lg_entry_eq]
  generalize (lg_sl ([.ref h0]) ++ List.replicate (1 - (lg_sl ([.ref h0])).length) Slot.unset).toArray = ls at hl ⊢
  have hl : lv_has ls 1 [(0, .ref h0)] := hl
  refine lv_aload_n hx hb dX7_init_0 rfl (lv_at hl 0 rfl) ?_
  refine W.objInit hx hb hown (hT _ q_671) (hT _ q_21) (hT _ q_22) rfl (by rw [hml]; exact hl.1) rfl dX7_init_1 (Nat.le_of_ble_eq_true rfl) (Nat.le_of_ble_eq_true rfl) ?_
  refine W.eq (g2 := F0 m 4 ls []) rfl ?_
  refine lv_aload_n hx hb dX7_init_4 rfl (lv_at hl 0 rfl) ?_
  refine z_bipush hx hb dX7_init_5 (by decide) ?_
  refine i_newI (Ts := lwT) hx hb (hT _ q_38) hK hP hD hS hA 9 (by decide) (Nat.le_of_ble_eq_true rfl) (Nat.le_of_ble_eq_true rfl) dX7_init_7 (fun q7 H hP hD hS => ?_)
  have hP : va_P D vwCl [(h0, .inr (7, [.null, .int (zI 0), .int (zI 0), .int (zI 0), .int (zI 0), .null, .null, .null, .int (zI 0), .null, .null, .null, .null, .null, .int (zI 0), .int (zI 0), .null, .int (zI 0), .null, .int (zI 0), .int (zI 0), .int (zI 0), .null, .null, .null, .long (zL 0)])), (q7, .inl (cI, 9, .inl (fun _ => zI 0)))] H := hP
  have hD : va_D A [(h0, .inr (7, [.null, .int (zI 0), .int (zI 0), .int (zI 0), .int (zI 0), .null, .null, .null, .int (zI 0), .null, .null, .null, .null, .null, .int (zI 0), .int (zI 0), .null, .int (zI 0), .null, .int (zI 0), .int (zI 0), .int (zI 0), .null, .null, .null, .long (zL 0)])), (q7, .inl (cI, 9, .inl (fun _ => zI 0)))] := hD
  refine W.widen (k := 1) (n := 9) (Nat.le_of_ble_eq_true rfl) (Nat.le_of_ble_eq_true rfl) ?_
  refine va_putF (D := D) (ci := 7) (v := .ref q7) (ty := .array .int) (C := RX7) (T := TX7) (N := 26) hx hb hT inX7 tyX7 tyX7_ok nmX7 hown hK hP hD hS 0 rfl rfl 0 (by decide) (hT _ q_672) (fun _ h9 => h9) rfl hin rfl (by decide +kernel) rfl rfl (Nat.le_of_ble_eq_true rfl) dX7_init_9 (fun H locs hP hD hS => ?_)
  have hP : va_P D vwCl [(h0, .inr (7, [.ref q7, .int (zI 0), .int (zI 0), .int (zI 0), .int (zI 0), .null, .null, .null, .int (zI 0), .null, .null, .null, .null, .null, .int (zI 0), .int (zI 0), .null, .int (zI 0), .null, .int (zI 0), .int (zI 0), .int (zI 0), .null, .null, .null, .long (zL 0)])), (q7, .inl (cI, 9, .inl (fun _ => zI 0)))] H := hP
  have hD : va_D A [(h0, .inr (7, [.ref q7, .int (zI 0), .int (zI 0), .int (zI 0), .int (zI 0), .null, .null, .null, .int (zI 0), .null, .null, .null, .null, .null, .int (zI 0), .int (zI 0), .null, .int (zI 0), .null, .int (zI 0), .int (zI 0), .int (zI 0), .null, .null, .null, .long (zL 0)])), (q7, .inl (cI, 9, .inl (fun _ => zI 0)))] := hD
  refine lv_aload_n hx hb dX7_init_12 rfl (lv_at hl 0 rfl) ?_
  refine z_bipush hx hb dX7_init_13 (by decide) ?_
  refine i_newI (Ts := lwT) hx hb (hT _ q_38) hK hP hD hS hA 7 (by decide) (Nat.le_of_ble_eq_true rfl) (Nat.le_of_ble_eq_true rfl) dX7_init_15 (fun q15 H hP hD hS => ?_)
  have hP : va_P D vwCl [(h0, .inr (7, [.ref q7, .int (zI 0), .int (zI 0), .int (zI 0), .int (zI 0), .null, .null, .null, .int (zI 0), .null, .null, .null, .null, .null, .int (zI 0), .int (zI 0), .null, .int (zI 0), .null, .int (zI 0), .int (zI 0), .int (zI 0), .null, .null, .null, .long (zL 0)])), (q7, .inl (cI, 9, .inl (fun _ => zI 0))), (q15, .inl (cI, 7, .inl (fun _ => zI 0)))] H := hP
  have hD : va_D A [(h0, .inr (7, [.ref q7, .int (zI 0), .int (zI 0), .int (zI 0), .int (zI 0), .null, .null, .null, .int (zI 0), .null, .null, .null, .null, .null, .int (zI 0), .int (zI 0), .null, .int (zI 0), .null, .int (zI 0), .int (zI 0), .int (zI 0), .null, .null, .null, .long (zL 0)])), (q7, .inl (cI, 9, .inl (fun _ => zI 0))), (q15, .inl (cI, 7, .inl (fun _ => zI 0)))] := hD
  refine W.widen (k := 2) (n := 16) (Nat.le_of_ble_eq_true rfl) (Nat.le_of_ble_eq_true rfl) ?_
  refine va_putF (D := D) (ci := 7) (v := .ref q15) (ty := .array .int) (C := RX7) (T := TX7) (N := 26) hx hb hT inX7 tyX7 tyX7_ok nmX7 hown hK hP hD hS 0 rfl rfl 5 (by decide) (hT _ q_677) (fun _ h9 => h9) rfl hin rfl (by decide +kernel) rfl rfl (Nat.le_of_ble_eq_true rfl) dX7_init_17 (fun H locs hP hD hS => ?_)
  have hP : va_P D vwCl [(h0, .inr (7, [.ref q7, .int (zI 0), .int (zI 0), .int (zI 0), .int (zI 0), .ref q15, .null, .null, .int (zI 0), .null, .null, .null, .null, .null, .int (zI 0), .int (zI 0), .null, .int (zI 0), .null, .int (zI 0), .int (zI 0), .int (zI 0), .null, .null, .null, .long (zL 0)])), (q7, .inl (cI, 9, .inl (fun _ => zI 0))), (q15, .inl (cI, 7, .inl (fun _ => zI 0)))] H := hP
  have hD : va_D A [(h0, .inr (7, [.ref q7, .int (zI 0), .int (zI 0), .int (zI 0), .int (zI 0), .ref q15, .null, .null, .int (zI 0), .null, .null, .null, .null, .null, .int (zI 0), .int (zI 0), .null, .int (zI 0), .null, .int (zI 0), .int (zI 0), .int (zI 0), .null, .null, .null, .long (zL 0)])), (q7, .inl (cI, 9, .inl (fun _ => zI 0))), (q15, .inl (cI, 7, .inl (fun _ => zI 0)))] := hD
  refine lv_aload_n hx hb dX7_init_20 rfl (lv_at hl 0 rfl) ?_
  refine z_bipush hx hb dX7_init_21 (by decide) ?_
  refine i_newI (Ts := lwT) hx hb (hT _ q_38) hK hP hD hS hA 7 (by decide) (Nat.le_of_ble_eq_true rfl) (Nat.le_of_ble_eq_true rfl) dX7_init_23 (fun q23 H hP hD hS => ?_)
  have hP : va_P D vwCl [(h0, .inr (7, [.ref q7, .int (zI 0), .int (zI 0), .int (zI 0), .int (zI 0), .ref q15, .null, .null, .int (zI 0), .null, .null, .null, .null, .null, .int (zI 0), .int (zI 0), .null, .int (zI 0), .null, .int (zI 0), .int (zI 0), .int (zI 0), .null, .null, .null, .long (zL 0)])), (q7, .inl (cI, 9, .inl (fun _ => zI 0))), (q15, .inl (cI, 7, .inl (fun _ => zI 0))), (q23, .inl (cI, 7, .inl (fun _ => zI 0)))] H := hP
  have hD : va_D A [(h0, .inr (7, [.ref q7, .int (zI 0), .int (zI 0), .int (zI 0), .int (zI 0), .ref q15, .null, .null, .int (zI 0), .null, .null, .null, .null, .null, .int (zI 0), .int (zI 0), .null, .int (zI 0), .null, .int (zI 0), .int (zI 0), .int (zI 0), .null, .null, .null, .long (zL 0)])), (q7, .inl (cI, 9, .inl (fun _ => zI 0))), (q15, .inl (cI, 7, .inl (fun _ => zI 0))), (q23, .inl (cI, 7, .inl (fun _ => zI 0)))] := hD
  refine W.widen (k := 3) (n := 23) (Nat.le_of_ble_eq_true rfl) (Nat.le_of_ble_eq_true rfl) ?_
  refine va_putF (D := D) (ci := 7) (v := .ref q23) (ty := .array .int) (C := RX7) (T := TX7) (N := 26) hx hb hT inX7 tyX7 tyX7_ok nmX7 hown hK hP hD hS 0 rfl rfl 6 (by decide) (hT _ q_678) (fun _ h9 => h9) rfl hin rfl (by decide +kernel) rfl rfl (Nat.le_of_ble_eq_true rfl) dX7_init_25 (fun H locs hP hD hS => ?_)
  have hP : va_P D vwCl [(h0, .inr (7, [.ref q7, .int (zI 0), .int (zI 0), .int (zI 0), .int (zI 0), .ref q15, .ref q23, .null, .int (zI 0), .null, .null, .null, .null, .null, .int (zI 0), .int (zI 0), .null, .int (zI 0), .null, .int (zI 0), .int (zI 0), .int (zI 0), .null, .null, .null, .long (zL 0)])), (q7, .inl (cI, 9, .inl (fun _ => zI 0))), (q15, .inl (cI, 7, .inl (fun _ => zI 0))), (q23, .inl (cI, 7, .inl (fun _ => zI 0)))] H := hP
  have hD : va_D A [(h0, .inr (7, [.ref q7, .int (zI 0), .int (zI 0), .int (zI 0), .int (zI 0), .ref q15, .ref q23, .null, .int (zI 0), .null, .null, .null, .null, .null, .int (zI 0), .int (zI 0), .null, .int (zI 0), .null, .int (zI 0), .int (zI 0), .int (zI 0), .null, .null, .null, .long (zL 0)])), (q7, .inl (cI, 9, .inl (fun _ => zI 0))), (q15, .inl (cI, 7, .inl (fun _ => zI 0))), (q23, .inl (cI, 7, .inl (fun _ => zI 0)))] := hD
  refine lv_aload_n hx hb dX7_init_28 rfl (lv_at hl 0 rfl) ?_
  refine z_sipush hx hb dX7_init_29 (by decide) ?_
  refine i_newI (Ts := lwT) hx hb (hT _ q_38) hK hP hD hS hA 462 (by decide) (Nat.le_of_ble_eq_true rfl) (Nat.le_of_ble_eq_true rfl) dX7_init_32 (fun q32 H hP hD hS => ?_)
  have hP : va_P D vwCl [(h0, .inr (7, [.ref q7, .int (zI 0), .int (zI 0), .int (zI 0), .int (zI 0), .ref q15, .ref q23, .null, .int (zI 0), .null, .null, .null, .null, .null, .int (zI 0), .int (zI 0), .null, .int (zI 0), .null, .int (zI 0), .int (zI 0), .int (zI 0), .null, .null, .null, .long (zL 0)])), (q7, .inl (cI, 9, .inl (fun _ => zI 0))), (q15, .inl (cI, 7, .inl (fun _ => zI 0))), (q23, .inl (cI, 7, .inl (fun _ => zI 0))), (q32, .inl (cI, 462, .inl (fun _ => zI 0)))] H := hP
  have hD : va_D A [(h0, .inr (7, [.ref q7, .int (zI 0), .int (zI 0), .int (zI 0), .int (zI 0), .ref q15, .ref q23, .null, .int (zI 0), .null, .null, .null, .null, .null, .int (zI 0), .int (zI 0), .null, .int (zI 0), .null, .int (zI 0), .int (zI 0), .int (zI 0), .null, .null, .null, .long (zL 0)])), (q7, .inl (cI, 9, .inl (fun _ => zI 0))), (q15, .inl (cI, 7, .inl (fun _ => zI 0))), (q23, .inl (cI, 7, .inl (fun _ => zI 0))), (q32, .inl (cI, 462, .inl (fun _ => zI 0)))] := hD
  refine W.widen (k := 4) (n := 485) (Nat.le_of_ble_eq_true rfl) (Nat.le_of_ble_eq_true rfl) ?_
  refine va_putF (D := D) (ci := 7) (v := .ref q32) (ty := .array .int) (C := RX7) (T := TX7) (N := 26) hx hb hT inX7 tyX7 tyX7_ok nmX7 hown hK hP hD hS 0 rfl rfl 7 (by decide) (hT _ q_679) (fun _ h9 => h9) rfl hin rfl (by decide +kernel) rfl rfl (Nat.le_of_ble_eq_true rfl) dX7_init_34 (fun H locs hP hD hS => ?_)
  have hP : va_P D vwCl [(h0, .inr (7, [.ref q7, .int (zI 0), .int (zI 0), .int (zI 0), .int (zI 0), .ref q15, .ref q23, .ref q32, .int (zI 0), .null, .null, .null, .null, .null, .int (zI 0), .int (zI 0), .null, .int (zI 0), .null, .int (zI 0), .int (zI 0), .int (zI 0), .null, .null, .null, .long (zL 0)])), (q7, .inl (cI, 9, .inl (fun _ => zI 0))), (q15, .inl (cI, 7, .inl (fun _ => zI 0))), (q23, .inl (cI, 7, .inl (fun _ => zI 0))), (q32, .inl (cI, 462, .inl (fun _ => zI 0)))] H := hP
  have hD : va_D A [(h0, .inr (7, [.ref q7, .int (zI 0), .int (zI 0), .int (zI 0), .int (zI 0), .ref q15, .ref q23, .ref q32, .int (zI 0), .null, .null, .null, .null, .null, .int (zI 0), .int (zI 0), .null, .int (zI 0), .null, .int (zI 0), .int (zI 0), .int (zI 0), .null, .null, .null, .long (zL 0)])), (q7, .inl (cI, 9, .inl (fun _ => zI 0))), (q15, .inl (cI, 7, .inl (fun _ => zI 0))), (q23, .inl (cI, 7, .inl (fun _ => zI 0))), (q32, .inl (cI, 462, .inl (fun _ => zI 0)))] := hD
  refine lv_aload_n hx hb dX7_init_37 rfl (lv_at hl 0 rfl) ?_
  refine z_bipush hx hb dX7_init_38 (by decide) ?_
  refine i_newI (Ts := lwT) hx hb (hT _ q_38) hK hP hD hS hA 7 (by decide) (Nat.le_of_ble_eq_true rfl) (Nat.le_of_ble_eq_true rfl) dX7_init_40 (fun q40 H hP hD hS => ?_)
  have hP : va_P D vwCl [(h0, .inr (7, [.ref q7, .int (zI 0), .int (zI 0), .int (zI 0), .int (zI 0), .ref q15, .ref q23, .ref q32, .int (zI 0), .null, .null, .null, .null, .null, .int (zI 0), .int (zI 0), .null, .int (zI 0), .null, .int (zI 0), .int (zI 0), .int (zI 0), .null, .null, .null, .long (zL 0)])), (q7, .inl (cI, 9, .inl (fun _ => zI 0))), (q15, .inl (cI, 7, .inl (fun _ => zI 0))), (q23, .inl (cI, 7, .inl (fun _ => zI 0))), (q32, .inl (cI, 462, .inl (fun _ => zI 0))), (q40, .inl (cI, 7, .inl (fun _ => zI 0)))] H := hP
  have hD : va_D A [(h0, .inr (7, [.ref q7, .int (zI 0), .int (zI 0), .int (zI 0), .int (zI 0), .ref q15, .ref q23, .ref q32, .int (zI 0), .null, .null, .null, .null, .null, .int (zI 0), .int (zI 0), .null, .int (zI 0), .null, .int (zI 0), .int (zI 0), .int (zI 0), .null, .null, .null, .long (zL 0)])), (q7, .inl (cI, 9, .inl (fun _ => zI 0))), (q15, .inl (cI, 7, .inl (fun _ => zI 0))), (q23, .inl (cI, 7, .inl (fun _ => zI 0))), (q32, .inl (cI, 462, .inl (fun _ => zI 0))), (q40, .inl (cI, 7, .inl (fun _ => zI 0)))] := hD
  refine W.widen (k := 5) (n := 492) (Nat.le_of_ble_eq_true rfl) (Nat.le_of_ble_eq_true rfl) ?_
  refine va_putF (D := D) (ci := 7) (v := .ref q40) (ty := .array .int) (C := RX7) (T := TX7) (N := 26) hx hb hT inX7 tyX7 tyX7_ok nmX7 hown hK hP hD hS 0 rfl rfl 9 (by decide) (hT _ q_681) (fun _ h9 => h9) rfl hin rfl (by decide +kernel) rfl rfl (Nat.le_of_ble_eq_true rfl) dX7_init_42 (fun H locs hP hD hS => ?_)
  have hP : va_P D vwCl [(h0, .inr (7, [.ref q7, .int (zI 0), .int (zI 0), .int (zI 0), .int (zI 0), .ref q15, .ref q23, .ref q32, .int (zI 0), .ref q40, .null, .null, .null, .null, .int (zI 0), .int (zI 0), .null, .int (zI 0), .null, .int (zI 0), .int (zI 0), .int (zI 0), .null, .null, .null, .long (zL 0)])), (q7, .inl (cI, 9, .inl (fun _ => zI 0))), (q15, .inl (cI, 7, .inl (fun _ => zI 0))), (q23, .inl (cI, 7, .inl (fun _ => zI 0))), (q32, .inl (cI, 462, .inl (fun _ => zI 0))), (q40, .inl (cI, 7, .inl (fun _ => zI 0)))] H := hP
  have hD : va_D A [(h0, .inr (7, [.ref q7, .int (zI 0), .int (zI 0), .int (zI 0), .int (zI 0), .ref q15, .ref q23, .ref q32, .int (zI 0), .ref q40, .null, .null, .null, .null, .int (zI 0), .int (zI 0), .null, .int (zI 0), .null, .int (zI 0), .int (zI 0), .int (zI 0), .null, .null, .null, .long (zL 0)])), (q7, .inl (cI, 9, .inl (fun _ => zI 0))), (q15, .inl (cI, 7, .inl (fun _ => zI 0))), (q23, .inl (cI, 7, .inl (fun _ => zI 0))), (q32, .inl (cI, 462, .inl (fun _ => zI 0))), (q40, .inl (cI, 7, .inl (fun _ => zI 0)))] := hD
  refine lv_aload_n hx hb dX7_init_45 rfl (lv_at hl 0 rfl) ?_
  refine z_bipush hx hb dX7_init_46 (by decide) ?_
  refine i_newI (Ts := lwT) hx hb (hT _ q_38) hK hP hD hS hA 7 (by decide) (Nat.le_of_ble_eq_true rfl) (Nat.le_of_ble_eq_true rfl) dX7_init_48 (fun q48 H hP hD hS => ?_)
  have hP : va_P D vwCl [(h0, .inr (7, [.ref q7, .int (zI 0), .int (zI 0), .int (zI 0), .int (zI 0), .ref q15, .ref q23, .ref q32, .int (zI 0), .ref q40, .null, .null, .null, .null, .int (zI 0), .int (zI 0), .null, .int (zI 0), .null, .int (zI 0), .int (zI 0), .int (zI 0), .null, .null, .null, .long (zL 0)])), (q7, .inl (cI, 9, .inl (fun _ => zI 0))), (q15, .inl (cI, 7, .inl (fun _ => zI 0))), (q23, .inl (cI, 7, .inl (fun _ => zI 0))), (q32, .inl (cI, 462, .inl (fun _ => zI 0))), (q40, .inl (cI, 7, .inl (fun _ => zI 0))), (q48, .inl (cI, 7, .inl (fun _ => zI 0)))] H := hP
  have hD : va_D A [(h0, .inr (7, [.ref q7, .int (zI 0), .int (zI 0), .int (zI 0), .int (zI 0), .ref q15, .ref q23, .ref q32, .int (zI 0), .ref q40, .null, .null, .null, .null, .int (zI 0), .int (zI 0), .null, .int (zI 0), .null, .int (zI 0), .int (zI 0), .int (zI 0), .null, .null, .null, .long (zL 0)])), (q7, .inl (cI, 9, .inl (fun _ => zI 0))), (q15, .inl (cI, 7, .inl (fun _ => zI 0))), (q23, .inl (cI, 7, .inl (fun _ => zI 0))), (q32, .inl (cI, 462, .inl (fun _ => zI 0))), (q40, .inl (cI, 7, .inl (fun _ => zI 0))), (q48, .inl (cI, 7, .inl (fun _ => zI 0)))] := hD
  refine W.widen (k := 6) (n := 499) (Nat.le_of_ble_eq_true rfl) (Nat.le_of_ble_eq_true rfl) ?_
  refine va_putF (D := D) (ci := 7) (v := .ref q48) (ty := .array .int) (C := RX7) (T := TX7) (N := 26) hx hb hT inX7 tyX7 tyX7_ok nmX7 hown hK hP hD hS 0 rfl rfl 10 (by decide) (hT _ q_682) (fun _ h9 => h9) rfl hin rfl (by decide +kernel) rfl rfl (Nat.le_of_ble_eq_true rfl) dX7_init_50 (fun H locs hP hD hS => ?_)
  have hP : va_P D vwCl [(h0, .inr (7, [.ref q7, .int (zI 0), .int (zI 0), .int (zI 0), .int (zI 0), .ref q15, .ref q23, .ref q32, .int (zI 0), .ref q40, .ref q48, .null, .null, .null, .int (zI 0), .int (zI 0), .null, .int (zI 0), .null, .int (zI 0), .int (zI 0), .int (zI 0), .null, .null, .null, .long (zL 0)])), (q7, .inl (cI, 9, .inl (fun _ => zI 0))), (q15, .inl (cI, 7, .inl (fun _ => zI 0))), (q23, .inl (cI, 7, .inl (fun _ => zI 0))), (q32, .inl (cI, 462, .inl (fun _ => zI 0))), (q40, .inl (cI, 7, .inl (fun _ => zI 0))), (q48, .inl (cI, 7, .inl (fun _ => zI 0)))] H := hP
  have hD : va_D A [(h0, .inr (7, [.ref q7, .int (zI 0), .int (zI 0), .int (zI 0), .int (zI 0), .ref q15, .ref q23, .ref q32, .int (zI 0), .ref q40, .ref q48, .null, .null, .null, .int (zI 0), .int (zI 0), .null, .int (zI 0), .null, .int (zI 0), .int (zI 0), .int (zI 0), .null, .null, .null, .long (zL 0)])), (q7, .inl (cI, 9, .inl (fun _ => zI 0))), (q15, .inl (cI, 7, .inl (fun _ => zI 0))), (q23, .inl (cI, 7, .inl (fun _ => zI 0))), (q32, .inl (cI, 462, .inl (fun _ => zI 0))), (q40, .inl (cI, 7, .inl (fun _ => zI 0))), (q48, .inl (cI, 7, .inl (fun _ => zI 0)))] := hD
  refine lv_aload_n hx hb dX7_init_53 rfl (lv_at hl 0 rfl) ?_
  refine z_bipush hx hb dX7_init_54 (by decide) ?_
  refine i_newI (Ts := lwT) hx hb (hT _ q_38) hK hP hD hS hA 7 (by decide) (Nat.le_of_ble_eq_true rfl) (Nat.le_of_ble_eq_true rfl) dX7_init_56 (fun q56 H hP hD hS => ?_)
  have hP : va_P D vwCl [(h0, .inr (7, [.ref q7, .int (zI 0), .int (zI 0), .int (zI 0), .int (zI 0), .ref q15, .ref q23, .ref q32, .int (zI 0), .ref q40, .ref q48, .null, .null, .null, .int (zI 0), .int (zI 0), .null, .int (zI 0), .null, .int (zI 0), .int (zI 0), .int (zI 0), .null, .null, .null, .long (zL 0)])), (q7, .inl (cI, 9, .inl (fun _ => zI 0))), (q15, .inl (cI, 7, .inl (fun _ => zI 0))), (q23, .inl (cI, 7, .inl (fun _ => zI 0))), (q32, .inl (cI, 462, .inl (fun _ => zI 0))), (q40, .inl (cI, 7, .inl (fun _ => zI 0))), (q48, .inl (cI, 7, .inl (fun _ => zI 0))), (q56, .inl (cI, 7, .inl (fun _ => zI 0)))] H := hP
  have hD : va_D A [(h0, .inr (7, [.ref q7, .int (zI 0), .int (zI 0), .int (zI 0), .int (zI 0), .ref q15, .ref q23, .ref q32, .int (zI 0), .ref q40, .ref q48, .null, .null, .null, .int (zI 0), .int (zI 0), .null, .int (zI 0), .null, .int (zI 0), .int (zI 0), .int (zI 0), .null, .null, .null, .long (zL 0)])), (q7, .inl (cI, 9, .inl (fun _ => zI 0))), (q15, .inl (cI, 7, .inl (fun _ => zI 0))), (q23, .inl (cI, 7, .inl (fun _ => zI 0))), (q32, .inl (cI, 462, .inl (fun _ => zI 0))), (q40, .inl (cI, 7, .inl (fun _ => zI 0))), (q48, .inl (cI, 7, .inl (fun _ => zI 0))), (q56, .inl (cI, 7, .inl (fun _ => zI 0)))] := hD
  refine W.widen (k := 7) (n := 506) (Nat.le_of_ble_eq_true rfl) (Nat.le_of_ble_eq_true rfl) ?_
  refine va_putF (D := D) (ci := 7) (v := .ref q56) (ty := .array .int) (C := RX7) (T := TX7) (N := 26) hx hb hT inX7 tyX7 tyX7_ok nmX7 hown hK hP hD hS 0 rfl rfl 11 (by decide) (hT _ q_683) (fun _ h9 => h9) rfl hin rfl (by decide +kernel) rfl rfl (Nat.le_of_ble_eq_true rfl) dX7_init_58 (fun H locs hP hD hS => ?_)
  have hP : va_P D vwCl [(h0, .inr (7, [.ref q7, .int (zI 0), .int (zI 0), .int (zI 0), .int (zI 0), .ref q15, .ref q23, .ref q32, .int (zI 0), .ref q40, .ref q48, .ref q56, .null, .null, .int (zI 0), .int (zI 0), .null, .int (zI 0), .null, .int (zI 0), .int (zI 0), .int (zI 0), .null, .null, .null, .long (zL 0)])), (q7, .inl (cI, 9, .inl (fun _ => zI 0))), (q15, .inl (cI, 7, .inl (fun _ => zI 0))), (q23, .inl (cI, 7, .inl (fun _ => zI 0))), (q32, .inl (cI, 462, .inl (fun _ => zI 0))), (q40, .inl (cI, 7, .inl (fun _ => zI 0))), (q48, .inl (cI, 7, .inl (fun _ => zI 0))), (q56, .inl (cI, 7, .inl (fun _ => zI 0)))] H := hP
  have hD : va_D A [(h0, .inr (7, [.ref q7, .int (zI 0), .int (zI 0), .int (zI 0), .int (zI 0), .ref q15, .ref q23, .ref q32, .int (zI 0), .ref q40, .ref q48, .ref q56, .null, .null, .int (zI 0), .int (zI 0), .null, .int (zI 0), .null, .int (zI 0), .int (zI 0), .int (zI 0), .null, .null, .null, .long (zL 0)])), (q7, .inl (cI, 9, .inl (fun _ => zI 0))), (q15, .inl (cI, 7, .inl (fun _ => zI 0))), (q23, .inl (cI, 7, .inl (fun _ => zI 0))), (q32, .inl (cI, 462, .inl (fun _ => zI 0))), (q40, .inl (cI, 7, .inl (fun _ => zI 0))), (q48, .inl (cI, 7, .inl (fun _ => zI 0))), (q56, .inl (cI, 7, .inl (fun _ => zI 0)))] := hD
  refine lv_aload_n hx hb dX7_init_61 rfl (lv_at hl 0 rfl) ?_
  refine z_sipush hx hb dX7_init_62 (by decide) ?_
  refine i_newI (Ts := lwT) hx hb (hT _ q_38) hK hP hD hS hA 462 (by decide) (Nat.le_of_ble_eq_true rfl) (Nat.le_of_ble_eq_true rfl) dX7_init_65 (fun q65 H hP hD hS => ?_)
  have hP : va_P D vwCl [(h0, .inr (7, [.ref q7, .int (zI 0), .int (zI 0), .int (zI 0), .int (zI 0), .ref q15, .ref q23, .ref q32, .int (zI 0), .ref q40, .ref q48, .ref q56, .null, .null, .int (zI 0), .int (zI 0), .null, .int (zI 0), .null, .int (zI 0), .int (zI 0), .int (zI 0), .null, .null, .null, .long (zL 0)])), (q7, .inl (cI, 9, .inl (fun _ => zI 0))), (q15, .inl (cI, 7, .inl (fun _ => zI 0))), (q23, .inl (cI, 7, .inl (fun _ => zI 0))), (q32, .inl (cI, 462, .inl (fun _ => zI 0))), (q40, .inl (cI, 7, .inl (fun _ => zI 0))), (q48, .inl (cI, 7, .inl (fun _ => zI 0))), (q56, .inl (cI, 7, .inl (fun _ => zI 0))), (q65, .inl (cI, 462, .inl (fun _ => zI 0)))] H := hP
  have hD : va_D A [(h0, .inr (7, [.ref q7, .int (zI 0), .int (zI 0), .int (zI 0), .int (zI 0), .ref q15, .ref q23, .ref q32, .int (zI 0), .ref q40, .ref q48, .ref q56, .null, .null, .int (zI 0), .int (zI 0), .null, .int (zI 0), .null, .int (zI 0), .int (zI 0), .int (zI 0), .null, .null, .null, .long (zL 0)])), (q7, .inl (cI, 9, .inl (fun _ => zI 0))), (q15, .inl (cI, 7, .inl (fun _ => zI 0))), (q23, .inl (cI, 7, .inl (fun _ => zI 0))), (q32, .inl (cI, 462, .inl (fun _ => zI 0))), (q40, .inl (cI, 7, .inl (fun _ => zI 0))), (q48, .inl (cI, 7, .inl (fun _ => zI 0))), (q56, .inl (cI, 7, .inl (fun _ => zI 0))), (q65, .inl (cI, 462, .inl (fun _ => zI 0)))] := hD
  refine W.widen (k := 8) (n := 968) (Nat.le_of_ble_eq_true rfl) (Nat.le_of_ble_eq_true rfl) ?_
  refine va_putF (D := D) (ci := 7) (v := .ref q65) (ty := .array .int) (C := RX7) (T := TX7) (N := 26) hx hb hT inX7 tyX7 tyX7_ok nmX7 hown hK hP hD hS 0 rfl rfl 12 (by decide) (hT _ q_684) (fun _ h9 => h9) rfl hin rfl (by decide +kernel) rfl rfl (Nat.le_of_ble_eq_true rfl) dX7_init_67 (fun H locs hP hD hS => ?_)
  have hP : va_P D vwCl [(h0, .inr (7, [.ref q7, .int (zI 0), .int (zI 0), .int (zI 0), .int (zI 0), .ref q15, .ref q23, .ref q32, .int (zI 0), .ref q40, .ref q48, .ref q56, .ref q65, .null, .int (zI 0), .int (zI 0), .null, .int (zI 0), .null, .int (zI 0), .int (zI 0), .int (zI 0), .null, .null, .null, .long (zL 0)])), (q7, .inl (cI, 9, .inl (fun _ => zI 0))), (q15, .inl (cI, 7, .inl (fun _ => zI 0))), (q23, .inl (cI, 7, .inl (fun _ => zI 0))), (q32, .inl (cI, 462, .inl (fun _ => zI 0))), (q40, .inl (cI, 7, .inl (fun _ => zI 0))), (q48, .inl (cI, 7, .inl (fun _ => zI 0))), (q56, .inl (cI, 7, .inl (fun _ => zI 0))), (q65, .inl (cI, 462, .inl (fun _ => zI 0)))] H := hP
  have hD : va_D A [(h0, .inr (7, [.ref q7, .int (zI 0), .int (zI 0), .int (zI 0), .int (zI 0), .ref q15, .ref q23, .ref q32, .int (zI 0), .ref q40, .ref q48, .ref q56, .ref q65, .null, .int (zI 0), .int (zI 0), .null, .int (zI 0), .null, .int (zI 0), .int (zI 0), .int (zI 0), .null, .null, .null, .long (zL 0)])), (q7, .inl (cI, 9, .inl (fun _ => zI 0))), (q15, .inl (cI, 7, .inl (fun _ => zI 0))), (q23, .inl (cI, 7, .inl (fun _ => zI 0))), (q32, .inl (cI, 462, .inl (fun _ => zI 0))), (q40, .inl (cI, 7, .inl (fun _ => zI 0))), (q48, .inl (cI, 7, .inl (fun _ => zI 0))), (q56, .inl (cI, 7, .inl (fun _ => zI 0))), (q65, .inl (cI, 462, .inl (fun _ => zI 0)))] := hD
  refine lv_aload_n hx hb dX7_init_70 rfl (lv_at hl 0 rfl) ?_
  refine z_sipush hx hb dX7_init_71 (by decide) ?_
  refine i_newI (Ts := lwT) hx hb (hT _ q_38) hK hP hD hS hA 462 (by decide) (Nat.le_of_ble_eq_true rfl) (Nat.le_of_ble_eq_true rfl) dX7_init_74 (fun q74 H hP hD hS => ?_)
  have hP : va_P D vwCl [(h0, .inr (7, [.ref q7, .int (zI 0), .int (zI 0), .int (zI 0), .int (zI 0), .ref q15, .ref q23, .ref q32, .int (zI 0), .ref q40, .ref q48, .ref q56, .ref q65, .null, .int (zI 0), .int (zI 0), .null, .int (zI 0), .null, .int (zI 0), .int (zI 0), .int (zI 0), .null, .null, .null, .long (zL 0)])), (q7, .inl (cI, 9, .inl (fun _ => zI 0))), (q15, .inl (cI, 7, .inl (fun _ => zI 0))), (q23, .inl (cI, 7, .inl (fun _ => zI 0))), (q32, .inl (cI, 462, .inl (fun _ => zI 0))), (q40, .inl (cI, 7, .inl (fun _ => zI 0))), (q48, .inl (cI, 7, .inl (fun _ => zI 0))), (q56, .inl (cI, 7, .inl (fun _ => zI 0))), (q65, .inl (cI, 462, .inl (fun _ => zI 0))), (q74, .inl (cI, 462, .inl (fun _ => zI 0)))] H := hP
  have hD : va_D A [(h0, .inr (7, [.ref q7, .int (zI 0), .int (zI 0), .int (zI 0), .int (zI 0), .ref q15, .ref q23, .ref q32, .int (zI 0), .ref q40, .ref q48, .ref q56, .ref q65, .null, .int (zI 0), .int (zI 0), .null, .int (zI 0), .null, .int (zI 0), .int (zI 0), .int (zI 0), .null, .null, .null, .long (zL 0)])), (q7, .inl (cI, 9, .inl (fun _ => zI 0))), (q15, .inl (cI, 7, .inl (fun _ => zI 0))), (q23, .inl (cI, 7, .inl (fun _ => zI 0))), (q32, .inl (cI, 462, .inl (fun _ => zI 0))), (q40, .inl (cI, 7, .inl (fun _ => zI 0))), (q48, .inl (cI, 7, .inl (fun _ => zI 0))), (q56, .inl (cI, 7, .inl (fun _ => zI 0))), (q65, .inl (cI, 462, .inl (fun _ => zI 0))), (q74, .inl (cI, 462, .inl (fun _ => zI 0)))] := hD
  refine W.widen (k := 9) (n := 1430) (Nat.le_of_ble_eq_true rfl) (Nat.le_of_ble_eq_true rfl) ?_
  refine va_putF (D := D) (ci := 7) (v := .ref q74) (ty := .array .int) (C := RX7) (T := TX7) (N := 26) hx hb hT inX7 tyX7 tyX7_ok nmX7 hown hK hP hD hS 0 rfl rfl 13 (by decide) (hT _ q_685) (fun _ h9 => h9) rfl hin rfl (by decide +kernel) rfl rfl (Nat.le_of_ble_eq_true rfl) dX7_init_76 (fun H locs hP hD hS => ?_)
  have hP : va_P D vwCl [(h0, .inr (7, [.ref q7, .int (zI 0), .int (zI 0), .int (zI 0), .int (zI 0), .ref q15, .ref q23, .ref q32, .int (zI 0), .ref q40, .ref q48, .ref q56, .ref q65, .ref q74, .int (zI 0), .int (zI 0), .null, .int (zI 0), .null, .int (zI 0), .int (zI 0), .int (zI 0), .null, .null, .null, .long (zL 0)])), (q7, .inl (cI, 9, .inl (fun _ => zI 0))), (q15, .inl (cI, 7, .inl (fun _ => zI 0))), (q23, .inl (cI, 7, .inl (fun _ => zI 0))), (q32, .inl (cI, 462, .inl (fun _ => zI 0))), (q40, .inl (cI, 7, .inl (fun _ => zI 0))), (q48, .inl (cI, 7, .inl (fun _ => zI 0))), (q56, .inl (cI, 7, .inl (fun _ => zI 0))), (q65, .inl (cI, 462, .inl (fun _ => zI 0))), (q74, .inl (cI, 462, .inl (fun _ => zI 0)))] H := hP
  have hD : va_D A [(h0, .inr (7, [.ref q7, .int (zI 0), .int (zI 0), .int (zI 0), .int (zI 0), .ref q15, .ref q23, .ref q32, .int (zI 0), .ref q40, .ref q48, .ref q56, .ref q65, .ref q74, .int (zI 0), .int (zI 0), .null, .int (zI 0), .null, .int (zI 0), .int (zI 0), .int (zI 0), .null, .null, .null, .long (zL 0)])), (q7, .inl (cI, 9, .inl (fun _ => zI 0))), (q15, .inl (cI, 7, .inl (fun _ => zI 0))), (q23, .inl (cI, 7, .inl (fun _ => zI 0))), (q32, .inl (cI, 462, .inl (fun _ => zI 0))), (q40, .inl (cI, 7, .inl (fun _ => zI 0))), (q48, .inl (cI, 7, .inl (fun _ => zI 0))), (q56, .inl (cI, 7, .inl (fun _ => zI 0))), (q65, .inl (cI, 462, .inl (fun _ => zI 0))), (q74, .inl (cI, 462, .inl (fun _ => zI 0)))] := hD
  refine lv_aload_n hx hb dX7_init_79 rfl (lv_at hl 0 rfl) ?_
  refine z_bipush hx hb dX7_init_80 (by decide) ?_
  refine i_newI (Ts := lwT) hx hb (hT _ q_38) hK hP hD hS hA 18 (by decide) (Nat.le_of_ble_eq_true rfl) (Nat.le_of_ble_eq_true rfl) dX7_init_82 (fun q82 H hP hD hS => ?_)
  have hP : va_P D vwCl [(h0, .inr (7, [.ref q7, .int (zI 0), .int (zI 0), .int (zI 0), .int (zI 0), .ref q15, .ref q23, .ref q32, .int (zI 0), .ref q40, .ref q48, .ref q56, .ref q65, .ref q74, .int (zI 0), .int (zI 0), .null, .int (zI 0), .null, .int (zI 0), .int (zI 0), .int (zI 0), .null, .null, .null, .long (zL 0)])), (q7, .inl (cI, 9, .inl (fun _ => zI 0))), (q15, .inl (cI, 7, .inl (fun _ => zI 0))), (q23, .inl (cI, 7, .inl (fun _ => zI 0))), (q32, .inl (cI, 462, .inl (fun _ => zI 0))), (q40, .inl (cI, 7, .inl (fun _ => zI 0))), (q48, .inl (cI, 7, .inl (fun _ => zI 0))), (q56, .inl (cI, 7, .inl (fun _ => zI 0))), (q65, .inl (cI, 462, .inl (fun _ => zI 0))), (q74, .inl (cI, 462, .inl (fun _ => zI 0))), (q82, .inl (cI, 18, .inl (fun _ => zI 0)))] H := hP
  have hD : va_D A [(h0, .inr (7, [.ref q7, .int (zI 0), .int (zI 0), .int (zI 0), .int (zI 0), .ref q15, .ref q23, .ref q32, .int (zI 0), .ref q40, .ref q48, .ref q56, .ref q65, .ref q74, .int (zI 0), .int (zI 0), .null, .int (zI 0), .null, .int (zI 0), .int (zI 0), .int (zI 0), .null, .null, .null, .long (zL 0)])), (q7, .inl (cI, 9, .inl (fun _ => zI 0))), (q15, .inl (cI, 7, .inl (fun _ => zI 0))), (q23, .inl (cI, 7, .inl (fun _ => zI 0))), (q32, .inl (cI, 462, .inl (fun _ => zI 0))), (q40, .inl (cI, 7, .inl (fun _ => zI 0))), (q48, .inl (cI, 7, .inl (fun _ => zI 0))), (q56, .inl (cI, 7, .inl (fun _ => zI 0))), (q65, .inl (cI, 462, .inl (fun _ => zI 0))), (q74, .inl (cI, 462, .inl (fun _ => zI 0))), (q82, .inl (cI, 18, .inl (fun _ => zI 0)))] := hD
  refine W.widen (k := 10) (n := 1448) (Nat.le_of_ble_eq_true rfl) (Nat.le_of_ble_eq_true rfl) ?_
  refine va_putF (D := D) (ci := 7) (v := .ref q82) (ty := .array .int) (C := RX7) (T := TX7) (N := 26) hx hb hT inX7 tyX7 tyX7_ok nmX7 hown hK hP hD hS 0 rfl rfl 16 (by decide) (hT _ q_688) (fun _ h9 => h9) rfl hin rfl (by decide +kernel) rfl rfl (Nat.le_of_ble_eq_true rfl) dX7_init_84 (fun H locs hP hD hS => ?_)
  have hP : va_P D vwCl [(h0, .inr (7, [.ref q7, .int (zI 0), .int (zI 0), .int (zI 0), .int (zI 0), .ref q15, .ref q23, .ref q32, .int (zI 0), .ref q40, .ref q48, .ref q56, .ref q65, .ref q74, .int (zI 0), .int (zI 0), .ref q82, .int (zI 0), .null, .int (zI 0), .int (zI 0), .int (zI 0), .null, .null, .null, .long (zL 0)])), (q7, .inl (cI, 9, .inl (fun _ => zI 0))), (q15, .inl (cI, 7, .inl (fun _ => zI 0))), (q23, .inl (cI, 7, .inl (fun _ => zI 0))), (q32, .inl (cI, 462, .inl (fun _ => zI 0))), (q40, .inl (cI, 7, .inl (fun _ => zI 0))), (q48, .inl (cI, 7, .inl (fun _ => zI 0))), (q56, .inl (cI, 7, .inl (fun _ => zI 0))), (q65, .inl (cI, 462, .inl (fun _ => zI 0))), (q74, .inl (cI, 462, .inl (fun _ => zI 0))), (q82, .inl (cI, 18, .inl (fun _ => zI 0)))] H := hP
  have hD : va_D A [(h0, .inr (7, [.ref q7, .int (zI 0), .int (zI 0), .int (zI 0), .int (zI 0), .ref q15, .ref q23, .ref q32, .int (zI 0), .ref q40, .ref q48, .ref q56, .ref q65, .ref q74, .int (zI 0), .int (zI 0), .ref q82, .int (zI 0), .null, .int (zI 0), .int (zI 0), .int (zI 0), .null, .null, .null, .long (zL 0)])), (q7, .inl (cI, 9, .inl (fun _ => zI 0))), (q15, .inl (cI, 7, .inl (fun _ => zI 0))), (q23, .inl (cI, 7, .inl (fun _ => zI 0))), (q32, .inl (cI, 462, .inl (fun _ => zI 0))), (q40, .inl (cI, 7, .inl (fun _ => zI 0))), (q48, .inl (cI, 7, .inl (fun _ => zI 0))), (q56, .inl (cI, 7, .inl (fun _ => zI 0))), (q65, .inl (cI, 462, .inl (fun _ => zI 0))), (q74, .inl (cI, 462, .inl (fun _ => zI 0))), (q82, .inl (cI, 18, .inl (fun _ => zI 0)))] := hD
  refine lv_aload_n hx hb dX7_init_87 rfl (lv_at hl 0 rfl) ?_
  refine z_bipush hx hb dX7_init_88 (by decide) ?_
  refine i_newI (Ts := lwT) hx hb (hT _ q_38) hK hP hD hS hA 7 (by decide) (Nat.le_of_ble_eq_true rfl) (Nat.le_of_ble_eq_true rfl) dX7_init_90 (fun q90 H hP hD hS => ?_)
  have hP : va_P D vwCl [(h0, .inr (7, [.ref q7, .int (zI 0), .int (zI 0), .int (zI 0), .int (zI 0), .ref q15, .ref q23, .ref q32, .int (zI 0), .ref q40, .ref q48, .ref q56, .ref q65, .ref q74, .int (zI 0), .int (zI 0), .ref q82, .int (zI 0), .null, .int (zI 0), .int (zI 0), .int (zI 0), .null, .null, .null, .long (zL 0)])), (q7, .inl (cI, 9, .inl (fun _ => zI 0))), (q15, .inl (cI, 7, .inl (fun _ => zI 0))), (q23, .inl (cI, 7, .inl (fun _ => zI 0))), (q32, .inl (cI, 462, .inl (fun _ => zI 0))), (q40, .inl (cI, 7, .inl (fun _ => zI 0))), (q48, .inl (cI, 7, .inl (fun _ => zI 0))), (q56, .inl (cI, 7, .inl (fun _ => zI 0))), (q65, .inl (cI, 462, .inl (fun _ => zI 0))), (q74, .inl (cI, 462, .inl (fun _ => zI 0))), (q82, .inl (cI, 18, .inl (fun _ => zI 0))), (q90, .inl (cI, 7, .inl (fun _ => zI 0)))] H := hP
  have hD : va_D A [(h0, .inr (7, [.ref q7, .int (zI 0), .int (zI 0), .int (zI 0), .int (zI 0), .ref q15, .ref q23, .ref q32, .int (zI 0), .ref q40, .ref q48, .ref q56, .ref q65, .ref q74, .int (zI 0), .int (zI 0), .ref q82, .int (zI 0), .null, .int (zI 0), .int (zI 0), .int (zI 0), .null, .null, .null, .long (zL 0)])), (q7, .inl (cI, 9, .inl (fun _ => zI 0))), (q15, .inl (cI, 7, .inl (fun _ => zI 0))), (q23, .inl (cI, 7, .inl (fun _ => zI 0))), (q32, .inl (cI, 462, .inl (fun _ => zI 0))), (q40, .inl (cI, 7, .inl (fun _ => zI 0))), (q48, .inl (cI, 7, .inl (fun _ => zI 0))), (q56, .inl (cI, 7, .inl (fun _ => zI 0))), (q65, .inl (cI, 462, .inl (fun _ => zI 0))), (q74, .inl (cI, 462, .inl (fun _ => zI 0))), (q82, .inl (cI, 18, .inl (fun _ => zI 0))), (q90, .inl (cI, 7, .inl (fun _ => zI 0)))] := hD
  refine W.widen (k := 11) (n := 1455) (Nat.le_of_ble_eq_true rfl) (Nat.le_of_ble_eq_true rfl) ?_
  refine va_putF (D := D) (ci := 7) (v := .ref q90) (ty := .array .int) (C := RX7) (T := TX7) (N := 26) hx hb hT inX7 tyX7 tyX7_ok nmX7 hown hK hP hD hS 0 rfl rfl 18 (by decide) (hT _ q_690) (fun _ h9 => h9) rfl hin rfl (by decide +kernel) rfl rfl (Nat.le_of_ble_eq_true rfl) dX7_init_92 (fun H locs hP hD hS => ?_)
  have hP : va_P D vwCl [(h0, .inr (7, [.ref q7, .int (zI 0), .int (zI 0), .int (zI 0), .int (zI 0), .ref q15, .ref q23, .ref q32, .int (zI 0), .ref q40, .ref q48, .ref q56, .ref q65, .ref q74, .int (zI 0), .int (zI 0), .ref q82, .int (zI 0), .ref q90, .int (zI 0), .int (zI 0), .int (zI 0), .null, .null, .null, .long (zL 0)])), (q7, .inl (cI, 9, .inl (fun _ => zI 0))), (q15, .inl (cI, 7, .inl (fun _ => zI 0))), (q23, .inl (cI, 7, .inl (fun _ => zI 0))), (q32, .inl (cI, 462, .inl (fun _ => zI 0))), (q40, .inl (cI, 7, .inl (fun _ => zI 0))), (q48, .inl (cI, 7, .inl (fun _ => zI 0))), (q56, .inl (cI, 7, .inl (fun _ => zI 0))), (q65, .inl (cI, 462, .inl (fun _ => zI 0))), (q74, .inl (cI, 462, .inl (fun _ => zI 0))), (q82, .inl (cI, 18, .inl (fun _ => zI 0))), (q90, .inl (cI, 7, .inl (fun _ => zI 0)))] H := hP
  have hD : va_D A [(h0, .inr (7, [.ref q7, .int (zI 0), .int (zI 0), .int (zI 0), .int (zI 0), .ref q15, .ref q23, .ref q32, .int (zI 0), .ref q40, .ref q48, .ref q56, .ref q65, .ref q74, .int (zI 0), .int (zI 0), .ref q82, .int (zI 0), .ref q90, .int (zI 0), .int (zI 0), .int (zI 0), .null, .null, .null, .long (zL 0)])), (q7, .inl (cI, 9, .inl (fun _ => zI 0))), (q15, .inl (cI, 7, .inl (fun _ => zI 0))), (q23, .inl (cI, 7, .inl (fun _ => zI 0))), (q32, .inl (cI, 462, .inl (fun _ => zI 0))), (q40, .inl (cI, 7, .inl (fun _ => zI 0))), (q48, .inl (cI, 7, .inl (fun _ => zI 0))), (q56, .inl (cI, 7, .inl (fun _ => zI 0))), (q65, .inl (cI, 462, .inl (fun _ => zI 0))), (q74, .inl (cI, 462, .inl (fun _ => zI 0))), (q82, .inl (cI, 18, .inl (fun _ => zI 0))), (q90, .inl (cI, 7, .inl (fun _ => zI 0)))] := hD
  refine lv_aload_n hx hb dX7_init_95 rfl (lv_at hl 0 rfl) ?_
  refine z_bipush hx hb dX7_init_96 (by decide) ?_
  refine i_newI (Ts := lwT) hx hb (hT _ q_38) hK hP hD hS hA 7 (by decide) (Nat.le_of_ble_eq_true rfl) (Nat.le_of_ble_eq_true rfl) dX7_init_98 (fun q98 H hP hD hS => ?_)
  have hP : va_P D vwCl [(h0, .inr (7, [.ref q7, .int (zI 0), .int (zI 0), .int (zI 0), .int (zI 0), .ref q15, .ref q23, .ref q32, .int (zI 0), .ref q40, .ref q48, .ref q56, .ref q65, .ref q74, .int (zI 0), .int (zI 0), .ref q82, .int (zI 0), .ref q90, .int (zI 0), .int (zI 0), .int (zI 0), .null, .null, .null, .long (zL 0)])), (q7, .inl (cI, 9, .inl (fun _ => zI 0))), (q15, .inl (cI, 7, .inl (fun _ => zI 0))), (q23, .inl (cI, 7, .inl (fun _ => zI 0))), (q32, .inl (cI, 462, .inl (fun _ => zI 0))), (q40, .inl (cI, 7, .inl (fun _ => zI 0))), (q48, .inl (cI, 7, .inl (fun _ => zI 0))), (q56, .inl (cI, 7, .inl (fun _ => zI 0))), (q65, .inl (cI, 462, .inl (fun _ => zI 0))), (q74, .inl (cI, 462, .inl (fun _ => zI 0))), (q82, .inl (cI, 18, .inl (fun _ => zI 0))), (q90, .inl (cI, 7, .inl (fun _ => zI 0))), (q98, .inl (cI, 7, .inl (fun _ => zI 0)))] H := hP
  have hD : va_D A [(h0, .inr (7, [.ref q7, .int (zI 0), .int (zI 0), .int (zI 0), .int (zI 0), .ref q15, .ref q23, .ref q32, .int (zI 0), .ref q40, .ref q48, .ref q56, .ref q65, .ref q74, .int (zI 0), .int (zI 0), .ref q82, .int (zI 0), .ref q90, .int (zI 0), .int (zI 0), .int (zI 0), .null, .null, .null, .long (zL 0)])), (q7, .inl (cI, 9, .inl (fun _ => zI 0))), (q15, .inl (cI, 7, .inl (fun _ => zI 0))), (q23, .inl (cI, 7, .inl (fun _ => zI 0))), (q32, .inl (cI, 462, .inl (fun _ => zI 0))), (q40, .inl (cI, 7, .inl (fun _ => zI 0))), (q48, .inl (cI, 7, .inl (fun _ => zI 0))), (q56, .inl (cI, 7, .inl (fun _ => zI 0))), (q65, .inl (cI, 462, .inl (fun _ => zI 0))), (q74, .inl (cI, 462, .inl (fun _ => zI 0))), (q82, .inl (cI, 18, .inl (fun _ => zI 0))), (q90, .inl (cI, 7, .inl (fun _ => zI 0))), (q98, .inl (cI, 7, .inl (fun _ => zI 0)))] := hD
  refine W.widen (k := 12) (n := 1462) (Nat.le_of_ble_eq_true rfl) (Nat.le_of_ble_eq_true rfl) ?_
  refine va_putF (D := D) (ci := 7) (v := .ref q98) (ty := .array .int) (C := RX7) (T := TX7) (N := 26) hx hb hT inX7 tyX7 tyX7_ok nmX7 hown hK hP hD hS 0 rfl rfl 22 (by decide) (hT _ q_694) (fun _ h9 => h9) rfl hin rfl (by decide +kernel) rfl rfl (Nat.le_of_ble_eq_true rfl) dX7_init_100 (fun H locs hP hD hS => ?_)
  have hP : va_P D vwCl [(h0, .inr (7, [.ref q7, .int (zI 0), .int (zI 0), .int (zI 0), .int (zI 0), .ref q15, .ref q23, .ref q32, .int (zI 0), .ref q40, .ref q48, .ref q56, .ref q65, .ref q74, .int (zI 0), .int (zI 0), .ref q82, .int (zI 0), .ref q90, .int (zI 0), .int (zI 0), .int (zI 0), .ref q98, .null, .null, .long (zL 0)])), (q7, .inl (cI, 9, .inl (fun _ => zI 0))), (q15, .inl (cI, 7, .inl (fun _ => zI 0))), (q23, .inl (cI, 7, .inl (fun _ => zI 0))), (q32, .inl (cI, 462, .inl (fun _ => zI 0))), (q40, .inl (cI, 7, .inl (fun _ => zI 0))), (q48, .inl (cI, 7, .inl (fun _ => zI 0))), (q56, .inl (cI, 7, .inl (fun _ => zI 0))), (q65, .inl (cI, 462, .inl (fun _ => zI 0))), (q74, .inl (cI, 462, .inl (fun _ => zI 0))), (q82, .inl (cI, 18, .inl (fun _ => zI 0))), (q90, .inl (cI, 7, .inl (fun _ => zI 0))), (q98, .inl (cI, 7, .inl (fun _ => zI 0)))] H := hP
  have hD : va_D A [(h0, .inr (7, [.ref q7, .int (zI 0), .int (zI 0), .int (zI 0), .int (zI 0), .ref q15, .ref q23, .ref q32, .int (zI 0), .ref q40, .ref q48, .ref q56, .ref q65, .ref q74, .int (zI 0), .int (zI 0), .ref q82, .int (zI 0), .ref q90, .int (zI 0), .int (zI 0), .int (zI 0), .ref q98, .null, .null, .long (zL 0)])), (q7, .inl (cI, 9, .inl (fun _ => zI 0))), (q15, .inl (cI, 7, .inl (fun _ => zI 0))), (q23, .inl (cI, 7, .inl (fun _ => zI 0))), (q32, .inl (cI, 462, .inl (fun _ => zI 0))), (q40, .inl (cI, 7, .inl (fun _ => zI 0))), (q48, .inl (cI, 7, .inl (fun _ => zI 0))), (q56, .inl (cI, 7, .inl (fun _ => zI 0))), (q65, .inl (cI, 462, .inl (fun _ => zI 0))), (q74, .inl (cI, 462, .inl (fun _ => zI 0))), (q82, .inl (cI, 18, .inl (fun _ => zI 0))), (q90, .inl (cI, 7, .inl (fun _ => zI 0))), (q98, .inl (cI, 7, .inl (fun _ => zI 0)))] := hD
  refine lv_aload_n hx hb dX7_init_103 rfl (lv_at hl 0 rfl) ?_
  refine z_bipush hx hb dX7_init_104 (by decide) ?_
  refine i_newI (Ts := lwT) hx hb (hT _ q_38) hK hP hD hS hA 7 (by decide) (Nat.le_of_ble_eq_true rfl) (Nat.le_of_ble_eq_true rfl) dX7_init_106 (fun q106 H hP hD hS => ?_)
  have hP : va_P D vwCl [(h0, .inr (7, [.ref q7, .int (zI 0), .int (zI 0), .int (zI 0), .int (zI 0), .ref q15, .ref q23, .ref q32, .int (zI 0), .ref q40, .ref q48, .ref q56, .ref q65, .ref q74, .int (zI 0), .int (zI 0), .ref q82, .int (zI 0), .ref q90, .int (zI 0), .int (zI 0), .int (zI 0), .ref q98, .null, .null, .long (zL 0)])), (q7, .inl (cI, 9, .inl (fun _ => zI 0))), (q15, .inl (cI, 7, .inl (fun _ => zI 0))), (q23, .inl (cI, 7, .inl (fun _ => zI 0))), (q32, .inl (cI, 462, .inl (fun _ => zI 0))), (q40, .inl (cI, 7, .inl (fun _ => zI 0))), (q48, .inl (cI, 7, .inl (fun _ => zI 0))), (q56, .inl (cI, 7, .inl (fun _ => zI 0))), (q65, .inl (cI, 462, .inl (fun _ => zI 0))), (q74, .inl (cI, 462, .inl (fun _ => zI 0))), (q82, .inl (cI, 18, .inl (fun _ => zI 0))), (q90, .inl (cI, 7, .inl (fun _ => zI 0))), (q98, .inl (cI, 7, .inl (fun _ => zI 0))), (q106, .inl (cI, 7, .inl (fun _ => zI 0)))] H := hP
  have hD : va_D A [(h0, .inr (7, [.ref q7, .int (zI 0), .int (zI 0), .int (zI 0), .int (zI 0), .ref q15, .ref q23, .ref q32, .int (zI 0), .ref q40, .ref q48, .ref q56, .ref q65, .ref q74, .int (zI 0), .int (zI 0), .ref q82, .int (zI 0), .ref q90, .int (zI 0), .int (zI 0), .int (zI 0), .ref q98, .null, .null, .long (zL 0)])), (q7, .inl (cI, 9, .inl (fun _ => zI 0))), (q15, .inl (cI, 7, .inl (fun _ => zI 0))), (q23, .inl (cI, 7, .inl (fun _ => zI 0))), (q32, .inl (cI, 462, .inl (fun _ => zI 0))), (q40, .inl (cI, 7, .inl (fun _ => zI 0))), (q48, .inl (cI, 7, .inl (fun _ => zI 0))), (q56, .inl (cI, 7, .inl (fun _ => zI 0))), (q65, .inl (cI, 462, .inl (fun _ => zI 0))), (q74, .inl (cI, 462, .inl (fun _ => zI 0))), (q82, .inl (cI, 18, .inl (fun _ => zI 0))), (q90, .inl (cI, 7, .inl (fun _ => zI 0))), (q98, .inl (cI, 7, .inl (fun _ => zI 0))), (q106, .inl (cI, 7, .inl (fun _ => zI 0)))] := hD
  refine W.widen (k := 13) (n := 1469) (Nat.le_of_ble_eq_true rfl) (Nat.le_of_ble_eq_true rfl) ?_
  refine va_putF (D := D) (ci := 7) (v := .ref q106) (ty := .array .int) (C := RX7) (T := TX7) (N := 26) hx hb hT inX7 tyX7 tyX7_ok nmX7 hown hK hP hD hS 0 rfl rfl 23 (by decide) (hT _ q_695) (fun _ h9 => h9) rfl hin rfl (by decide +kernel) rfl rfl (Nat.le_of_ble_eq_true rfl) dX7_init_108 (fun H locs hP hD hS => ?_)
  have hP : va_P D vwCl [(h0, .inr (7, [.ref q7, .int (zI 0), .int (zI 0), .int (zI 0), .int (zI 0), .ref q15, .ref q23, .ref q32, .int (zI 0), .ref q40, .ref q48, .ref q56, .ref q65, .ref q74, .int (zI 0), .int (zI 0), .ref q82, .int (zI 0), .ref q90, .int (zI 0), .int (zI 0), .int (zI 0), .ref q98, .ref q106, .null, .long (zL 0)])), (q7, .inl (cI, 9, .inl (fun _ => zI 0))), (q15, .inl (cI, 7, .inl (fun _ => zI 0))), (q23, .inl (cI, 7, .inl (fun _ => zI 0))), (q32, .inl (cI, 462, .inl (fun _ => zI 0))), (q40, .inl (cI, 7, .inl (fun _ => zI 0))), (q48, .inl (cI, 7, .inl (fun _ => zI 0))), (q56, .inl (cI, 7, .inl (fun _ => zI 0))), (q65, .inl (cI, 462, .inl (fun _ => zI 0))), (q74, .inl (cI, 462, .inl (fun _ => zI 0))), (q82, .inl (cI, 18, .inl (fun _ => zI 0))), (q90, .inl (cI, 7, .inl (fun _ => zI 0))), (q98, .inl (cI, 7, .inl (fun _ => zI 0))), (q106, .inl (cI, 7, .inl (fun _ => zI 0)))] H := hP
  have hD : va_D A [(h0, .inr (7, [.ref q7, .int (zI 0), .int (zI 0), .int (zI 0), .int (zI 0), .ref q15, .ref q23, .ref q32, .int (zI 0), .ref q40, .ref q48, .ref q56, .ref q65, .ref q74, .int (zI 0), .int (zI 0), .ref q82, .int (zI 0), .ref q90, .int (zI 0), .int (zI 0), .int (zI 0), .ref q98, .ref q106, .null, .long (zL 0)])), (q7, .inl (cI, 9, .inl (fun _ => zI 0))), (q15, .inl (cI, 7, .inl (fun _ => zI 0))), (q23, .inl (cI, 7, .inl (fun _ => zI 0))), (q32, .inl (cI, 462, .inl (fun _ => zI 0))), (q40, .inl (cI, 7, .inl (fun _ => zI 0))), (q48, .inl (cI, 7, .inl (fun _ => zI 0))), (q56, .inl (cI, 7, .inl (fun _ => zI 0))), (q65, .inl (cI, 462, .inl (fun _ => zI 0))), (q74, .inl (cI, 462, .inl (fun _ => zI 0))), (q82, .inl (cI, 18, .inl (fun _ => zI 0))), (q90, .inl (cI, 7, .inl (fun _ => zI 0))), (q98, .inl (cI, 7, .inl (fun _ => zI 0))), (q106, .inl (cI, 7, .inl (fun _ => zI 0)))] := hD
  refine lv_aload_n hx hb dX7_init_111 rfl (lv_at hl 0 rfl) ?_
  refine z_bipush hx hb dX7_init_112 (by decide) ?_
  refine i_newI (Ts := lwT) hx hb (hT _ q_38) hK hP hD hS hA 18 (by decide) (Nat.le_of_ble_eq_true rfl) (Nat.le_of_ble_eq_true rfl) dX7_init_114 (fun q114 H hP hD hS => ?_)
  have hP : va_P D vwCl [(h0, .inr (7, [.ref q7, .int (zI 0), .int (zI 0), .int (zI 0), .int (zI 0), .ref q15, .ref q23, .ref q32, .int (zI 0), .ref q40, .ref q48, .ref q56, .ref q65, .ref q74, .int (zI 0), .int (zI 0), .ref q82, .int (zI 0), .ref q90, .int (zI 0), .int (zI 0), .int (zI 0), .ref q98, .ref q106, .null, .long (zL 0)])), (q7, .inl (cI, 9, .inl (fun _ => zI 0))), (q15, .inl (cI, 7, .inl (fun _ => zI 0))), (q23, .inl (cI, 7, .inl (fun _ => zI 0))), (q32, .inl (cI, 462, .inl (fun _ => zI 0))), (q40, .inl (cI, 7, .inl (fun _ => zI 0))), (q48, .inl (cI, 7, .inl (fun _ => zI 0))), (q56, .inl (cI, 7, .inl (fun _ => zI 0))), (q65, .inl (cI, 462, .inl (fun _ => zI 0))), (q74, .inl (cI, 462, .inl (fun _ => zI 0))), (q82, .inl (cI, 18, .inl (fun _ => zI 0))), (q90, .inl (cI, 7, .inl (fun _ => zI 0))), (q98, .inl (cI, 7, .inl (fun _ => zI 0))), (q106, .inl (cI, 7, .inl (fun _ => zI 0))), (q114, .inl (cI, 18, .inl (fun _ => zI 0)))] H := hP
  have hD : va_D A [(h0, .inr (7, [.ref q7, .int (zI 0), .int (zI 0), .int (zI 0), .int (zI 0), .ref q15, .ref q23, .ref q32, .int (zI 0), .ref q40, .ref q48, .ref q56, .ref q65, .ref q74, .int (zI 0), .int (zI 0), .ref q82, .int (zI 0), .ref q90, .int (zI 0), .int (zI 0), .int (zI 0), .ref q98, .ref q106, .null, .long (zL 0)])), (q7, .inl (cI, 9, .inl (fun _ => zI 0))), (q15, .inl (cI, 7, .inl (fun _ => zI 0))), (q23, .inl (cI, 7, .inl (fun _ => zI 0))), (q32, .inl (cI, 462, .inl (fun _ => zI 0))), (q40, .inl (cI, 7, .inl (fun _ => zI 0))), (q48, .inl (cI, 7, .inl (fun _ => zI 0))), (q56, .inl (cI, 7, .inl (fun _ => zI 0))), (q65, .inl (cI, 462, .inl (fun _ => zI 0))), (q74, .inl (cI, 462, .inl (fun _ => zI 0))), (q82, .inl (cI, 18, .inl (fun _ => zI 0))), (q90, .inl (cI, 7, .inl (fun _ => zI 0))), (q98, .inl (cI, 7, .inl (fun _ => zI 0))), (q106, .inl (cI, 7, .inl (fun _ => zI 0))), (q114, .inl (cI, 18, .inl (fun _ => zI 0)))] := hD
  refine W.widen (k := 14) (n := 1487) (Nat.le_of_ble_eq_true rfl) (Nat.le_of_ble_eq_true rfl) ?_
  refine va_putF (D := D) (ci := 7) (v := .ref q114) (ty := .array .int) (C := RX7) (T := TX7) (N := 26) hx hb hT inX7 tyX7 tyX7_ok nmX7 hown hK hP hD hS 0 rfl rfl 24 (by decide) (hT _ q_696) (fun _ h9 => h9) rfl hin rfl (by decide +kernel) rfl rfl (Nat.le_of_ble_eq_true rfl) dX7_init_116 (fun H locs hP hD hS => ?_)
  have hP : va_P D vwCl [(h0, .inr (7, [.ref q7, .int (zI 0), .int (zI 0), .int (zI 0), .int (zI 0), .ref q15, .ref q23, .ref q32, .int (zI 0), .ref q40, .ref q48, .ref q56, .ref q65, .ref q74, .int (zI 0), .int (zI 0), .ref q82, .int (zI 0), .ref q90, .int (zI 0), .int (zI 0), .int (zI 0), .ref q98, .ref q106, .ref q114, .long (zL 0)])), (q7, .inl (cI, 9, .inl (fun _ => zI 0))), (q15, .inl (cI, 7, .inl (fun _ => zI 0))), (q23, .inl (cI, 7, .inl (fun _ => zI 0))), (q32, .inl (cI, 462, .inl (fun _ => zI 0))), (q40, .inl (cI, 7, .inl (fun _ => zI 0))), (q48, .inl (cI, 7, .inl (fun _ => zI 0))), (q56, .inl (cI, 7, .inl (fun _ => zI 0))), (q65, .inl (cI, 462, .inl (fun _ => zI 0))), (q74, .inl (cI, 462, .inl (fun _ => zI 0))), (q82, .inl (cI, 18, .inl (fun _ => zI 0))), (q90, .inl (cI, 7, .inl (fun _ => zI 0))), (q98, .inl (cI, 7, .inl (fun _ => zI 0))), (q106, .inl (cI, 7, .inl (fun _ => zI 0))), (q114, .inl (cI, 18, .inl (fun _ => zI 0)))] H := hP
  have hD : va_D A [(h0, .inr (7, [.ref q7, .int (zI 0), .int (zI 0), .int (zI 0), .int (zI 0), .ref q15, .ref q23, .ref q32, .int (zI 0), .ref q40, .ref q48, .ref q56, .ref q65, .ref q74, .int (zI 0), .int (zI 0), .ref q82, .int (zI 0), .ref q90, .int (zI 0), .int (zI 0), .int (zI 0), .ref q98, .ref q106, .ref q114, .long (zL 0)])), (q7, .inl (cI, 9, .inl (fun _ => zI 0))), (q15, .inl (cI, 7, .inl (fun _ => zI 0))), (q23, .inl (cI, 7, .inl (fun _ => zI 0))), (q32, .inl (cI, 462, .inl (fun _ => zI 0))), (q40, .inl (cI, 7, .inl (fun _ => zI 0))), (q48, .inl (cI, 7, .inl (fun _ => zI 0))), (q56, .inl (cI, 7, .inl (fun _ => zI 0))), (q65, .inl (cI, 462, .inl (fun _ => zI 0))), (q74, .inl (cI, 462, .inl (fun _ => zI 0))), (q82, .inl (cI, 18, .inl (fun _ => zI 0))), (q90, .inl (cI, 7, .inl (fun _ => zI 0))), (q98, .inl (cI, 7, .inl (fun _ => zI 0))), (q106, .inl (cI, 7, .inl (fun _ => zI 0))), (q114, .inl (cI, 18, .inl (fun _ => zI 0)))] := hD
  refine lv_aload_n hx hb dX7_init_119 rfl (lv_at hl 0 rfl) ?_
  refine z_iconst hx hb dX7_init_120 ?_
  refine va_put (D := D) (ci := 7) (v := .int (zI (-1))) (ty := .int) (C := RX7) (T := TX7) (N := 26) hx hb hT inX7 tyX7 tyX7_ok nmX7 hown hK hP hD hS 0 rfl rfl 19 (by decide) (hT _ q_691) (fun _ h9 => h9) rfl (by decide +kernel) rfl rfl (Nat.le_of_ble_eq_true rfl) dX7_init_121 (fun H locs hP hD hS => ?_)
  have hP : va_P D vwCl [(h0, .inr (7, [.ref q7, .int (zI 0), .int (zI 0), .int (zI 0), .int (zI 0), .ref q15, .ref q23, .ref q32, .int (zI 0), .ref q40, .ref q48, .ref q56, .ref q65, .ref q74, .int (zI 0), .int (zI 0), .ref q82, .int (zI 0), .ref q90, .int (zI (-1)), .int (zI 0), .int (zI 0), .ref q98, .ref q106, .ref q114, .long (zL 0)])), (q7, .inl (cI, 9, .inl (fun _ => zI 0))), (q15, .inl (cI, 7, .inl (fun _ => zI 0))), (q23, .inl (cI, 7, .inl (fun _ => zI 0))), (q32, .inl (cI, 462, .inl (fun _ => zI 0))), (q40, .inl (cI, 7, .inl (fun _ => zI 0))), (q48, .inl (cI, 7, .inl (fun _ => zI 0))), (q56, .inl (cI, 7, .inl (fun _ => zI 0))), (q65, .inl (cI, 462, .inl (fun _ => zI 0))), (q74, .inl (cI, 462, .inl (fun _ => zI 0))), (q82, .inl (cI, 18, .inl (fun _ => zI 0))), (q90, .inl (cI, 7, .inl (fun _ => zI 0))), (q98, .inl (cI, 7, .inl (fun _ => zI 0))), (q106, .inl (cI, 7, .inl (fun _ => zI 0))), (q114, .inl (cI, 18, .inl (fun _ => zI 0)))] H := hP
  have hD : va_D A [(h0, .inr (7, [.ref q7, .int (zI 0), .int (zI 0), .int (zI 0), .int (zI 0), .ref q15, .ref q23, .ref q32, .int (zI 0), .ref q40, .ref q48, .ref q56, .ref q65, .ref q74, .int (zI 0), .int (zI 0), .ref q82, .int (zI 0), .ref q90, .int (zI (-1)), .int (zI 0), .int (zI 0), .ref q98, .ref q106, .ref q114, .long (zL 0)])), (q7, .inl (cI, 9, .inl (fun _ => zI 0))), (q15, .inl (cI, 7, .inl (fun _ => zI 0))), (q23, .inl (cI, 7, .inl (fun _ => zI 0))), (q32, .inl (cI, 462, .inl (fun _ => zI 0))), (q40, .inl (cI, 7, .inl (fun _ => zI 0))), (q48, .inl (cI, 7, .inl (fun _ => zI 0))), (q56, .inl (cI, 7, .inl (fun _ => zI 0))), (q65, .inl (cI, 462, .inl (fun _ => zI 0))), (q74, .inl (cI, 462, .inl (fun _ => zI 0))), (q82, .inl (cI, 18, .inl (fun _ => zI 0))), (q90, .inl (cI, 7, .inl (fun _ => zI 0))), (q98, .inl (cI, 7, .inl (fun _ => zI 0))), (q106, .inl (cI, 7, .inl (fun _ => zI 0))), (q114, .inl (cI, 18, .inl (fun _ => zI 0)))] := hD
  have hP9 : va_P D vwCl ((fun ad : Nat → Nat => mW cI ad mS0) (fun k => match k with | 26 => h0 | 0 => q7 | 5 => q15 | 6 => q23 | 7 => q32 | 9 => q40 | 10 => q48 | 11 => q56 | 12 => q65 | 13 => q74 | 16 => q82 | 18 => q90 | 22 => q98 | 23 => q106 | 24 => q114 | _ => 0)) H := hP.sub (ws' := mW cI (fun k => match k with | 26 => h0 | 0 => q7 | 5 => q15 | 6 => q23 | 7 => q32 | 9 => q40 | 10 => q48 | 11 => q56 | 12 => q65 | 13 => q74 | 16 => q82 | 18 => q90 | 22 => q98 | 23 => q106 | 24 => q114 | _ => 0) mS0) [0, 1, 2, 3, 4, 5, 6, 7, 8, 9, 10, 11, 12, 13, 14] rfl
  have hD9 : va_D A ((fun ad : Nat → Nat => mW cI ad mS0) (fun k => match k with | 26 => h0 | 0 => q7 | 5 => q15 | 6 => q23 | 7 => q32 | 9 => q40 | 10 => q48 | 11 => q56 | 12 => q65 | 13 => q74 | 16 => q82 | 18 => q90 | 22 => q98 | 23 => q106 | 24 => q114 | _ => 0)) := hD.sub (ws' := mW cI (fun k => match k with | 26 => h0 | 0 => q7 | 5 => q15 | 6 => q23 | 7 => q32 | 9 => q40 | 10 => q48 | 11 => q56 | 12 => q65 | 13 => q74 | 16 => q82 | 18 => q90 | 22 => q98 | 23 => q106 | 24 => q114 | _ => 0) mS0) [0, 1, 2, 3, 4, 5, 6, 7, 8, 9, 10, 11, 12, 13, 14] (by decide) rfl
  exact W.vret hx hb hr (fun t ht hW => ⟨⟨(fun k => match k with | 26 => h0 | 0 => q7 | 5 => q15 | 6 => q23 | 7 => q32 | 9 => q40 | 10 => q48 | 11 => q56 | 12 => q65 | 13 => q74 | 16 => q82 | 18 => q90 | 22 => q98 | 23 => q106 | 24 => q114 | _ => 0), rfl, rfl, by rw [ht]; exact hP9, hD9⟩, hS.F ht⟩) hS.2.2 dX7_init_124
