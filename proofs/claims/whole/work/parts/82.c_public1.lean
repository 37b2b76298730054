set_option maxHeartbeats 4000000 in
set_option maxRecDepth 100000 in
theorem k_X6_isWithoutStrip (l : Launch) (D : va_G) (cI cZ : ClassId) (ad : Nat → Nat) (az av : Nat) (hinj : cInj ad) (S : St) (hR : RS S)  : Met l yX6_isWithoutStrip (Cond.code yX6_isWithoutStrip cX6_isWithoutStrip 1 (some .boolean) :: lwT) ({ frames := 0, cells := 0, slots := 0, locals := 0 }) (gPc D (cW cI cZ ad) (cE D cI cZ ad az av) S [.ref (ad 40)]) (va_Qi (fun (r : Int32) (S' : St) => S' = S ∧ r = zI (b2 (decide (S 2 0 = 0)))) (gB D (cW cI cZ ad)) (cA ad)) 0 0 (cA ad) := by
  refine Met.ofW (cc := cX6_isWithoutStrip) (maxL := 1) (ret := (some .boolean)) (by decide) rfl ?_
  intro p e s m args below meth c s₁ B hml hv
  obtain ⟨rfl, hP, hE⟩ := hv
  have hx := B.exec
  have hb := B.bytes
  have hr := B.returns
  have hts := atoms_spec (ws := Cond.code yX6_isWithoutStrip cX6_isWithoutStrip 1 (some .boolean) :: lwT) B.pre
  have hT := fun w (h : w ∈ lwT) => hts w (List.mem_cons_of_mem _ h)
  have hsub : ∀ w ∈ lwT, w ∈ (Cond.code yX6_isWithoutStrip cX6_isWithoutStrip 1 (some .boolean) :: lwT) := fun w h => List.mem_cons_of_mem _ h
  have hown : s.vm.findClass RX6 = some m.cls := findClass_of_methodNamed B.named
  have hlocks := B.notSynchronized
  have hK : va_K D vwCl [(cI, .int), (cZ, .boolean)] s := hE.1
  have hS : va_S (cA ad) s.heap s.heap [] := va_S.rf
  have hl := lv_entry ([.ref (ad 40)]) (n := 1) (Nat.le_of_ble_eq_true rfl)
  rw [lg_entry_eq]
  generalize (lg_sl ([.ref (ad 40)]) ++ List.replicate (1 - (lg_sl ([.ref (ad 40)])).length) Slot.unset).toArray = ls at hl ⊢
  have hl : lv_has ls 1 [(0, .ref (ad 40))] := hl
  refine lv_aload_n hx hb dX6_isWithoutStrip_0 rfl (lv_at hl 0 rfl) ?_
  refine va_get (D := D) (ci := 6) (v := .ref (ad 42)) (C := RX6) (T := TX6) (N := 9) hx hb hT inX6 hown hK hP 0 rfl rfl 1 (by decide) (hT _ q_177) (fun _ h9 => h9) rfl dX6_isWithoutStrip_1 ?_
  have g_1 : -2147483648 ≤ S 2 0 ∧ S 2 0 < 2147483648 := hR 2 0 (by decide)
  refine va_get (D := D) (ci := 0) (v := .int (zI (S 2 0))) (C := RX0) (T := TX0) (N := 5) hx hb hT inX0 hown hK hP 2 rfl rfl 0 (by decide) (hT _ q_48) (fun _ h9 => h9) rfl dX6_isWithoutStrip_4 ?_
  refine z_if_ne (tgt := 14) hx hb (by omega) (by omega) dX6_isWithoutStrip_7 (by decide) (fun c_2 => ?_) (fun c_2 => ?_)
  · have h9 : True := trivial
    refine z_iconst hx hb dX6_isWithoutStrip_14 ?_
    exact g_zret (S1 := S) (bo := false) hx hb hr hlocks hP hR hS (⟨rfl, bF (by omega)⟩) dX6_isWithoutStrip_15
  · have h9 : True := trivial
    refine z_iconst hx hb dX6_isWithoutStrip_10 ?_
    refine lv_goto (tgt := 15) hx hb dX6_isWithoutStrip_11 (by decide) ?_
    exact g_zret (S1 := S) (bo := true) hx hb hr hlocks hP hR hS (⟨rfl, bT (by omega)⟩) dX6_isWithoutStrip_15
set_option maxHeartbeats 4000000 in
set_option maxRecDepth 100000 in
theorem k_X6_isLeaf (l : Launch) (D : va_G) (cI cZ : ClassId) (ad : Nat → Nat) (az av : Nat) (hinj : cInj ad) (S : St) (hR : RS S) (x : Int) (hx1 : -2147483648 ≤ x) (hx2 : x < 2147483648) : Met l yX6_isLeaf (Cond.code yX6_isLeaf cX6_isLeaf 2 (some .boolean) :: lwT) ({ frames := 0, cells := 0, slots := 0, locals := 0 }) (gPc D (cW cI cZ ad) (cE D cI cZ ad az av) S [.ref (ad 40), .int (zI (x))]) (va_Qi (fun (r : Int32) (S' : St) => S' = S ∧ r = zI (b2 (decide (0 ≤ x ∧ x ≤ S 2 0 - 1)))) (gB D (cW cI cZ ad)) (cA ad)) 0 0 (cA ad) := by
  refine Met.ofW (cc := cX6_isLeaf) (maxL := 2) (ret := (some .boolean)) (by decide) rfl ?_
  intro p e s m args below meth c s₁ B hml hv
  obtain ⟨rfl, hP, hE⟩ := hv
  have hx := B.exec
  have hb := B.bytes
  have hr := B.returns
  have hts := atoms_spec (ws := Cond.code yX6_isLeaf cX6_isLeaf 2 (some .boolean) :: lwT) B.pre
  have hT := fun w (h : w ∈ lwT) => hts w (List.mem_cons_of_mem _ h)
  have hsub : ∀ w ∈ lwT, w ∈ (Cond.code yX6_isLeaf cX6_isLeaf 2 (some .boolean) :: lwT) := fun w h => List.mem_cons_of_mem _ h
  have hown : s.vm.findClass RX6 = some m.cls := findClass_of_methodNamed B.named
  have hlocks := B.notSynchronized
  have hK : va_K D vwCl [(cI, .int), (cZ, .boolean)] s := hE.1
  have hS : va_S (cA ad) s.heap s.heap [] := va_S.rf
  have hl := lv_entry ([.ref (ad 40), .int (zI (x))]) (n := 2) (Nat.le_of_ble_eq_true rfl)
  rw [lg_entry_eq]
  generalize (lg_sl ([.ref (ad 40), .int (zI (x))]) ++ List.replicate (2 - (lg_sl ([.ref (ad 40), .int (zI (x))])).length) Slot.unset).toArray = ls at hl ⊢
  have hl : lv_has ls 2 [(0, .ref (ad 40)), (1, .int (zI (x)))] := hl
  refine lv_iload_n hx hb dX6_isLeaf_0 rfl (lv_at hl 1 rfl) ?_
  refine z_if_lt (tgt := 19) hx hb (by omega) (by omega) dX6_isLeaf_1 (by decide) (fun c_1 => ?_) (fun c_1 => ?_)
  · have h9 : True := trivial
    refine z_iconst hx hb dX6_isLeaf_19 ?_
    exact g_zret (S1 := S) (bo := false) hx hb hr hlocks hP hR hS (⟨rfl, bF (by omega)⟩) dX6_isLeaf_20
  · have h9 : True := trivial
    refine lv_iload_n hx hb dX6_isLeaf_4 rfl (lv_at hl 1 rfl) ?_
    refine lv_aload_n hx hb dX6_isLeaf_5 rfl (lv_at hl 0 rfl) ?_
    refine va_get (D := D) (ci := 6) (v := .ref (ad 42)) (C := RX6) (T := TX6) (N := 9) hx hb hT inX6 hown hK hP 0 rfl rfl 1 (by decide) (hT _ q_177) (fun _ h9 => h9) rfl dX6_isLeaf_6 ?_
    have g_2 : -2147483648 ≤ S 2 0 ∧ S 2 0 < 2147483648 := hR 2 0 (by decide)
    refine va_get (D := D) (ci := 0) (v := .int (zI (S 2 0))) (C := RX0) (T := TX0) (N := 5) hx hb hT inX0 hown hK hP 2 rfl rfl 0 (by decide) (hT _ q_48) (fun _ h9 => h9) rfl dX6_isLeaf_9 ?_
    refine z_icmp_ge (tgt := 19) hx hb (by omega) (by omega) (by omega) (by omega) dX6_isLeaf_12 (by decide) (fun c_3 => ?_) (fun c_3 => ?_)
    · have h9 : True := trivial
      refine z_iconst hx hb dX6_isLeaf_19 ?_
      exact g_zret (S1 := S) (bo := false) hx hb hr hlocks hP hR hS (⟨rfl, bF (by omega)⟩) dX6_isLeaf_20
    · have h9 : True := trivial
      refine z_iconst hx hb dX6_isLeaf_15 ?_
      refine lv_goto (tgt := 20) hx hb dX6_isLeaf_16 (by decide) ?_
      exact g_zret (S1 := S) (bo := true) hx hb hr hlocks hP hR hS (⟨rfl, bT (by omega)⟩) dX6_isLeaf_20
set_option maxHeartbeats 4000000 in
set_option maxRecDepth 100000 in
theorem k_X6_isPlace (l : Launch) (D : va_G) (cI cZ : ClassId) (ad : Nat → Nat) (az av : Nat) (hinj : cInj ad) (S : St) (hR : RS S) (x : Int) (hx1 : -2147483648 ≤ x) (hx2 : x < 2147483648) : Met l yX6_isPlace (Cond.code yX6_isPlace cX6_isPlace 2 (some .boolean) :: lwT) ({ frames := 0, cells := 0, slots := 0, locals := 0 }) (gPc D (cW cI cZ ad) (cE D cI cZ ad az av) S [.ref (ad 40), .int (zI (x))]) (va_Qi (fun (r : Int32) (S' : St) => S' = S ∧ r = zI (b2 (decide (0 ≤ x ∧ x ≤ S 2 0 - 1)))) (gB D (cW cI cZ ad)) (cA ad)) 0 0 (cA ad) := by
  refine Met.ofW (cc := cX6_isPlace) (maxL := 2) (ret := (some .boolean)) (by decide) rfl ?_
  intro p e s m args below meth c s₁ B hml hv
  obtain ⟨rfl, hP, hE⟩ := hv
  have hx := B.exec
  have hb := B.bytes
  have hr := B.returns
  have hts := atoms_spec (ws := Cond.code yX6_isPlace cX6_isPlace 2 (some .boolean) :: lwT) B.pre
  have hT := fun w (h : w ∈ lwT) => hts w (List.mem_cons_of_mem _ h)
  have hsub : ∀ w ∈ lwT, w ∈ (Cond.code yX6_isPlace cX6_isPlace 2 (some .boolean) :: lwT) := fun w h => List.mem_cons_of_mem _ h
  have hown : s.vm.findClass RX6 = some m.cls := findClass_of_methodNamed B.named
  have hlocks := B.notSynchronized
  have hK : va_K D vwCl [(cI, .int), (cZ, .boolean)] s := hE.1
  have hS : va_S (cA ad) s.heap s.heap [] := va_S.rf
  have hl := lv_entry ([.ref (ad 40), .int (zI (x))]) (n := 2) (Nat.le_of_ble_eq_true rfl)
  rw [lg_entry_eq]
  generalize (lg_sl ([.ref (ad 40), .int (zI (x))]) ++ List.replicate (2 - (lg_sl ([.ref (ad 40), .int (zI (x))])).length) Slot.unset).toArray = ls at hl ⊢
  have hl : lv_has ls 2 [(0, .ref (ad 40)), (1, .int (zI (x)))] := hl
  refine lv_iload_n hx hb dX6_isPlace_0 rfl (lv_at hl 1 rfl) ?_
  refine z_if_lt (tgt := 19) hx hb (by omega) (by omega) dX6_isPlace_1 (by decide) (fun c_1 => ?_) (fun c_1 => ?_)
  · have h9 : True := trivial
    refine z_iconst hx hb dX6_isPlace_19 ?_
    exact g_zret (S1 := S) (bo := false) hx hb hr hlocks hP hR hS (⟨rfl, bF (by omega)⟩) dX6_isPlace_20
  · have h9 : True := trivial
    refine lv_iload_n hx hb dX6_isPlace_4 rfl (lv_at hl 1 rfl) ?_
    refine lv_aload_n hx hb dX6_isPlace_5 rfl (lv_at hl 0 rfl) ?_
    refine va_get (D := D) (ci := 6) (v := .ref (ad 42)) (C := RX6) (T := TX6) (N := 9) hx hb hT inX6 hown hK hP 0 rfl rfl 1 (by decide) (hT _ q_177) (fun _ h9 => h9) rfl dX6_isPlace_6 ?_
    have g_2 : -2147483648 ≤ S 2 0 ∧ S 2 0 < 2147483648 := hR 2 0 (by decide)
    refine va_get (D := D) (ci := 0) (v := .int (zI (S 2 0))) (C := RX0) (T := TX0) (N := 5) hx hb hT inX0 hown hK hP 2 rfl rfl 0 (by decide) (hT _ q_48) (fun _ h9 => h9) rfl dX6_isPlace_9 ?_
    refine z_icmp_ge (tgt := 19) hx hb (by omega) (by omega) (by omega) (by omega) dX6_isPlace_12 (by decide) (fun c_3 => ?_) (fun c_3 => ?_)
    · have h9 : True := trivial
      refine z_iconst hx hb dX6_isPlace_19 ?_
      exact g_zret (S1 := S) (bo := false) hx hb hr hlocks hP hR hS (⟨rfl, bF (by omega)⟩) dX6_isPlace_20
    · have h9 : True := trivial
      refine z_iconst hx hb dX6_isPlace_15 ?_
      refine lv_goto (tgt := 20) hx hb dX6_isPlace_16 (by decide) ?_
      exact g_zret (S1 := S) (bo := true) hx hb hr hlocks hP hR hS (⟨rfl, bT (by omega)⟩) dX6_isPlace_20
set_option maxHeartbeats 4000000 in
set_option maxRecDepth 100000 in
theorem k_X6_isOrder (l : Launch) (D : va_G) (cI cZ : ClassId) (ad : Nat → Nat) (az av : Nat) (hinj : cInj ad) (S : St) (hR : RS S) (x : Int) (hx1 : -2147483648 ≤ x) (hx2 : x < 2147483648) : Met l yX6_isOrder (Cond.code yX6_isOrder cX6_isOrder 2 (some .boolean) :: lwT) ({ frames := 0, cells := 0, slots := 0, locals := 0 }) (gPc D (cW cI cZ ad) (cE D cI cZ ad az av) S [.ref (ad 40), .int (zI (x))]) (va_Qi (fun (r : Int32) (S' : St) => S' = S ∧ r = zI (b2 (decide (0 ≤ x ∧ x ≤ S 3 0 - 1)))) (gB D (cW cI cZ ad)) (cA ad)) 0 0 (cA ad) := by
  refine Met.ofW (cc := cX6_isOrder) (maxL := 2) (ret := (some .boolean)) (by decide) rfl ?_
  intro p e s m args below meth c s₁ B hml hv
  obtain ⟨rfl, hP, hE⟩ := hv
  have hx := B.exec
  have hb := B.bytes
  have hr := B.returns
  have hts := atoms_spec (ws := Cond.code yX6_isOrder cX6_isOrder 2 (some .boolean) :: lwT) B.pre
  have hT := fun w (h : w ∈ lwT) => hts w (List.mem_cons_of_mem _ h)
  have hsub : ∀ w ∈ lwT, w ∈ (Cond.code yX6_isOrder cX6_isOrder 2 (some .boolean) :: lwT) := fun w h => List.mem_cons_of_mem _ h
  have hown : s.vm.findClass RX6 = some m.cls := findClass_of_methodNamed B.named
  have hlocks := B.notSynchronized
  have hK : va_K D vwCl [(cI, .int), (cZ, .boolean)] s := hE.1
  have hS : va_S (cA ad) s.heap s.heap [] := va_S.rf
  have hl := lv_entry ([.ref (ad 40), .int (zI (x))]) (n := 2) (Nat.le_of_ble_eq_true rfl)
  rw [lg_entry_eq]
  generalize (lg_sl ([.ref (ad 40), .int (zI (x))]) ++ List.replicate (2 - (lg_sl ([.ref (ad 40), .int (zI (x))])).length) Slot.unset).toArray = ls at hl ⊢
  have hl : lv_has ls 2 [(0, .ref (ad 40)), (1, .int (zI (x)))] := hl
  refine lv_iload_n hx hb dX6_isOrder_0 rfl (lv_at hl 1 rfl) ?_
  refine z_if_lt (tgt := 19) hx hb (by omega) (by omega) dX6_isOrder_1 (by decide) (fun c_1 => ?_) (fun c_1 => ?_)
  · have h9 : True := trivial
    refine z_iconst hx hb dX6_isOrder_19 ?_
    exact g_zret (S1 := S) (bo := false) hx hb hr hlocks hP hR hS (⟨rfl, bF (by omega)⟩) dX6_isOrder_20
  · have h9 : True := trivial
    refine lv_iload_n hx hb dX6_isOrder_4 rfl (lv_at hl 1 rfl) ?_
    refine lv_aload_n hx hb dX6_isOrder_5 rfl (lv_at hl 0 rfl) ?_
    refine va_get (D := D) (ci := 6) (v := .ref (ad 42)) (C := RX6) (T := TX6) (N := 9) hx hb hT inX6 hown hK hP 0 rfl rfl 1 (by decide) (hT _ q_177) (fun _ h9 => h9) rfl dX6_isOrder_6 ?_
    have g_2 : -2147483648 ≤ S 3 0 ∧ S 3 0 < 2147483648 := hR 3 0 (by decide)
    refine va_get (D := D) (ci := 0) (v := .int (zI (S 3 0))) (C := RX0) (T := TX0) (N := 5) hx hb hT inX0 hown hK hP 2 rfl rfl 1 (by decide) (hT _ q_54) (fun _ h9 => h9) rfl dX6_isOrder_9 ?_
    refine z_icmp_ge (tgt := 19) hx hb (by omega) (by omega) (by omega) (by omega) dX6_isOrder_12 (by decide) (fun c_3 => ?_) (fun c_3 => ?_)
    · have h9 : True := trivial
      refine z_iconst hx hb dX6_isOrder_19 ?_
      exact g_zret (S1 := S) (bo := false) hx hb hr hlocks hP hR hS (⟨rfl, bF (by omega)⟩) dX6_isOrder_20
    · have h9 : True := trivial
      refine z_iconst hx hb dX6_isOrder_15 ?_
      refine lv_goto (tgt := 20) hx hb dX6_isOrder_16 (by decide) ?_
      exact g_zret (S1 := S) (bo := true) hx hb hr hlocks hP hR hS (⟨rfl, bT (by omega)⟩) dX6_isOrder_20
set_option maxHeartbeats 4000000 in
set_option maxRecDepth 100000 in
theorem k_X6_letter (l : Launch) (D : va_G) (cI cZ : ClassId) (ad : Nat → Nat) (az av : Nat) (hinj : cInj ad) (S : St) (hR : RS S) (x : Int) (hx1 : -2147483648 ≤ x) (hx2 : x < 2147483648) (sz : Nat) (hsz : S 1 0 = ↑sz) (hsz9 : sz ≤ 9) : Met l yX6_letter (Cond.code yX6_letter cX6_letter 2 (some .int) :: lwT) ({ frames := 1, cells := 0, slots := 0, locals := 21 }) (gPc D (cW cI cZ ad) (cE D cI cZ ad az av) S [.ref (ad 40), .int (zI (x))]) (va_Qi (fun (r : Int32) (S' : St) => (¬ (1 ≤ x ∧ x ≤ 126) ∧ S' = S ∧ r = zI (-102)) ∨ ((1 ≤ x ∧ x ≤ 126) ∧ sz = 9 ∧ S' = S ∧ r = zI (-104)) ∨ ((1 ≤ x ∧ x ≤ 126) ∧ sz < 9 ∧ S' = sA (sA S 0 (uZ (S 0) sz x)) 1 (fun _ => ↑sz + 1) ∧ r = zI (↑sz + 1))) (gB D (cW cI cZ ad)) (cA ad)) 0 0 (cA ad) := by
  refine Met.ofW (cc := cX6_letter) (maxL := 2) (ret := (some .int)) (by decide) rfl ?_
  intro p e s m args below meth c s₁ B hml hv
  obtain ⟨rfl, hP, hE⟩ := hv
  have hx := B.exec
  have hb := B.bytes
  have hr := B.returns
  have hts := atoms_spec (ws := Cond.code yX6_letter cX6_letter 2 (some .int) :: lwT) B.pre
  have hT := fun w (h : w ∈ lwT) => hts w (List.mem_cons_of_mem _ h)
  have hsub : ∀ w ∈ lwT, w ∈ (Cond.code yX6_letter cX6_letter 2 (some .int) :: lwT) := fun w h => List.mem_cons_of_mem _ h
  have hown : s.vm.findClass RX6 = some m.cls := findClass_of_methodNamed B.named
  have hlocks := B.notSynchronized
  have hK : va_K D vwCl [(cI, .int), (cZ, .boolean)] s := hE.1
  have hS : va_S (cA ad) s.heap s.heap [] := va_S.rf
  have hl := lv_entry ([.ref (ad 40), .int (zI (x))]) (n := 2) (Nat.le_of_ble_eq_true rfl)
  rw [lg_entry_eq]
  generalize (lg_sl ([.ref (ad 40), .int (zI (x))]) ++ List.replicate (2 - (lg_sl ([.ref (ad 40), .int (zI (x))])).length) Slot.unset).toArray = ls at hl ⊢
  have hl : lv_has ls 2 [(0, .ref (ad 40)), (1, .int (zI (x)))] := hl
  refine lv_iload_n hx hb dX6_letter_0 rfl (lv_at hl 1 rfl) ?_
  refine z_iconst hx hb dX6_letter_1 ?_
  refine z_icmp_lt (tgt := 11) hx hb (by omega) (by omega) (by omega) (by omega) dX6_letter_2 (by decide) (fun c_1 => ?_) (fun c_1 => ?_)
  · have h9 : True := trivial
    refine z_bipush hx hb dX6_letter_11 (by decide) ?_
    exact g_iret (S1 := S) (v := zI (-102)) hx hb hr hlocks hP hR hS (Or.inl ⟨by omega, rfl, rfl⟩) dX6_letter_13
  · have h9 : True := trivial
    refine lv_iload_n hx hb dX6_letter_5 rfl (lv_at hl 1 rfl) ?_
    refine z_bipush hx hb dX6_letter_6 (by decide) ?_
    refine z_icmp_le (tgt := 14) hx hb (by omega) (by omega) (by omega) (by omega) dX6_letter_8 (by decide) (fun c_2 => ?_) (fun c_2 => ?_)
    · have h9 : True := trivial
      refine lv_aload_n hx hb dX6_letter_14 rfl (lv_at hl 0 rfl) ?_
      refine va_get (D := D) (ci := 6) (v := .ref (ad 41)) (C := RX6) (T := TX6) (N := 9) hx hb hT inX6 hown hK hP 0 rfl rfl 0 (by decide) (hT _ q_176) (fun _ h9 => h9) rfl dX6_letter_15 ?_
      have g_3 : -2147483648 ≤ S 1 0 ∧ S 1 0 < 2147483648 := hR 1 0 (by decide)
      refine va_get (D := D) (ci := 2) (v := .int (zI (S 1 0))) (C := RX2) (T := TX2) (N := 2) hx hb hT inX2 hown hK hP 1 rfl rfl 1 (by decide) (hT _ q_32) (fun _ h9 => h9) rfl dX6_letter_18 ?_
      refine z_bipush hx hb dX6_letter_21 (by decide) ?_
      refine z_icmp_lt (tgt := 29) hx hb (by omega) (by omega) (by omega) (by omega) dX6_letter_23 (by decide) (fun c_4 => ?_) (fun c_4 => ?_)
      · have h9 : True := trivial
        refine lv_aload_n hx hb dX6_letter_29 rfl (lv_at hl 0 rfl) ?_
        refine va_get (D := D) (ci := 6) (v := .ref (ad 41)) (C := RX6) (T := TX6) (N := 9) hx hb hT inX6 hown hK hP 0 rfl rfl 0 (by decide) (hT _ q_176) (fun _ h9 => h9) rfl dX6_letter_30 ?_
        refine lv_iload_n hx hb dX6_letter_33 rfl (lv_at hl 1 rfl) ?_
        refine g_callVv (As := [.int (zI (x))]) (rest := []) ⟨hx, hb, hml, hown, hts⟩ (k_X2_add l D cI cZ ad az av hinj S hR sz hsz (by omega) x (by omega) (by omega)) (cwV 1 hts (gV hsub q_208 q_209 q_210 q_2 q_211) rfl rfl rfl hdX2_add ⟨Nat.le_of_ble_eq_true rfl, Nat.le_of_ble_eq_true rfl⟩) (cEb D cI cZ ad az av) (cEk D cI cZ ad az av) hE (va_recv (ci := 2) (q0 := 1) hK hP rfl rfl) hP hS rfl hl.1 rfl (Nat.le_of_ble_eq_true rfl) dX6_letter_34 ⟨Nat.le_of_ble_eq_true rfl, Nat.le_of_ble_eq_true rfl⟩ (fun S_6 H locs hq_7 hP hR hS _ => ?_)
        obtain rfl := hq_7
        have hP : va_P D vwCl (cW cI cZ ad (sA (sA S 0 (uZ (S 0) sz x)) 1 (fun _ => ↑sz + 1))) H := hP
        have hR : RS (sA (sA S 0 (uZ (S 0) sz x)) 1 (fun _ => ↑sz + 1)) := hR
        refine lv_aload_n hx hb dX6_letter_37 rfl (lv_at hl 0 rfl) ?_
        refine va_get (D := D) (ci := 6) (v := .ref (ad 41)) (C := RX6) (T := TX6) (N := 9) hx hb hT inX6 hown hK hP 0 rfl rfl 0 (by decide) (hT _ q_176) (fun _ h9 => h9) rfl dX6_letter_38 ?_
        refine va_get (D := D) (ci := 2) (v := .int (zI (↑sz + 1))) (C := RX2) (T := TX2) (N := 2) hx hb hT inX2 hown hK hP 1 rfl rfl 1 (by decide) (hT _ q_32) (fun _ h9 => h9) rfl dX6_letter_41 ?_
        refine g_iret (S1 := sA (sA S 0 (uZ (S 0) sz x)) 1 (fun _ => ↑sz + 1)) (v := zI (↑sz + 1)) hx hb hr hlocks hP hR hS ?_ dX6_letter_44
        exact Or.inr (Or.inr ⟨by omega, by omega, rfl, rfl⟩)
      · have h9 : True := trivial
        refine z_bipush hx hb dX6_letter_26 (by decide) ?_
        exact g_iret (S1 := S) (v := zI (-104)) hx hb hr hlocks hP hR hS (Or.inr (Or.inl ⟨by omega, by omega, rfl, rfl⟩)) dX6_letter_28
    · have h9 : True := trivial
      refine z_bipush hx hb dX6_letter_11 (by decide) ?_
      exact g_iret (S1 := S) (v := zI (-102)) hx hb hr hlocks hP hR hS (Or.inl ⟨by omega, rfl, rfl⟩) dX6_letter_13
set_option maxHeartbeats 4000000 in
set_option maxRecDepth 100000 in
theorem k_X6_blank (l : Launch) (D : va_G) (cI cZ : ClassId) (ad : Nat → Nat) (az av : Nat) (hinj : cInj ad) (S : St) (hR : RS S)  : Met l yX6_blank (Cond.code yX6_blank cX6_blank 2 (some .int) :: lwT) ({ frames := 0, cells := 0, slots := 0, locals := 0 }) (gPc D (cW cI cZ ad) (cE D cI cZ ad az av) S [.ref (ad 40)]) (va_Qi (fun (r : Int32) (S' : St) => S' = sA S 1 (fun _ => 0) ∧ r = zI (S 1 0)) (gB D (cW cI cZ ad)) (cA ad)) 0 0 (cA ad) := by
  refine Met.ofW (cc := cX6_blank) (maxL := 2) (ret := (some .int)) (by decide) rfl ?_
  intro p e s m args below meth c s₁ B hml hv
  obtain ⟨rfl, hP, hE⟩ := hv
  have hx := B.exec
  have hb := B.bytes
  have hr := B.returns
  have hts := atoms_spec (ws := Cond.code yX6_blank cX6_blank 2 (some .int) :: lwT) B.pre
  have hT := fun w (h : w ∈ lwT) => hts w (List.mem_cons_of_mem _ h)
  have hsub : ∀ w ∈ lwT, w ∈ (Cond.code yX6_blank cX6_blank 2 (some .int) :: lwT) := fun w h => List.mem_cons_of_mem _ h
  have hown : s.vm.findClass RX6 = some m.cls := findClass_of_methodNamed B.named
  have hlocks := B.notSynchronized
  have hK : va_K D vwCl [(cI, .int), (cZ, .boolean)] s := hE.1
  have hS : va_S (cA ad) s.heap s.heap [] := va_S.rf
  have hl := lv_entry ([.ref (ad 40)]) (n := 2) (Nat.le_of_ble_eq_true rfl)
  rw [lg_entry_eq]
  generalize (lg_sl ([.ref (ad 40)]) ++ List.replicate (2 - (lg_sl ([.ref (ad 40)])).length) Slot.unset).toArray = ls at hl ⊢
  have hl : lv_has ls 2 [(0, .ref (ad 40))] := hl
  refine lv_aload_n hx hb dX6_blank_0 rfl (lv_at hl 0 rfl) ?_
  refine va_get (D := D) (ci := 6) (v := .ref (ad 41)) (C := RX6) (T := TX6) (N := 9) hx hb hT inX6 hown hK hP 0 rfl rfl 0 (by decide) (hT _ q_176) (fun _ h9 => h9) rfl dX6_blank_1 ?_
  have g_1 : -2147483648 ≤ S 1 0 ∧ S 1 0 < 2147483648 := hR 1 0 (by decide)
  refine va_get (D := D) (ci := 2) (v := .int (zI (S 1 0))) (C := RX2) (T := TX2) (N := 2) hx hb hT inX2 hown hK hP 1 rfl rfl 1 (by decide) (hT _ q_32) (fun _ h9 => h9) rfl dX6_blank_4 ?_
  refine lv_istore_n (lv' := [(1, .int (zI (S 1 0))), (0, .ref (ad 40))]) hx hb dX6_blank_7 rfl hl (by decide) rfl (fun ls hl => ?_)
  refine lv_aload_n hx hb dX6_blank_8 rfl (lv_at hl 1 rfl) ?_
  refine va_get (D := D) (ci := 6) (v := .ref (ad 41)) (C := RX6) (T := TX6) (N := 9) hx hb hT inX6 hown hK hP 0 rfl rfl 0 (by decide) (hT _ q_176) (fun _ h9 => h9) rfl dX6_blank_9 ?_
  refine z_iconst hx hb dX6_blank_12 ?_
  refine va_put (D := D) (ci := 2) (v := .int (zI (0))) (ty := .int) (C := RX2) (T := TX2) (N := 2) hx hb hT inX2 tyX2 tyX2_ok nmX2 hown hK hP (cD hinj cI cZ _) hS 1 rfl rfl 1 (by decide) (hT _ q_32) (fun _ h9 => h9) rfl (by decide +kernel) rfl rfl (Nat.le_of_ble_eq_true rfl) dX6_blank_13 (fun H locs hP _ hS => ?_)
  have hP : va_P D vwCl (cW cI cZ ad (sA S 1 (fun _ => 0))) H := hP
  have hR : RS (sA S 1 (fun _ => 0)) := hR.one (by omega) (by omega)
  refine lv_iload_n hx hb dX6_blank_16 rfl (lv_at hl 0 rfl) ?_
  exact g_iret (S1 := sA S 1 (fun _ => 0)) (v := zI (S 1 0)) hx hb hr hlocks hP hR hS (⟨rfl, rfl⟩) dX6_blank_17
set_option maxHeartbeats 4000000 in
set_option maxRecDepth 100000 in
theorem k_X6_fault (l : Launch) (D : va_G) (cI cZ : ClassId) (ad : Nat → Nat) (az av : Nat) (hinj : cInj ad) (S : St) (hR : RS S) (sz : Nat) (hsz : S 1 0 = ↑sz) (hsz9 : sz ≤ 9) (hpg : ∀ j, j < sz → 1 ≤ S 0 j ∧ S 0 j ≤ 126) : Met l yX6_fault (Cond.code yX6_fault cX6_fault 1 (some .int) :: lwT) ({ frames := 6, cells := 0, slots := 0, locals := 133 }) (gPc D (cW cI cZ ad) (cE D cI cZ ad az av) S [.ref (ad 40)]) (va_Qi (fun (r : Int32) (S' : St) => ∃ k : Nat, S' = S ∧ r = zI ↑k ∧ isFlt (S 0) sz k) (gB D (cW cI cZ ad)) (cA ad)) 0 0 (cA ad) := by
  refine Met.ofW (cc := cX6_fault) (maxL := 1) (ret := (some .int)) (by decide) rfl ?_
  intro p e s m args below meth c s₁ B hml hv
  obtain ⟨rfl, hP, hE⟩ := hv
  have hx := B.exec
  have hb := B.bytes
  have hr := B.returns
  have hts := atoms_spec (ws := Cond.code yX6_fault cX6_fault 1 (some .int) :: lwT) B.pre
  have hT := fun w (h : w ∈ lwT) => hts w (List.mem_cons_of_mem _ h)
  have hsub : ∀ w ∈ lwT, w ∈ (Cond.code yX6_fault cX6_fault 1 (some .int) :: lwT) := fun w h => List.mem_cons_of_mem _ h
  have hown : s.vm.findClass RX6 = some m.cls := findClass_of_methodNamed B.named
  have hlocks := B.notSynchronized
  have hK : va_K D vwCl [(cI, .int), (cZ, .boolean)] s := hE.1
  have hS : va_S (cA ad) s.heap s.heap [] := va_S.rf
  have hl := lv_entry ([.ref (ad 40)]) (n := 1) (Nat.le_of_ble_eq_true rfl)
  rw [lg_entry_eq]
  generalize (lg_sl ([.ref (ad 40)]) ++ List.replicate (1 - (lg_sl ([.ref (ad 40)])).length) Slot.unset).toArray = ls at hl ⊢
  have hl : lv_has ls 1 [(0, .ref (ad 40))] := hl
  refine lv_aload_n hx hb dX6_fault_0 rfl (lv_at hl 0 rfl) ?_
  refine va_get (D := D) (ci := 6) (v := .ref (ad 41)) (C := RX6) (T := TX6) (N := 9) hx hb hT inX6 hown hK hP 0 rfl rfl 0 (by decide) (hT _ q_176) (fun _ h9 => h9) rfl dX6_fault_1 ?_
  refine g_callVi (As := []) (rest := []) ⟨hx, hb, hml, hown, hts⟩ (k_X2_firstWrong l D cI cZ ad az av hinj S hR sz hsz hsz9 hpg) (cwV 0 hts (gV hsub q_220 q_221 q_222 q_2 q_223) rfl rfl rfl hdX2_firstWrong ⟨Nat.le_of_ble_eq_true rfl, Nat.le_of_ble_eq_true rfl⟩) (cEb D cI cZ ad az av) (cEk D cI cZ ad az av) hE (va_recv (ci := 2) (q0 := 1) hK hP rfl rfl) hP hS rfl hl.1 rfl (Nat.le_of_ble_eq_true rfl) dX6_fault_4 ⟨Nat.le_of_ble_eq_true rfl, Nat.le_of_ble_eq_true rfl⟩ (fun r_1 S_2 H locs hq_3 hP hR hS _ => ?_)
  obtain ⟨yf_4, hs9, hA_5, rfl⟩ := hq_3
  obtain rfl := hs9.symm
  have g_6 := And.intro hA_5.1 hA_5.2.1
  refine z_top (b := ↑yf_4) rfl ?_
  exact g_iret (S1 := S) (v := zI (↑yf_4)) hx hb hr hlocks hP hR hS (⟨yf_4, rfl, rfl, hA_5⟩) dX6_fault_7
set_option maxHeartbeats 4000000 in
set_option maxRecDepth 100000 in
theorem k_X6_leaf (l : Launch) (D : va_G) (cI cZ : ClassId) (ad : Nat → Nat) (az av : Nat) (hinj : cInj ad) (S : St) (hR : RS S) (n N : Nat) (t : Nat → Int) (hT9 : cTab n N t S) (hV : cVer n N t S) (k0 : Nat) (hk8 : S 8 0 = ↑k0) (hk0 : n ≠ 0 → k0 < N) (x w : Int) (hx1 : -2147483648 ≤ x) (hx2 : x < 2147483648) (hw1 : -2147483648 ≤ w) (hw2 : w < 2147483648) : Met l yX6_leaf (Cond.code yX6_leaf cX6_leaf 3 (some .int) :: lwT) ({ frames := 5, cells := 0, slots := 0, locals := 110 }) (gPc D (cW cI cZ ad) (cE D cI cZ ad az av) S [.ref (ad 40), .int (zI (x)), .int (zI (w))]) (va_Qi (fun (r : Int32) (S' : St) => S' = S ∧ r = zI (leafF n (S 7) (dgF n (t k0)) x w)) (gB D (cW cI cZ ad)) (cA ad)) 0 0 (cA ad) := by
  refine Met.ofW (cc := cX6_leaf) (maxL := 3) (ret := (some .int)) (by decide) rfl ?_
  intro p e s m args below meth c s₁ B hml hv
  obtain ⟨rfl, hP, hE⟩ := hv
  have hx := B.exec
  have hb := B.bytes
  have hr := B.returns
  have hts := atoms_spec (ws := Cond.code yX6_leaf cX6_leaf 3 (some .int) :: lwT) B.pre
  have hT := fun w (h : w ∈ lwT) => hts w (List.mem_cons_of_mem _ h)
  have hsub : ∀ w ∈ lwT, w ∈ (Cond.code yX6_leaf cX6_leaf 3 (some .int) :: lwT) := fun w h => List.mem_cons_of_mem _ h
  have hown : s.vm.findClass RX6 = some m.cls := findClass_of_methodNamed B.named
  have hlocks := B.notSynchronized
  have hK : va_K D vwCl [(cI, .int), (cZ, .boolean)] s := hE.1
  have hS : va_S (cA ad) s.heap s.heap [] := va_S.rf
  have hT8 := hT9
  have hTo := hT9
  obtain ⟨⟨hn, hN, hn7, hN4⟩, hn0, hO9, hso, htb⟩ := hTo
  have hl := lv_entry ([.ref (ad 40), .int (zI (x)), .int (zI (w))]) (n := 3) (Nat.le_of_ble_eq_true rfl)
  rw [lg_entry_eq]
  generalize (lg_sl ([.ref (ad 40), .int (zI (x)), .int (zI (w))]) ++ List.replicate (3 - (lg_sl ([.ref (ad 40), .int (zI (x)), .int (zI (w))])).length) Slot.unset).toArray = ls at hl ⊢
  have hl : lv_has ls 3 [(0, .ref (ad 40)), (1, .int (zI (x))), (2, .int (zI (w)))] := hl
  refine lv_aload_n hx hb dX6_leaf_0 rfl (lv_at hl 0 rfl) ?_
  refine lv_iload_n hx hb dX6_leaf_1 rfl (lv_at hl 1 rfl) ?_
  refine g_callVi (As := [.int (zI (x))]) (rest := []) ⟨hx, hb, hml, hown, hts⟩ (k_X6_isLeaf l D cI cZ ad az av hinj S hR x (by omega) (by omega)) (cwV 1 hts (gV hsub q_395 q_397 q_sX6_isLeaf q_1 q_398) rfl rfl rfl hdX6_isLeaf ⟨Nat.le_of_ble_eq_true rfl, Nat.le_of_ble_eq_true rfl⟩) (cEb D cI cZ ad az av) (cEk D cI cZ ad az av) hE (va_recv (ci := 6) (q0 := 0) hK hP rfl rfl) hP hS rfl hl.1 rfl (Nat.le_of_ble_eq_true rfl) dX6_leaf_2 ⟨Nat.le_of_ble_eq_true rfl, Nat.le_of_ble_eq_true rfl⟩ (fun r_1 S_2 H locs hq_3 hP hR hS _ => ?_)
  obtain ⟨hs9, rfl⟩ := hq_3
  obtain rfl := hs9.symm
  refine z_top (b := b2 (decide (0 ≤ x ∧ x ≤ S 2 0 - 1))) rfl ?_
  refine z_ifneB (tgt := 11) hx hb dX6_leaf_5 (by decide) (fun c_4 => ?_) (fun c_4 => ?_)
  · have h9 : True := trivial
    have c_4 : 0 ≤ x ∧ x ≤ S 2 0 - 1 := of_decide_eq_true c_4
    have hnz : n ≠ 0 := by omega
    have hkN := hk0 hnz
    have hO := hO9 hnz
    have hpk := (hO.2.1 k0 hkN).2.1
    refine lv_iload_n hx hb dX6_leaf_11 rfl (lv_at hl 2 rfl) ?_
    rcases (show (w < 0 ∨ 3 < w) ∨ w = 0 ∨ w = 1 ∨ w = 2 ∨ w = 3 by omega) with c_5 | c_5 | c_5 | c_5 | c_5
    · refine z_tabOut hx hb (by omega) (by omega) dX6_leaf_12 c_5 (tgt := 102) (by decide) ?_
      refine z_bipush hx hb dX6_leaf_102 (by decide) ?_
      exact g_iret (S1 := S) (v := zI (-102)) hx hb hr hlocks hP hR hS (⟨rfl, by unfold leafF tlF; rw [if_pos (by omega), if_neg (by omega), if_neg (by omega), if_neg (by omega), if_neg (by omega)]⟩) dX6_leaf_104
    · refine z_tabIn hx hb c_5 (by decide) (by decide) dX6_leaf_12 (by decide) (by decide) (off := 32) (by decide) (tgt := 44) (by decide) ?_
      refine lv_aload_n hx hb dX6_leaf_44 rfl (lv_at hl 0 rfl) ?_
      refine va_get (D := D) (ci := 6) (v := .ref (ad 43)) (C := RX6) (T := TX6) (N := 9) hx hb hT inX6 hown hK hP 0 rfl rfl 2 (by decide) (hT _ q_178) (fun _ h9 => h9) rfl dX6_leaf_45 ?_
      refine va_get (D := D) (ci := 4) (v := .ref (ad 7)) (C := RX4) (T := TX4) (N := 7) hx hb hT inX4 hown hK hP 3 rfl rfl 0 (by decide) (hT _ q_76) (fun _ h9 => h9) rfl dX6_leaf_48 ?_
      refine lv_iload_n hx hb dX6_leaf_51 rfl (lv_at hl 1 rfl) ?_
      have g_6 : -2147483648 ≤ S 7 (x).toNat ∧ S 7 (x).toNat < 2147483648 := hR 7 ((x).toNat) (by decide)
      refine z_ald (f := S 7) hx hb hK hP 12 0 rfl rfl (by omega) (by omega) (by decide) (j := (x).toNat) rfl dX6_leaf_52 ?_
      exact g_iret (S1 := S) (v := zI (S 7 (x).toNat)) hx hb hr hlocks hP hR hS (⟨rfl, by unfold leafF tlF; rw [if_pos (by omega), if_pos (by omega)]⟩) dX6_leaf_53
    · refine z_tabIn hx hb c_5 (by decide) (by decide) dX6_leaf_12 (by decide) (by decide) (off := 42) (by decide) (tgt := 54) (by decide) ?_
      refine lv_aload_n hx hb dX6_leaf_54 rfl (lv_at hl 0 rfl) ?_
      refine va_get (D := D) (ci := 6) (v := .ref (ad 43)) (C := RX6) (T := TX6) (N := 9) hx hb hT inX6 hown hK hP 0 rfl rfl 2 (by decide) (hT _ q_178) (fun _ h9 => h9) rfl dX6_leaf_55 ?_
      refine va_get (D := D) (ci := 4) (v := .ref (ad 7)) (C := RX4) (T := TX4) (N := 7) hx hb hT inX4 hown hK hP 3 rfl rfl 0 (by decide) (hT _ q_76) (fun _ h9 => h9) rfl dX6_leaf_58 ?_
      refine lv_iload_n hx hb dX6_leaf_61 rfl (lv_at hl 1 rfl) ?_
      have g_7 : -2147483648 ≤ S 7 (x).toNat ∧ S 7 (x).toNat < 2147483648 := hR 7 ((x).toNat) (by decide)
      refine z_ald (f := S 7) hx hb hK hP 12 0 rfl rfl (by omega) (by omega) (by decide) (j := (x).toNat) rfl dX6_leaf_62 ?_
      refine s_callSi (As := [.int (zI (S 7 (x).toNat))]) (rest := []) ⟨hx, hb, hml, hown, hts⟩ (k_X6_thickness l (S 7 (x).toNat) (by omega) (by omega)) (cwS 1 hts (gS hsub q_399 q_388 q_1 q_389) rfl rfl rfl hdX6_thickness ⟨Nat.le_of_ble_eq_true rfl, Nat.le_of_ble_eq_true rfl⟩) rfl hl.1 rfl (Nat.le_of_ble_eq_true rfl) dX6_leaf_63 ⟨Nat.le_of_ble_eq_true rfl, Nat.le_of_ble_eq_true rfl⟩ (fun r_8 hq_10 => ?_)
      rw [hq_10]
      have g_11 := thk_r (S 7 (x).toNat)
      exact g_iret (S1 := S) (v := zI (thk (S 7 (x).toNat))) hx hb hr hlocks hP hR hS (⟨rfl, by unfold leafF tlF; rw [if_pos (by omega), if_neg (by omega), if_pos (by omega)]⟩) dX6_leaf_66
    · refine z_tabIn hx hb c_5 (by decide) (by decide) dX6_leaf_12 (by decide) (by decide) (off := 55) (by decide) (tgt := 67) (by decide) ?_
      refine lv_aload_n hx hb dX6_leaf_67 rfl (lv_at hl 0 rfl) ?_
      refine va_get (D := D) (ci := 6) (v := .ref (ad 42)) (C := RX6) (T := TX6) (N := 9) hx hb hT inX6 hown hK hP 0 rfl rfl 1 (by decide) (hT _ q_177) (fun _ h9 => h9) rfl dX6_leaf_68 ?_
      refine lv_aload_n hx hb dX6_leaf_71 rfl (lv_at hl 0 rfl) ?_
      refine va_get (D := D) (ci := 6) (v := .ref (ad 43)) (C := RX6) (T := TX6) (N := 9) hx hb hT inX6 hown hK hP 0 rfl rfl 2 (by decide) (hT _ q_178) (fun _ h9 => h9) rfl dX6_leaf_72 ?_
      have g_12 : -2147483648 ≤ S 8 0 ∧ S 8 0 < 2147483648 := hR 8 0 (by decide)
      refine va_get (D := D) (ci := 4) (v := .int (zI (S 8 0))) (C := RX4) (T := TX4) (N := 7) hx hb hT inX4 hown hK hP 3 rfl rfl 1 (by decide) (hT _ q_78) (fun _ h9 => h9) rfl dX6_leaf_75 ?_
      refine lv_iload_n hx hb dX6_leaf_78 rfl (lv_at hl 1 rfl) ?_
      refine g_callVi (As := [.int (zI (S 8 0)), .int (zI (x))]) (rest := []) ⟨hx, hb, hml, hown, hts⟩ (k_X0_placeOf l D cI cZ ad az av hinj S hR n N t hT8 (S 8 0) x (by omega) (by omega) (by omega) (by omega)) (cwV 2 hts (gV hsub q_400 q_360 q_361 q_3 q_362) rfl rfl rfl hdX0_placeOf ⟨Nat.le_of_ble_eq_true rfl, Nat.le_of_ble_eq_true rfl⟩) (cEb D cI cZ ad az av) (cEk D cI cZ ad az av) hE (va_recv (ci := 0) (q0 := 2) hK hP rfl rfl) hP hS rfl hl.1 rfl (Nat.le_of_ble_eq_true rfl) dX6_leaf_79 ⟨Nat.le_of_ble_eq_true rfl, Nat.le_of_ble_eq_true rfl⟩ (fun r_13 S_14 H locs hq_15 hP hR hS _ => ?_)
      obtain ⟨hs9, rfl⟩ := hq_15
      obtain rfl := hs9.symm
      refine z_top (b := plV n N t (S 8 0) x) rfl ?_
      refine z_top (b := ↑(pl n (dgF n (t k0)) x.toNat)) (by unfold plV; rw [if_pos (by omega), show (S 8 0).toNat = k0 by omega]) ?_
      exact g_iret (S1 := S) (v := zI (↑(pl n (dgF n (t k0)) x.toNat))) hx hb hr hlocks hP hR hS (⟨rfl, by unfold leafF tlF; rw [if_pos (by omega), if_neg (by omega), if_neg (by omega), if_pos (by omega)]⟩) dX6_leaf_82
    · refine z_tabIn hx hb c_5 (by decide) (by decide) dX6_leaf_12 (by decide) (by decide) (off := 71) (by decide) (tgt := 83) (by decide) ?_
      refine lv_aload_n hx hb dX6_leaf_83 rfl (lv_at hl 0 rfl) ?_
      refine va_get (D := D) (ci := 6) (v := .ref (ad 45)) (C := RX6) (T := TX6) (N := 9) hx hb hT inX6 hown hK hP 0 rfl rfl 4 (by decide) (hT _ q_180) (fun _ h9 => h9) rfl dX6_leaf_84 ?_
      refine lv_aload_n hx hb dX6_leaf_87 rfl (lv_at hl 0 rfl) ?_
      refine va_get (D := D) (ci := 6) (v := .ref (ad 43)) (C := RX6) (T := TX6) (N := 9) hx hb hT inX6 hown hK hP 0 rfl rfl 2 (by decide) (hT _ q_178) (fun _ h9 => h9) rfl dX6_leaf_88 ?_
      have g_16 : -2147483648 ≤ S 8 0 ∧ S 8 0 < 2147483648 := hR 8 0 (by decide)
      refine va_get (D := D) (ci := 4) (v := .int (zI (S 8 0))) (C := RX4) (T := TX4) (N := 7) hx hb hT inX4 hown hK hP 3 rfl rfl 1 (by decide) (hT _ q_78) (fun _ h9 => h9) rfl dX6_leaf_91 ?_
      refine lv_iload_n hx hb dX6_leaf_94 rfl (lv_at hl 1 rfl) ?_
      refine g_callVi (As := [.int (zI (S 8 0)), .int (zI (x))]) (rest := []) ⟨hx, hb, hml, hown, hts⟩ (k_X5_isContent l D cI cZ ad az av hinj S hR n N t hT8 k0 (S 8 0) (by omega) hkN x.toNat x (by omega) (by omega)) (cwV 2 hts (gV hsub q_401 q_356 q_357 q_5 q_358) rfl rfl rfl hdX5_isContent ⟨Nat.le_of_ble_eq_true rfl, Nat.le_of_ble_eq_true rfl⟩) (cEb D cI cZ ad az av) (cEk D cI cZ ad az av) hE (va_recv (ci := 5) (q0 := 5) hK hP rfl rfl) hP hS rfl hl.1 rfl (Nat.le_of_ble_eq_true rfl) dX6_leaf_95 ⟨Nat.le_of_ble_eq_true rfl, Nat.le_of_ble_eq_true rfl⟩ (fun r_17 S_18 H locs hq_19 hP hR hS _ => ?_)
      obtain ⟨hs9, rfl⟩ := hq_19
      obtain rfl := hs9.symm
      refine z_top (b := b2 (pB (rgP n (S 7) (dgF n (t k0)) (pl n (dgF n (t k0)) x.toNat)))) rfl ?_
      refine s_callSi (As := [.int (zI (b2 (pB (rgP n (S 7) (dgF n (t k0)) (pl n (dgF n (t k0)) x.toNat)))))]) (rest := []) ⟨hx, hb, hml, hown, hts⟩ (k_X6_asNumber l (pB (rgP n (S 7) (dgF n (t k0)) (pl n (dgF n (t k0)) x.toNat)))) (cwS 1 hts (gS hsub q_402 q_403 q_1 q_404) rfl rfl rfl hdX6_asNumber ⟨Nat.le_of_ble_eq_true rfl, Nat.le_of_ble_eq_true rfl⟩) rfl hl.1 rfl (Nat.le_of_ble_eq_true rfl) dX6_leaf_98 ⟨Nat.le_of_ble_eq_true rfl, Nat.le_of_ble_eq_true rfl⟩ (fun r_20 hq_22 => ?_)
      rw [hq_22]
      exact g_iret (S1 := S) (v := zI (b2 (pB (rgP n (S 7) (dgF n (t k0)) (pl n (dgF n (t k0)) x.toNat))))) hx hb hr hlocks hP hR hS (⟨rfl, by unfold leafF tlF; rw [if_pos (by omega), if_neg (by omega), if_neg (by omega), if_neg (by omega), if_pos (by omega)]⟩) dX6_leaf_101
  · have h9 : True := trivial
    have c_4 : ¬ (0 ≤ x ∧ x ≤ S 2 0 - 1) := of_decide_eq_false c_4
    refine z_bipush hx hb dX6_leaf_8 (by decide) ?_
    exact g_iret (S1 := S) (v := zI (-101)) hx hb hr hlocks hP hR hS (⟨rfl, by unfold leafF; rw [if_neg (by omega)]⟩) dX6_leaf_10
set_option maxHeartbeats 4000000 in
set_option maxRecDepth 100000 in
theorem k_X6_as (l : Launch) (D : va_G) (cI cZ : ClassId) (ad : Nat → Nat) (az av : Nat) (hinj : cInj ad) (S : St) (hR : RS S) (n N : Nat) (t : Nat → Int) (hT9 : cTab n N t S) (hV : cVer n N t S) (k0 : Nat) (hk8 : S 8 0 = ↑k0) (hk0 : n ≠ 0 → k0 < N) (x w : Int) (hx1 : -2147483648 ≤ x) (hx2 : x < 2147483648) (hw1 : -2147483648 ≤ w) (hw2 : w < 2147483648) : Met l yX6_as (Cond.code yX6_as cX6_as 3 (some .int) :: lwT) ({ frames := 3, cells := 0, slots := 0, locals := 60 }) (gPc D (cW cI cZ ad) (cE D cI cZ ad az av) S [.ref (ad 40), .int (zI (x)), .int (zI (w))]) (va_Qi (fun (r : Int32) (S' : St) => S' = S ∧ r = zI (asF n (S 7) x w)) (gB D (cW cI cZ ad)) (cA ad)) 0 0 (cA ad) := by
  refine Met.ofW (cc := cX6_as) (maxL := 3) (ret := (some .int)) (by decide) rfl ?_
  intro p e s m args below meth c s₁ B hml hv
  obtain ⟨rfl, hP, hE⟩ := hv
  have hx := B.exec
  have hb := B.bytes
  have hr := B.returns
  have hts := atoms_spec (ws := Cond.code yX6_as cX6_as 3 (some .int) :: lwT) B.pre
  have hT := fun w (h : w ∈ lwT) => hts w (List.mem_cons_of_mem _ h)
  have hsub : ∀ w ∈ lwT, w ∈ (Cond.code yX6_as cX6_as 3 (some .int) :: lwT) := fun w h => List.mem_cons_of_mem _ h
  have hown : s.vm.findClass RX6 = some m.cls := findClass_of_methodNamed B.named
  have hlocks := B.notSynchronized
  have hK : va_K D vwCl [(cI, .int), (cZ, .boolean)] s := hE.1
  have hS : va_S (cA ad) s.heap s.heap [] := va_S.rf
  have hT8 := hT9
  have hTo := hT9
  obtain ⟨⟨hn, hN, hn7, hN4⟩, hn0, hO9, hso, htb⟩ := hTo
  have hl := lv_entry ([.ref (ad 40), .int (zI (x)), .int (zI (w))]) (n := 3) (Nat.le_of_ble_eq_true rfl)
  rw [lg_entry_eq]
  generalize (lg_sl ([.ref (ad 40), .int (zI (x)), .int (zI (w))]) ++ List.replicate (3 - (lg_sl ([.ref (ad 40), .int (zI (x)), .int (zI (w))])).length) Slot.unset).toArray = ls at hl ⊢
  have hl : lv_has ls 3 [(0, .ref (ad 40)), (1, .int (zI (x))), (2, .int (zI (w)))] := hl
  refine lv_aload_n hx hb dX6_as_0 rfl (lv_at hl 0 rfl) ?_
  refine lv_iload_n hx hb dX6_as_1 rfl (lv_at hl 1 rfl) ?_
  refine g_callVi (As := [.int (zI (x))]) (rest := []) ⟨hx, hb, hml, hown, hts⟩ (k_X6_isLeaf l D cI cZ ad az av hinj S hR x (by omega) (by omega)) (cwV 1 hts (gV hsub q_395 q_397 q_sX6_isLeaf q_1 q_398) rfl rfl rfl hdX6_isLeaf ⟨Nat.le_of_ble_eq_true rfl, Nat.le_of_ble_eq_true rfl⟩) (cEb D cI cZ ad az av) (cEk D cI cZ ad az av) hE (va_recv (ci := 6) (q0 := 0) hK hP rfl rfl) hP hS rfl hl.1 rfl (Nat.le_of_ble_eq_true rfl) dX6_as_2 ⟨Nat.le_of_ble_eq_true rfl, Nat.le_of_ble_eq_true rfl⟩ (fun r_1 S_2 H locs hq_3 hP hR hS _ => ?_)
  obtain ⟨hs9, rfl⟩ := hq_3
  obtain rfl := hs9.symm
  refine z_top (b := b2 (decide (0 ≤ x ∧ x ≤ S 2 0 - 1))) rfl ?_
  refine z_ifneB (tgt := 11) hx hb dX6_as_5 (by decide) (fun c_4 => ?_) (fun c_4 => ?_)
  · have h9 : True := trivial
    have c_4 : 0 ≤ x ∧ x ≤ S 2 0 - 1 := of_decide_eq_true c_4
    refine lv_iload_n hx hb dX6_as_11 rfl (lv_at hl 2 rfl) ?_
    refine g_callSi (As := [.int (zI (w))]) (rest := []) ⟨hx, hb, hml, hown, hts⟩ (k_X6_isKind l D cI cZ ad az av hinj S hR w (by omega) (by omega)) (cwS 1 hts (gS hsub q_409 q_410 q_1 q_411) rfl rfl rfl hdX6_isKind ⟨Nat.le_of_ble_eq_true rfl, Nat.le_of_ble_eq_true rfl⟩) (cEb D cI cZ ad az av) (cEk D cI cZ ad az av) hE hP hS rfl hl.1 rfl (Nat.le_of_ble_eq_true rfl) dX6_as_12 ⟨Nat.le_of_ble_eq_true rfl, Nat.le_of_ble_eq_true rfl⟩ (fun r_5 S_6 H locs hq_7 hP hR hS _ => ?_)
    obtain ⟨hs9, rfl⟩ := hq_7
    obtain rfl := hs9.symm
    refine z_top (b := b2 (pB ((0 : Int) ≤ w ∧ (w : Int) ≤ 4))) rfl ?_
    refine z_ifneB (tgt := 21) hx hb dX6_as_15 (by decide) (fun c_8 => ?_) (fun c_8 => ?_)
    · have h9 : True := trivial
      have hwk := pB_t.mp c_8
      refine lv_aload_n hx hb dX6_as_21 rfl (lv_at hl 0 rfl) ?_
      refine va_get (D := D) (ci := 6) (v := .ref (ad 43)) (C := RX6) (T := TX6) (N := 9) hx hb hT inX6 hown hK hP 0 rfl rfl 2 (by decide) (hT _ q_178) (fun _ h9 => h9) rfl dX6_as_22 ?_
      refine va_get (D := D) (ci := 4) (v := .ref (ad 7)) (C := RX4) (T := TX4) (N := 7) hx hb hT inX4 hown hK hP 3 rfl rfl 0 (by decide) (hT _ q_76) (fun _ h9 => h9) rfl dX6_as_25 ?_
      refine lv_iload_n hx hb dX6_as_28 rfl (lv_at hl 1 rfl) ?_
      have g_9 : -2147483648 ≤ S 7 (x).toNat ∧ S 7 (x).toNat < 2147483648 := hR 7 ((x).toNat) (by decide)
      refine z_ald (f := S 7) hx hb hK hP 12 0 rfl rfl (by omega) (by omega) (by decide) (j := (x).toNat) rfl dX6_as_29 ?_
      refine lv_iload_n hx hb dX6_as_30 rfl (lv_at hl 2 rfl) ?_
      refine s_callSi (As := [.int (zI (S 7 (x).toNat)), .int (zI (w))]) (rest := []) ⟨hx, hb, hml, hown, hts⟩ (k_X6_isOfKind l (S 7 (x).toNat) w (by omega) (by omega) (by omega) (by omega)) (cwS 2 hts (gS hsub q_390 q_364 q_1 q_365) rfl rfl rfl hdX6_isOfKind ⟨Nat.le_of_ble_eq_true rfl, Nat.le_of_ble_eq_true rfl⟩) rfl hl.1 rfl (Nat.le_of_ble_eq_true rfl) dX6_as_31 ⟨Nat.le_of_ble_eq_true rfl, Nat.le_of_ble_eq_true rfl⟩ (fun r_10 hq_12 => ?_)
      rw [hq_12]
      refine z_ifeqB (tgt := 41) hx hb dX6_as_34 (by decide) (fun c_13 => ?_) (fun c_13 => ?_)
      · have h9 : True := trivial
        refine z_iconst hx hb dX6_as_41 ?_
        exact g_iret (S1 := S) (v := zI (-1)) hx hb hr hlocks hP hR hS (⟨rfl, by unfold asF; rw [if_pos (by omega), if_pos (by omega), if_neg (fun h => pB_f.mp c_13 (by unfold okP; omega))]⟩) dX6_as_42
      · have h9 : True := trivial
        refine lv_iload_n hx hb dX6_as_37 rfl (lv_at hl 1 rfl) ?_
        refine lv_goto (tgt := 42) hx hb dX6_as_38 (by decide) ?_
        exact g_iret (S1 := S) (v := zI (x)) hx hb hr hlocks hP hR hS (⟨rfl, by unfold asF; rw [if_pos (by omega), if_pos (by omega), if_pos (by have h7 := pB_t.mp c_13; unfold okP at h7; omega)]⟩) dX6_as_42
    · have h9 : True := trivial
      have hwk := pB_f.mp c_8
      refine z_bipush hx hb dX6_as_18 (by decide) ?_
      exact g_iret (S1 := S) (v := zI (-102)) hx hb hr hlocks hP hR hS (⟨rfl, by unfold asF; rw [if_pos (by omega), if_neg (by omega)]⟩) dX6_as_20
  · have h9 : True := trivial
    have c_4 : ¬ (0 ≤ x ∧ x ≤ S 2 0 - 1) := of_decide_eq_false c_4
    refine z_bipush hx hb dX6_as_8 (by decide) ?_
    exact g_iret (S1 := S) (v := zI (-101)) hx hb hr hlocks hP hR hS (⟨rfl, by unfold asF; rw [if_neg (by omega)]⟩) dX6_as_10
set_option maxHeartbeats 4000000 in
set_option maxRecDepth 100000 in
theorem k_X6_hinge (l : Launch) (D : va_G) (cI cZ : ClassId) (ad : Nat → Nat) (az av : Nat) (hinj : cInj ad) (S : St) (hR : RS S) (n N : Nat) (t : Nat → Int) (hT9 : cTab n N t S) (hV : cVer n N t S) (k0 : Nat) (hk8 : S 8 0 = ↑k0) (hk0 : n ≠ 0 → k0 < N) (x w : Int) (hx1 : -2147483648 ≤ x) (hx2 : x < 2147483648) (hw1 : -2147483648 ≤ w) (hw2 : w < 2147483648) : Met l yX6_hinge (Cond.code yX6_hinge cX6_hinge 3 (some .int) :: lwT) ({ frames := 4, cells := 0, slots := 0, locals := 90 }) (gPc D (cW cI cZ ad) (cE D cI cZ ad az av) S [.ref (ad 40), .int (zI (x)), .int (zI (w))]) (va_Qi (fun (r : Int32) (S' : St) => S' = S ∧ r = zI (hingeF n (S 7) (dgF n (t k0)) x w)) (gB D (cW cI cZ ad)) (cA ad)) 0 0 (cA ad) := by
  refine Met.ofW (cc := cX6_hinge) (maxL := 3) (ret := (some .int)) (by decide) rfl ?_
  intro p e s m args below meth c s₁ B hml hv
  obtain ⟨rfl, hP, hE⟩ := hv
  have hx := B.exec
  have hb := B.bytes
  have hr := B.returns
  have hts := atoms_spec (ws := Cond.code yX6_hinge cX6_hinge 3 (some .int) :: lwT) B.pre
  have hT := fun w (h : w ∈ lwT) => hts w (List.mem_cons_of_mem _ h)
  have hsub : ∀ w ∈ lwT, w ∈ (Cond.code yX6_hinge cX6_hinge 3 (some .int) :: lwT) := fun w h => List.mem_cons_of_mem _ h
  have hown : s.vm.findClass RX6 = some m.cls := findClass_of_methodNamed B.named
  have hlocks := B.notSynchronized
  have hK : va_K D vwCl [(cI, .int), (cZ, .boolean)] s := hE.1
  have hS : va_S (cA ad) s.heap s.heap [] := va_S.rf
  have hT8 := hT9
  have hTo := hT9
  obtain ⟨⟨hn, hN, hn7, hN4⟩, hn0, hO9, hso, htb⟩ := hTo
  have hl := lv_entry ([.ref (ad 40), .int (zI (x)), .int (zI (w))]) (n := 3) (Nat.le_of_ble_eq_true rfl)
  rw [lg_entry_eq]
  generalize (lg_sl ([.ref (ad 40), .int (zI (x)), .int (zI (w))]) ++ List.replicate (3 - (lg_sl ([.ref (ad 40), .int (zI (x)), .int (zI (w))])).length) Slot.unset).toArray = ls at hl ⊢
  have hl : lv_has ls 3 [(0, .ref (ad 40)), (1, .int (zI (x))), (2, .int (zI (w)))] := hl
  refine lv_iload_n hx hb dX6_hinge_0 rfl (lv_at hl 1 rfl) ?_
  refine z_if_lt (tgt := 17) hx hb (by omega) (by omega) dX6_hinge_1 (by decide) (fun c_1 => ?_) (fun c_1 => ?_)
  · have h9 : True := trivial
    refine z_bipush hx hb dX6_hinge_17 (by decide) ?_
    exact g_iret (S1 := S) (v := zI (-101)) hx hb hr hlocks hP hR hS (⟨rfl, by unfold hingeF; rw [if_neg (by omega)]⟩) dX6_hinge_19
  · have h9 : True := trivial
    refine lv_iload_n hx hb dX6_hinge_4 rfl (lv_at hl 1 rfl) ?_
    refine lv_aload_n hx hb dX6_hinge_5 rfl (lv_at hl 0 rfl) ?_
    refine va_get (D := D) (ci := 6) (v := .ref (ad 42)) (C := RX6) (T := TX6) (N := 9) hx hb hT inX6 hown hK hP 0 rfl rfl 1 (by decide) (hT _ q_177) (fun _ h9 => h9) rfl dX6_hinge_6 ?_
    have g_2 : -2147483648 ≤ S 2 0 ∧ S 2 0 < 2147483648 := hR 2 0 (by decide)
    refine va_get (D := D) (ci := 0) (v := .int (zI (S 2 0))) (C := RX0) (T := TX0) (N := 5) hx hb hT inX0 hown hK hP 2 rfl rfl 0 (by decide) (hT _ q_48) (fun _ h9 => h9) rfl dX6_hinge_9 ?_
    refine z_iconst hx hb dX6_hinge_12 ?_
    refine z_isub hx hb dX6_hinge_13 ?_
    refine z_icmp_lt (tgt := 20) hx hb (by omega) (by omega) (by omega) (by omega) dX6_hinge_14 (by decide) (fun c_3 => ?_) (fun c_3 => ?_)
    · have h9 : True := trivial
      have hnz : n ≠ 0 := by omega
      have hkN := hk0 hnz
      have hO := hO9 hnz
      have hpk := (hO.2.1 k0 hkN).2.1
      refine lv_iload_n hx hb dX6_hinge_20 rfl (lv_at hl 2 rfl) ?_
      rcases (show (¬ w = 0 ∧ ¬ w = 1) ∨ w = 0 ∨ w = 1 by omega) with c_4 | c_4 | c_4
      · refine z_look hx hb (by omega) (by omega) dX6_hinge_21 (by decide) (off := 47) (by show Op.lookupswitch.offset [(0, 27), (1, 31)] 47 _ = _; rw [Op.lookupswitch.offset_cons, if_neg (by omega), Op.lookupswitch.offset_cons, if_neg (by omega)]; rfl) (tgt := 68) (by decide) ?_
        refine z_bipush hx hb dX6_hinge_68 (by decide) ?_
        exact g_iret (S1 := S) (v := zI (-102)) hx hb hr hlocks hP hR hS (⟨rfl, by unfold hingeF; rw [if_pos (by omega), if_neg (by omega)]⟩) dX6_hinge_70
      · refine z_look hx hb (by omega) (by omega) dX6_hinge_21 (by decide) (off := 27) (by rw [c_4]; rfl) (tgt := 48) (by decide) ?_
        refine lv_iload_n hx hb dX6_hinge_48 rfl (lv_at hl 1 rfl) ?_
        refine z_iconst hx hb dX6_hinge_49 ?_
        refine z_irem hx hb (by omega) (by omega) (by omega) (by omega) dX6_hinge_50 ?_
        exact g_iret (S1 := S) (v := zI (x % 2)) hx hb hr hlocks hP hR hS (⟨rfl, by unfold hingeF; rw [if_pos (by omega), if_pos (by omega), if_pos (by omega)]⟩) dX6_hinge_51
      · refine z_look hx hb (by omega) (by omega) dX6_hinge_21 (by decide) (off := 31) (by rw [c_4]; rfl) (tgt := 52) (by decide) ?_
        refine lv_aload_n hx hb dX6_hinge_52 rfl (lv_at hl 0 rfl) ?_
        refine va_get (D := D) (ci := 6) (v := .ref (ad 45)) (C := RX6) (T := TX6) (N := 9) hx hb hT inX6 hown hK hP 0 rfl rfl 4 (by decide) (hT _ q_180) (fun _ h9 => h9) rfl dX6_hinge_53 ?_
        refine lv_aload_n hx hb dX6_hinge_56 rfl (lv_at hl 0 rfl) ?_
        refine va_get (D := D) (ci := 6) (v := .ref (ad 43)) (C := RX6) (T := TX6) (N := 9) hx hb hT inX6 hown hK hP 0 rfl rfl 2 (by decide) (hT _ q_178) (fun _ h9 => h9) rfl dX6_hinge_57 ?_
        have g_5 : -2147483648 ≤ S 8 0 ∧ S 8 0 < 2147483648 := hR 8 0 (by decide)
        refine va_get (D := D) (ci := 4) (v := .int (zI (S 8 0))) (C := RX4) (T := TX4) (N := 7) hx hb hT inX4 hown hK hP 3 rfl rfl 1 (by decide) (hT _ q_78) (fun _ h9 => h9) rfl dX6_hinge_60 ?_
        refine lv_iload_n hx hb dX6_hinge_63 rfl (lv_at hl 1 rfl) ?_
        refine g_callVi (As := [.int (zI (S 8 0)), .int (zI (x))]) (rest := []) ⟨hx, hb, hml, hown, hts⟩ (k_X5_width l D cI cZ ad az av hinj S hR n N t hT8 k0 (S 8 0) (by omega) hkN x.toNat x (by omega) (by omega)) (cwV 2 hts (gV hsub q_418 q_382 q_383 q_5 q_384) rfl rfl rfl hdX5_width ⟨Nat.le_of_ble_eq_true rfl, Nat.le_of_ble_eq_true rfl⟩) (cEb D cI cZ ad az av) (cEk D cI cZ ad az av) hE (va_recv (ci := 5) (q0 := 5) hK hP rfl rfl) hP hS rfl hl.1 rfl (Nat.le_of_ble_eq_true rfl) dX6_hinge_64 ⟨Nat.le_of_ble_eq_true rfl, Nat.le_of_ble_eq_true rfl⟩ (fun r_6 S_7 H locs hq_8 hP hR hS _ => ?_)
        obtain ⟨hs9, rfl⟩ := hq_8
        obtain rfl := hs9.symm
        refine z_top (b := wdF n (S 7) (dgF n (t k0)) x.toNat) rfl ?_
        exact g_iret (S1 := S) (v := zI (wdF n (S 7) (dgF n (t k0)) x.toNat)) hx hb hr hlocks hP hR hS (⟨rfl, by unfold hingeF; rw [if_pos (by omega), if_pos (by omega), if_neg (by omega)]⟩) dX6_hinge_67
    · have h9 : True := trivial
      refine z_bipush hx hb dX6_hinge_17 (by decide) ?_
      exact g_iret (S1 := S) (v := zI (-101)) hx hb hr hlocks hP hR hS (⟨rfl, by unfold hingeF; rw [if_neg (by omega)]⟩) dX6_hinge_19
set_option maxHeartbeats 4000000 in
set_option maxRecDepth 100000 in
theorem k_X6_at (l : Launch) (D : va_G) (cI cZ : ClassId) (ad : Nat → Nat) (az av : Nat) (hinj : cInj ad) (S : St) (hR : RS S) (n N : Nat) (t : Nat → Int) (hT9 : cTab n N t S) (hV : cVer n N t S) (k0 : Nat) (hk8 : S 8 0 = ↑k0) (hk0 : n ≠ 0 → k0 < N) (x : Int) (hx1 : -2147483648 ≤ x) (hx2 : x < 2147483648) : Met l yX6_at (Cond.code yX6_at cX6_at 2 (some .int) :: lwT) ({ frames := 3, cells := 0, slots := 0, locals := 63 }) (gPc D (cW cI cZ ad) (cE D cI cZ ad az av) S [.ref (ad 40), .int (zI (x))]) (va_Qi (fun (r : Int32) (S' : St) => S' = S ∧ r = zI (atF n (dgF n (t k0)) x)) (gB D (cW cI cZ ad)) (cA ad)) 0 0 (cA ad) := by
  refine Met.ofW (cc := cX6_at) (maxL := 2) (ret := (some .int)) (by decide) rfl ?_
  intro p e s m args below meth c s₁ B hml hv
  obtain ⟨rfl, hP, hE⟩ := hv
  have hx := B.exec
  have hb := B.bytes
  have hr := B.returns
  have hts := atoms_spec (ws := Cond.code yX6_at cX6_at 2 (some .int) :: lwT) B.pre
  have hT := fun w (h : w ∈ lwT) => hts w (List.mem_cons_of_mem _ h)
  have hsub : ∀ w ∈ lwT, w ∈ (Cond.code yX6_at cX6_at 2 (some .int) :: lwT) := fun w h => List.mem_cons_of_mem _ h
  have hown : s.vm.findClass RX6 = some m.cls := findClass_of_methodNamed B.named
  have hlocks := B.notSynchronized
  have hK : va_K D vwCl [(cI, .int), (cZ, .boolean)] s := hE.1
  have hS : va_S (cA ad) s.heap s.heap [] := va_S.rf
  have hT8 := hT9
  have hTo := hT9
  obtain ⟨⟨hn, hN, hn7, hN4⟩, hn0, hO9, hso, htb⟩ := hTo
  have hl := lv_entry ([.ref (ad 40), .int (zI (x))]) (n := 2) (Nat.le_of_ble_eq_true rfl)
  rw [lg_entry_eq]
  generalize (lg_sl ([.ref (ad 40), .int (zI (x))]) ++ List.replicate (2 - (lg_sl ([.ref (ad 40), .int (zI (x))])).length) Slot.unset).toArray = ls at hl ⊢
  have hl : lv_has ls 2 [(0, .ref (ad 40)), (1, .int (zI (x)))] := hl
  refine lv_aload_n hx hb dX6_at_0 rfl (lv_at hl 0 rfl) ?_
  refine lv_iload_n hx hb dX6_at_1 rfl (lv_at hl 1 rfl) ?_
  refine g_callVi (As := [.int (zI (x))]) (rest := []) ⟨hx, hb, hml, hown, hts⟩ (k_X6_isPlace l D cI cZ ad az av hinj S hR x (by omega) (by omega)) (cwV 1 hts (gV hsub q_423 q_425 q_sX6_isPlace q_1 q_426) rfl rfl rfl hdX6_isPlace ⟨Nat.le_of_ble_eq_true rfl, Nat.le_of_ble_eq_true rfl⟩) (cEb D cI cZ ad az av) (cEk D cI cZ ad az av) hE (va_recv (ci := 6) (q0 := 0) hK hP rfl rfl) hP hS rfl hl.1 rfl (Nat.le_of_ble_eq_true rfl) dX6_at_2 ⟨Nat.le_of_ble_eq_true rfl, Nat.le_of_ble_eq_true rfl⟩ (fun r_1 S_2 H locs hq_3 hP hR hS _ => ?_)
  obtain ⟨hs9, rfl⟩ := hq_3
  obtain rfl := hs9.symm
  refine z_top (b := b2 (decide (0 ≤ x ∧ x ≤ S 2 0 - 1))) rfl ?_
  refine z_ifneB (tgt := 11) hx hb dX6_at_5 (by decide) (fun c_4 => ?_) (fun c_4 => ?_)
  · have h9 : True := trivial
    have c_4 : 0 ≤ x ∧ x ≤ S 2 0 - 1 := of_decide_eq_true c_4
    have hnz : n ≠ 0 := by omega
    have hkN := hk0 hnz
    have hO := hO9 hnz
    have hpk := (hO.2.1 k0 hkN).2.1
    refine lv_aload_n hx hb dX6_at_11 rfl (lv_at hl 0 rfl) ?_
    refine va_get (D := D) (ci := 6) (v := .ref (ad 42)) (C := RX6) (T := TX6) (N := 9) hx hb hT inX6 hown hK hP 0 rfl rfl 1 (by decide) (hT _ q_177) (fun _ h9 => h9) rfl dX6_at_12 ?_
    refine lv_aload_n hx hb dX6_at_15 rfl (lv_at hl 0 rfl) ?_
    refine va_get (D := D) (ci := 6) (v := .ref (ad 43)) (C := RX6) (T := TX6) (N := 9) hx hb hT inX6 hown hK hP 0 rfl rfl 2 (by decide) (hT _ q_178) (fun _ h9 => h9) rfl dX6_at_16 ?_
    have g_5 : -2147483648 ≤ S 8 0 ∧ S 8 0 < 2147483648 := hR 8 0 (by decide)
    refine va_get (D := D) (ci := 4) (v := .int (zI (S 8 0))) (C := RX4) (T := TX4) (N := 7) hx hb hT inX4 hown hK hP 3 rfl rfl 1 (by decide) (hT _ q_78) (fun _ h9 => h9) rfl dX6_at_19 ?_
    refine lv_iload_n hx hb dX6_at_22 rfl (lv_at hl 1 rfl) ?_
    refine g_callVi (As := [.int (zI (S 8 0)), .int (zI (x))]) (rest := []) ⟨hx, hb, hml, hown, hts⟩ (k_X0_leafAt l D cI cZ ad az av hinj S hR n N t hT8 (S 8 0) x (by omega) (by omega) (by omega) (by omega)) (cwV 2 hts (gV hsub q_427 q_371 q_372 q_3 q_373) rfl rfl rfl hdX0_leafAt ⟨Nat.le_of_ble_eq_true rfl, Nat.le_of_ble_eq_true rfl⟩) (cEb D cI cZ ad az av) (cEk D cI cZ ad az av) hE (va_recv (ci := 0) (q0 := 2) hK hP rfl rfl) hP hS rfl hl.1 rfl (Nat.le_of_ble_eq_true rfl) dX6_at_23 ⟨Nat.le_of_ble_eq_true rfl, Nat.le_of_ble_eq_true rfl⟩ (fun r_6 S_7 H locs hq_8 hP hR hS _ => ?_)
    obtain ⟨hs9, rfl⟩ := hq_8
    obtain rfl := hs9.symm
    refine z_top (b := laF n N t (S 8 0) x) rfl ?_
    exact g_iret (S1 := S) (v := zI (laF n N t (S 8 0) x)) hx hb hr hlocks hP hR hS (⟨rfl, by unfold atF laF; rw [if_pos (by omega), if_pos (by omega), show (S 8 0).toNat = k0 by omega]⟩) dX6_at_26
  · have h9 : True := trivial
    have c_4 : ¬ (0 ≤ x ∧ x ≤ S 2 0 - 1) := of_decide_eq_false c_4
    refine z_bipush hx hb dX6_at_8 (by decide) ?_
    exact g_iret (S1 := S) (v := zI (-101)) hx hb hr hlocks hP hR hS (⟨rfl, by unfold atF; rw [if_neg (by omega)]⟩) dX6_at_10
set_option maxHeartbeats 4000000 in
set_option maxRecDepth 100000 in
theorem k_X6_may (l : Launch) (D : va_G) (cI cZ : ClassId) (ad : Nat → Nat) (az av : Nat) (hinj : cInj ad) (S : St) (hR : RS S) (n N : Nat) (t : Nat → Int) (hT9 : cTab n N t S) (hV : cVer n N t S) (k0 : Nat) (hk8 : S 8 0 = ↑k0) (hk0 : n ≠ 0 → k0 < N) (x y : Int) (hx1 : -2147483648 ≤ x) (hx2 : x < 2147483648) (hy1 : -2147483648 ≤ y) (hy2 : y < 2147483648) : Met l yX6_may (Cond.code yX6_may cX6_may 3 (some .int) :: lwT) ({ frames := 3, cells := 0, slots := 0, locals := 69 }) (gPc D (cW cI cZ ad) (cE D cI cZ ad az av) S [.ref (ad 40), .int (zI (x)), .int (zI (y))]) (va_Qi (fun (r : Int32) (S' : St) => S' = S ∧ r = zI (mayF n (dgF n (t k0)) x y)) (gB D (cW cI cZ ad)) (cA ad)) 0 0 (cA ad) := by
  refine Met.ofW (cc := cX6_may) (maxL := 3) (ret := (some .int)) (by decide) rfl ?_
  intro p e s m args below meth c s₁ B hml hv
  obtain ⟨rfl, hP, hE⟩ := hv
  have hx := B.exec
  have hb := B.bytes
  have hr := B.returns
  have hts := atoms_spec (ws := Cond.code yX6_may cX6_may 3 (some .int) :: lwT) B.pre
  have hT := fun w (h : w ∈ lwT) => hts w (List.mem_cons_of_mem _ h)
  have hsub : ∀ w ∈ lwT, w ∈ (Cond.code yX6_may cX6_may 3 (some .int) :: lwT) := fun w h => List.mem_cons_of_mem _ h
  have hown : s.vm.findClass RX6 = some m.cls := findClass_of_methodNamed B.named
  have hlocks := B.notSynchronized
  have hK : va_K D vwCl [(cI, .int), (cZ, .boolean)] s := hE.1
  have hS : va_S (cA ad) s.heap s.heap [] := va_S.rf
  have hT8 := hT9
  have hTo := hT9
  obtain ⟨⟨hn, hN, hn7, hN4⟩, hn0, hO9, hso, htb⟩ := hTo
  have hl := lv_entry ([.ref (ad 40), .int (zI (x)), .int (zI (y))]) (n := 3) (Nat.le_of_ble_eq_true rfl)
  rw [lg_entry_eq]
  generalize (lg_sl ([.ref (ad 40), .int (zI (x)), .int (zI (y))]) ++ List.replicate (3 - (lg_sl ([.ref (ad 40), .int (zI (x)), .int (zI (y))])).length) Slot.unset).toArray = ls at hl ⊢
  have hl : lv_has ls 3 [(0, .ref (ad 40)), (1, .int (zI (x))), (2, .int (zI (y)))] := hl
  refine lv_aload_n hx hb dX6_may_0 rfl (lv_at hl 0 rfl) ?_
  refine lv_iload_n hx hb dX6_may_1 rfl (lv_at hl 1 rfl) ?_
  refine g_callVi (As := [.int (zI (x))]) (rest := []) ⟨hx, hb, hml, hown, hts⟩ (k_X6_isLeaf l D cI cZ ad az av hinj S hR x (by omega) (by omega)) (cwV 1 hts (gV hsub q_395 q_397 q_sX6_isLeaf q_1 q_398) rfl rfl rfl hdX6_isLeaf ⟨Nat.le_of_ble_eq_true rfl, Nat.le_of_ble_eq_true rfl⟩) (cEb D cI cZ ad az av) (cEk D cI cZ ad az av) hE (va_recv (ci := 6) (q0 := 0) hK hP rfl rfl) hP hS rfl hl.1 rfl (Nat.le_of_ble_eq_true rfl) dX6_may_2 ⟨Nat.le_of_ble_eq_true rfl, Nat.le_of_ble_eq_true rfl⟩ (fun r_1 S_2 H locs hq_3 hP hR hS _ => ?_)
  obtain ⟨hs9, rfl⟩ := hq_3
  obtain rfl := hs9.symm
  refine z_top (b := b2 (decide (0 ≤ x ∧ x ≤ S 2 0 - 1))) rfl ?_
  refine z_ifeqB (tgt := 16) hx hb dX6_may_5 (by decide) (fun c_4 => ?_) (fun c_4 => ?_)
  · have h9 : True := trivial
    have c_4 : ¬ (0 ≤ x ∧ x ≤ S 2 0 - 1) := of_decide_eq_false c_4
    refine z_bipush hx hb dX6_may_16 (by decide) ?_
    exact g_iret (S1 := S) (v := zI (-101)) hx hb hr hlocks hP hR hS (⟨rfl, by unfold mayF; rw [if_neg (by omega)]⟩) dX6_may_18
  · have h9 : True := trivial
    have c_4 : 0 ≤ x ∧ x ≤ S 2 0 - 1 := of_decide_eq_true c_4
    refine lv_aload_n hx hb dX6_may_8 rfl (lv_at hl 0 rfl) ?_
    refine lv_iload_n hx hb dX6_may_9 rfl (lv_at hl 2 rfl) ?_
    refine g_callVi (As := [.int (zI (y))]) (rest := []) ⟨hx, hb, hml, hown, hts⟩ (k_X6_isPlace l D cI cZ ad az av hinj S hR y (by omega) (by omega)) (cwV 1 hts (gV hsub q_423 q_425 q_sX6_isPlace q_1 q_426) rfl rfl rfl hdX6_isPlace ⟨Nat.le_of_ble_eq_true rfl, Nat.le_of_ble_eq_true rfl⟩) (cEb D cI cZ ad az av) (cEk D cI cZ ad az av) hE (va_recv (ci := 6) (q0 := 0) hK hP rfl rfl) hP hS rfl hl.1 rfl (Nat.le_of_ble_eq_true rfl) dX6_may_10 ⟨Nat.le_of_ble_eq_true rfl, Nat.le_of_ble_eq_true rfl⟩ (fun r_5 S_6 H locs hq_7 hP hR hS _ => ?_)
    obtain ⟨hs9, rfl⟩ := hq_7
    obtain rfl := hs9.symm
    refine z_top (b := b2 (decide (0 ≤ y ∧ y ≤ S 2 0 - 1))) rfl ?_
    refine z_ifneB (tgt := 19) hx hb dX6_may_13 (by decide) (fun c_8 => ?_) (fun c_8 => ?_)
    · have h9 : True := trivial
      have c_8 : 0 ≤ y ∧ y ≤ S 2 0 - 1 := of_decide_eq_true c_8
      have hnz : n ≠ 0 := by omega
      have hkN := hk0 hnz
      have hO := hO9 hnz
      have hpk := (hO.2.1 k0 hkN).2.1
      refine lv_aload_n hx hb dX6_may_19 rfl (lv_at hl 0 rfl) ?_
      refine va_get (D := D) (ci := 6) (v := .ref (ad 42)) (C := RX6) (T := TX6) (N := 9) hx hb hT inX6 hown hK hP 0 rfl rfl 1 (by decide) (hT _ q_177) (fun _ h9 => h9) rfl dX6_may_20 ?_
      refine lv_aload_n hx hb dX6_may_23 rfl (lv_at hl 0 rfl) ?_
      refine va_get (D := D) (ci := 6) (v := .ref (ad 43)) (C := RX6) (T := TX6) (N := 9) hx hb hT inX6 hown hK hP 0 rfl rfl 2 (by decide) (hT _ q_178) (fun _ h9 => h9) rfl dX6_may_24 ?_
      have g_9 : -2147483648 ≤ S 8 0 ∧ S 8 0 < 2147483648 := hR 8 0 (by decide)
      refine va_get (D := D) (ci := 4) (v := .int (zI (S 8 0))) (C := RX4) (T := TX4) (N := 7) hx hb hT inX4 hown hK hP 3 rfl rfl 1 (by decide) (hT _ q_78) (fun _ h9 => h9) rfl dX6_may_27 ?_
      refine lv_iload_n hx hb dX6_may_30 rfl (lv_at hl 1 rfl) ?_
      refine lv_iload_n hx hb dX6_may_31 rfl (lv_at hl 2 rfl) ?_
      refine g_callVi (As := [.int (zI (S 8 0)), .int (zI (x)), .int (zI (y))]) (rest := []) ⟨hx, hb, hml, hown, hts⟩ (k_X0_afterMove l D cI cZ ad az av hinj S hR n N t hT8 k0 x.toNat y.toNat (S 8 0) x y (by omega) (by omega) (by omega) hkN (by omega) (by omega)) (cwV 3 hts (gV hsub q_432 q_433 q_434 q_3 q_435) rfl rfl rfl hdX0_afterMove ⟨Nat.le_of_ble_eq_true rfl, Nat.le_of_ble_eq_true rfl⟩) (cEb D cI cZ ad az av) (cEk D cI cZ ad az av) hE (va_recv (ci := 0) (q0 := 2) hK hP rfl rfl) hP hS rfl hl.1 rfl (Nat.le_of_ble_eq_true rfl) dX6_may_32 ⟨Nat.le_of_ble_eq_true rfl, Nat.le_of_ble_eq_true rfl⟩ (fun r_10 S_11 H locs hq_12 hP hR hS _ => ?_)
      obtain ⟨hs9, rfl⟩ := hq_12
      obtain rfl := hs9.symm
      refine z_top (b := amF n N t k0 x.toNat y.toNat) rfl ?_
      have hmr := am_r (n := n) (N := N) (t := t) (k := k0) (v := x.toNat) (q := y.toNat)
      have cut_44 : ∀ (o : Bool) (H : Heap) (locs : List Loc) (ls : Array Slot), (o = pB (amF n N t k0 x.toNat y.toNat ≠ -1)) → va_P D vwCl (cW cI cZ ad S) H → RS S → va_S (cA ad) s.heap H locs → lv_has ls 3 [(0, .ref (ad 40))] → W p l e (headSpec (Cond.code yX6_may cX6_may 3 (some .int) :: lwT) ({ frames := 3, cells := 0, slots := 0, locals := 69 })).room s m ([.ref (ad 40), .int (zI (x)), .int (zI (y))] : List Value).toArray below meth c H locs 0 0 (MQ below (va_Qi (fun (r : Int32) (S' : St) => S' = S ∧ r = zI (mayF n (dgF n (t k0)) x y)) (gB D (cW cI cZ ad)) (cA ad)) ([.ref (ad 40), .int (zI (x)), .int (zI (y))] : List Value).toArray s 0 0 (cA ad)) (F0 m 44 ls [.int (zI (b2 (o)))]) := by
        intro o H locs ls ho hP hR hS hl
        refine s_callSi (As := [.int (zI (b2 (o)))]) (rest := []) ⟨hx, hb, hml, hown, hts⟩ (k_X6_asNumber l o) (cwS 1 hts (gS hsub q_402 q_403 q_1 q_404) rfl rfl rfl hdX6_asNumber ⟨Nat.le_of_ble_eq_true rfl, Nat.le_of_ble_eq_true rfl⟩) rfl hl.1 rfl (Nat.le_of_ble_eq_true rfl) dX6_may_44 ⟨Nat.le_of_ble_eq_true rfl, Nat.le_of_ble_eq_true rfl⟩ (fun r_13 hq_15 => ?_)
        rw [hq_15]
        exact g_iret (S1 := S) (v := zI (b2 o)) hx hb hr hlocks hP hR hS (⟨rfl, by unfold mayF; rw [if_pos (by omega), ho]; exact congrArg (fun b => zI (b2 b)) (pB_c (am_may hO hn7 hkN (by omega) (by omega)))⟩) dX6_may_47
      refine z_iconst hx hb dX6_may_35 ?_
      refine z_icmp_eq (tgt := 43) hx hb (by omega) (by omega) (by omega) (by omega) dX6_may_36 (by decide) (fun c_16 => ?_) (fun c_16 => ?_)
      · have h9 : True := trivial
        refine z_iconst hx hb dX6_may_43 ?_
        exact cut_44 false _ _ _ (qF (by omega)) hP hR hS (lv_sub hl [0] rfl)
      · have h9 : True := trivial
        refine z_iconst hx hb dX6_may_39 ?_
        refine lv_goto (tgt := 44) hx hb dX6_may_40 (by decide) ?_
        exact cut_44 true _ _ _ (qT (by omega)) hP hR hS (lv_sub hl [0] rfl)
    · have h9 : True := trivial
      have c_8 : ¬ (0 ≤ y ∧ y ≤ S 2 0 - 1) := of_decide_eq_false c_8
      refine z_bipush hx hb dX6_may_16 (by decide) ?_
      exact g_iret (S1 := S) (v := zI (-101)) hx hb hr hlocks hP hR hS (⟨rfl, by unfold mayF; rw [if_neg (by omega)]⟩) dX6_may_18
set_option maxHeartbeats 4000000 in
set_option maxRecDepth 100000 in
theorem k_X6_wholeThickness (l : Launch) (D : va_G) (cI cZ : ClassId) (ad : Nat → Nat) (az av : Nat) (hinj : cInj ad) (S : St) (hR : RS S) (n N : Nat) (t : Nat → Int) (hT9 : cTab n N t S) : Met l yX6_wholeThickness (Cond.code yX6_wholeThickness cX6_wholeThickness 3 (some .int) :: lwT) ({ frames := 2, cells := 0, slots := 0, locals := 41 }) (gPc D (cW cI cZ ad) (cE D cI cZ ad az av) S [.ref (ad 40)]) (va_Qi (fun (r : Int32) (S' : St) => S' = S ∧ r = zI (sm (fun k => thk (S 7 k)) n)) (gB D (cW cI cZ ad)) (cA ad)) 0 0 (cA ad) := by
  refine Met.ofW (cc := cX6_wholeThickness) (maxL := 3) (ret := (some .int)) (by decide) rfl ?_
  intro p e s m args below meth c s₁ B hml hv
  obtain ⟨rfl, hP, hE⟩ := hv
  have hx := B.exec
  have hb := B.bytes
  have hr := B.returns
  have hts := atoms_spec (ws := Cond.code yX6_wholeThickness cX6_wholeThickness 3 (some .int) :: lwT) B.pre
  have hT := fun w (h : w ∈ lwT) => hts w (List.mem_cons_of_mem _ h)
  have hsub : ∀ w ∈ lwT, w ∈ (Cond.code yX6_wholeThickness cX6_wholeThickness 3 (some .int) :: lwT) := fun w h => List.mem_cons_of_mem _ h
  have hown : s.vm.findClass RX6 = some m.cls := findClass_of_methodNamed B.named
  have hlocks := B.notSynchronized
  have hK : va_K D vwCl [(cI, .int), (cZ, .boolean)] s := hE.1
  have hS : va_S (cA ad) s.heap s.heap [] := va_S.rf
  have hT8 := hT9
  have hTo := hT9
  obtain ⟨⟨hn, hN, hn7, hN4⟩, hn0, hO9, hso, htb⟩ := hTo
  have hl := lv_entry ([.ref (ad 40)]) (n := 3) (Nat.le_of_ble_eq_true rfl)
  rw [lg_entry_eq]
  generalize (lg_sl ([.ref (ad 40)]) ++ List.replicate (3 - (lg_sl ([.ref (ad 40)])).length) Slot.unset).toArray = ls at hl ⊢
  have hl : lv_has ls 3 [(0, .ref (ad 40))] := hl
  refine z_iconst hx hb dX6_wholeThickness_0 ?_
  refine lv_istore_n (lv' := [(1, .int (zI (0))), (0, .ref (ad 40))]) hx hb dX6_wholeThickness_1 rfl hl (by decide) rfl (fun ls hl => ?_)
  refine z_iconst hx hb dX6_wholeThickness_2 ?_
  refine lv_istore_n (lv' := [(2, .int (zI (0))), (1, .int (zI (0))), (0, .ref (ad 40))]) hx hb dX6_wholeThickness_3 rfl hl (by decide) rfl (fun ls hl => ?_)
  have cut_4 : ∀ (k9 : Nat) (i : Nat) (y : Int) (H : Heap) (locs : List Loc) (ls : Array Slot), (i ≤ n) → (0 ≤ y ∧ y ≤ 3 * ↑i) → (y = sm (fun k => thk (S 7 k)) i) → (n - i) < k9 → va_P D vwCl (cW cI cZ ad S) H → RS S → va_S (cA ad) s.heap H locs → lv_has ls 3 [(0, .ref (ad 40)), (1, .int (zI (y))), (2, .int (zI (↑i)))] → W p l e (headSpec (Cond.code yX6_wholeThickness cX6_wholeThickness 3 (some .int) :: lwT) ({ frames := 2, cells := 0, slots := 0, locals := 41 })).room s m ([.ref (ad 40)] : List Value).toArray below meth c H locs 0 0 (MQ below (va_Qi (fun (r : Int32) (S' : St) => S' = S ∧ r = zI (sm (fun k => thk (S 7 k)) n)) (gB D (cW cI cZ ad)) (cA ad)) ([.ref (ad 40)] : List Value).toArray s 0 0 (cA ad)) (F0 m 4 ls []) := by
    intro k9
    induction k9 with
    | zero =>
      intro i y H locs ls hi hyr hy hk9 hP hR hS hl
      exact absurd hk9 (Nat.not_lt_zero _)
    | succ k9 ih_4 =>
      intro i y H locs ls hi hyr hy hk9 hP hR hS hl
      refine lv_iload_n hx hb dX6_wholeThickness_4 rfl (lv_at hl 2 rfl) ?_
      refine lv_aload_n hx hb dX6_wholeThickness_5 rfl (lv_at hl 0 rfl) ?_
      refine va_get (D := D) (ci := 6) (v := .ref (ad 42)) (C := RX6) (T := TX6) (N := 9) hx hb hT inX6 hown hK hP 0 rfl rfl 1 (by decide) (hT _ q_177) (fun _ h9 => h9) rfl dX6_wholeThickness_6 ?_
      have g_1 : -2147483648 ≤ S 2 0 ∧ S 2 0 < 2147483648 := hR 2 0 (by decide)
      refine va_get (D := D) (ci := 0) (v := .int (zI (S 2 0))) (C := RX0) (T := TX0) (N := 5) hx hb hT inX0 hown hK hP 2 rfl rfl 0 (by decide) (hT _ q_48) (fun _ h9 => h9) rfl dX6_wholeThickness_9 ?_
      refine z_icmp_ge (tgt := 36) hx hb (by omega) (by omega) (by omega) (by omega) dX6_wholeThickness_12 (by decide) (fun c_2 => ?_) (fun c_2 => ?_)
      · have h9 : True := trivial
        refine lv_iload_n hx hb dX6_wholeThickness_36 rfl (lv_at hl 1 rfl) ?_
        exact g_iret (S1 := S) (v := zI (y)) hx hb hr hlocks hP hR hS (⟨rfl, by rw [hy, show i = n by omega]⟩) dX6_wholeThickness_37
      · have h9 : True := trivial
        refine lv_iload_n hx hb dX6_wholeThickness_15 rfl (lv_at hl 1 rfl) ?_
        refine lv_aload_n hx hb dX6_wholeThickness_16 rfl (lv_at hl 0 rfl) ?_
        refine va_get (D := D) (ci := 6) (v := .ref (ad 43)) (C := RX6) (T := TX6) (N := 9) hx hb hT inX6 hown hK hP 0 rfl rfl 2 (by decide) (hT _ q_178) (fun _ h9 => h9) rfl dX6_wholeThickness_17 ?_
        refine va_get (D := D) (ci := 4) (v := .ref (ad 7)) (C := RX4) (T := TX4) (N := 7) hx hb hT inX4 hown hK hP 3 rfl rfl 0 (by decide) (hT _ q_76) (fun _ h9 => h9) rfl dX6_wholeThickness_20 ?_
        refine lv_iload_n hx hb dX6_wholeThickness_23 rfl (lv_at hl 2 rfl) ?_
        have g_3 : -2147483648 ≤ S 7 i ∧ S 7 i < 2147483648 := hR 7 i (by decide)
        refine z_ald (f := S 7) hx hb hK hP 12 0 rfl rfl (by omega) (by omega) (by decide) (j := i) rfl dX6_wholeThickness_24 ?_
        refine s_callSi (As := [.int (zI (S 7 i))]) (rest := [.int (zI (y))]) ⟨hx, hb, hml, hown, hts⟩ (k_X6_thickness l (S 7 i) (by omega) (by omega)) (cwS 1 hts (gS hsub q_399 q_388 q_1 q_389) rfl rfl rfl hdX6_thickness ⟨Nat.le_of_ble_eq_true rfl, Nat.le_of_ble_eq_true rfl⟩) rfl hl.1 rfl (Nat.le_of_ble_eq_true rfl) dX6_wholeThickness_25 ⟨Nat.le_of_ble_eq_true rfl, Nat.le_of_ble_eq_true rfl⟩ (fun r_4 hq_6 => ?_)
        rw [hq_6]
        have g_7 := thk_r (S 7 i)
        refine z_iadd hx hb dX6_wholeThickness_28 ?_
        refine lv_istore_n (lv' := [(1, .int (zI (y + (thk (S 7 i))))), (0, .ref (ad 40)), (2, .int (zI (↑i)))]) hx hb dX6_wholeThickness_29 rfl hl (by decide) rfl (fun ls hl => ?_)
        refine z_iinc (lv' := [(2, .int (zI (↑i + 1))), (1, .int (zI (y + (thk (S 7 i))))), (0, .ref (ad 40))]) hx hb dX6_wholeThickness_30 hl (k := 2) rfl (by decide) rfl (fun ls hl => ?_)
        refine lv_goto (tgt := 4) hx hb dX6_wholeThickness_33 (by decide) ?_
        exact ih_4 (i + 1) (y + (thk (S 7 i))) _ _ _ (by omega) (by omega) (by rw [sm, hy]) (by omega) hP hR hS (lv_sub hl [2, 1, 0] rfl)
  exact cut_4 _ 0 0 _ _ _ (by omega) (by omega) (rfl) (Nat.lt_succ_self _) hP hR hS (lv_sub hl [2, 1, 0] rfl)
set_option maxHeartbeats 4000000 in
set_option maxRecDepth 100000 in
theorem k_X6_openHinges (l : Launch) (D : va_G) (cI cZ : ClassId) (ad : Nat → Nat) (az av : Nat) (hinj : cInj ad) (S : St) (hR : RS S) (n N : Nat) (t : Nat → Int) (hT9 : cTab n N t S) (k0 : Nat) (hk8 : S 8 0 = ↑k0) (hk0 : n ≠ 0 → k0 < N) : Met l yX6_openHinges (Cond.code yX6_openHinges cX6_openHinges 3 (some .int) :: lwT) ({ frames := 4, cells := 0, slots := 0, locals := 90 }) (gPc D (cW cI cZ ad) (cE D cI cZ ad az av) S [.ref (ad 40)]) (va_Qi (fun (r : Int32) (S' : St) => S' = S ∧ r = zI (opF n (S 7) (dgF n (t k0)))) (gB D (cW cI cZ ad)) (cA ad)) 0 0 (cA ad) := by
  refine Met.ofW (cc := cX6_openHinges) (maxL := 3) (ret := (some .int)) (by decide) rfl ?_
  intro p e s m args below meth c s₁ B hml hv
  obtain ⟨rfl, hP, hE⟩ := hv
  have hx := B.exec
  have hb := B.bytes
  have hr := B.returns
  have hts := atoms_spec (ws := Cond.code yX6_openHinges cX6_openHinges 3 (some .int) :: lwT) B.pre
  have hT := fun w (h : w ∈ lwT) => hts w (List.mem_cons_of_mem _ h)
  have hsub : ∀ w ∈ lwT, w ∈ (Cond.code yX6_openHinges cX6_openHinges 3 (some .int) :: lwT) := fun w h => List.mem_cons_of_mem _ h
  have hown : s.vm.findClass RX6 = some m.cls := findClass_of_methodNamed B.named
  have hlocks := B.notSynchronized
  have hK : va_K D vwCl [(cI, .int), (cZ, .boolean)] s := hE.1
  have hS : va_S (cA ad) s.heap s.heap [] := va_S.rf
  have hT8 := hT9
  have hTo := hT9
  obtain ⟨⟨hn, hN, hn7, hN4⟩, hn0, hO9, hso, htb⟩ := hTo
  have hl := lv_entry ([.ref (ad 40)]) (n := 3) (Nat.le_of_ble_eq_true rfl)
  rw [lg_entry_eq]
  generalize (lg_sl ([.ref (ad 40)]) ++ List.replicate (3 - (lg_sl ([.ref (ad 40)])).length) Slot.unset).toArray = ls at hl ⊢
  have hl : lv_has ls 3 [(0, .ref (ad 40))] := hl
  refine z_iconst hx hb dX6_openHinges_0 ?_
  refine lv_istore_n (lv' := [(1, .int (zI (0))), (0, .ref (ad 40))]) hx hb dX6_openHinges_1 rfl hl (by decide) rfl (fun ls hl => ?_)
  refine z_iconst hx hb dX6_openHinges_2 ?_
  refine lv_istore_n (lv' := [(2, .int (zI (0))), (1, .int (zI (0))), (0, .ref (ad 40))]) hx hb dX6_openHinges_3 rfl hl (by decide) rfl (fun ls hl => ?_)
  have cut_4 : ∀ (k9 : Nat) (i : Nat) (y : Int) (H : Heap) (locs : List Loc) (ls : Array Slot), (i ≤ n - 1) → (y = cnt (fun q => pB (0 < wdF n (S 7) (dgF n (t k0)) q)) i) → (n - i) < k9 → va_P D vwCl (cW cI cZ ad S) H → RS S → va_S (cA ad) s.heap H locs → lv_has ls 3 [(0, .ref (ad 40)), (1, .int (zI (y))), (2, .int (zI (↑i)))] → W p l e (headSpec (Cond.code yX6_openHinges cX6_openHinges 3 (some .int) :: lwT) ({ frames := 4, cells := 0, slots := 0, locals := 90 })).room s m ([.ref (ad 40)] : List Value).toArray below meth c H locs 0 0 (MQ below (va_Qi (fun (r : Int32) (S' : St) => S' = S ∧ r = zI (opF n (S 7) (dgF n (t k0)))) (gB D (cW cI cZ ad)) (cA ad)) ([.ref (ad 40)] : List Value).toArray s 0 0 (cA ad)) (F0 m 4 ls []) := by
    intro k9
    induction k9 with
    | zero =>
      intro i y H locs ls hi hy hk9 hP hR hS hl
      exact absurd hk9 (Nat.not_lt_zero _)
    | succ k9 ih_4 =>
      intro i y H locs ls hi hy hk9 hP hR hS hl
      refine lv_iload_n hx hb dX6_openHinges_4 rfl (lv_at hl 2 rfl) ?_
      refine lv_aload_n hx hb dX6_openHinges_5 rfl (lv_at hl 0 rfl) ?_
      refine va_get (D := D) (ci := 6) (v := .ref (ad 42)) (C := RX6) (T := TX6) (N := 9) hx hb hT inX6 hown hK hP 0 rfl rfl 1 (by decide) (hT _ q_177) (fun _ h9 => h9) rfl dX6_openHinges_6 ?_
      have g_1 : -2147483648 ≤ S 2 0 ∧ S 2 0 < 2147483648 := hR 2 0 (by decide)
      refine va_get (D := D) (ci := 0) (v := .int (zI (S 2 0))) (C := RX0) (T := TX0) (N := 5) hx hb hT inX0 hown hK hP 2 rfl rfl 0 (by decide) (hT _ q_48) (fun _ h9 => h9) rfl dX6_openHinges_9 ?_
      refine z_iconst hx hb dX6_openHinges_12 ?_
      refine z_isub hx hb dX6_openHinges_13 ?_
      refine z_icmp_ge (tgt := 44) hx hb (by omega) (by omega) (by omega) (by omega) dX6_openHinges_14 (by decide) (fun c_2 => ?_) (fun c_2 => ?_)
      · have h9 : True := trivial
        refine lv_iload_n hx hb dX6_openHinges_44 rfl (lv_at hl 1 rfl) ?_
        exact g_iret (S1 := S) (v := zI (y)) hx hb hr hlocks hP hR hS (⟨rfl, by rw [hy, show i = n - 1 by omega]; rfl⟩) dX6_openHinges_45
      · have h9 : True := trivial
        have hnz : n ≠ 0 := by omega
        have hkN := hk0 hnz
        have hO := hO9 hnz
        have hpk := (hO.2.1 k0 hkN).2.1
        refine lv_aload_n hx hb dX6_openHinges_17 rfl (lv_at hl 0 rfl) ?_
        refine va_get (D := D) (ci := 6) (v := .ref (ad 45)) (C := RX6) (T := TX6) (N := 9) hx hb hT inX6 hown hK hP 0 rfl rfl 4 (by decide) (hT _ q_180) (fun _ h9 => h9) rfl dX6_openHinges_18 ?_
        refine lv_aload_n hx hb dX6_openHinges_21 rfl (lv_at hl 0 rfl) ?_
        refine va_get (D := D) (ci := 6) (v := .ref (ad 43)) (C := RX6) (T := TX6) (N := 9) hx hb hT inX6 hown hK hP 0 rfl rfl 2 (by decide) (hT _ q_178) (fun _ h9 => h9) rfl dX6_openHinges_22 ?_
        have g_3 : -2147483648 ≤ S 8 0 ∧ S 8 0 < 2147483648 := hR 8 0 (by decide)
        refine va_get (D := D) (ci := 4) (v := .int (zI (S 8 0))) (C := RX4) (T := TX4) (N := 7) hx hb hT inX4 hown hK hP 3 rfl rfl 1 (by decide) (hT _ q_78) (fun _ h9 => h9) rfl dX6_openHinges_25 ?_
        refine lv_iload_n hx hb dX6_openHinges_28 rfl (lv_at hl 2 rfl) ?_
        refine g_callVi (As := [.int (zI (S 8 0)), .int (zI (↑i))]) (rest := []) ⟨hx, hb, hml, hown, hts⟩ (k_X5_width l D cI cZ ad az av hinj S hR n N t hT8 k0 (S 8 0) (by omega) hkN i ↑i (by omega) (by omega)) (cwV 2 hts (gV hsub q_418 q_382 q_383 q_5 q_384) rfl rfl rfl hdX5_width ⟨Nat.le_of_ble_eq_true rfl, Nat.le_of_ble_eq_true rfl⟩) (cEb D cI cZ ad az av) (cEk D cI cZ ad az av) hE (va_recv (ci := 5) (q0 := 5) hK hP rfl rfl) hP hS rfl hl.1 rfl (Nat.le_of_ble_eq_true rfl) dX6_openHinges_29 ⟨Nat.le_of_ble_eq_true rfl, Nat.le_of_ble_eq_true rfl⟩ (fun r_4 S_5 H locs hq_6 hP hR hS _ => ?_)
        obtain ⟨hs9, rfl⟩ := hq_6
        obtain rfl := hs9.symm
        refine z_top (b := wdF n (S 7) (dgF n (t k0)) i) rfl ?_
        have hwr := wdF_r n (S 7) (dgF n (t k0)) i
        refine z_if_le (tgt := 38) hx hb (by omega) (by omega) dX6_openHinges_32 (by decide) (fun c_7 => ?_) (fun c_7 => ?_)
        · have h9 : True := trivial
          refine z_iinc (lv' := [(2, .int (zI (↑i + 1))), (0, .ref (ad 40)), (1, .int (zI (y)))]) hx hb dX6_openHinges_38 hl (k := 2) rfl (by decide) rfl (fun ls hl => ?_)
          refine lv_goto (tgt := 4) hx hb dX6_openHinges_41 (by decide) ?_
          exact ih_4 (i + 1) y _ _ _ (by omega) ((Int.add_zero y).symm.trans (cnt_f (P := (fun q => pB (0 < wdF n (S 7) (dgF n (t k0)) q))) (pB_f.mpr (by omega)) hy)) (by omega) hP hR hS (lv_sub hl [1, 2, 0] rfl)
        · have h9 : True := trivial
          refine z_iinc (lv' := [(1, .int (zI (y + 1))), (0, .ref (ad 40)), (2, .int (zI (↑i)))]) hx hb dX6_openHinges_35 hl (k := 1) rfl (by decide) rfl (fun ls hl => ?_)
          refine z_iinc (lv' := [(2, .int (zI (↑i + 1))), (1, .int (zI (y + 1))), (0, .ref (ad 40))]) hx hb dX6_openHinges_38 hl (k := 2) rfl (by decide) rfl (fun ls hl => ?_)
          refine lv_goto (tgt := 4) hx hb dX6_openHinges_41 (by decide) ?_
          exact ih_4 (i + 1) (y + 1) _ _ _ (by omega) (cnt_t (P := (fun q => pB (0 < wdF n (S 7) (dgF n (t k0)) q))) (pB_t.mpr (by omega)) hy) (by omega) hP hR hS (lv_sub hl [2, 1, 0] rfl)
  exact cut_4 _ 0 0 _ _ _ (by omega) (rfl) (Nat.lt_succ_self _) hP hR hS (lv_sub hl [2, 1, 0] rfl)
set_option maxHeartbeats 4000000 in
set_option maxRecDepth 100000 in
theorem k_X6_contentLeaves (l : Launch) (D : va_G) (cI cZ : ClassId) (ad : Nat → Nat) (az av : Nat) (hinj : cInj ad) (S : St) (hR : RS S) (n N : Nat) (t : Nat → Int) (hT9 : cTab n N t S) (hV : cVer n N t S) (k0 : Nat) (hk8 : S 8 0 = ↑k0) (hk0 : n ≠ 0 → k0 < N) : Met l yX6_contentLeaves (Cond.code yX6_contentLeaves cX6_contentLeaves 3 (some .int) :: lwT) ({ frames := 5, cells := 0, slots := 0, locals := 110 }) (gPc D (cW cI cZ ad) (cE D cI cZ ad az av) S [.ref (ad 40)]) (va_Qi (fun (r : Int32) (S' : St) => S' = S ∧ r = zI (cnt (fun q => pB (rgP n (S 7) (dgF n (t k0)) q)) n)) (gB D (cW cI cZ ad)) (cA ad)) 0 0 (cA ad) := by
  refine Met.ofW (cc := cX6_contentLeaves) (maxL := 3) (ret := (some .int)) (by decide) rfl ?_
  intro p e s m args below meth c s₁ B hml hv
  obtain ⟨rfl, hP, hE⟩ := hv
  have hx := B.exec
  have hb := B.bytes
  have hr := B.returns
  have hts := atoms_spec (ws := Cond.code yX6_contentLeaves cX6_contentLeaves 3 (some .int) :: lwT) B.pre
  have hT := fun w (h : w ∈ lwT) => hts w (List.mem_cons_of_mem _ h)
  have hsub : ∀ w ∈ lwT, w ∈ (Cond.code yX6_contentLeaves cX6_contentLeaves 3 (some .int) :: lwT) := fun w h => List.mem_cons_of_mem _ h
  have hown : s.vm.findClass RX6 = some m.cls := findClass_of_methodNamed B.named
  have hlocks := B.notSynchronized
  have hK : va_K D vwCl [(cI, .int), (cZ, .boolean)] s := hE.1
  have hS : va_S (cA ad) s.heap s.heap [] := va_S.rf
  have hT8 := hT9
  have hTo := hT9
  obtain ⟨⟨hn, hN, hn7, hN4⟩, hn0, hO9, hso, htb⟩ := hTo
  have hl := lv_entry ([.ref (ad 40)]) (n := 3) (Nat.le_of_ble_eq_true rfl)
  rw [lg_entry_eq]
  generalize (lg_sl ([.ref (ad 40)]) ++ List.replicate (3 - (lg_sl ([.ref (ad 40)])).length) Slot.unset).toArray = ls at hl ⊢
  have hl : lv_has ls 3 [(0, .ref (ad 40))] := hl
  refine z_iconst hx hb dX6_contentLeaves_0 ?_
  refine lv_istore_n (lv' := [(1, .int (zI (0))), (0, .ref (ad 40))]) hx hb dX6_contentLeaves_1 rfl hl (by decide) rfl (fun ls hl => ?_)
  refine z_iconst hx hb dX6_contentLeaves_2 ?_
  refine lv_istore_n (lv' := [(2, .int (zI (0))), (1, .int (zI (0))), (0, .ref (ad 40))]) hx hb dX6_contentLeaves_3 rfl hl (by decide) rfl (fun ls hl => ?_)
  have cut_4 : ∀ (k9 : Nat) (i : Nat) (y : Int) (H : Heap) (locs : List Loc) (ls : Array Slot), (i ≤ n) → (y = cnt (fun v => pB (rgP n (S 7) (dgF n (t k0)) (pl n (dgF n (t k0)) v))) i) → (n - i) < k9 → va_P D vwCl (cW cI cZ ad S) H → RS S → va_S (cA ad) s.heap H locs → lv_has ls 3 [(0, .ref (ad 40)), (1, .int (zI (y))), (2, .int (zI (↑i)))] → W p l e (headSpec (Cond.code yX6_contentLeaves cX6_contentLeaves 3 (some .int) :: lwT) ({ frames := 5, cells := 0, slots := 0, locals := 110 })).room s m ([.ref (ad 40)] : List Value).toArray below meth c H locs 0 0 (MQ below (va_Qi (fun (r : Int32) (S' : St) => S' = S ∧ r = zI (cnt (fun q => pB (rgP n (S 7) (dgF n (t k0)) q)) n)) (gB D (cW cI cZ ad)) (cA ad)) ([.ref (ad 40)] : List Value).toArray s 0 0 (cA ad)) (F0 m 4 ls []) := by
    intro k9
    induction k9 with
    | zero =>
      intro i y H locs ls hi hy hk9 hP hR hS hl
      exact absurd hk9 (Nat.not_lt_zero _)
    | succ k9 ih_4 =>
      intro i y H locs ls hi hy hk9 hP hR hS hl
      refine lv_iload_n hx hb dX6_contentLeaves_4 rfl (lv_at hl 2 rfl) ?_
      refine lv_aload_n hx hb dX6_contentLeaves_5 rfl (lv_at hl 0 rfl) ?_
      refine va_get (D := D) (ci := 6) (v := .ref (ad 42)) (C := RX6) (T := TX6) (N := 9) hx hb hT inX6 hown hK hP 0 rfl rfl 1 (by decide) (hT _ q_177) (fun _ h9 => h9) rfl dX6_contentLeaves_6 ?_
      have g_1 : -2147483648 ≤ S 2 0 ∧ S 2 0 < 2147483648 := hR 2 0 (by decide)
      refine va_get (D := D) (ci := 0) (v := .int (zI (S 2 0))) (C := RX0) (T := TX0) (N := 5) hx hb hT inX0 hown hK hP 2 rfl rfl 0 (by decide) (hT _ q_48) (fun _ h9 => h9) rfl dX6_contentLeaves_9 ?_
      refine z_icmp_ge (tgt := 42) hx hb (by omega) (by omega) (by omega) (by omega) dX6_contentLeaves_12 (by decide) (fun c_2 => ?_) (fun c_2 => ?_)
      · have h9 : True := trivial
        refine lv_iload_n hx hb dX6_contentLeaves_42 rfl (lv_at hl 1 rfl) ?_
        exact g_iret (S1 := S) (v := zI (y)) hx hb hr hlocks hP hR hS (⟨rfl, by rw [hy, show i = n by omega]; exact congrArg zI (cnt_pl hk0 hO9)⟩) dX6_contentLeaves_43
      · have h9 : True := trivial
        have hnz : n ≠ 0 := by omega
        have hkN := hk0 hnz
        have hO := hO9 hnz
        have hpk := (hO.2.1 k0 hkN).2.1
        refine lv_aload_n hx hb dX6_contentLeaves_15 rfl (lv_at hl 0 rfl) ?_
        refine va_get (D := D) (ci := 6) (v := .ref (ad 45)) (C := RX6) (T := TX6) (N := 9) hx hb hT inX6 hown hK hP 0 rfl rfl 4 (by decide) (hT _ q_180) (fun _ h9 => h9) rfl dX6_contentLeaves_16 ?_
        refine lv_aload_n hx hb dX6_contentLeaves_19 rfl (lv_at hl 0 rfl) ?_
        refine va_get (D := D) (ci := 6) (v := .ref (ad 43)) (C := RX6) (T := TX6) (N := 9) hx hb hT inX6 hown hK hP 0 rfl rfl 2 (by decide) (hT _ q_178) (fun _ h9 => h9) rfl dX6_contentLeaves_20 ?_
        have g_3 : -2147483648 ≤ S 8 0 ∧ S 8 0 < 2147483648 := hR 8 0 (by decide)
        refine va_get (D := D) (ci := 4) (v := .int (zI (S 8 0))) (C := RX4) (T := TX4) (N := 7) hx hb hT inX4 hown hK hP 3 rfl rfl 1 (by decide) (hT _ q_78) (fun _ h9 => h9) rfl dX6_contentLeaves_23 ?_
        refine lv_iload_n hx hb dX6_contentLeaves_26 rfl (lv_at hl 2 rfl) ?_
        refine g_callVi (As := [.int (zI (S 8 0)), .int (zI (↑i))]) (rest := []) ⟨hx, hb, hml, hown, hts⟩ (k_X5_isContent l D cI cZ ad az av hinj S hR n N t hT8 k0 (S 8 0) (by omega) hkN i ↑i (by omega) (by omega)) (cwV 2 hts (gV hsub q_401 q_356 q_357 q_5 q_358) rfl rfl rfl hdX5_isContent ⟨Nat.le_of_ble_eq_true rfl, Nat.le_of_ble_eq_true rfl⟩) (cEb D cI cZ ad az av) (cEk D cI cZ ad az av) hE (va_recv (ci := 5) (q0 := 5) hK hP rfl rfl) hP hS rfl hl.1 rfl (Nat.le_of_ble_eq_true rfl) dX6_contentLeaves_27 ⟨Nat.le_of_ble_eq_true rfl, Nat.le_of_ble_eq_true rfl⟩ (fun r_4 S_5 H locs hq_6 hP hR hS _ => ?_)
        obtain ⟨hs9, rfl⟩ := hq_6
        obtain rfl := hs9.symm
        refine z_top (b := b2 (pB (rgP n (S 7) (dgF n (t k0)) (pl n (dgF n (t k0)) i)))) rfl ?_
        refine z_ifeqB (tgt := 36) hx hb dX6_contentLeaves_30 (by decide) (fun c_7 => ?_) (fun c_7 => ?_)
        · have h9 : True := trivial
          refine z_iinc (lv' := [(2, .int (zI (↑i + 1))), (0, .ref (ad 40)), (1, .int (zI (y)))]) hx hb dX6_contentLeaves_36 hl (k := 2) rfl (by decide) rfl (fun ls hl => ?_)
          refine lv_goto (tgt := 4) hx hb dX6_contentLeaves_39 (by decide) ?_
          exact ih_4 (i + 1) y _ _ _ (by omega) ((Int.add_zero y).symm.trans (cnt_f (P := (fun v => pB (rgP n (S 7) (dgF n (t k0)) (pl n (dgF n (t k0)) v)))) c_7 hy)) (by omega) hP hR hS (lv_sub hl [1, 2, 0] rfl)
        · have h9 : True := trivial
          refine z_iinc (lv' := [(1, .int (zI (y + 1))), (0, .ref (ad 40)), (2, .int (zI (↑i)))]) hx hb dX6_contentLeaves_33 hl (k := 1) rfl (by decide) rfl (fun ls hl => ?_)
          refine z_iinc (lv' := [(2, .int (zI (↑i + 1))), (1, .int (zI (y + 1))), (0, .ref (ad 40))]) hx hb dX6_contentLeaves_36 hl (k := 2) rfl (by decide) rfl (fun ls hl => ?_)
          refine lv_goto (tgt := 4) hx hb dX6_contentLeaves_39 (by decide) ?_
          exact ih_4 (i + 1) (y + 1) _ _ _ (by omega) (cnt_t (P := (fun v => pB (rgP n (S 7) (dgF n (t k0)) (pl n (dgF n (t k0)) v)))) c_7 hy) (by omega) hP hR hS (lv_sub hl [2, 1, 0] rfl)
  exact cut_4 _ 0 0 _ _ _ (by omega) (rfl) (Nat.lt_succ_self _) hP hR hS (lv_sub hl [2, 1, 0] rfl)
set_option maxHeartbeats 4000000 in
set_option maxRecDepth 100000 in
theorem k_X6_possibleMoves (l : Launch) (D : va_G) (cI cZ : ClassId) (ad : Nat → Nat) (az av : Nat) (hinj : cInj ad) (S : St) (hR : RS S) (n N : Nat) (t : Nat → Int) (hT9 : cTab n N t S) (hV : cVer n N t S) (k0 : Nat) (hk8 : S 8 0 = ↑k0) (hk0 : n ≠ 0 → k0 < N) : Met l yX6_possibleMoves (Cond.code yX6_possibleMoves cX6_possibleMoves 5 (some .int) :: lwT) ({ frames := 3, cells := 0, slots := 0, locals := 69 }) (gPc D (cW cI cZ ad) (cE D cI cZ ad az av) S [.ref (ad 40)]) (va_Qi (fun (r : Int32) (S' : St) => S' = S ∧ r = zI (mvsF n (dgF n (t k0)))) (gB D (cW cI cZ ad)) (cA ad)) 0 0 (cA ad) := by
  refine Met.ofW (cc := cX6_possibleMoves) (maxL := 5) (ret := (some .int)) (by decide) rfl ?_
  intro p e s m args below meth c s₁ B hml hv
  obtain ⟨rfl, hP, hE⟩ := hv
  have hx := B.exec
  have hb := B.bytes
  have hr := B.returns
  have hts := atoms_spec (ws := Cond.code yX6_possibleMoves cX6_possibleMoves 5 (some .int) :: lwT) B.pre
  have hT := fun w (h : w ∈ lwT) => hts w (List.mem_cons_of_mem _ h)
  have hsub : ∀ w ∈ lwT, w ∈ (Cond.code yX6_possibleMoves cX6_possibleMoves 5 (some .int) :: lwT) := fun w h => List.mem_cons_of_mem _ h
  have hown : s.vm.findClass RX6 = some m.cls := findClass_of_methodNamed B.named
  have hlocks := B.notSynchronized
  have hK : va_K D vwCl [(cI, .int), (cZ, .boolean)] s := hE.1
  have hS : va_S (cA ad) s.heap s.heap [] := va_S.rf
  have hT8 := hT9
  have hTo := hT9
  obtain ⟨⟨hn, hN, hn7, hN4⟩, hn0, hO9, hso, htb⟩ := hTo
  have hl := lv_entry ([.ref (ad 40)]) (n := 5) (Nat.le_of_ble_eq_true rfl)
  rw [lg_entry_eq]
  generalize (lg_sl ([.ref (ad 40)]) ++ List.replicate (5 - (lg_sl ([.ref (ad 40)])).length) Slot.unset).toArray = ls at hl ⊢
  have hl : lv_has ls 5 [(0, .ref (ad 40))] := hl
  refine z_iconst hx hb dX6_possibleMoves_0 ?_
  refine lv_istore_n (lv' := [(1, .int (zI (0))), (0, .ref (ad 40))]) hx hb dX6_possibleMoves_1 rfl hl (by decide) rfl (fun ls hl => ?_)
  refine z_iconst hx hb dX6_possibleMoves_2 ?_
  refine lv_istore_n (lv' := [(2, .int (zI (0))), (1, .int (zI (0))), (0, .ref (ad 40))]) hx hb dX6_possibleMoves_3 rfl hl (by decide) rfl (fun ls hl => ?_)
  have cut_4 : ∀ (k9 : Nat) (i : Nat) (y : Int) (H : Heap) (locs : List Loc) (ls : Array Slot), (i ≤ n) → (y = cnt (fun a => pB (cbF n (dgF n (t k0)) (a / n) (a % n) ≠ -1)) (i * n)) → (n - i) < k9 → va_P D vwCl (cW cI cZ ad S) H → RS S → va_S (cA ad) s.heap H locs → lv_has ls 5 [(0, .ref (ad 40)), (1, .int (zI (y))), (2, .int (zI (↑i)))] → W p l e (headSpec (Cond.code yX6_possibleMoves cX6_possibleMoves 5 (some .int) :: lwT) ({ frames := 3, cells := 0, slots := 0, locals := 69 })).room s m ([.ref (ad 40)] : List Value).toArray below meth c H locs 0 0 (MQ below (va_Qi (fun (r : Int32) (S' : St) => S' = S ∧ r = zI (mvsF n (dgF n (t k0)))) (gB D (cW cI cZ ad)) (cA ad)) ([.ref (ad 40)] : List Value).toArray s 0 0 (cA ad)) (F0 m 4 ls []) := by
    intro k9
    induction k9 with
    | zero =>
      intro i y H locs ls hi hy hk9 hP hR hS hl
      exact absurd hk9 (Nat.not_lt_zero _)
    | succ k9 ih_4 =>
      intro i y H locs ls hi hy hk9 hP hR hS hl
      refine lv_iload_n hx hb dX6_possibleMoves_4 rfl (lv_at hl 2 rfl) ?_
      refine lv_aload_n hx hb dX6_possibleMoves_5 rfl (lv_at hl 0 rfl) ?_
      refine va_get (D := D) (ci := 6) (v := .ref (ad 42)) (C := RX6) (T := TX6) (N := 9) hx hb hT inX6 hown hK hP 0 rfl rfl 1 (by decide) (hT _ q_177) (fun _ h9 => h9) rfl dX6_possibleMoves_6 ?_
      have g_1 : -2147483648 ≤ S 2 0 ∧ S 2 0 < 2147483648 := hR 2 0 (by decide)
      refine va_get (D := D) (ci := 0) (v := .int (zI (S 2 0))) (C := RX0) (T := TX0) (N := 5) hx hb hT inX0 hown hK hP 2 rfl rfl 0 (by decide) (hT _ q_48) (fun _ h9 => h9) rfl dX6_possibleMoves_9 ?_
      refine z_icmp_ge (tgt := 79) hx hb (by omega) (by omega) (by omega) (by omega) dX6_possibleMoves_12 (by decide) (fun c_2 => ?_) (fun c_2 => ?_)
      · have h9 : True := trivial
        refine lv_iload_n hx hb dX6_possibleMoves_79 rfl (lv_at hl 1 rfl) ?_
        exact g_iret (S1 := S) (v := zI (y)) hx hb hr hlocks hP hR hS (⟨rfl, by rw [hy, show i = n by omega]; rfl⟩) dX6_possibleMoves_80
      · have h9 : True := trivial
        refine z_iconst hx hb dX6_possibleMoves_15 ?_
        refine lv_istore_n (lv' := [(3, .int (zI (0))), (0, .ref (ad 40)), (1, .int (zI (y))), (2, .int (zI (↑i)))]) hx hb dX6_possibleMoves_16 rfl hl (by decide) rfl (fun ls hl => ?_)
        have cut_17 : ∀ (k9 : Nat) (j : Nat) (aa : Nat) (y : Int) (H : Heap) (locs : List Loc) (ls : Array Slot), (j ≤ n) → (aa = i * n + j) → (y = cnt (fun a => pB (cbF n (dgF n (t k0)) (a / n) (a % n) ≠ -1)) aa) → (n - j) < k9 → va_P D vwCl (cW cI cZ ad S) H → RS S → va_S (cA ad) s.heap H locs → lv_has ls 5 [(0, .ref (ad 40)), (1, .int (zI (y))), (2, .int (zI (↑i))), (3, .int (zI (↑j)))] → W p l e (headSpec (Cond.code yX6_possibleMoves cX6_possibleMoves 5 (some .int) :: lwT) ({ frames := 3, cells := 0, slots := 0, locals := 69 })).room s m ([.ref (ad 40)] : List Value).toArray below meth c H locs 0 0 (MQ below (va_Qi (fun (r : Int32) (S' : St) => S' = S ∧ r = zI (mvsF n (dgF n (t k0)))) (gB D (cW cI cZ ad)) (cA ad)) ([.ref (ad 40)] : List Value).toArray s 0 0 (cA ad)) (F0 m 17 ls []) := by
          intro k9
          induction k9 with
          | zero =>
            intro j aa y H locs ls hj haa hy hk9 hP hR hS hl
            exact absurd hk9 (Nat.not_lt_zero _)
          | succ k9 ih_17 =>
            intro j aa y H locs ls hj haa hy hk9 hP hR hS hl
            refine lv_iload_n hx hb dX6_possibleMoves_17 rfl (lv_at hl 3 rfl) ?_
            refine lv_aload_n hx hb dX6_possibleMoves_18 rfl (lv_at hl 0 rfl) ?_
            refine va_get (D := D) (ci := 6) (v := .ref (ad 42)) (C := RX6) (T := TX6) (N := 9) hx hb hT inX6 hown hK hP 0 rfl rfl 1 (by decide) (hT _ q_177) (fun _ h9 => h9) rfl dX6_possibleMoves_19 ?_
            have g_3 : -2147483648 ≤ S 2 0 ∧ S 2 0 < 2147483648 := hR 2 0 (by decide)
            refine va_get (D := D) (ci := 0) (v := .int (zI (S 2 0))) (C := RX0) (T := TX0) (N := 5) hx hb hT inX0 hown hK hP 2 rfl rfl 0 (by decide) (hT _ q_48) (fun _ h9 => h9) rfl dX6_possibleMoves_22 ?_
            refine z_icmp_ge (tgt := 73) hx hb (by omega) (by omega) (by omega) (by omega) dX6_possibleMoves_25 (by decide) (fun c_4 => ?_) (fun c_4 => ?_)
            · have h9 : True := trivial
              refine z_iinc (lv' := [(2, .int (zI (↑i + 1))), (0, .ref (ad 40)), (1, .int (zI (y))), (3, .int (zI (↑j)))]) hx hb dX6_possibleMoves_73 hl (k := 2) rfl (by decide) rfl (fun ls hl => ?_)
              refine lv_goto (tgt := 4) hx hb dX6_possibleMoves_76 (by decide) ?_
              exact ih_4 (i + 1) y _ _ _ (by omega) (by rw [Nat.add_mul, Nat.one_mul, ← show aa = i * n + n by omega]; exact hy) (by omega) hP hR hS (lv_sub hl [1, 2, 0] rfl)
            · have h9 : True := trivial
              have hnz : n ≠ 0 := by omega
              have hkN := hk0 hnz
              have hO := hO9 hnz
              have hpk := (hO.2.1 k0 hkN).2.1
              have hdd := dm_2 (n := n) (i := i) (j := j) (by omega)
              rw [← haa] at hdd
              refine lv_aload_n hx hb dX6_possibleMoves_28 rfl (lv_at hl 0 rfl) ?_
              refine va_get (D := D) (ci := 6) (v := .ref (ad 42)) (C := RX6) (T := TX6) (N := 9) hx hb hT inX6 hown hK hP 0 rfl rfl 1 (by decide) (hT _ q_177) (fun _ h9 => h9) rfl dX6_possibleMoves_29 ?_
              refine lv_aload_n hx hb dX6_possibleMoves_32 rfl (lv_at hl 0 rfl) ?_
              refine va_get (D := D) (ci := 6) (v := .ref (ad 43)) (C := RX6) (T := TX6) (N := 9) hx hb hT inX6 hown hK hP 0 rfl rfl 2 (by decide) (hT _ q_178) (fun _ h9 => h9) rfl dX6_possibleMoves_33 ?_
              have g_5 : -2147483648 ≤ S 8 0 ∧ S 8 0 < 2147483648 := hR 8 0 (by decide)
              refine va_get (D := D) (ci := 4) (v := .int (zI (S 8 0))) (C := RX4) (T := TX4) (N := 7) hx hb hT inX4 hown hK hP 3 rfl rfl 1 (by decide) (hT _ q_78) (fun _ h9 => h9) rfl dX6_possibleMoves_36 ?_
              refine lv_iload_n hx hb dX6_possibleMoves_39 rfl (lv_at hl 2 rfl) ?_
              refine lv_iload_n hx hb dX6_possibleMoves_40 rfl (lv_at hl 3 rfl) ?_
              refine g_callVi (As := [.int (zI (S 8 0)), .int (zI (↑i)), .int (zI (↑j))]) (rest := []) ⟨hx, hb, hml, hown, hts⟩ (k_X0_afterMove l D cI cZ ad az av hinj S hR n N t hT8 k0 i j (S 8 0) ↑i ↑j (by omega) (by omega) (by omega) hkN (by omega) (by omega)) (cwV 3 hts (gV hsub q_432 q_433 q_434 q_3 q_435) rfl rfl rfl hdX0_afterMove ⟨Nat.le_of_ble_eq_true rfl, Nat.le_of_ble_eq_true rfl⟩) (cEb D cI cZ ad az av) (cEk D cI cZ ad az av) hE (va_recv (ci := 0) (q0 := 2) hK hP rfl rfl) hP hS rfl hl.1 rfl (Nat.le_of_ble_eq_true rfl) dX6_possibleMoves_41 ⟨Nat.le_of_ble_eq_true rfl, Nat.le_of_ble_eq_true rfl⟩ (fun r_6 S_7 H locs hq_8 hP hR hS _ => ?_)
              obtain ⟨hs9, rfl⟩ := hq_8
              obtain rfl := hs9.symm
              refine z_top (b := amF n N t k0 i j) rfl ?_
              have hmr := am_r (n := n) (N := N) (t := t) (k := k0) (v := i) (q := j)
              refine lv_istore (lv' := [(4, .int (zI (amF n N t k0 i j))), (0, .ref (ad 40)), (1, .int (zI (y))), (2, .int (zI (↑i))), (3, .int (zI (↑j)))]) hx hb dX6_possibleMoves_44 hl (by decide) rfl (fun ls hl => ?_)
              refine lv_iload hx hb dX6_possibleMoves_46 (lv_at hl 0 rfl) ?_
              refine z_iconst hx hb dX6_possibleMoves_48 ?_
              refine z_icmp_eq (tgt := 67) hx hb (by omega) (by omega) (by omega) (by omega) dX6_possibleMoves_49 (by decide) (fun c_9 => ?_) (fun c_9 => ?_)
              · have h9 : True := trivial
                refine z_iinc (lv' := [(3, .int (zI (↑j + 1))), (4, .int (zI (amF n N t k0 i j))), (0, .ref (ad 40)), (1, .int (zI (y))), (2, .int (zI (↑i)))]) hx hb dX6_possibleMoves_67 hl (k := 4) rfl (by decide) rfl (fun ls hl => ?_)
                refine lv_goto (tgt := 17) hx hb dX6_possibleMoves_70 (by decide) ?_
                exact ih_17 (j + 1) (aa + 1) y _ _ _ (by omega) (by omega) ((Int.add_zero y).symm.trans (cnt_f (P := (fun a => pB (cbF n (dgF n (t k0)) (a / n) (a % n) ≠ -1))) (pB_f.mpr (fun h => h (by rw [hdd.1, hdd.2]; exact am_no hO hn7 hkN (by omega) (by omega) (by omega)))) hy)) (by omega) hP hR hS (lv_sub hl [2, 3, 4, 0] rfl)
              · have h9 : True := trivial
                refine lv_iload hx hb dX6_possibleMoves_52 (lv_at hl 0 rfl) ?_
                refine lv_aload_n hx hb dX6_possibleMoves_54 rfl (lv_at hl 1 rfl) ?_
                refine va_get (D := D) (ci := 6) (v := .ref (ad 43)) (C := RX6) (T := TX6) (N := 9) hx hb hT inX6 hown hK hP 0 rfl rfl 2 (by decide) (hT _ q_178) (fun _ h9 => h9) rfl dX6_possibleMoves_55 ?_
                refine va_get (D := D) (ci := 4) (v := .int (zI (S 8 0))) (C := RX4) (T := TX4) (N := 7) hx hb hT inX4 hown hK hP 3 rfl rfl 1 (by decide) (hT _ q_78) (fun _ h9 => h9) rfl dX6_possibleMoves_58 ?_
                refine z_icmp_eq (tgt := 67) hx hb (by omega) (by omega) (by omega) (by omega) dX6_possibleMoves_61 (by decide) (fun c_10 => ?_) (fun c_10 => ?_)
                · have h9 : True := trivial
                  refine z_iinc (lv' := [(3, .int (zI (↑j + 1))), (4, .int (zI (amF n N t k0 i j))), (0, .ref (ad 40)), (1, .int (zI (y))), (2, .int (zI (↑i)))]) hx hb dX6_possibleMoves_67 hl (k := 4) rfl (by decide) rfl (fun ls hl => ?_)
                  refine lv_goto (tgt := 17) hx hb dX6_possibleMoves_70 (by decide) ?_
                  exact ih_17 (j + 1) (aa + 1) y _ _ _ (by omega) (by omega) ((Int.add_zero y).symm.trans (cnt_f (P := (fun a => pB (cbF n (dgF n (t k0)) (a / n) (a % n) ≠ -1))) (pB_f.mpr (fun h => h (by rw [hdd.1, hdd.2]; exact am_no hO hn7 hkN (by omega) (by omega) (by omega)))) hy)) (by omega) hP hR hS (lv_sub hl [2, 3, 4, 0] rfl)
                · have h9 : True := trivial
                  refine z_iinc (lv' := [(1, .int (zI (y + 1))), (4, .int (zI (amF n N t k0 i j))), (0, .ref (ad 40)), (2, .int (zI (↑i))), (3, .int (zI (↑j)))]) hx hb dX6_possibleMoves_64 hl (k := 2) rfl (by decide) rfl (fun ls hl => ?_)
                  refine z_iinc (lv' := [(3, .int (zI (↑j + 1))), (1, .int (zI (y + 1))), (4, .int (zI (amF n N t k0 i j))), (0, .ref (ad 40)), (2, .int (zI (↑i)))]) hx hb dX6_possibleMoves_67 hl (k := 4) rfl (by decide) rfl (fun ls hl => ?_)
                  refine lv_goto (tgt := 17) hx hb dX6_possibleMoves_70 (by decide) ?_
                  exact ih_17 (j + 1) (aa + 1) (y + 1) _ _ _ (by omega) (by omega) (cnt_t (P := (fun a => pB (cbF n (dgF n (t k0)) (a / n) (a % n) ≠ -1))) (pB_t.mpr (by rw [hdd.1, hdd.2]; exact (am_yes hO hn7 hkN (by omega) (by omega) (by omega) (by omega)).1)) hy) (by omega) hP hR hS (lv_sub hl [3, 1, 4, 0] rfl)
        exact cut_17 _ 0 (i * n) y _ _ _ (by omega) (by omega) (hy) (Nat.lt_succ_self _) hP hR hS (lv_sub hl [1, 2, 3, 0] rfl)
  exact cut_4 _ 0 0 _ _ _ (by omega) (by rw [Nat.zero_mul]; rfl) (Nat.lt_succ_self _) hP hR hS (lv_sub hl [2, 1, 0] rfl)
