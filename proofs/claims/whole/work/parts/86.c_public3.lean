set_option maxHeartbeats 4000000 in
set_option maxRecDepth 100000 in
theorem k_X6_see (l : Launch) (D : va_G) (cI cZ : ClassId) (ad : Nat → Nat) (az av : Nat) (hinj : cInj ad) (S : St) (hR : RS S) (n N : Nat) (t : Nat → Int) (hT9 : cTab n N t S) (hV : cVer n N t S) (k0 : Nat) (hk8 : S 8 0 = ↑k0) (hk0 : n ≠ 0 → k0 < N) (m9 : Nat) (hse : seOK n m9 S) (x y z : Int) (hx1 : -2147483648 ≤ x) (hx2 : x < 2147483648) (hy1 : -2147483648 ≤ y) (hy2 : y < 2147483648) (hz : z = 0 ∨ z = 1) : Met l yX6_see (Cond.code yX6_see cX6_see 4 (some .int) :: lwT) ({ frames := 1, cells := 0, slots := 0, locals := 23 }) (gPc D (cW cI cZ ad) (cE D cI cZ ad az av) S [.ref (ad 40), .int (zI (x)), .int (zI (y)), .int (zI (z))]) (va_Qi (fun (r : Int32) (S' : St) => (¬ isL n x ∧ S' = S ∧ r = zI (-101)) ∨ (isL n x ∧ ¬ (1 ≤ y ∧ y ≤ n) ∧ S' = S ∧ r = zI (-102)) ∨ (isL n x ∧ (1 ≤ y ∧ y ≤ n) ∧ m9 = 6 ∧ S' = S ∧ r = zI (-104)) ∨ (isL n x ∧ (1 ≤ y ∧ y ≤ n) ∧ m9 < 6 ∧ S' = sA (sA (sA (sA S 11 (uZ (S 11) m9 x)) 12 (uZ (S 12) m9 y)) 13 (uZ (S 13) m9 z)) 10 (fun _ => ↑m9 + 1) ∧ r = zI (↑m9 + 1))) (gB D (cW cI cZ ad)) (cA ad)) 0 0 (cA ad) := by
  refine Met.ofW (cc := cX6_see) (maxL := 4) (ret := (some .int)) (by decide) rfl ?_
  intro p e s m args below meth c s₁ B hml hv
  obtain ⟨rfl, hP, hE⟩ := hv
  have hx := B.exec
  have hb := B.bytes
  have hr := B.returns
  have hts := atoms_spec (ws := Cond.code yX6_see cX6_see 4 (some .int) :: lwT) B.pre
  have hT := fun w (h : w ∈ lwT) => hts w (List.mem_cons_of_mem _ h)
  have hsub : ∀ w ∈ lwT, w ∈ (Cond.code yX6_see cX6_see 4 (some .int) :: lwT) := fun w h => List.mem_cons_of_mem _ h
  have hown : s.vm.findClass RX6 = some m.cls := findClass_of_methodNamed B.named
  have hlocks := B.notSynchronized
  have hK : va_K D vwCl [(cI, .int), (cZ, .boolean)] s := hE.1
  have hS : va_S (cA ad) s.heap s.heap [] := va_S.rf
  have hT8 := hT9
  have hTo := hT9
  obtain ⟨⟨hn, hN, hn7, hN4⟩, hn0, hO9, hso, htb⟩ := hTo
  obtain ⟨hm9, hm6, hsa⟩ := hse
  have hl := lv_entry ([.ref (ad 40), .int (zI (x)), .int (zI (y)), .int (zI (z))]) (n := 4) (Nat.le_of_ble_eq_true rfl)
  rw [lg_entry_eq]
  generalize (lg_sl ([.ref (ad 40), .int (zI (x)), .int (zI (y)), .int (zI (z))]) ++ List.replicate (4 - (lg_sl ([.ref (ad 40), .int (zI (x)), .int (zI (y)), .int (zI (z))])).length) Slot.unset).toArray = ls at hl ⊢
  have hl : lv_has ls 4 [(0, .ref (ad 40)), (1, .int (zI (x))), (2, .int (zI (y))), (3, .int (zI (z)))] := hl
  refine lv_aload_n hx hb dX6_see_0 rfl (lv_at hl 0 rfl) ?_
  refine lv_iload_n hx hb dX6_see_1 rfl (lv_at hl 1 rfl) ?_
  refine g_callVi (As := [.int (zI (x))]) (rest := []) ⟨hx, hb, hml, hown, hts⟩ (k_X6_isLeaf l D cI cZ ad az av hinj S hR x (by omega) (by omega)) (cwV 1 hts (gV hsub q_395 q_397 q_sX6_isLeaf q_1 q_398) rfl rfl rfl hdX6_isLeaf ⟨Nat.le_of_ble_eq_true rfl, Nat.le_of_ble_eq_true rfl⟩) (cEb D cI cZ ad az av) (cEk D cI cZ ad az av) hE (va_recv (ci := 6) (q0 := 0) hK hP rfl rfl) hP hS rfl hl.1 rfl (Nat.le_of_ble_eq_true rfl) dX6_see_2 ⟨Nat.le_of_ble_eq_true rfl, Nat.le_of_ble_eq_true rfl⟩ (fun r_1 S_2 H locs hq_3 hP hR hS _ => ?_)
  obtain ⟨hs9, rfl⟩ := hq_3
  obtain rfl := hs9.symm
  refine z_top (b := b2 (decide (0 ≤ x ∧ x ≤ S 2 0 - 1))) rfl ?_
  refine z_ifneB (tgt := 11) hx hb dX6_see_5 (by decide) (fun c_4 => ?_) (fun c_4 => ?_)
  · have h9 : True := trivial
    have c_4 : 0 ≤ x ∧ x ≤ S 2 0 - 1 := of_decide_eq_true c_4
    refine lv_iload_n hx hb dX6_see_11 rfl (lv_at hl 2 rfl) ?_
    refine z_iconst hx hb dX6_see_12 ?_
    refine z_icmp_lt (tgt := 27) hx hb (by omega) (by omega) (by omega) (by omega) dX6_see_13 (by decide) (fun c_5 => ?_) (fun c_5 => ?_)
    · have h9 : True := trivial
      refine z_bipush hx hb dX6_see_27 (by decide) ?_
      exact g_iret (S1 := S) (v := zI (-102)) hx hb hr hlocks hP hR hS (Or.inr (Or.inl ⟨(by unfold isL; omega), by omega, rfl, rfl⟩)) dX6_see_29
    · have h9 : True := trivial
      refine lv_iload_n hx hb dX6_see_16 rfl (lv_at hl 2 rfl) ?_
      refine lv_aload_n hx hb dX6_see_17 rfl (lv_at hl 0 rfl) ?_
      refine va_get (D := D) (ci := 6) (v := .ref (ad 42)) (C := RX6) (T := TX6) (N := 9) hx hb hT inX6 hown hK hP 0 rfl rfl 1 (by decide) (hT _ q_177) (fun _ h9 => h9) rfl dX6_see_18 ?_
      have g_6 : -2147483648 ≤ S 2 0 ∧ S 2 0 < 2147483648 := hR 2 0 (by decide)
      refine va_get (D := D) (ci := 0) (v := .int (zI (S 2 0))) (C := RX0) (T := TX0) (N := 5) hx hb hT inX0 hown hK hP 2 rfl rfl 0 (by decide) (hT _ q_48) (fun _ h9 => h9) rfl dX6_see_21 ?_
      refine z_icmp_le (tgt := 30) hx hb (by omega) (by omega) (by omega) (by omega) dX6_see_24 (by decide) (fun c_7 => ?_) (fun c_7 => ?_)
      · have h9 : True := trivial
        refine lv_aload_n hx hb dX6_see_30 rfl (lv_at hl 0 rfl) ?_
        refine va_get (D := D) (ci := 6) (v := .ref (ad 43)) (C := RX6) (T := TX6) (N := 9) hx hb hT inX6 hown hK hP 0 rfl rfl 2 (by decide) (hT _ q_178) (fun _ h9 => h9) rfl dX6_see_31 ?_
        have g_8 : -2147483648 ≤ S 10 0 ∧ S 10 0 < 2147483648 := hR 10 0 (by decide)
        refine va_get (D := D) (ci := 4) (v := .int (zI (S 10 0))) (C := RX4) (T := TX4) (N := 7) hx hb hT inX4 hown hK hP 3 rfl rfl 3 (by decide) (hT _ q_83) (fun _ h9 => h9) rfl dX6_see_34 ?_
        refine z_bipush hx hb dX6_see_37 (by decide) ?_
        refine z_icmp_lt (tgt := 45) hx hb (by omega) (by omega) (by omega) (by omega) dX6_see_39 (by decide) (fun c_9 => ?_) (fun c_9 => ?_)
        · have h9 : True := trivial
          refine lv_aload_n hx hb dX6_see_45 rfl (lv_at hl 0 rfl) ?_
          refine va_get (D := D) (ci := 6) (v := .ref (ad 43)) (C := RX6) (T := TX6) (N := 9) hx hb hT inX6 hown hK hP 0 rfl rfl 2 (by decide) (hT _ q_178) (fun _ h9 => h9) rfl dX6_see_46 ?_
          refine lv_iload_n hx hb dX6_see_49 rfl (lv_at hl 1 rfl) ?_
          refine lv_iload_n hx hb dX6_see_50 rfl (lv_at hl 2 rfl) ?_
          refine lv_iload_n hx hb dX6_see_51 rfl (lv_at hl 3 rfl) ?_
          refine g_callVv (As := [.int (zI (x)), .int (zI (y)), .int (zI (z))]) (rest := []) ⟨hx, hb, hml, hown, hts⟩ (k_X4_addSeen l D cI cZ ad az av hinj S hR (m9) (hm9) (by omega) x y z (by omega) (by omega) (by omega) (by omega) (hz)) (cwV 3 hts (gV hsub q_569 q_570 q_571 q_4 q_572) rfl rfl rfl hdX4_addSeen ⟨Nat.le_of_ble_eq_true rfl, Nat.le_of_ble_eq_true rfl⟩) (cEb D cI cZ ad az av) (cEk D cI cZ ad az av) hE (va_recv (ci := 4) (q0 := 3) hK hP rfl rfl) hP hS rfl hl.1 rfl (Nat.le_of_ble_eq_true rfl) dX6_see_52 ⟨Nat.le_of_ble_eq_true rfl, Nat.le_of_ble_eq_true rfl⟩ (fun S_11 H locs hq_12 hP hR hS _ => ?_)
          obtain rfl := hq_12
          have hP : va_P D vwCl (cW cI cZ ad (sA (sA (sA (sA S 11 (uZ (S 11) m9 x)) 12 (uZ (S 12) m9 y)) 13 (uZ (S 13) m9 z)) 10 (fun _ => ↑m9 + 1))) H := hP
          have hR : RS (sA (sA (sA (sA S 11 (uZ (S 11) m9 x)) 12 (uZ (S 12) m9 y)) 13 (uZ (S 13) m9 z)) 10 (fun _ => ↑m9 + 1)) := hR
          refine lv_aload_n hx hb dX6_see_55 rfl (lv_at hl 0 rfl) ?_
          refine va_get (D := D) (ci := 6) (v := .ref (ad 43)) (C := RX6) (T := TX6) (N := 9) hx hb hT inX6 hown hK hP 0 rfl rfl 2 (by decide) (hT _ q_178) (fun _ h9 => h9) rfl dX6_see_56 ?_
          refine va_get (D := D) (ci := 4) (v := .int (zI (↑m9 + 1))) (C := RX4) (T := TX4) (N := 7) hx hb hT inX4 hown hK hP 3 rfl rfl 3 (by decide) (hT _ q_83) (fun _ h9 => h9) rfl dX6_see_59 ?_
          refine g_iret (S1 := sA (sA (sA (sA S 11 (uZ (S 11) m9 x)) 12 (uZ (S 12) m9 y)) 13 (uZ (S 13) m9 z)) 10 (fun _ => ↑m9 + 1)) (v := zI (↑m9 + 1)) hx hb hr hlocks hP hR hS ?_ dX6_see_62
          exact Or.inr (Or.inr (Or.inr ⟨(by unfold isL; omega), by omega, by omega, rfl, rfl⟩))
        · have h9 : True := trivial
          refine z_bipush hx hb dX6_see_42 (by decide) ?_
          exact g_iret (S1 := S) (v := zI (-104)) hx hb hr hlocks hP hR hS (Or.inr (Or.inr (Or.inl ⟨(by unfold isL; omega), by omega, by omega, rfl, rfl⟩))) dX6_see_44
      · have h9 : True := trivial
        refine z_bipush hx hb dX6_see_27 (by decide) ?_
        exact g_iret (S1 := S) (v := zI (-102)) hx hb hr hlocks hP hR hS (Or.inr (Or.inl ⟨(by unfold isL; omega), by omega, rfl, rfl⟩)) dX6_see_29
  · have h9 : True := trivial
    have c_4 : ¬ (0 ≤ x ∧ x ≤ S 2 0 - 1) := of_decide_eq_false c_4
    refine z_bipush hx hb dX6_see_8 (by decide) ?_
    exact g_iret (S1 := S) (v := zI (-101)) hx hb hr hlocks hP hR hS (Or.inl ⟨by unfold isL; omega, rfl, rfl⟩) dX6_see_10
set_option maxHeartbeats 4000000 in
set_option maxRecDepth 100000 in
theorem k_X6_forget (l : Launch) (D : va_G) (cI cZ : ClassId) (ad : Nat → Nat) (az av : Nat) (hinj : cInj ad) (S : St) (hR : RS S)  : Met l yX6_forget (Cond.code yX6_forget cX6_forget 2 (some .int) :: lwT) ({ frames := 0, cells := 0, slots := 0, locals := 0 }) (gPc D (cW cI cZ ad) (cE D cI cZ ad az av) S [.ref (ad 40)]) (va_Qi (fun (r : Int32) (S' : St) => S' = sA S 10 (fun _ => 0) ∧ r = zI (S 10 0)) (gB D (cW cI cZ ad)) (cA ad)) 0 0 (cA ad) := by
  refine Met.ofW (cc := cX6_forget) (maxL := 2) (ret := (some .int)) (by decide) rfl ?_
  intro p e s m args below meth c s₁ B hml hv
  obtain ⟨rfl, hP, hE⟩ := hv
  have hx := B.exec
  have hb := B.bytes
  have hr := B.returns
  have hts := atoms_spec (ws := Cond.code yX6_forget cX6_forget 2 (some .int) :: lwT) B.pre
  have hT := fun w (h : w ∈ lwT) => hts w (List.mem_cons_of_mem _ h)
  have hsub : ∀ w ∈ lwT, w ∈ (Cond.code yX6_forget cX6_forget 2 (some .int) :: lwT) := fun w h => List.mem_cons_of_mem _ h
  have hown : s.vm.findClass RX6 = some m.cls := findClass_of_methodNamed B.named
  have hlocks := B.notSynchronized
  have hK : va_K D vwCl [(cI, .int), (cZ, .boolean)] s := hE.1
  have hS : va_S (cA ad) s.heap s.heap [] := va_S.rf
  have hl := lv_entry ([.ref (ad 40)]) (n := 2) (Nat.le_of_ble_eq_true rfl)
  rw [lg_entry_eq]
  generalize (lg_sl ([.ref (ad 40)]) ++ List.replicate (2 - (lg_sl ([.ref (ad 40)])).length) Slot.unset).toArray = ls at hl ⊢
  have hl : lv_has ls 2 [(0, .ref (ad 40))] := hl
  refine lv_aload_n hx hb dX6_forget_0 rfl (lv_at hl 0 rfl) ?_
  refine va_get (D := D) (ci := 6) (v := .ref (ad 43)) (C := RX6) (T := TX6) (N := 9) hx hb hT inX6 hown hK hP 0 rfl rfl 2 (by decide) (hT _ q_178) (fun _ h9 => h9) rfl dX6_forget_1 ?_
  have g_1 : -2147483648 ≤ S 10 0 ∧ S 10 0 < 2147483648 := hR 10 0 (by decide)
  refine va_get (D := D) (ci := 4) (v := .int (zI (S 10 0))) (C := RX4) (T := TX4) (N := 7) hx hb hT inX4 hown hK hP 3 rfl rfl 3 (by decide) (hT _ q_83) (fun _ h9 => h9) rfl dX6_forget_4 ?_
  refine lv_istore_n (lv' := [(1, .int (zI (S 10 0))), (0, .ref (ad 40))]) hx hb dX6_forget_7 rfl hl (by decide) rfl (fun ls hl => ?_)
  refine lv_aload_n hx hb dX6_forget_8 rfl (lv_at hl 1 rfl) ?_
  refine va_get (D := D) (ci := 6) (v := .ref (ad 43)) (C := RX6) (T := TX6) (N := 9) hx hb hT inX6 hown hK hP 0 rfl rfl 2 (by decide) (hT _ q_178) (fun _ h9 => h9) rfl dX6_forget_9 ?_
  refine z_iconst hx hb dX6_forget_12 ?_
  refine va_put (D := D) (ci := 4) (v := .int (zI (0))) (ty := .int) (C := RX4) (T := TX4) (N := 7) hx hb hT inX4 tyX4 tyX4_ok nmX4 hown hK hP (cD hinj cI cZ _) hS 3 rfl rfl 3 (by decide) (hT _ q_83) (fun _ h9 => h9) rfl (by decide +kernel) rfl rfl (Nat.le_of_ble_eq_true rfl) dX6_forget_13 (fun H locs hP _ hS => ?_)
  have hP : va_P D vwCl (cW cI cZ ad (sA S 10 (fun _ => 0))) H := hP
  have hR : RS (sA S 10 (fun _ => 0)) := hR.one (by omega) (by omega)
  refine lv_iload_n hx hb dX6_forget_16 rfl (lv_at hl 0 rfl) ?_
  exact g_iret (S1 := sA S 10 (fun _ => 0)) (v := zI (S 10 0)) hx hb hr hlocks hP hR hS (⟨rfl, rfl⟩) dX6_forget_17
set_option maxHeartbeats 4000000 in
set_option maxRecDepth 100000 in
theorem k_X6_could (l : Launch) (D : va_G) (cI cZ : ClassId) (ad : Nat → Nat) (az av : Nat) (hinj : cInj ad) (S : St) (hR : RS S) (n N : Nat) (t : Nat → Int) (hT9 : cTab n N t S) (hV : cVer n N t S) (k0 : Nat) (hk8 : S 8 0 = ↑k0) (hk0 : n ≠ 0 → k0 < N) (m9 : Nat) (hse : seOK n m9 S) : Met l yX6_could (Cond.code yX6_could cX6_could 1 (some .int) :: lwT) ({ frames := 3, cells := 0, slots := 0, locals := 67 }) (gPc D (cW cI cZ ad) (cE D cI cZ ad az av) S [.ref (ad 40)]) (va_Qi (fun (r : Int32) (S' : St) => S' = S ∧ r = zI (coF n N t (sgC (S 11) (S 12) (S 13)) m9)) (gB D (cW cI cZ ad)) (cA ad)) 0 0 (cA ad) := by
  refine Met.ofW (cc := cX6_could) (maxL := 1) (ret := (some .int)) (by decide) rfl ?_
  intro p e s m args below meth c s₁ B hml hv
  obtain ⟨rfl, hP, hE⟩ := hv
  have hx := B.exec
  have hb := B.bytes
  have hr := B.returns
  have hts := atoms_spec (ws := Cond.code yX6_could cX6_could 1 (some .int) :: lwT) B.pre
  have hT := fun w (h : w ∈ lwT) => hts w (List.mem_cons_of_mem _ h)
  have hsub : ∀ w ∈ lwT, w ∈ (Cond.code yX6_could cX6_could 1 (some .int) :: lwT) := fun w h => List.mem_cons_of_mem _ h
  have hown : s.vm.findClass RX6 = some m.cls := findClass_of_methodNamed B.named
  have hlocks := B.notSynchronized
  have hK : va_K D vwCl [(cI, .int), (cZ, .boolean)] s := hE.1
  have hS : va_S (cA ad) s.heap s.heap [] := va_S.rf
  have hT8 := hT9
  have hTo := hT9
  obtain ⟨⟨hn, hN, hn7, hN4⟩, hn0, hO9, hso, htb⟩ := hTo
  have hl := lv_entry ([.ref (ad 40)]) (n := 1) (Nat.le_of_ble_eq_true rfl)
  rw [lg_entry_eq]
  generalize (lg_sl ([.ref (ad 40)]) ++ List.replicate (1 - (lg_sl ([.ref (ad 40)])).length) Slot.unset).toArray = ls at hl ⊢
  have hl : lv_has ls 1 [(0, .ref (ad 40))] := hl
  refine lv_aload_n hx hb dX6_could_0 rfl (lv_at hl 0 rfl) ?_
  refine g_callVi (As := []) (rest := []) ⟨hx, hb, hml, hown, hts⟩ (k_X6_isWithoutStrip l D cI cZ ad az av hinj S hR ) (cwV 0 hts (gV hsub q_462 q_464 q_sX6_isWithoutStrip q_1 q_465) rfl rfl rfl hdX6_isWithoutStrip ⟨Nat.le_of_ble_eq_true rfl, Nat.le_of_ble_eq_true rfl⟩) (cEb D cI cZ ad az av) (cEk D cI cZ ad az av) hE (va_recv (ci := 6) (q0 := 0) hK hP rfl rfl) hP hS rfl hl.1 rfl (Nat.le_of_ble_eq_true rfl) dX6_could_1 ⟨Nat.le_of_ble_eq_true rfl, Nat.le_of_ble_eq_true rfl⟩ (fun r_1 S_2 H locs hq_3 hP hR hS _ => ?_)
  obtain ⟨hs9, rfl⟩ := hq_3
  obtain rfl := hs9.symm
  refine z_top (b := b2 (decide (S 2 0 = 0))) rfl ?_
  refine z_ifeqB (tgt := 10) hx hb dX6_could_4 (by decide) (fun c_4 => ?_) (fun c_4 => ?_)
  · have h9 : True := trivial
    have c_4 : ¬ (S 2 0 = 0) := of_decide_eq_false c_4
    have hnz : n ≠ 0 := by omega
    have hkN := hk0 hnz
    have hO := hO9 hnz
    have hpk := (hO.2.1 k0 hkN).2.1
    refine lv_aload_n hx hb dX6_could_10 rfl (lv_at hl 0 rfl) ?_
    refine va_get (D := D) (ci := 6) (v := .ref (ad 47)) (C := RX6) (T := TX6) (N := 9) hx hb hT inX6 hown hK hP 0 rfl rfl 6 (by decide) (hT _ q_182) (fun _ h9 => h9) rfl dX6_could_11 ?_
    refine g_callVi (As := []) (rest := []) ⟨hx, hb, hml, hown, hts⟩ (k_X1_countPossible l D cI cZ ad az av hinj S hR n N t hT8 m9 hse) (cwV 0 hts (gV hsub q_581 q_582 q_583 q_7 q_584) rfl rfl rfl hdX1_countPossible ⟨Nat.le_of_ble_eq_true rfl, Nat.le_of_ble_eq_true rfl⟩) (cEb D cI cZ ad az av) (cEk D cI cZ ad az av) hE (va_recv (ci := 1) (q0 := 7) hK hP rfl rfl) hP hS rfl hl.1 rfl (Nat.le_of_ble_eq_true rfl) dX6_could_14 ⟨Nat.le_of_ble_eq_true rfl, Nat.le_of_ble_eq_true rfl⟩ (fun r_5 S_6 H locs hq_7 hP hR hS _ => ?_)
    obtain ⟨hs9, rfl⟩ := hq_7
    obtain rfl := hs9.symm
    refine z_top (b := cnt (fun k => pB (lkC n (dgF n (t k)) (S 11) (S 12) (S 13) m9)) N) rfl ?_
    exact g_iret (S1 := S) (v := zI (cnt (fun k => pB (lkC n (dgF n (t k)) (S 11) (S 12) (S 13) m9)) N)) hx hb hr hlocks hP hR hS (⟨rfl, by unfold coF; rw [if_neg (by omega), cnt_lk]⟩) dX6_could_17
  · have h9 : True := trivial
    have c_4 : S 2 0 = 0 := of_decide_eq_true c_4
    refine z_bipush hx hb dX6_could_7 (by decide) ?_
    exact g_iret (S1 := S) (v := zI (-103)) hx hb hr hlocks hP hR hS (⟨rfl, by unfold coF; rw [if_pos (by omega)]⟩) dX6_could_9
set_option maxHeartbeats 4000000 in
set_option maxRecDepth 100000 in
theorem k_X6_trial (l : Launch) (D : va_G) (cI cZ : ClassId) (ad : Nat → Nat) (az av : Nat) (hinj : cInj ad) (S : St) (hR : RS S) (n N : Nat) (t : Nat → Int) (hT9 : cTab n N t S) (hV : cVer n N t S) (k0 : Nat) (hk8 : S 8 0 = ↑k0) (hk0 : n ≠ 0 → k0 < N) (m9 : Nat) (hse : seOK n m9 S) : Met l yX6_trial (Cond.code yX6_trial cX6_trial 1 (some .int) :: lwT) ({ frames := 4, cells := 0, slots := 0, locals := 95 }) (gPc D (cW cI cZ ad) (cE D cI cZ ad az av) S [.ref (ad 40)]) (va_Qi (fun (r : Int32) (S' : St) => ∃ e31, S' = sA S 31 e31 ∧ ∃ v, trialR n N t (sgC (S 11) (S 12) (S 13)) m9 v ∧ r = zI v) (gB D (cW cI cZ ad)) (cA ad)) 0 0 (cA ad) := by
  refine Met.ofW (cc := cX6_trial) (maxL := 1) (ret := (some .int)) (by decide) rfl ?_
  intro p e s m args below meth c s₁ B hml hv
  obtain ⟨rfl, hP, hE⟩ := hv
  have hx := B.exec
  have hb := B.bytes
  have hr := B.returns
  have hts := atoms_spec (ws := Cond.code yX6_trial cX6_trial 1 (some .int) :: lwT) B.pre
  have hT := fun w (h : w ∈ lwT) => hts w (List.mem_cons_of_mem _ h)
  have hsub : ∀ w ∈ lwT, w ∈ (Cond.code yX6_trial cX6_trial 1 (some .int) :: lwT) := fun w h => List.mem_cons_of_mem _ h
  have hown : s.vm.findClass RX6 = some m.cls := findClass_of_methodNamed B.named
  have hlocks := B.notSynchronized
  have hK : va_K D vwCl [(cI, .int), (cZ, .boolean)] s := hE.1
  have hS : va_S (cA ad) s.heap s.heap [] := va_S.rf
  have hT8 := hT9
  have hTo := hT9
  obtain ⟨⟨hn, hN, hn7, hN4⟩, hn0, hO9, hso, htb⟩ := hTo
  have hl := lv_entry ([.ref (ad 40)]) (n := 1) (Nat.le_of_ble_eq_true rfl)
  rw [lg_entry_eq]
  generalize (lg_sl ([.ref (ad 40)]) ++ List.replicate (1 - (lg_sl ([.ref (ad 40)])).length) Slot.unset).toArray = ls at hl ⊢
  have hl : lv_has ls 1 [(0, .ref (ad 40))] := hl
  refine lv_aload_n hx hb dX6_trial_0 rfl (lv_at hl 0 rfl) ?_
  refine g_callVi (As := []) (rest := []) ⟨hx, hb, hml, hown, hts⟩ (k_X6_isWithoutStrip l D cI cZ ad az av hinj S hR ) (cwV 0 hts (gV hsub q_462 q_464 q_sX6_isWithoutStrip q_1 q_465) rfl rfl rfl hdX6_isWithoutStrip ⟨Nat.le_of_ble_eq_true rfl, Nat.le_of_ble_eq_true rfl⟩) (cEb D cI cZ ad az av) (cEk D cI cZ ad az av) hE (va_recv (ci := 6) (q0 := 0) hK hP rfl rfl) hP hS rfl hl.1 rfl (Nat.le_of_ble_eq_true rfl) dX6_trial_1 ⟨Nat.le_of_ble_eq_true rfl, Nat.le_of_ble_eq_true rfl⟩ (fun r_1 S_2 H locs hq_3 hP hR hS _ => ?_)
  obtain ⟨hs9, rfl⟩ := hq_3
  obtain rfl := hs9.symm
  refine z_top (b := b2 (decide (S 2 0 = 0))) rfl ?_
  refine z_ifeqB (tgt := 10) hx hb dX6_trial_4 (by decide) (fun c_4 => ?_) (fun c_4 => ?_)
  · have h9 : True := trivial
    have c_4 : ¬ (S 2 0 = 0) := of_decide_eq_false c_4
    have hnz : n ≠ 0 := by omega
    have hkN := hk0 hnz
    have hO := hO9 hnz
    have hpk := (hO.2.1 k0 hkN).2.1
    refine lv_aload_n hx hb dX6_trial_10 rfl (lv_at hl 0 rfl) ?_
    refine va_get (D := D) (ci := 6) (v := .ref (ad 47)) (C := RX6) (T := TX6) (N := 9) hx hb hT inX6 hown hK hP 0 rfl rfl 6 (by decide) (hT _ q_182) (fun _ h9 => h9) rfl dX6_trial_11 ?_
    refine g_callVi (As := []) (rest := []) ⟨hx, hb, hml, hown, hts⟩ (k_X1_bestTry l D cI cZ ad az av hinj S hR n N t hT8 m9 hse hnz) (cwV 0 hts (gV hsub q_594 q_595 q_596 q_7 q_597) rfl rfl rfl hdX1_bestTry ⟨Nat.le_of_ble_eq_true rfl, Nat.le_of_ble_eq_true rfl⟩) (cEb D cI cZ ad az av) (cEk D cI cZ ad az av) hE (va_recv (ci := 1) (q0 := 7) hK hP rfl rfl) hP hS rfl hl.1 rfl (Nat.le_of_ble_eq_true rfl) dX6_trial_14 ⟨Nat.le_of_ble_eq_true rfl, Nat.le_of_ble_eq_true rfl⟩ (fun r_5 S_6 H locs hq_7 hP hR hS _ => ?_)
    obtain ⟨e_8, rfl, xt_9, hA_10, rfl⟩ := hq_7
    have g_11 := argm_r hA_10
    refine z_top (b := trF n xt_9) rfl ?_
    exact g_iret (S1 := sA S 31 e_8) (v := zI (trF n xt_9)) hx hb hr hlocks hP hR hS (⟨_, rfl, _, Or.inr ⟨hnz, _, tri_c hA_10, rfl⟩, rfl⟩) dX6_trial_17
  · have h9 : True := trivial
    have c_4 : S 2 0 = 0 := of_decide_eq_true c_4
    refine z_bipush hx hb dX6_trial_7 (by decide) ?_
    have hSe_12 : S = sA S 31 (S 31) := by
      funext k8
      by_cases e80 : k8 = 31
      · subst e80; first | rfl | (funext j8; rfl)
      simp [sA, e80]
    rw [hSe_12] at hP hR
    exact g_iret (S1 := sA S 31 (S 31)) (v := zI (-103)) hx hb hr hlocks hP hR hS (⟨_, rfl, _, Or.inl ⟨by omega, rfl⟩, rfl⟩) dX6_trial_9
set_option maxHeartbeats 4000000 in
set_option maxRecDepth 100000 in
theorem k_X6_shuffles (l : Launch) (D : va_G) (cI cZ : ClassId) (ad : Nat → Nat) (az av : Nat) (hinj : cInj ad) (S : St) (hR : RS S) (n N : Nat) (t : Nat → Int) (hT9 : cTab n N t S) (hV : cVer n N t S) (k0 : Nat) (hk8 : S 8 0 = ↑k0) (hk0 : n ≠ 0 → k0 < N) (x sd w : Int) (hx1 : -2147483648 ≤ x) (hx2 : x < 2147483648) (hsd1 : -2147483648 ≤ sd) (hsd2 : sd < 2147483648) (hw1 : -2147483648 ≤ w) (hw2 : w < 2147483648) : Met l yX6_shuffles (Cond.code yX6_shuffles cX6_shuffles 11 (some .int) :: lwT) ({ frames := 3, cells := 0, slots := 0, locals := 69 }) (gPc D (cW cI cZ ad) (cE D cI cZ ad az av) S [.ref (ad 40), .int (zI (x)), .int (zI (sd)), .int (zI (w))]) (va_Qi (fun (r : Int32) (S' : St) => ∃ v, S' = S ∧ shufR n N t (dgF n (t k0)) x sd w v ∧ r = zI v) (gB D (cW cI cZ ad)) (cA ad)) 0 0 (cA ad) := by
  refine Met.ofW (cc := cX6_shuffles) (maxL := 11) (ret := (some .int)) (by decide) rfl ?_
  intro p e s m args below meth c s₁ B hml hv
  obtain ⟨rfl, hP, hE⟩ := hv
  have hx := B.exec
  have hb := B.bytes
  have hr := B.returns
  have hts := atoms_spec (ws := Cond.code yX6_shuffles cX6_shuffles 11 (some .int) :: lwT) B.pre
  have hT := fun w (h : w ∈ lwT) => hts w (List.mem_cons_of_mem _ h)
  have hsub : ∀ w ∈ lwT, w ∈ (Cond.code yX6_shuffles cX6_shuffles 11 (some .int) :: lwT) := fun w h => List.mem_cons_of_mem _ h
  have hown : s.vm.findClass RX6 = some m.cls := findClass_of_methodNamed B.named
  have hlocks := B.notSynchronized
  have hK : va_K D vwCl [(cI, .int), (cZ, .boolean)] s := hE.1
  have hS : va_S (cA ad) s.heap s.heap [] := va_S.rf
  have hT8 := hT9
  have hTo := hT9
  obtain ⟨⟨hn, hN, hn7, hN4⟩, hn0, hO9, hso, htb⟩ := hTo
  have hl := lv_entry ([.ref (ad 40), .int (zI (x)), .int (zI (sd)), .int (zI (w))]) (n := 11) (Nat.le_of_ble_eq_true rfl)
  rw [lg_entry_eq]
  generalize (lg_sl ([.ref (ad 40), .int (zI (x)), .int (zI (sd)), .int (zI (w))]) ++ List.replicate (11 - (lg_sl ([.ref (ad 40), .int (zI (x)), .int (zI (sd)), .int (zI (w))])).length) Slot.unset).toArray = ls at hl ⊢
  have hl : lv_has ls 11 [(0, .ref (ad 40)), (1, .int (zI (x))), (2, .int (zI (sd))), (3, .int (zI (w)))] := hl
  refine lv_iload_n hx hb dX6_shuffles_0 rfl (lv_at hl 1 rfl) ?_
  refine z_iconst hx hb dX6_shuffles_1 ?_
  refine z_icmp_lt (tgt := 24) hx hb (by omega) (by omega) (by omega) (by omega) dX6_shuffles_2 (by decide) (fun c_1 => ?_) (fun c_1 => ?_)
  · have h9 : True := trivial
    refine z_bipush hx hb dX6_shuffles_24 (by decide) ?_
    exact g_iret (S1 := S) (v := zI (-102)) hx hb hr hlocks hP hR hS (⟨_, rfl, Or.inl ⟨by omega, rfl⟩, rfl⟩) dX6_shuffles_26
  · have h9 : True := trivial
    refine lv_iload_n hx hb dX6_shuffles_5 rfl (lv_at hl 1 rfl) ?_
    refine z_bipush hx hb dX6_shuffles_6 (by decide) ?_
    refine z_icmp_gt (tgt := 24) hx hb (by omega) (by omega) (by omega) (by omega) dX6_shuffles_8 (by decide) (fun c_2 => ?_) (fun c_2 => ?_)
    · have h9 : True := trivial
      refine z_bipush hx hb dX6_shuffles_24 (by decide) ?_
      exact g_iret (S1 := S) (v := zI (-102)) hx hb hr hlocks hP hR hS (⟨_, rfl, Or.inl ⟨by omega, rfl⟩, rfl⟩) dX6_shuffles_26
    · have h9 : True := trivial
      refine lv_iload_n hx hb dX6_shuffles_11 rfl (lv_at hl 2 rfl) ?_
      refine z_if_lt (tgt := 24) hx hb (by omega) (by omega) dX6_shuffles_12 (by decide) (fun c_3 => ?_) (fun c_3 => ?_)
      · have h9 : True := trivial
        refine z_bipush hx hb dX6_shuffles_24 (by decide) ?_
        exact g_iret (S1 := S) (v := zI (-102)) hx hb hr hlocks hP hR hS (⟨_, rfl, Or.inl ⟨by omega, rfl⟩, rfl⟩) dX6_shuffles_26
      · have h9 : True := trivial
        refine lv_iload_n hx hb dX6_shuffles_15 rfl (lv_at hl 3 rfl) ?_
        refine z_if_lt (tgt := 24) hx hb (by omega) (by omega) dX6_shuffles_16 (by decide) (fun c_4 => ?_) (fun c_4 => ?_)
        · have h9 : True := trivial
          refine z_bipush hx hb dX6_shuffles_24 (by decide) ?_
          exact g_iret (S1 := S) (v := zI (-102)) hx hb hr hlocks hP hR hS (⟨_, rfl, Or.inl ⟨by omega, rfl⟩, rfl⟩) dX6_shuffles_26
        · have h9 : True := trivial
          refine lv_iload_n hx hb dX6_shuffles_19 rfl (lv_at hl 3 rfl) ?_
          refine z_iconst hx hb dX6_shuffles_20 ?_
          refine z_icmp_le (tgt := 27) hx hb (by omega) (by omega) (by omega) (by omega) dX6_shuffles_21 (by decide) (fun c_5 => ?_) (fun c_5 => ?_)
          · have h9 : True := trivial
            refine lv_aload_n hx hb dX6_shuffles_27 rfl (lv_at hl 0 rfl) ?_
            refine g_callVi (As := []) (rest := []) ⟨hx, hb, hml, hown, hts⟩ (k_X6_isWithoutStrip l D cI cZ ad az av hinj S hR ) (cwV 0 hts (gV hsub q_462 q_464 q_sX6_isWithoutStrip q_1 q_465) rfl rfl rfl hdX6_isWithoutStrip ⟨Nat.le_of_ble_eq_true rfl, Nat.le_of_ble_eq_true rfl⟩) (cEb D cI cZ ad az av) (cEk D cI cZ ad az av) hE (va_recv (ci := 6) (q0 := 0) hK hP rfl rfl) hP hS rfl hl.1 rfl (Nat.le_of_ble_eq_true rfl) dX6_shuffles_28 ⟨Nat.le_of_ble_eq_true rfl, Nat.le_of_ble_eq_true rfl⟩ (fun r_6 S_7 H locs hq_8 hP hR hS _ => ?_)
            obtain ⟨hs9, rfl⟩ := hq_8
            obtain rfl := hs9.symm
            refine z_top (b := b2 (decide (S 2 0 = 0))) rfl ?_
            refine z_ifeqB (tgt := 37) hx hb dX6_shuffles_31 (by decide) (fun c_9 => ?_) (fun c_9 => ?_)
            · have h9 : True := trivial
              have c_9 : ¬ (S 2 0 = 0) := of_decide_eq_false c_9
              have hnz : n ≠ 0 := by omega
              have hkN := hk0 hnz
              have hO := hO9 hnz
              have hpk := (hO.2.1 k0 hkN).2.1
              have hnp : 0 < n := by omega
              refine lv_aload_n hx hb dX6_shuffles_37 rfl (lv_at hl 0 rfl) ?_
              refine va_get (D := D) (ci := 6) (v := .ref (ad 43)) (C := RX6) (T := TX6) (N := 9) hx hb hT inX6 hown hK hP 0 rfl rfl 2 (by decide) (hT _ q_178) (fun _ h9 => h9) rfl dX6_shuffles_38 ?_
              have g_10 : -2147483648 ≤ S 8 0 ∧ S 8 0 < 2147483648 := hR 8 0 (by decide)
              refine va_get (D := D) (ci := 4) (v := .int (zI (S 8 0))) (C := RX4) (T := TX4) (N := 7) hx hb hT inX4 hown hK hP 3 rfl rfl 1 (by decide) (hT _ q_78) (fun _ h9 => h9) rfl dX6_shuffles_41 ?_
              refine lv_istore (lv' := [(4, .int (zI (S 8 0))), (0, .ref (ad 40)), (1, .int (zI (x))), (2, .int (zI (sd))), (3, .int (zI (w)))]) hx hb dX6_shuffles_44 hl (by decide) rfl (fun ls hl => ?_)
              refine z_iconst hx hb dX6_shuffles_46 ?_
              refine lv_istore (lv' := [(5, .int (zI (0))), (4, .int (zI (S 8 0))), (0, .ref (ad 40)), (1, .int (zI (x))), (2, .int (zI (sd))), (3, .int (zI (w)))]) hx hb dX6_shuffles_47 hl (by decide) rfl (fun ls hl => ?_)
              refine lv_iload_n hx hb dX6_shuffles_49 rfl (lv_at hl 4 rfl) ?_
              refine lv_istore (lv' := [(6, .int (zI (sd))), (5, .int (zI (0))), (4, .int (zI (S 8 0))), (0, .ref (ad 40)), (1, .int (zI (x))), (2, .int (zI (sd))), (3, .int (zI (w)))]) hx hb dX6_shuffles_50 hl (by decide) rfl (fun ls hl => ?_)
              refine z_iconst hx hb dX6_shuffles_52 ?_
              refine lv_istore (lv' := [(7, .int (zI (0))), (6, .int (zI (sd))), (5, .int (zI (0))), (4, .int (zI (S 8 0))), (0, .ref (ad 40)), (1, .int (zI (x))), (2, .int (zI (sd))), (3, .int (zI (w)))]) hx hb dX6_shuffles_53 hl (by decide) rfl (fun ls hl => ?_)
              have cut_55 : ∀ (k9 : Nat) (i : Nat) (o : Nat) (zo : Int) (dn : Int) (xs : Int) (H : Heap) (locs : List Loc) (ls : Array Slot), (↑i ≤ x) → (zo = ↑o) → (o < N) → (t o = cdF (shI n (dgF n (t k0)) sd i).1 n) → (dn = (shI n (dgF n (t k0)) sd i).2.2) → (xs = (shI n (dgF n (t k0)) sd i).2.1) → (0 ≤ dn ∧ dn ≤ ↑i) → ((x - ↑i).toNat) < k9 → va_P D vwCl (cW cI cZ ad S) H → RS S → va_S (cA ad) s.heap H locs → lv_has ls 11 [(0, .ref (ad 40)), (1, .int (zI (x))), (2, .int (zI (sd))), (3, .int (zI (w))), (4, .int (zI (zo))), (5, .int (zI (dn))), (6, .int (zI (xs))), (7, .int (zI (↑i)))] → W p l e (headSpec (Cond.code yX6_shuffles cX6_shuffles 11 (some .int) :: lwT) ({ frames := 3, cells := 0, slots := 0, locals := 69 })).room s m ([.ref (ad 40), .int (zI (x)), .int (zI (sd)), .int (zI (w))] : List Value).toArray below meth c H locs 0 0 (MQ below (va_Qi (fun (r : Int32) (S' : St) => ∃ v, S' = S ∧ shufR n N t (dgF n (t k0)) x sd w v ∧ r = zI v) (gB D (cW cI cZ ad)) (cA ad)) ([.ref (ad 40), .int (zI (x)), .int (zI (sd)), .int (zI (w))] : List Value).toArray s 0 0 (cA ad)) (F0 m 55 ls []) := by
                intro k9
                induction k9 with
                | zero =>
                  intro i o zo dn xs H locs ls hi hzo ho hot hdn hls hdr hk9 hP hR hS hl
                  exact absurd hk9 (Nat.not_lt_zero _)
                | succ k9 ih_55 =>
                  intro i o zo dn xs H locs ls hi hzo ho hot hdn hls hdr hk9 hP hR hS hl
                  refine lv_iload hx hb dX6_shuffles_55 (lv_at hl 7 rfl) ?_
                  refine lv_iload_n hx hb dX6_shuffles_57 rfl (lv_at hl 1 rfl) ?_
                  refine z_icmp_ge (tgt := 140) hx hb (by omega) (by omega) (by omega) (by omega) dX6_shuffles_58 (by decide) (fun c_11 => ?_) (fun c_11 => ?_)
                  · have h9 : True := trivial
                    have hix : i = x.toNat := by omega
                    rw [hix] at hot hdn hls
                    refine lv_iload_n hx hb dX6_shuffles_140 rfl (lv_at hl 3 rfl) ?_
                    refine z_if_ne (tgt := 147) hx hb (by omega) (by omega) dX6_shuffles_141 (by decide) (fun c_12 => ?_) (fun c_12 => ?_)
                    · have h9 : True := trivial
                      refine lv_iload_n hx hb dX6_shuffles_147 rfl (lv_at hl 3 rfl) ?_
                      refine z_iconst hx hb dX6_shuffles_148 ?_
                      refine z_icmp_ne (tgt := 157) hx hb (by omega) (by omega) (by omega) (by omega) dX6_shuffles_149 (by decide) (fun c_13 => ?_) (fun c_13 => ?_)
                      · have h9 : True := trivial
                        refine lv_iload hx hb dX6_shuffles_157 (lv_at hl 6 rfl) ?_
                        exact g_iret (S1 := S) (v := zI (xs)) hx hb hr hlocks hP hR hS (⟨_, rfl, Or.inr (Or.inr ⟨by omega, hnz, Or.inr (Or.inr ⟨by omega, hls⟩)⟩), rfl⟩) dX6_shuffles_159
                      · have h9 : True := trivial
                        refine lv_iload hx hb dX6_shuffles_152 (lv_at hl 4 rfl) ?_
                        refine lv_goto (tgt := 159) hx hb dX6_shuffles_154 (by decide) ?_
                        exact g_iret (S1 := S) (v := zI (zo)) hx hb hr hlocks hP hR hS (⟨_, rfl, Or.inr (Or.inr ⟨by omega, hnz, Or.inr (Or.inl ⟨by omega, o, ho, hot, hzo⟩)⟩), rfl⟩) dX6_shuffles_159
                    · have h9 : True := trivial
                      refine lv_iload hx hb dX6_shuffles_144 (lv_at hl 5 rfl) ?_
                      exact g_iret (S1 := S) (v := zI (dn)) hx hb hr hlocks hP hR hS (⟨_, rfl, Or.inr (Or.inr ⟨by omega, hnz, Or.inl ⟨by omega, hdn⟩⟩), rfl⟩) dX6_shuffles_146
                  · have h9 : True := trivial
                    have hxr : 0 ≤ xs ∧ xs < 2147483648 := by rw [hls]; exact shI_r n (dgF n (t k0)) (by omega) i
                    obtain ⟨hdd, hA, hBB⟩ := shI_t (s0 := sd) hO hn7 hnp hpk ho hot
                    rw [← hls] at hA hBB
                    have hd1 := dr_lt hnp (sdF xs)
                    have hd2 := dr_lt hnp (sdF (sdF xs))
                    have hdn1 := Int.emod_nonneg (sdF xs / 65536) (show (n : Int) ≠ 0 by omega)
                    have hdn2 := Int.emod_nonneg (sdF (sdF xs) / 65536) (show (n : Int) ≠ 0 by omega)
                    refine lv_iload hx hb dX6_shuffles_61 (lv_at hl 6 rfl) ?_
                    refine s_callSi (As := [.int (zI (xs))]) (rest := []) ⟨hx, hb, hml, hown, hts⟩ (k_X6_seedAfter l xs (by omega) (by omega)) (cwS 1 hts (gS hsub q_610 q_611 q_1 q_612) rfl rfl rfl hdX6_seedAfter ⟨Nat.le_of_ble_eq_true rfl, Nat.le_of_ble_eq_true rfl⟩) rfl hl.1 rfl (Nat.le_of_ble_eq_true rfl) dX6_shuffles_63 ⟨Nat.le_of_ble_eq_true rfl, Nat.le_of_ble_eq_true rfl⟩ (fun r_14 hq_16 => ?_)
                    rw [hq_16]
                    have g_17 := sdF_r xs
                    refine lv_istore (lv' := [(8, .int (zI (sdF xs))), (0, .ref (ad 40)), (1, .int (zI (x))), (2, .int (zI (sd))), (3, .int (zI (w))), (4, .int (zI (zo))), (5, .int (zI (dn))), (6, .int (zI (xs))), (7, .int (zI (↑i)))]) hx hb dX6_shuffles_66 hl (by decide) rfl (fun ls hl => ?_)
                    refine lv_iload hx hb dX6_shuffles_68 (lv_at hl 0 rfl) ?_
                    refine s_callSi (As := [.int (zI (sdF xs))]) (rest := []) ⟨hx, hb, hml, hown, hts⟩ (k_X6_seedAfter l (sdF xs) (by omega) (by omega)) (cwS 1 hts (gS hsub q_610 q_611 q_1 q_612) rfl rfl rfl hdX6_seedAfter ⟨Nat.le_of_ble_eq_true rfl, Nat.le_of_ble_eq_true rfl⟩) rfl hl.1 rfl (Nat.le_of_ble_eq_true rfl) dX6_shuffles_70 ⟨Nat.le_of_ble_eq_true rfl, Nat.le_of_ble_eq_true rfl⟩ (fun r_18 hq_20 => ?_)
                    rw [hq_20]
                    have g_21 := sdF_r (sdF xs)
                    refine lv_istore (lv' := [(9, .int (zI (sdF (sdF xs)))), (8, .int (zI (sdF xs))), (0, .ref (ad 40)), (1, .int (zI (x))), (2, .int (zI (sd))), (3, .int (zI (w))), (4, .int (zI (zo))), (5, .int (zI (dn))), (6, .int (zI (xs))), (7, .int (zI (↑i)))]) hx hb dX6_shuffles_73 hl (by decide) rfl (fun ls hl => ?_)
                    refine lv_aload_n hx hb dX6_shuffles_75 rfl (lv_at hl 2 rfl) ?_
                    refine va_get (D := D) (ci := 6) (v := .ref (ad 42)) (C := RX6) (T := TX6) (N := 9) hx hb hT inX6 hown hK hP 0 rfl rfl 1 (by decide) (hT _ q_177) (fun _ h9 => h9) rfl dX6_shuffles_76 ?_
                    refine lv_iload hx hb dX6_shuffles_79 (lv_at hl 6 rfl) ?_
                    refine lv_iload hx hb dX6_shuffles_81 (lv_at hl 1 rfl) ?_
                    refine lv_aload_n hx hb dX6_shuffles_83 rfl (lv_at hl 2 rfl) ?_
                    refine va_get (D := D) (ci := 6) (v := .ref (ad 42)) (C := RX6) (T := TX6) (N := 9) hx hb hT inX6 hown hK hP 0 rfl rfl 1 (by decide) (hT _ q_177) (fun _ h9 => h9) rfl dX6_shuffles_84 ?_
                    have g_22 : -2147483648 ≤ S 2 0 ∧ S 2 0 < 2147483648 := hR 2 0 (by decide)
                    refine va_get (D := D) (ci := 0) (v := .int (zI (S 2 0))) (C := RX0) (T := TX0) (N := 5) hx hb hT inX0 hown hK hP 2 rfl rfl 0 (by decide) (hT _ q_48) (fun _ h9 => h9) rfl dX6_shuffles_87 ?_
                    refine s_callSi (As := [.int (zI (sdF xs)), .int (zI (S 2 0))]) (rest := [.int (zI (zo)), .ref (ad 42)]) ⟨hx, hb, hml, hown, hts⟩ (k_X6_draw l (sdF xs) (S 2 0) (by omega) (by omega) (by omega) (by omega)) (cwS 2 hts (gS hsub q_616 q_617 q_1 q_618) rfl rfl rfl hdX6_draw ⟨Nat.le_of_ble_eq_true rfl, Nat.le_of_ble_eq_true rfl⟩) rfl hl.1 rfl (Nat.le_of_ble_eq_true rfl) dX6_shuffles_90 ⟨Nat.le_of_ble_eq_true rfl, Nat.le_of_ble_eq_true rfl⟩ (fun r_23 hq_25 => ?_)
                    rw [hq_25]
                    refine lv_iload hx hb dX6_shuffles_93 (lv_at hl 0 rfl) ?_
                    refine lv_aload_n hx hb dX6_shuffles_95 rfl (lv_at hl 2 rfl) ?_
                    refine va_get (D := D) (ci := 6) (v := .ref (ad 42)) (C := RX6) (T := TX6) (N := 9) hx hb hT inX6 hown hK hP 0 rfl rfl 1 (by decide) (hT _ q_177) (fun _ h9 => h9) rfl dX6_shuffles_96 ?_
                    refine va_get (D := D) (ci := 0) (v := .int (zI (S 2 0))) (C := RX0) (T := TX0) (N := 5) hx hb hT inX0 hown hK hP 2 rfl rfl 0 (by decide) (hT _ q_48) (fun _ h9 => h9) rfl dX6_shuffles_99 ?_
                    refine s_callSi (As := [.int (zI (sdF (sdF xs))), .int (zI (S 2 0))]) (rest := [.int (zI ((sdF xs) / 65536 % (S 2 0))), .int (zI (zo)), .ref (ad 42)]) ⟨hx, hb, hml, hown, hts⟩ (k_X6_draw l (sdF (sdF xs)) (S 2 0) (by omega) (by omega) (by omega) (by omega)) (cwS 2 hts (gS hsub q_616 q_617 q_1 q_618) rfl rfl rfl hdX6_draw ⟨Nat.le_of_ble_eq_true rfl, Nat.le_of_ble_eq_true rfl⟩) rfl hl.1 rfl (Nat.le_of_ble_eq_true rfl) dX6_shuffles_102 ⟨Nat.le_of_ble_eq_true rfl, Nat.le_of_ble_eq_true rfl⟩ (fun r_26 hq_28 => ?_)
                    rw [hq_28]
                    refine g_callVi (As := [.int (zI (zo)), .int (zI ((sdF xs) / 65536 % (S 2 0))), .int (zI ((sdF (sdF xs)) / 65536 % (S 2 0)))]) (rest := []) ⟨hx, hb, hml, hown, hts⟩ (k_X0_afterMove l D cI cZ ad az av hinj S hR n N t hT8 o (sdF xs / 65536 % ↑n).toNat (sdF (sdF xs) / 65536 % ↑n).toNat zo ((sdF xs) / 65536 % (S 2 0)) ((sdF (sdF xs)) / 65536 % (S 2 0)) hzo (by rw [hn]; exact (Int.toNat_of_nonneg hdn1).symm) (by rw [hn]; exact (Int.toNat_of_nonneg hdn2).symm) ho hd1 hd2) (cwV 3 hts (gV hsub q_432 q_433 q_434 q_3 q_435) rfl rfl rfl hdX0_afterMove ⟨Nat.le_of_ble_eq_true rfl, Nat.le_of_ble_eq_true rfl⟩) (cEb D cI cZ ad az av) (cEk D cI cZ ad az av) hE (va_recv (ci := 0) (q0 := 2) hK hP rfl rfl) hP hS rfl hl.1 rfl (Nat.le_of_ble_eq_true rfl) dX6_shuffles_105 ⟨Nat.le_of_ble_eq_true rfl, Nat.le_of_ble_eq_true rfl⟩ (fun r_29 S_30 H locs hq_31 hP hR hS _ => ?_)
                    obtain ⟨hs9, rfl⟩ := hq_31
                    obtain rfl := hs9.symm
                    refine z_top (b := amF n N t o ((sdF xs / 65536 % ↑n).toNat) ((sdF (sdF xs) / 65536 % ↑n).toNat)) rfl ?_
                    have hmr := am_r (n := n) (N := N) (t := t) (k := o) (v := (sdF xs / 65536 % ↑n).toNat) (q := (sdF (sdF xs) / 65536 % ↑n).toNat)
                    refine lv_istore (lv' := [(10, .int (zI (amF n N t o ((sdF xs / 65536 % ↑n).toNat) ((sdF (sdF xs) / 65536 % ↑n).toNat)))), (9, .int (zI (sdF (sdF xs)))), (8, .int (zI (sdF xs))), (0, .ref (ad 40)), (1, .int (zI (x))), (2, .int (zI (sd))), (3, .int (zI (w))), (4, .int (zI (zo))), (5, .int (zI (dn))), (6, .int (zI (xs))), (7, .int (zI (↑i)))]) hx hb dX6_shuffles_108 hl (by decide) rfl (fun ls hl => ?_)
                    refine lv_iload hx hb dX6_shuffles_110 (lv_at hl 0 rfl) ?_
                    refine z_iconst hx hb dX6_shuffles_112 ?_
                    refine z_icmp_eq (tgt := 130) hx hb (by omega) (by omega) (by omega) (by omega) dX6_shuffles_113 (by decide) (fun c_32 => ?_) (fun c_32 => ?_)
                    · have h9 : True := trivial
                      refine lv_iload hx hb dX6_shuffles_130 (lv_at hl 1 rfl) ?_
                      refine lv_istore (lv' := [(6, .int (zI (sdF (sdF xs)))), (10, .int (zI (amF n N t o ((sdF xs / 65536 % ↑n).toNat) ((sdF (sdF xs) / 65536 % ↑n).toNat)))), (9, .int (zI (sdF (sdF xs)))), (8, .int (zI (sdF xs))), (0, .ref (ad 40)), (1, .int (zI (x))), (2, .int (zI (sd))), (3, .int (zI (w))), (4, .int (zI (zo))), (5, .int (zI (dn))), (7, .int (zI (↑i)))]) hx hb dX6_shuffles_132 hl (by decide) rfl (fun ls hl => ?_)
                      refine z_iinc (lv' := [(7, .int (zI (↑i + 1))), (6, .int (zI (sdF (sdF xs)))), (10, .int (zI (amF n N t o ((sdF xs / 65536 % ↑n).toNat) ((sdF (sdF xs) / 65536 % ↑n).toNat)))), (9, .int (zI (sdF (sdF xs)))), (8, .int (zI (sdF xs))), (0, .ref (ad 40)), (1, .int (zI (x))), (2, .int (zI (sd))), (3, .int (zI (w))), (4, .int (zI (zo))), (5, .int (zI (dn)))]) hx hb dX6_shuffles_134 hl (k := 10) rfl (by decide) rfl (fun ls hl => ?_)
                      refine lv_goto (tgt := 55) hx hb dX6_shuffles_137 (by decide) ?_
                      clear hBB
                      have hA9 := hA (by omega)
                      clear hA
                      exact ih_55 (i + 1) o zo dn (sdF (sdF xs)) _ _ _ (by omega) (hzo) (ho) (hot.trans (congrArg (fun q => cdF q.1 n) hA9).symm) (hdn.trans (congrArg (fun q => q.2.2) hA9).symm) ((congrArg (fun q => q.2.1) hA9).symm) (by omega) (by omega) hP hR hS (lv_sub hl [5, 6, 7, 8, 9, 10, 1, 0] rfl)
                    · have h9 : True := trivial
                      refine lv_iload hx hb dX6_shuffles_116 (lv_at hl 0 rfl) ?_
                      refine lv_iload hx hb dX6_shuffles_118 (lv_at hl 7 rfl) ?_
                      refine z_icmp_eq (tgt := 130) hx hb (by omega) (by omega) (by omega) (by omega) dX6_shuffles_120 (by decide) (fun c_33 => ?_) (fun c_33 => ?_)
                      · have h9 : True := trivial
                        refine lv_iload hx hb dX6_shuffles_130 (lv_at hl 1 rfl) ?_
                        refine lv_istore (lv' := [(6, .int (zI (sdF (sdF xs)))), (10, .int (zI (amF n N t o ((sdF xs / 65536 % ↑n).toNat) ((sdF (sdF xs) / 65536 % ↑n).toNat)))), (9, .int (zI (sdF (sdF xs)))), (8, .int (zI (sdF xs))), (0, .ref (ad 40)), (1, .int (zI (x))), (2, .int (zI (sd))), (3, .int (zI (w))), (4, .int (zI (zo))), (5, .int (zI (dn))), (7, .int (zI (↑i)))]) hx hb dX6_shuffles_132 hl (by decide) rfl (fun ls hl => ?_)
                        refine z_iinc (lv' := [(7, .int (zI (↑i + 1))), (6, .int (zI (sdF (sdF xs)))), (10, .int (zI (amF n N t o ((sdF xs / 65536 % ↑n).toNat) ((sdF (sdF xs) / 65536 % ↑n).toNat)))), (9, .int (zI (sdF (sdF xs)))), (8, .int (zI (sdF xs))), (0, .ref (ad 40)), (1, .int (zI (x))), (2, .int (zI (sd))), (3, .int (zI (w))), (4, .int (zI (zo))), (5, .int (zI (dn)))]) hx hb dX6_shuffles_134 hl (k := 10) rfl (by decide) rfl (fun ls hl => ?_)
                        refine lv_goto (tgt := 55) hx hb dX6_shuffles_137 (by decide) ?_
                        clear hBB
                        have hA9 := hA (by omega)
                        clear hA
                        exact ih_55 (i + 1) o zo dn (sdF (sdF xs)) _ _ _ (by omega) (hzo) (ho) (hot.trans (congrArg (fun q => cdF q.1 n) hA9).symm) (hdn.trans (congrArg (fun q => q.2.2) hA9).symm) ((congrArg (fun q => q.2.1) hA9).symm) (by omega) (by omega) hP hR hS (lv_sub hl [5, 6, 7, 8, 9, 10, 1, 0] rfl)
                      · have h9 : True := trivial
                        obtain ⟨y9, hy9, hya, hyt, hys, hyd⟩ := hBB (by omega) (by omega)
                        refine lv_iload hx hb dX6_shuffles_123 (lv_at hl 0 rfl) ?_
                        refine lv_istore (lv' := [(4, .int (zI (amF n N t o ((sdF xs / 65536 % ↑n).toNat) ((sdF (sdF xs) / 65536 % ↑n).toNat)))), (10, .int (zI (amF n N t o ((sdF xs / 65536 % ↑n).toNat) ((sdF (sdF xs) / 65536 % ↑n).toNat)))), (9, .int (zI (sdF (sdF xs)))), (8, .int (zI (sdF xs))), (0, .ref (ad 40)), (1, .int (zI (x))), (2, .int (zI (sd))), (3, .int (zI (w))), (5, .int (zI (dn))), (6, .int (zI (xs))), (7, .int (zI (↑i)))]) hx hb dX6_shuffles_125 hl (by decide) rfl (fun ls hl => ?_)
                        refine z_iinc (lv' := [(5, .int (zI (dn + 1))), (4, .int (zI (amF n N t o ((sdF xs / 65536 % ↑n).toNat) ((sdF (sdF xs) / 65536 % ↑n).toNat)))), (10, .int (zI (amF n N t o ((sdF xs / 65536 % ↑n).toNat) ((sdF (sdF xs) / 65536 % ↑n).toNat)))), (9, .int (zI (sdF (sdF xs)))), (8, .int (zI (sdF xs))), (0, .ref (ad 40)), (1, .int (zI (x))), (2, .int (zI (sd))), (3, .int (zI (w))), (6, .int (zI (xs))), (7, .int (zI (↑i)))]) hx hb dX6_shuffles_127 hl (k := 8) rfl (by decide) rfl (fun ls hl => ?_)
                        refine lv_iload hx hb dX6_shuffles_130 (lv_at hl 3 rfl) ?_
                        refine lv_istore (lv' := [(6, .int (zI (sdF (sdF xs)))), (5, .int (zI (dn + 1))), (4, .int (zI (amF n N t o ((sdF xs / 65536 % ↑n).toNat) ((sdF (sdF xs) / 65536 % ↑n).toNat)))), (10, .int (zI (amF n N t o ((sdF xs / 65536 % ↑n).toNat) ((sdF (sdF xs) / 65536 % ↑n).toNat)))), (9, .int (zI (sdF (sdF xs)))), (8, .int (zI (sdF xs))), (0, .ref (ad 40)), (1, .int (zI (x))), (2, .int (zI (sd))), (3, .int (zI (w))), (7, .int (zI (↑i)))]) hx hb dX6_shuffles_132 hl (by decide) rfl (fun ls hl => ?_)
                        refine z_iinc (lv' := [(7, .int (zI (↑i + 1))), (6, .int (zI (sdF (sdF xs)))), (5, .int (zI (dn + 1))), (4, .int (zI (amF n N t o ((sdF xs / 65536 % ↑n).toNat) ((sdF (sdF xs) / 65536 % ↑n).toNat)))), (10, .int (zI (amF n N t o ((sdF xs / 65536 % ↑n).toNat) ((sdF (sdF xs) / 65536 % ↑n).toNat)))), (9, .int (zI (sdF (sdF xs)))), (8, .int (zI (sdF xs))), (0, .ref (ad 40)), (1, .int (zI (x))), (2, .int (zI (sd))), (3, .int (zI (w)))]) hx hb dX6_shuffles_134 hl (k := 10) rfl (by decide) rfl (fun ls hl => ?_)
                        refine lv_goto (tgt := 55) hx hb dX6_shuffles_137 (by decide) ?_
                        clear hBB hA
                        exact ih_55 (i + 1) y9 (amF n N t o ((sdF xs / 65536 % ↑n).toNat) ((sdF (sdF xs) / 65536 % ↑n).toNat)) (dn + 1) (sdF (sdF xs)) _ _ _ (by omega) (hya) (hy9) (hyt) (by rw [hyd, hdn]) (hys.symm) (by omega) (by omega) hP hR hS (lv_sub hl [7, 8, 9, 10, 3, 2, 1, 0] rfl)
              exact cut_55 _ 0 k0 (S 8 0) 0 sd _ _ _ (by omega) (hk8) (hkN) ((hO.2.1 k0 hkN).2.2.symm) (rfl) (rfl) (by omega) (Nat.lt_succ_self _) hP hR hS (lv_sub hl [4, 5, 6, 7, 3, 2, 1, 0] rfl)
            · have h9 : True := trivial
              have c_9 : S 2 0 = 0 := of_decide_eq_true c_9
              refine z_bipush hx hb dX6_shuffles_34 (by decide) ?_
              exact g_iret (S1 := S) (v := zI (-103)) hx hb hr hlocks hP hR hS (⟨_, rfl, Or.inr (Or.inl ⟨by omega, by omega, rfl⟩), rfl⟩) dX6_shuffles_36
          · have h9 : True := trivial
            refine z_bipush hx hb dX6_shuffles_24 (by decide) ?_
            exact g_iret (S1 := S) (v := zI (-102)) hx hb hr hlocks hP hR hS (⟨_, rfl, Or.inl ⟨by omega, rfl⟩, rfl⟩) dX6_shuffles_26
set_option maxHeartbeats 4000000 in
set_option maxRecDepth 100000 in
theorem k_X6_image (l : Launch) (D : va_G) (cI cZ : ClassId) (ad : Nat → Nat) (az av : Nat) (hinj : cInj ad) (S : St) (hR : RS S) (n N : Nat) (t : Nat → Int) (hT9 : cTab n N t S) (hV : cVer n N t S) (k0 : Nat) (hk8 : S 8 0 = ↑k0) (hk0 : n ≠ 0 → k0 < N) (hth : ∀ j, j < 6 → S 13 j = 0 ∨ S 13 j = 1) : Met l yX6_image (Cond.code yX6_image cX6_image 1 (some .int) :: lwT) ({ frames := 1, cells := 0, slots := 0, locals := 22 }) (gPc D (cW cI cZ ad) (cE D cI cZ ad az av) S [.ref (ad 40)]) (va_Qi (fun (r : Int32) (S' : St) => ∃ e14 e15 e16 e17 e18 e19 e20 e32, S' = sA (sA (sA (sA (sA (sA (sA (sA S 14 e14) 15 e15) 16 e16) 17 e17) 18 e18) 19 e19) 20 e20) 32 e32 ∧ ((n = 0 ∧ r = zI (-103) ∧ S' = S) ∨ (n ≠ 0 ∧ r = zI (S 9 0) ∧ (∀ j, j < 7 → e14 j = S 7 j) ∧ e15 0 = S 8 0 ∧ e16 0 = S 9 0 ∧ e17 0 = S 10 0 ∧ (∀ j, j < 6 → e18 j = S 11 j) ∧ (∀ j, j < 6 → e19 j = S 12 j) ∧ (∀ j, j < 6 → e20 j = S 13 j) ∧ e32 0 = 1))) (gB D (cW cI cZ ad)) (cA ad)) 0 0 (cA ad) := by
  refine Met.ofW (cc := cX6_image) (maxL := 1) (ret := (some .int)) (by decide) rfl ?_
  intro p e s m args below meth c s₁ B hml hv
  obtain ⟨rfl, hP, hE⟩ := hv
  have hx := B.exec
  have hb := B.bytes
  have hr := B.returns
  have hts := atoms_spec (ws := Cond.code yX6_image cX6_image 1 (some .int) :: lwT) B.pre
  have hT := fun w (h : w ∈ lwT) => hts w (List.mem_cons_of_mem _ h)
  have hsub : ∀ w ∈ lwT, w ∈ (Cond.code yX6_image cX6_image 1 (some .int) :: lwT) := fun w h => List.mem_cons_of_mem _ h
  have hown : s.vm.findClass RX6 = some m.cls := findClass_of_methodNamed B.named
  have hlocks := B.notSynchronized
  have hK : va_K D vwCl [(cI, .int), (cZ, .boolean)] s := hE.1
  have hS : va_S (cA ad) s.heap s.heap [] := va_S.rf
  have hT8 := hT9
  have hTo := hT9
  obtain ⟨⟨hn, hN, hn7, hN4⟩, hn0, hO9, hso, htb⟩ := hTo
  have hl := lv_entry ([.ref (ad 40)]) (n := 1) (Nat.le_of_ble_eq_true rfl)
  rw [lg_entry_eq]
  generalize (lg_sl ([.ref (ad 40)]) ++ List.replicate (1 - (lg_sl ([.ref (ad 40)])).length) Slot.unset).toArray = ls at hl ⊢
  have hl : lv_has ls 1 [(0, .ref (ad 40))] := hl
  refine lv_aload_n hx hb dX6_image_0 rfl (lv_at hl 0 rfl) ?_
  refine g_callVi (As := []) (rest := []) ⟨hx, hb, hml, hown, hts⟩ (k_X6_isWithoutStrip l D cI cZ ad az av hinj S hR ) (cwV 0 hts (gV hsub q_462 q_464 q_sX6_isWithoutStrip q_1 q_465) rfl rfl rfl hdX6_isWithoutStrip ⟨Nat.le_of_ble_eq_true rfl, Nat.le_of_ble_eq_true rfl⟩) (cEb D cI cZ ad az av) (cEk D cI cZ ad az av) hE (va_recv (ci := 6) (q0 := 0) hK hP rfl rfl) hP hS rfl hl.1 rfl (Nat.le_of_ble_eq_true rfl) dX6_image_1 ⟨Nat.le_of_ble_eq_true rfl, Nat.le_of_ble_eq_true rfl⟩ (fun r_1 S_2 H locs hq_3 hP hR hS _ => ?_)
  obtain ⟨hs9, rfl⟩ := hq_3
  obtain rfl := hs9.symm
  refine z_top (b := b2 (decide (S 2 0 = 0))) rfl ?_
  refine z_ifeqB (tgt := 10) hx hb dX6_image_4 (by decide) (fun c_4 => ?_) (fun c_4 => ?_)
  · have h9 : True := trivial
    have c_4 : ¬ (S 2 0 = 0) := of_decide_eq_false c_4
    refine lv_aload_n hx hb dX6_image_10 rfl (lv_at hl 0 rfl) ?_
    refine va_get (D := D) (ci := 6) (v := .ref (ad 44)) (C := RX6) (T := TX6) (N := 9) hx hb hT inX6 hown hK hP 0 rfl rfl 3 (by decide) (hT _ q_179) (fun _ h9 => h9) rfl dX6_image_11 ?_
    refine lv_aload_n hx hb dX6_image_14 rfl (lv_at hl 0 rfl) ?_
    refine va_get (D := D) (ci := 6) (v := .ref (ad 43)) (C := RX6) (T := TX6) (N := 9) hx hb hT inX6 hown hK hP 0 rfl rfl 2 (by decide) (hT _ q_178) (fun _ h9 => h9) rfl dX6_image_15 ?_
    refine g_callVv (As := [.ref (ad 43)]) (rest := []) ⟨hx, hb, hml, hown, hts⟩ (k_X4_copyFrom_44 l D cI cZ ad az av hinj S hR (hth)) (cwV 1 hts (gV hsub q_624 q_625 q_626 q_4 q_627) rfl rfl rfl hdX4_copyFrom ⟨Nat.le_of_ble_eq_true rfl, Nat.le_of_ble_eq_true rfl⟩) (cEb D cI cZ ad az av) (cEk D cI cZ ad az av) hE (va_recv (ci := 4) (q0 := 4) hK hP rfl rfl) hP hS rfl hl.1 rfl (Nat.le_of_ble_eq_true rfl) dX6_image_18 ⟨Nat.le_of_ble_eq_true rfl, Nat.le_of_ble_eq_true rfl⟩ (fun S_6 H locs hq_7 hP hR hS _ => ?_)
    obtain ⟨e_8, e_9, e_10, e_11, e_12, e_13, e_14, rfl, q0_15, q1_16, q2_17, q3_18, q4_19, q5_20, q6_21⟩ := hq_7
    refine lv_aload_n hx hb dX6_image_21 rfl (lv_at hl 0 rfl) ?_
    refine z_iconst hx hb dX6_image_22 ?_
    refine va_put (D := D) (ci := 6) (v := .int (zI (1))) (ty := .boolean) (C := RX6) (T := TX6) (N := 9) hx hb hT inX6 tyX6 tyX6_ok nmX6 hown hK hP (cD hinj cI cZ _) hS 0 rfl rfl 7 (by decide) (hT _ q_183) (fun _ h9 => h9) rfl (by decide +kernel) (by decide) (by decide) (Nat.le_of_ble_eq_true rfl) dX6_image_23 (fun H locs hP _ hS => ?_)
    have hP : va_P D vwCl (cW cI cZ ad (sA (sA (sA (sA (sA (sA (sA (sA S 14 e_8) 15 e_9) 16 e_10) 17 e_11) 18 e_12) 19 e_13) 20 e_14) 32 (fun _ => 1))) H := hP
    have hR : RS (sA (sA (sA (sA (sA (sA (sA (sA S 14 e_8) 15 e_9) 16 e_10) 17 e_11) 18 e_12) 19 e_13) 20 e_14) 32 (fun _ => 1)) := hR.one (by omega) (by omega)
    refine lv_aload_n hx hb dX6_image_26 rfl (lv_at hl 0 rfl) ?_
    refine va_get (D := D) (ci := 6) (v := .ref (ad 44)) (C := RX6) (T := TX6) (N := 9) hx hb hT inX6 hown hK hP 0 rfl rfl 3 (by decide) (hT _ q_179) (fun _ h9 => h9) rfl dX6_image_27 ?_
    have g_22 : -2147483648 ≤ e_10 0 ∧ e_10 0 < 2147483648 := hR 16 0 (by decide)
    refine va_get (D := D) (ci := 4) (v := .int (zI (e_10 0))) (C := RX4) (T := TX4) (N := 7) hx hb hT inX4 hown hK hP 4 rfl rfl 2 (by decide) (hT _ q_80) (fun _ h9 => h9) rfl dX6_image_30 ?_
    exact g_iret (S1 := sA (sA (sA (sA (sA (sA (sA (sA S 14 e_8) 15 e_9) 16 e_10) 17 e_11) 18 e_12) 19 e_13) 20 e_14) 32 (fun _ => 1)) (v := zI (e_10 0)) hx hb hr hlocks hP hR hS (⟨_, _, _, _, _, _, _, _, rfl, Or.inr ⟨by omega, by rw [q2_17], q0_15, q1_16, q2_17, q3_18, q4_19, q5_20, q6_21, rfl⟩⟩) dX6_image_33
  · have h9 : True := trivial
    have c_4 : S 2 0 = 0 := of_decide_eq_true c_4
    refine z_bipush hx hb dX6_image_7 (by decide) ?_
    have hSe_23 : S = sA (sA (sA (sA (sA (sA (sA (sA S 14 (S 14)) 15 (S 15)) 16 (S 16)) 17 (S 17)) 18 (S 18)) 19 (S 19)) 20 (S 20)) 32 (S 32) := by
      funext k8
      by_cases e80 : k8 = 14
      · subst e80; first | rfl | (funext j8; rfl)
      by_cases e81 : k8 = 15
      · subst e81; first | rfl | (funext j8; rfl)
      by_cases e82 : k8 = 16
      · subst e82; first | rfl | (funext j8; rfl)
      by_cases e83 : k8 = 17
      · subst e83; first | rfl | (funext j8; rfl)
      by_cases e84 : k8 = 18
      · subst e84; first | rfl | (funext j8; rfl)
      by_cases e85 : k8 = 19
      · subst e85; first | rfl | (funext j8; rfl)
      by_cases e86 : k8 = 20
      · subst e86; first | rfl | (funext j8; rfl)
      by_cases e87 : k8 = 32
      · subst e87; first | rfl | (funext j8; rfl)
      simp [sA, e80, e81, e82, e83, e84, e85, e86, e87]
    rw [hSe_23] at hP hR
    exact g_iret (S1 := sA (sA (sA (sA (sA (sA (sA (sA S 14 (S 14)) 15 (S 15)) 16 (S 16)) 17 (S 17)) 18 (S 18)) 19 (S 19)) 20 (S 20)) 32 (S 32)) (v := zI (-103)) hx hb hr hlocks hP hR hS (⟨_, _, _, _, _, _, _, _, rfl, Or.inl ⟨by omega, rfl, by simp only [sA_self]⟩⟩) dX6_image_9
set_option maxHeartbeats 4000000 in
set_option maxRecDepth 100000 in
theorem k_X6_restore (l : Launch) (D : va_G) (cI cZ : ClassId) (ad : Nat → Nat) (az av : Nat) (hinj : cInj ad) (S : St) (hR : RS S) (n N : Nat) (t : Nat → Int) (hT9 : cTab n N t S) (hV : cVer n N t S) (k0 : Nat) (hk8 : S 8 0 = ↑k0) (hk0 : n ≠ 0 → k0 < N) (hth : ∀ j, j < 6 → S 20 j = 0 ∨ S 20 j = 1) : Met l yX6_restore (Cond.code yX6_restore cX6_restore 1 (some .int) :: lwT) ({ frames := 7, cells := 0, slots := 0, locals := 153 }) (gPc D (cW cI cZ ad) (cE D cI cZ ad az av) S [.ref (ad 40)]) (va_Qi (fun (r : Int32) (S' : St) => ∃ e7 e8 e9 e10 e11 e12 e13 e21 e22 e23, S' = sA (sA (sA (sA (sA (sA (sA (sA (sA (sA S 7 e7) 8 e8) 9 e9) 10 e10) 11 e11) 12 e12) 13 e13) 21 e21) 22 e22) 23 e23 ∧ ((S 32 0 = 0 ∧ r = zI (-103) ∧ S' = S) ∨ (S 32 0 ≠ 0 ∧ r = zI (S 16 0) ∧ cVer n N t S' ∧ (∀ j, j < 7 → e7 j = S 14 j) ∧ e8 0 = S 15 0 ∧ e9 0 = S 16 0 ∧ e10 0 = S 17 0 ∧ (∀ j, j < 6 → e11 j = S 18 j) ∧ (∀ j, j < 6 → e12 j = S 19 j) ∧ (∀ j, j < 6 → e13 j = S 20 j)))) (gB D (cW cI cZ ad)) (cA ad)) 0 0 (cA ad) := by
  refine Met.ofW (cc := cX6_restore) (maxL := 1) (ret := (some .int)) (by decide) rfl ?_
  intro p e s m args below meth c s₁ B hml hv
  obtain ⟨rfl, hP, hE⟩ := hv
  have hx := B.exec
  have hb := B.bytes
  have hr := B.returns
  have hts := atoms_spec (ws := Cond.code yX6_restore cX6_restore 1 (some .int) :: lwT) B.pre
  have hT := fun w (h : w ∈ lwT) => hts w (List.mem_cons_of_mem _ h)
  have hsub : ∀ w ∈ lwT, w ∈ (Cond.code yX6_restore cX6_restore 1 (some .int) :: lwT) := fun w h => List.mem_cons_of_mem _ h
  have hown : s.vm.findClass RX6 = some m.cls := findClass_of_methodNamed B.named
  have hlocks := B.notSynchronized
  have hK : va_K D vwCl [(cI, .int), (cZ, .boolean)] s := hE.1
  have hS : va_S (cA ad) s.heap s.heap [] := va_S.rf
  have hT8 := hT9
  have hTo := hT9
  obtain ⟨⟨hn, hN, hn7, hN4⟩, hn0, hO9, hso, htb⟩ := hTo
  have hl := lv_entry ([.ref (ad 40)]) (n := 1) (Nat.le_of_ble_eq_true rfl)
  rw [lg_entry_eq]
  generalize (lg_sl ([.ref (ad 40)]) ++ List.replicate (1 - (lg_sl ([.ref (ad 40)])).length) Slot.unset).toArray = ls at hl ⊢
  have hl : lv_has ls 1 [(0, .ref (ad 40))] := hl
  refine lv_aload_n hx hb dX6_restore_0 rfl (lv_at hl 0 rfl) ?_
  have g_1 : -2147483648 ≤ S 32 0 ∧ S 32 0 < 2147483648 := hR 32 0 (by decide)
  refine va_get (D := D) (ci := 6) (v := .int (zI (S 32 0))) (C := RX6) (T := TX6) (N := 9) hx hb hT inX6 hown hK hP 0 rfl rfl 7 (by decide) (hT _ q_183) (fun _ h9 => h9) rfl dX6_restore_1 ?_
  refine z_if_ne (tgt := 10) hx hb (by omega) (by omega) dX6_restore_4 (by decide) (fun c_2 => ?_) (fun c_2 => ?_)
  · have h9 : True := trivial
    refine lv_aload_n hx hb dX6_restore_10 rfl (lv_at hl 0 rfl) ?_
    refine va_get (D := D) (ci := 6) (v := .ref (ad 43)) (C := RX6) (T := TX6) (N := 9) hx hb hT inX6 hown hK hP 0 rfl rfl 2 (by decide) (hT _ q_178) (fun _ h9 => h9) rfl dX6_restore_11 ?_
    refine lv_aload_n hx hb dX6_restore_14 rfl (lv_at hl 0 rfl) ?_
    refine va_get (D := D) (ci := 6) (v := .ref (ad 44)) (C := RX6) (T := TX6) (N := 9) hx hb hT inX6 hown hK hP 0 rfl rfl 3 (by decide) (hT _ q_179) (fun _ h9 => h9) rfl dX6_restore_15 ?_
    refine g_callVv (As := [.ref (ad 44)]) (rest := []) ⟨hx, hb, hml, hown, hts⟩ (k_X4_copyFrom_43 l D cI cZ ad az av hinj S hR (hth)) (cwV 1 hts (gV hsub q_624 q_625 q_626 q_4 q_627) rfl rfl rfl hdX4_copyFrom ⟨Nat.le_of_ble_eq_true rfl, Nat.le_of_ble_eq_true rfl⟩) (cEb D cI cZ ad az av) (cEk D cI cZ ad az av) hE (va_recv (ci := 4) (q0 := 3) hK hP rfl rfl) hP hS rfl hl.1 rfl (Nat.le_of_ble_eq_true rfl) dX6_restore_18 ⟨Nat.le_of_ble_eq_true rfl, Nat.le_of_ble_eq_true rfl⟩ (fun S_4 H locs hq_5 hP hR hS _ => ?_)
    obtain ⟨e_6, e_7, e_8, e_9, e_10, e_11, e_12, rfl, q0_13, q1_14, q2_15, q3_16, q4_17, q5_18, q6_19⟩ := hq_5
    refine lv_aload_n hx hb dX6_restore_21 rfl (lv_at hl 0 rfl) ?_
    refine va_get (D := D) (ci := 6) (v := .ref (ad 45)) (C := RX6) (T := TX6) (N := 9) hx hb hT inX6 hown hK hP 0 rfl rfl 4 (by decide) (hT _ q_180) (fun _ h9 => h9) rfl dX6_restore_22 ?_
    refine g_callVv (As := []) (rest := []) ⟨hx, hb, hml, hown, hts⟩ (k_X5_judgeAll l D cI cZ ad az av hinj (sA (sA (sA (sA (sA (sA (sA S 7 e_6) 8 e_7) 9 e_8) 10 e_9) 11 e_10) 12 e_11) 13 e_12) hR n N t hT8) (cwV 0 hts (gV hsub q_347 q_348 q_349 q_5 q_350) rfl rfl rfl hdX5_judgeAll ⟨Nat.le_of_ble_eq_true rfl, Nat.le_of_ble_eq_true rfl⟩) (cEb D cI cZ ad az av) (cEk D cI cZ ad az av) hE (va_recv (ci := 5) (q0 := 5) hK hP rfl rfl) hP hS rfl hl.1 rfl (Nat.le_of_ble_eq_true rfl) dX6_restore_25 ⟨Nat.le_of_ble_eq_true rfl, Nat.le_of_ble_eq_true rfl⟩ (fun S_21 H locs hq_22 hP hR hS _ => ?_)
    obtain ⟨e_23, e_24, e_25, rfl, hj1_26, hj2_27⟩ := hq_22
    refine lv_aload_n hx hb dX6_restore_28 rfl (lv_at hl 0 rfl) ?_
    refine va_get (D := D) (ci := 6) (v := .ref (ad 43)) (C := RX6) (T := TX6) (N := 9) hx hb hT inX6 hown hK hP 0 rfl rfl 2 (by decide) (hT _ q_178) (fun _ h9 => h9) rfl dX6_restore_29 ?_
    have g_28 : -2147483648 ≤ e_8 0 ∧ e_8 0 < 2147483648 := hR 9 0 (by decide)
    refine va_get (D := D) (ci := 4) (v := .int (zI (e_8 0))) (C := RX4) (T := TX4) (N := 7) hx hb hT inX4 hown hK hP 3 rfl rfl 2 (by decide) (hT _ q_80) (fun _ h9 => h9) rfl dX6_restore_32 ?_
    exact g_iret (S1 := sA (sA (sA (sA (sA (sA (sA (sA (sA (sA S 7 e_6) 8 e_7) 9 e_8) 10 e_9) 11 e_10) 12 e_11) 13 e_12) 21 e_23) 22 e_24) 23 e_25) (v := zI (e_8 0)) hx hb hr hlocks hP hR hS (⟨_, _, _, _, _, _, _, _, _, _, rfl, Or.inr ⟨by omega, by rw [q2_15], ⟨hj1_26, hj2_27⟩, q0_13, q1_14, q2_15, q3_16, q4_17, q5_18, q6_19⟩⟩) dX6_restore_35
  · have h9 : True := trivial
    refine z_bipush hx hb dX6_restore_7 (by decide) ?_
    have hSe_29 : S = sA (sA (sA (sA (sA (sA (sA (sA (sA (sA S 7 (S 7)) 8 (S 8)) 9 (S 9)) 10 (S 10)) 11 (S 11)) 12 (S 12)) 13 (S 13)) 21 (S 21)) 22 (S 22)) 23 (S 23) := by
      funext k8
      by_cases e80 : k8 = 7
      · subst e80; first | rfl | (funext j8; rfl)
      by_cases e81 : k8 = 8
      · subst e81; first | rfl | (funext j8; rfl)
      by_cases e82 : k8 = 9
      · subst e82; first | rfl | (funext j8; rfl)
      by_cases e83 : k8 = 10
      · subst e83; first | rfl | (funext j8; rfl)
      by_cases e84 : k8 = 11
      · subst e84; first | rfl | (funext j8; rfl)
      by_cases e85 : k8 = 12
      · subst e85; first | rfl | (funext j8; rfl)
      by_cases e86 : k8 = 13
      · subst e86; first | rfl | (funext j8; rfl)
      by_cases e87 : k8 = 21
      · subst e87; first | rfl | (funext j8; rfl)
      by_cases e88 : k8 = 22
      · subst e88; first | rfl | (funext j8; rfl)
      by_cases e89 : k8 = 23
      · subst e89; first | rfl | (funext j8; rfl)
      simp [sA, e80, e81, e82, e83, e84, e85, e86, e87, e88, e89]
    rw [hSe_29] at hP hR
    exact g_iret (S1 := sA (sA (sA (sA (sA (sA (sA (sA (sA (sA S 7 (S 7)) 8 (S 8)) 9 (S 9)) 10 (S 10)) 11 (S 11)) 12 (S 12)) 13 (S 13)) 21 (S 21)) 22 (S 22)) 23 (S 23)) (v := zI (-103)) hx hb hr hlocks hP hR hS (⟨_, _, _, _, _, _, _, _, _, _, rfl, Or.inl ⟨by omega, rfl, by simp only [sA_self]⟩⟩) dX6_restore_9
set_option maxHeartbeats 4000000 in
set_option maxRecDepth 100000 in
theorem k_X6_count (l : Launch) (D : va_G) (cI cZ : ClassId) (ad : Nat → Nat) (az av : Nat) (hinj : cInj ad) (S : St) (hR : RS S) (n N : Nat) (t : Nat → Int) (hT9 : cTab n N t S) (hV : cVer n N t S) (k0 : Nat) (hk8 : S 8 0 = ↑k0) (hk0 : n ≠ 0 → k0 < N) (w : Int) (hw1 : -2147483648 ≤ w) (hw2 : w < 2147483648) : Met l yX6_count (Cond.code yX6_count cX6_count 2 (some .int) :: lwT) ({ frames := 6, cells := 0, slots := 0, locals := 132 }) (gPc D (cW cI cZ ad) (cE D cI cZ ad az av) S [.ref (ad 40), .int (zI (w))]) (va_Qi (fun (r : Int32) (S' : St) => S' = S ∧ r = zI (ctF n (S 7) (dgF n (t k0)) (S 9 0) (S 10 0) (S 1 0) (S 33 0) w)) (gB D (cW cI cZ ad)) (cA ad)) 0 0 (cA ad) := by
  refine Met.ofW (cc := cX6_count) (maxL := 2) (ret := (some .int)) (by decide) rfl ?_
  intro p e s m args below meth c s₁ B hml hv
  obtain ⟨rfl, hP, hE⟩ := hv
  have hx := B.exec
  have hb := B.bytes
  have hr := B.returns
  have hts := atoms_spec (ws := Cond.code yX6_count cX6_count 2 (some .int) :: lwT) B.pre
  have hT := fun w (h : w ∈ lwT) => hts w (List.mem_cons_of_mem _ h)
  have hsub : ∀ w ∈ lwT, w ∈ (Cond.code yX6_count cX6_count 2 (some .int) :: lwT) := fun w h => List.mem_cons_of_mem _ h
  have hown : s.vm.findClass RX6 = some m.cls := findClass_of_methodNamed B.named
  have hlocks := B.notSynchronized
  have hK : va_K D vwCl [(cI, .int), (cZ, .boolean)] s := hE.1
  have hS : va_S (cA ad) s.heap s.heap [] := va_S.rf
  have hT8 := hT9
  have hTo := hT9
  obtain ⟨⟨hn, hN, hn7, hN4⟩, hn0, hO9, hso, htb⟩ := hTo
  have hl := lv_entry ([.ref (ad 40), .int (zI (w))]) (n := 2) (Nat.le_of_ble_eq_true rfl)
  rw [lg_entry_eq]
  generalize (lg_sl ([.ref (ad 40), .int (zI (w))]) ++ List.replicate (2 - (lg_sl ([.ref (ad 40), .int (zI (w))])).length) Slot.unset).toArray = ls at hl ⊢
  have hl : lv_has ls 2 [(0, .ref (ad 40)), (1, .int (zI (w)))] := hl
  refine lv_iload_n hx hb dX6_count_0 rfl (lv_at hl 1 rfl) ?_
  rcases (show (w < 0 ∨ 9 < w) ∨ w = 0 ∨ w = 1 ∨ w = 2 ∨ w = 3 ∨ w = 4 ∨ w = 5 ∨ w = 6 ∨ w = 7 ∨ w = 8 ∨ w = 9 by omega) with c_1 | c_1 | c_1 | c_1 | c_1 | c_1 | c_1 | c_1 | c_1 | c_1 | c_1
  · refine z_tabOut hx hb (by omega) (by omega) dX6_count_1 c_1 (tgt := 128) (by decide) ?_
    refine z_bipush hx hb dX6_count_128 (by decide) ?_
    exact g_iret (S1 := S) (v := zI (-102)) hx hb hr hlocks hP hR hS (⟨rfl, by unfold ctF; rw [if_neg (by omega), if_neg (by omega), if_neg (by omega), if_neg (by omega), if_neg (by omega), if_neg (by omega), if_neg (by omega), if_neg (by omega), if_neg (by omega), if_neg (by omega)]⟩) dX6_count_130
  · refine z_tabIn hx hb c_1 (by decide) (by decide) dX6_count_1 (by decide) (by decide) (off := 55) (by decide) (tgt := 56) (by decide) ?_
    refine lv_aload_n hx hb dX6_count_56 rfl (lv_at hl 0 rfl) ?_
    refine va_get (D := D) (ci := 6) (v := .ref (ad 42)) (C := RX6) (T := TX6) (N := 9) hx hb hT inX6 hown hK hP 0 rfl rfl 1 (by decide) (hT _ q_177) (fun _ h9 => h9) rfl dX6_count_57 ?_
    have g_2 : -2147483648 ≤ S 2 0 ∧ S 2 0 < 2147483648 := hR 2 0 (by decide)
    refine va_get (D := D) (ci := 0) (v := .int (zI (S 2 0))) (C := RX0) (T := TX0) (N := 5) hx hb hT inX0 hown hK hP 2 rfl rfl 0 (by decide) (hT _ q_48) (fun _ h9 => h9) rfl dX6_count_60 ?_
    exact g_iret (S1 := S) (v := zI (S 2 0)) hx hb hr hlocks hP hR hS (⟨rfl, by unfold ctF; rw [if_pos (by omega), hn]⟩) dX6_count_63
  · refine z_tabIn hx hb c_1 (by decide) (by decide) dX6_count_1 (by decide) (by decide) (off := 63) (by decide) (tgt := 64) (by decide) ?_
    refine lv_aload_n hx hb dX6_count_64 rfl (lv_at hl 0 rfl) ?_
    refine g_callVi (As := []) (rest := []) ⟨hx, hb, hml, hown, hts⟩ (k_X6_wholeThickness l D cI cZ ad az av hinj S hR n N t hT8) (cwV 0 hts (gV hsub q_636 q_638 q_sX6_wholeThickness q_1 q_639) rfl rfl rfl hdX6_wholeThickness ⟨Nat.le_of_ble_eq_true rfl, Nat.le_of_ble_eq_true rfl⟩) (cEb D cI cZ ad az av) (cEk D cI cZ ad az av) hE (va_recv (ci := 6) (q0 := 0) hK hP rfl rfl) hP hS rfl hl.1 rfl (Nat.le_of_ble_eq_true rfl) dX6_count_65 ⟨Nat.le_of_ble_eq_true rfl, Nat.le_of_ble_eq_true rfl⟩ (fun r_3 S_4 H locs hq_5 hP hR hS _ => ?_)
    obtain ⟨hs9, rfl⟩ := hq_5
    obtain rfl := hs9.symm
    refine z_top (b := sm (fun k => thk (S 7 k)) n) rfl ?_
    exact g_iret (S1 := S) (v := zI (sm (fun k => thk (S 7 k)) n)) hx hb hr hlocks hP hR hS (⟨rfl, by unfold ctF; rw [if_neg (by omega), if_pos (by omega)]⟩) dX6_count_68
  · refine z_tabIn hx hb c_1 (by decide) (by decide) dX6_count_1 (by decide) (by decide) (off := 68) (by decide) (tgt := 69) (by decide) ?_
    refine lv_aload_n hx hb dX6_count_69 rfl (lv_at hl 0 rfl) ?_
    refine va_get (D := D) (ci := 6) (v := .ref (ad 45)) (C := RX6) (T := TX6) (N := 9) hx hb hT inX6 hown hK hP 0 rfl rfl 4 (by decide) (hT _ q_180) (fun _ h9 => h9) rfl dX6_count_70 ?_
    refine lv_aload_n hx hb dX6_count_73 rfl (lv_at hl 0 rfl) ?_
    refine va_get (D := D) (ci := 6) (v := .ref (ad 43)) (C := RX6) (T := TX6) (N := 9) hx hb hT inX6 hown hK hP 0 rfl rfl 2 (by decide) (hT _ q_178) (fun _ h9 => h9) rfl dX6_count_74 ?_
    have g_6 : -2147483648 ≤ S 8 0 ∧ S 8 0 < 2147483648 := hR 8 0 (by decide)
    refine va_get (D := D) (ci := 4) (v := .int (zI (S 8 0))) (C := RX4) (T := TX4) (N := 7) hx hb hT inX4 hown hK hP 3 rfl rfl 1 (by decide) (hT _ q_78) (fun _ h9 => h9) rfl dX6_count_77 ?_
    refine g_callVi (As := [.int (zI (S 8 0))]) (rest := []) ⟨hx, hb, hml, hown, hts⟩ (k_X5_widestOf l D cI cZ ad az av hinj S hR n N t hT8 hV (S 8 0) (by omega) (by omega)) (cwV 1 hts (gV hsub q_495 q_496 q_497 q_5 q_498) rfl rfl rfl hdX5_widestOf ⟨Nat.le_of_ble_eq_true rfl, Nat.le_of_ble_eq_true rfl⟩) (cEb D cI cZ ad az av) (cEk D cI cZ ad az av) hE (va_recv (ci := 5) (q0 := 5) hK hP rfl rfl) hP hS rfl hl.1 rfl (Nat.le_of_ble_eq_true rfl) dX6_count_80 ⟨Nat.le_of_ble_eq_true rfl, Nat.le_of_ble_eq_true rfl⟩ (fun r_7 S_8 H locs hq_9 hP hR hS _ => ?_)
    obtain ⟨hs9, rfl⟩ := hq_9
    obtain rfl := hs9.symm
    refine z_top (b := if (0 : Int) ≤ (S 8 0) ∧ ((S 8 0) : Int) < ↑N then wmF n (S 7) (dgF n (t (S 8 0 : Int).toNat)) else 0) rfl ?_
    exact g_iret (S1 := S) (v := zI (if (0 : Int) ≤ (S 8 0) ∧ ((S 8 0) : Int) < ↑N then wmF n (S 7) (dgF n (t (S 8 0 : Int).toNat)) else 0)) hx hb hr hlocks hP hR hS (⟨rfl, by unfold ctF; rw [if_neg (show ¬ w = 0 by omega), if_neg (show ¬ w = 1 by omega), if_pos (show w = 2 by omega)]; exact congrArg zI (wd_now hk0 hn0 hk8)⟩) dX6_count_83
  · refine z_tabIn hx hb c_1 (by decide) (by decide) dX6_count_1 (by decide) (by decide) (off := 83) (by decide) (tgt := 84) (by decide) ?_
    refine lv_aload_n hx hb dX6_count_84 rfl (lv_at hl 0 rfl) ?_
    refine g_callVi (As := []) (rest := []) ⟨hx, hb, hml, hown, hts⟩ (k_X6_openHinges l D cI cZ ad az av hinj S hR n N t hT8 k0 hk8 hk0) (cwV 0 hts (gV hsub q_454 q_456 q_sX6_openHinges q_1 q_457) rfl rfl rfl hdX6_openHinges ⟨Nat.le_of_ble_eq_true rfl, Nat.le_of_ble_eq_true rfl⟩) (cEb D cI cZ ad az av) (cEk D cI cZ ad az av) hE (va_recv (ci := 6) (q0 := 0) hK hP rfl rfl) hP hS rfl hl.1 rfl (Nat.le_of_ble_eq_true rfl) dX6_count_85 ⟨Nat.le_of_ble_eq_true rfl, Nat.le_of_ble_eq_true rfl⟩ (fun r_10 S_11 H locs hq_12 hP hR hS _ => ?_)
    obtain ⟨hs9, rfl⟩ := hq_12
    obtain rfl := hs9.symm
    refine z_top (b := opF n (S 7) (dgF n (t k0))) rfl ?_
    exact g_iret (S1 := S) (v := zI (opF n (S 7) (dgF n (t k0)))) hx hb hr hlocks hP hR hS (⟨rfl, by unfold ctF; rw [if_neg (by omega), if_neg (by omega), if_neg (by omega), if_pos (by omega)]⟩) dX6_count_88
  · refine z_tabIn hx hb c_1 (by decide) (by decide) dX6_count_1 (by decide) (by decide) (off := 88) (by decide) (tgt := 89) (by decide) ?_
    refine lv_aload_n hx hb dX6_count_89 rfl (lv_at hl 0 rfl) ?_
    refine g_callVi (As := []) (rest := []) ⟨hx, hb, hml, hown, hts⟩ (k_X6_contentLeaves l D cI cZ ad az av hinj S hR n N t hT8 hV k0 hk8 hk0) (cwV 0 hts (gV hsub q_640 q_642 q_sX6_contentLeaves q_1 q_643) rfl rfl rfl hdX6_contentLeaves ⟨Nat.le_of_ble_eq_true rfl, Nat.le_of_ble_eq_true rfl⟩) (cEb D cI cZ ad az av) (cEk D cI cZ ad az av) hE (va_recv (ci := 6) (q0 := 0) hK hP rfl rfl) hP hS rfl hl.1 rfl (Nat.le_of_ble_eq_true rfl) dX6_count_90 ⟨Nat.le_of_ble_eq_true rfl, Nat.le_of_ble_eq_true rfl⟩ (fun r_13 S_14 H locs hq_15 hP hR hS _ => ?_)
    obtain ⟨hs9, rfl⟩ := hq_15
    obtain rfl := hs9.symm
    refine z_top (b := cnt (fun q => pB (rgP n (S 7) (dgF n (t k0)) q)) n) rfl ?_
    exact g_iret (S1 := S) (v := zI (cnt (fun q => pB (rgP n (S 7) (dgF n (t k0)) q)) n)) hx hb hr hlocks hP hR hS (⟨rfl, by unfold ctF; rw [if_neg (by omega), if_neg (by omega), if_neg (by omega), if_neg (by omega), if_pos (by omega)]⟩) dX6_count_93
  · refine z_tabIn hx hb c_1 (by decide) (by decide) dX6_count_1 (by decide) (by decide) (off := 93) (by decide) (tgt := 94) (by decide) ?_
    refine lv_aload_n hx hb dX6_count_94 rfl (lv_at hl 0 rfl) ?_
    refine g_callVi (As := []) (rest := []) ⟨hx, hb, hml, hown, hts⟩ (k_X6_possibleMoves l D cI cZ ad az av hinj S hR n N t hT8 hV k0 hk8 hk0) (cwV 0 hts (gV hsub q_644 q_646 q_sX6_possibleMoves q_1 q_647) rfl rfl rfl hdX6_possibleMoves ⟨Nat.le_of_ble_eq_true rfl, Nat.le_of_ble_eq_true rfl⟩) (cEb D cI cZ ad az av) (cEk D cI cZ ad az av) hE (va_recv (ci := 6) (q0 := 0) hK hP rfl rfl) hP hS rfl hl.1 rfl (Nat.le_of_ble_eq_true rfl) dX6_count_95 ⟨Nat.le_of_ble_eq_true rfl, Nat.le_of_ble_eq_true rfl⟩ (fun r_16 S_17 H locs hq_18 hP hR hS _ => ?_)
    obtain ⟨hs9, rfl⟩ := hq_18
    obtain rfl := hs9.symm
    refine z_top (b := mvsF n (dgF n (t k0))) rfl ?_
    exact g_iret (S1 := S) (v := zI (mvsF n (dgF n (t k0)))) hx hb hr hlocks hP hR hS (⟨rfl, by unfold ctF; rw [if_neg (by omega), if_neg (by omega), if_neg (by omega), if_neg (by omega), if_neg (by omega), if_pos (by omega)]⟩) dX6_count_98
  · refine z_tabIn hx hb c_1 (by decide) (by decide) dX6_count_1 (by decide) (by decide) (off := 98) (by decide) (tgt := 99) (by decide) ?_
    refine lv_aload_n hx hb dX6_count_99 rfl (lv_at hl 0 rfl) ?_
    refine va_get (D := D) (ci := 6) (v := .ref (ad 43)) (C := RX6) (T := TX6) (N := 9) hx hb hT inX6 hown hK hP 0 rfl rfl 2 (by decide) (hT _ q_178) (fun _ h9 => h9) rfl dX6_count_100 ?_
    have g_19 : -2147483648 ≤ S 9 0 ∧ S 9 0 < 2147483648 := hR 9 0 (by decide)
    refine va_get (D := D) (ci := 4) (v := .int (zI (S 9 0))) (C := RX4) (T := TX4) (N := 7) hx hb hT inX4 hown hK hP 3 rfl rfl 2 (by decide) (hT _ q_80) (fun _ h9 => h9) rfl dX6_count_103 ?_
    exact g_iret (S1 := S) (v := zI (S 9 0)) hx hb hr hlocks hP hR hS (⟨rfl, by unfold ctF; rw [if_neg (by omega), if_neg (by omega), if_neg (by omega), if_neg (by omega), if_neg (by omega), if_neg (by omega), if_pos (by omega)]⟩) dX6_count_106
  · refine z_tabIn hx hb c_1 (by decide) (by decide) dX6_count_1 (by decide) (by decide) (off := 106) (by decide) (tgt := 107) (by decide) ?_
    refine lv_aload_n hx hb dX6_count_107 rfl (lv_at hl 0 rfl) ?_
    refine va_get (D := D) (ci := 6) (v := .ref (ad 43)) (C := RX6) (T := TX6) (N := 9) hx hb hT inX6 hown hK hP 0 rfl rfl 2 (by decide) (hT _ q_178) (fun _ h9 => h9) rfl dX6_count_108 ?_
    have g_20 : -2147483648 ≤ S 10 0 ∧ S 10 0 < 2147483648 := hR 10 0 (by decide)
    refine va_get (D := D) (ci := 4) (v := .int (zI (S 10 0))) (C := RX4) (T := TX4) (N := 7) hx hb hT inX4 hown hK hP 3 rfl rfl 3 (by decide) (hT _ q_83) (fun _ h9 => h9) rfl dX6_count_111 ?_
    exact g_iret (S1 := S) (v := zI (S 10 0)) hx hb hr hlocks hP hR hS (⟨rfl, by unfold ctF; rw [if_neg (by omega), if_neg (by omega), if_neg (by omega), if_neg (by omega), if_neg (by omega), if_neg (by omega), if_neg (by omega), if_pos (by omega)]⟩) dX6_count_114
  · refine z_tabIn hx hb c_1 (by decide) (by decide) dX6_count_1 (by decide) (by decide) (off := 114) (by decide) (tgt := 115) (by decide) ?_
    refine lv_aload_n hx hb dX6_count_115 rfl (lv_at hl 0 rfl) ?_
    refine va_get (D := D) (ci := 6) (v := .ref (ad 41)) (C := RX6) (T := TX6) (N := 9) hx hb hT inX6 hown hK hP 0 rfl rfl 0 (by decide) (hT _ q_176) (fun _ h9 => h9) rfl dX6_count_116 ?_
    have g_21 : -2147483648 ≤ S 1 0 ∧ S 1 0 < 2147483648 := hR 1 0 (by decide)
    refine va_get (D := D) (ci := 2) (v := .int (zI (S 1 0))) (C := RX2) (T := TX2) (N := 2) hx hb hT inX2 hown hK hP 1 rfl rfl 1 (by decide) (hT _ q_32) (fun _ h9 => h9) rfl dX6_count_119 ?_
    exact g_iret (S1 := S) (v := zI (S 1 0)) hx hb hr hlocks hP hR hS (⟨rfl, by unfold ctF; rw [if_neg (by omega), if_neg (by omega), if_neg (by omega), if_neg (by omega), if_neg (by omega), if_neg (by omega), if_neg (by omega), if_neg (by omega), if_pos (by omega)]⟩) dX6_count_122
  · refine z_tabIn hx hb c_1 (by decide) (by decide) dX6_count_1 (by decide) (by decide) (off := 122) (by decide) (tgt := 123) (by decide) ?_
    refine lv_aload_n hx hb dX6_count_123 rfl (lv_at hl 0 rfl) ?_
    have g_22 : -2147483648 ≤ S 33 0 ∧ S 33 0 < 2147483648 := hR 33 0 (by decide)
    refine va_get (D := D) (ci := 6) (v := .int (zI (S 33 0))) (C := RX6) (T := TX6) (N := 9) hx hb hT inX6 hown hK hP 0 rfl rfl 8 (by decide) (hT _ q_184) (fun _ h9 => h9) rfl dX6_count_124 ?_
    exact g_iret (S1 := S) (v := zI (S 33 0)) hx hb hr hlocks hP hR hS (⟨rfl, by unfold ctF; rw [if_neg (by omega), if_neg (by omega), if_neg (by omega), if_neg (by omega), if_neg (by omega), if_neg (by omega), if_neg (by omega), if_neg (by omega), if_neg (by omega), if_pos (by omega)]⟩) dX6_count_127
set_option maxHeartbeats 4000000 in
set_option maxRecDepth 100000 in
theorem k_X6_withOrders (l : Launch) (D : va_G) (cI cZ : ClassId) (ad : Nat → Nat) (az av : Nat) (hinj : cInj ad) (S : St) (hR : RS S) (n N : Nat) (t : Nat → Int) (hT9 : cTab n N t S) (hV : cVer n N t S) (k0 : Nat) (hk8 : S 8 0 = ↑k0) (hk0 : n ≠ 0 → k0 < N) (m9 : Nat) (hse : seOK n m9 S) (hn2 : 2 ≤ n) (s0 : Int) : Met l yX6_withOrders (Cond.code yX6_withOrders cX6_withOrders 6 (some .long) :: lwT) ({ frames := 4, cells := 0, slots := 0, locals := 87 }) (gPc D (cW cI cZ ad) (cE D cI cZ ad az av) S [.ref (ad 40), .long (zL (s0))]) (va_Ql (fun (r : Int64) (S' : St) => ∃ x : Int, S' = S ∧ argm (ftP n (S 7) t) (fun k => wmF n (S 7) (dgF n (t k))) N x ∧ r = zL (H3 n N (S 7) (dgF n (t k0)) t (sgC (S 11) (S 12) (S 13)) k0 m9 x s0)) (gB D (cW cI cZ ad)) (cA ad)) 0 0 (cA ad) := by
  refine Met.ofW (cc := cX6_withOrders) (maxL := 6) (ret := (some .long)) (by decide) rfl ?_
  intro p e s m args below meth c s₁ B hml hv
  obtain ⟨rfl, hP, hE⟩ := hv
  have hx := B.exec
  have hb := B.bytes
  have hr := B.returns
  have hts := atoms_spec (ws := Cond.code yX6_withOrders cX6_withOrders 6 (some .long) :: lwT) B.pre
  have hT := fun w (h : w ∈ lwT) => hts w (List.mem_cons_of_mem _ h)
  have hsub : ∀ w ∈ lwT, w ∈ (Cond.code yX6_withOrders cX6_withOrders 6 (some .long) :: lwT) := fun w h => List.mem_cons_of_mem _ h
  have hown : s.vm.findClass RX6 = some m.cls := findClass_of_methodNamed B.named
  have hlocks := B.notSynchronized
  have hK : va_K D vwCl [(cI, .int), (cZ, .boolean)] s := hE.1
  have hS : va_S (cA ad) s.heap s.heap [] := va_S.rf
  have hT8 := hT9
  have hTo := hT9
  obtain ⟨⟨hn, hN, hn7, hN4⟩, hn0, hO9, hso, htb⟩ := hTo
  have hnz : n ≠ 0 := by omega
  have hkN := hk0 hnz
  have hO := hO9 hnz
  have hpk := (hO.2.1 k0 hkN).2.1
  obtain ⟨xt, hxt⟩ := argm_ex (ftP n (S 7) t) (fun k => wmF n (S 7) (dgF n (t k))) N
  have hl := lv_entry ([.ref (ad 40), .long (zL (s0))]) (n := 6) (Nat.le_of_ble_eq_true rfl)
  rw [lg_entry_eq]
  generalize (lg_sl ([.ref (ad 40), .long (zL (s0))]) ++ List.replicate (6 - (lg_sl ([.ref (ad 40), .long (zL (s0))])).length) Slot.unset).toArray = ls at hl ⊢
  have hl : lv_has ls 6 [(0, .ref (ad 40)), (1, .long (zL (s0)))] := hl
  refine lv_lload_n hx hb dX6_withOrders_0 rfl (lv_at hl 1 rfl) ?_
  refine lv_lstore_n (lv' := [(3, .long (zL (s0))), (0, .ref (ad 40)), (1, .long (zL (s0)))]) hx hb dX6_withOrders_1 rfl hl (by decide) rfl (fun ls hl => ?_)
  refine z_iconst hx hb dX6_withOrders_2 ?_
  refine lv_istore (lv' := [(5, .int (zI (0))), (3, .long (zL (s0))), (0, .ref (ad 40)), (1, .long (zL (s0)))]) hx hb dX6_withOrders_3 hl (by decide) rfl (fun ls hl => ?_)
  have cut_5 : ∀ (k9 : Nat) (i : Nat) (hh : Int) (H : Heap) (locs : List Loc) (ls : Array Slot), (i ≤ 4) → (hh = itF (fun w h => hx9 h (orsF n N (S 7) (dgF n (t k0)) t k0 ↑w)) s0 i) → (4 - i) < k9 → va_P D vwCl (cW cI cZ ad S) H → RS S → va_S (cA ad) s.heap H locs → lv_has ls 6 [(0, .ref (ad 40)), (3, .long (zL (hh))), (5, .int (zI (↑i)))] → W p l e (headSpec (Cond.code yX6_withOrders cX6_withOrders 6 (some .long) :: lwT) ({ frames := 4, cells := 0, slots := 0, locals := 87 })).room s m ([.ref (ad 40), .long (zL (s0))] : List Value).toArray below meth c H locs 0 0 (MQ below (va_Ql (fun (r : Int64) (S' : St) => ∃ x : Int, S' = S ∧ argm (ftP n (S 7) t) (fun k => wmF n (S 7) (dgF n (t k))) N x ∧ r = zL (H3 n N (S 7) (dgF n (t k0)) t (sgC (S 11) (S 12) (S 13)) k0 m9 x s0)) (gB D (cW cI cZ ad)) (cA ad)) ([.ref (ad 40), .long (zL (s0))] : List Value).toArray s 0 0 (cA ad)) (F0 m 5 ls []) := by
    intro k9
    induction k9 with
    | zero =>
      intro i hh H locs ls hi hh1 hk9 hP hR hS hl
      exact absurd hk9 (Nat.not_lt_zero _)
    | succ k9 ih_5 =>
      intro i hh H locs ls hi hh1 hk9 hP hR hS hl
      refine lv_iload hx hb dX6_withOrders_5 (lv_at hl 2 rfl) ?_
      refine z_iconst hx hb dX6_withOrders_7 ?_
      refine z_icmp_gt (tgt := 31) hx hb (by omega) (by omega) (by omega) (by omega) dX6_withOrders_8 (by decide) (fun c_1 => ?_) (fun c_1 => ?_)
      · have h9 : True := trivial
        refine z_iconst hx hb dX6_withOrders_31 ?_
        refine lv_istore (lv' := [(5, .int (zI (0))), (0, .ref (ad 40)), (3, .long (zL (hh)))]) hx hb dX6_withOrders_32 hl (by decide) rfl (fun ls hl => ?_)
        have cut_34 : ∀ (k9 : Nat) (j : Nat) (h2 : Int) (H : Heap) (locs : List Loc) (ls : Array Slot), (j ≤ 2) → (h2 = itF (fun w h => hx9 h (tmV n (S 7) t xt ↑w)) hh j) → (2 - j) < k9 → va_P D vwCl (cW cI cZ ad S) H → RS S → va_S (cA ad) s.heap H locs → lv_has ls 6 [(0, .ref (ad 40)), (3, .long (zL (h2))), (5, .int (zI (↑j)))] → W p l e (headSpec (Cond.code yX6_withOrders cX6_withOrders 6 (some .long) :: lwT) ({ frames := 4, cells := 0, slots := 0, locals := 87 })).room s m ([.ref (ad 40), .long (zL (s0))] : List Value).toArray below meth c H locs 0 0 (MQ below (va_Ql (fun (r : Int64) (S' : St) => ∃ x : Int, S' = S ∧ argm (ftP n (S 7) t) (fun k => wmF n (S 7) (dgF n (t k))) N x ∧ r = zL (H3 n N (S 7) (dgF n (t k0)) t (sgC (S 11) (S 12) (S 13)) k0 m9 x s0)) (gB D (cW cI cZ ad)) (cA ad)) ([.ref (ad 40), .long (zL (s0))] : List Value).toArray s 0 0 (cA ad)) (F0 m 34 ls []) := by
          intro k9
          induction k9 with
          | zero =>
            intro j h2 H locs ls hj hh2 hk9 hP hR hS hl
            exact absurd hk9 (Nat.not_lt_zero _)
          | succ k9 ih_34 =>
            intro j h2 H locs ls hj hh2 hk9 hP hR hS hl
            refine lv_iload hx hb dX6_withOrders_34 (lv_at hl 2 rfl) ?_
            refine z_iconst hx hb dX6_withOrders_36 ?_
            refine z_icmp_gt (tgt := 60) hx hb (by omega) (by omega) (by omega) (by omega) dX6_withOrders_37 (by decide) (fun c_2 => ?_) (fun c_2 => ?_)
            · have h9 : True := trivial
              refine z_iconst hx hb dX6_withOrders_60 ?_
              refine lv_istore (lv' := [(5, .int (zI (0))), (0, .ref (ad 40)), (3, .long (zL (h2)))]) hx hb dX6_withOrders_61 hl (by decide) rfl (fun ls hl => ?_)
              have cut_63 : ∀ (k9 : Nat) (q : Nat) (h3 : Int) (H : Heap) (locs : List Loc) (ls : Array Slot), (q ≤ 2) → (h3 = itF (fun w h => hx9 h (odV n N (S 7) t ↑w)) h2 q) → (2 - q) < k9 → va_P D vwCl (cW cI cZ ad S) H → RS S → va_S (cA ad) s.heap H locs → lv_has ls 6 [(0, .ref (ad 40)), (3, .long (zL (h3))), (5, .int (zI (↑q)))] → W p l e (headSpec (Cond.code yX6_withOrders cX6_withOrders 6 (some .long) :: lwT) ({ frames := 4, cells := 0, slots := 0, locals := 87 })).room s m ([.ref (ad 40), .long (zL (s0))] : List Value).toArray below meth c H locs 0 0 (MQ below (va_Ql (fun (r : Int64) (S' : St) => ∃ x : Int, S' = S ∧ argm (ftP n (S 7) t) (fun k => wmF n (S 7) (dgF n (t k))) N x ∧ r = zL (H3 n N (S 7) (dgF n (t k0)) t (sgC (S 11) (S 12) (S 13)) k0 m9 x s0)) (gB D (cW cI cZ ad)) (cA ad)) ([.ref (ad 40), .long (zL (s0))] : List Value).toArray s 0 0 (cA ad)) (F0 m 63 ls []) := by
                intro k9
                induction k9 with
                | zero =>
                  intro q h3 H locs ls hq hh3 hk9 hP hR hS hl
                  exact absurd hk9 (Nat.not_lt_zero _)
                | succ k9 ih_63 =>
                  intro q h3 H locs ls hq hh3 hk9 hP hR hS hl
                  refine lv_iload hx hb dX6_withOrders_63 (lv_at hl 2 rfl) ?_
                  refine z_iconst hx hb dX6_withOrders_65 ?_
                  refine z_icmp_gt (tgt := 91) hx hb (by omega) (by omega) (by omega) (by omega) dX6_withOrders_66 (by decide) (fun c_3 => ?_) (fun c_3 => ?_)
                  · have h9 : True := trivial
                    refine lv_ldc2 (v := zL 31) hx hb hown (hT _ q_653) dX6_withOrders_91 ?_
                    refine lv_lload_n hx hb dX6_withOrders_94 rfl (lv_at hl 1 rfl) ?_
                    refine z_lmul hx hb dX6_withOrders_95 ?_
                    refine lv_aload_n hx hb dX6_withOrders_96 rfl (lv_at hl 0 rfl) ?_
                    refine g_callVi (As := []) (rest := [.long (zL (31 * h3))]) ⟨hx, hb, hml, hown, hts⟩ (k_X6_could l D cI cZ ad az av hinj S hR n N t hT8 hV k0 hk8 hk0 m9 hse) (cwV 0 hts (gV hsub q_664 q_578 q_579 q_1 q_580) rfl rfl rfl hdX6_could ⟨Nat.le_of_ble_eq_true rfl, Nat.le_of_ble_eq_true rfl⟩) (cEb D cI cZ ad az av) (cEk D cI cZ ad az av) hE (va_recv (ci := 6) (q0 := 0) hK hP rfl rfl) hP hS rfl hl.1 rfl (Nat.le_of_ble_eq_true rfl) dX6_withOrders_97 ⟨Nat.le_of_ble_eq_true rfl, Nat.le_of_ble_eq_true rfl⟩ (fun r_4 S_5 H locs hq_6 hP hR hS _ => ?_)
                    obtain ⟨hs9, rfl⟩ := hq_6
                    obtain rfl := hs9.symm
                    refine z_top (b := coF n N t (sgC (S 11) (S 12) (S 13)) m9) rfl ?_
                    have hcl := cnt_r (fun k => pB (lkP n (dgF n (t k)) (sgC (S 11) (S 12) (S 13)) m9)) N
                    refine z_top (b := cnt (fun k => pB (lkP n (dgF n (t k)) (sgC (S 11) (S 12) (S 13)) m9)) N) (by unfold coF; rw [if_neg hnz]) ?_
                    refine z_i2l hx hb (by omega) (by omega) dX6_withOrders_100 ?_
                    refine z_ladd hx hb dX6_withOrders_101 ?_
                    exact g_lret (S1 := S) (v := zL ((31 * h3) + (cnt (fun k => pB (lkP n (dgF n (t k)) (sgC (S 11) (S 12) (S 13)) m9)) N))) hx hb hr hlocks hP hR hS (⟨xt, rfl, hxt, by rw [hh3, hh2, hh1, show i = 4 by omega, show j = 2 by omega, show q = 2 by omega]; rfl⟩) dX6_withOrders_102
                  · have h9 : True := trivial
                    refine lv_ldc2 (v := zL 31) hx hb hown (hT _ q_653) dX6_withOrders_69 ?_
                    refine lv_lload_n hx hb dX6_withOrders_72 rfl (lv_at hl 1 rfl) ?_
                    refine z_lmul hx hb dX6_withOrders_73 ?_
                    refine lv_aload_n hx hb dX6_withOrders_74 rfl (lv_at hl 0 rfl) ?_
                    refine z_iconst hx hb dX6_withOrders_75 ?_
                    refine z_iconst hx hb dX6_withOrders_76 ?_
                    refine lv_iload hx hb dX6_withOrders_77 (lv_at hl 2 rfl) ?_
                    refine g_callVi (As := [.int (zI (0)), .int (zI (1)), .int (zI (↑q))]) (rest := [.long (zL (31 * h3))]) ⟨hx, hb, hml, hown, hts⟩ (k_X6_odds l D cI cZ ad az av hinj S hR n N t hT8 hV k0 hk8 hk0 0 1 ↑q (by omega) (by omega) (by omega) (by omega) (by omega) (by omega)) (cwV 3 hts (gV hsub q_663 q_554 q_555 q_1 q_556) rfl rfl rfl hdX6_odds ⟨Nat.le_of_ble_eq_true rfl, Nat.le_of_ble_eq_true rfl⟩) (cEb D cI cZ ad az av) (cEk D cI cZ ad az av) hE (va_recv (ci := 6) (q0 := 0) hK hP rfl rfl) hP hS rfl hl.1 rfl (Nat.le_of_ble_eq_true rfl) dX6_withOrders_79 ⟨Nat.le_of_ble_eq_true rfl, Nat.le_of_ble_eq_true rfl⟩ (fun r_7 S_8 H locs hq_9 hP hR hS _ => ?_)
                    obtain ⟨hs9, rfl⟩ := hq_9
                    obtain rfl := hs9.symm
                    refine z_top (b := oddsF n N (S 7) t 0 1 ↑q) rfl ?_
                    have hodr := odV_r (n := n) (kd := S 7) (t := t) (w := ↑q) hN4 (by omega)
                    refine z_top (b := odV n N (S 7) t ↑q) (by unfold oddsF; rw [if_pos (by omega), if_pos (by omega)]; rfl) ?_
                    refine z_i2l hx hb (by omega) (by omega) dX6_withOrders_82 ?_
                    refine z_ladd hx hb dX6_withOrders_83 ?_
                    refine lv_lstore_n (lv' := [(3, .long (zL ((31 * h3) + (odV n N (S 7) t ↑q)))), (0, .ref (ad 40)), (5, .int (zI (↑q)))]) hx hb dX6_withOrders_84 rfl hl (by decide) rfl (fun ls hl => ?_)
                    refine z_iinc (lv' := [(5, .int (zI (↑q + 1))), (3, .long (zL ((31 * h3) + (odV n N (S 7) t ↑q)))), (0, .ref (ad 40))]) hx hb dX6_withOrders_85 hl (k := 2) rfl (by decide) rfl (fun ls hl => ?_)
                    refine lv_goto (tgt := 63) hx hb dX6_withOrders_88 (by decide) ?_
                    exact ih_63 (q + 1) ((31 * h3) + (odV n N (S 7) t ↑q)) _ _ _ (by omega) (by rw [hh3]; rfl) (by omega) hP hR hS (lv_sub hl [2, 1, 0] rfl)
              exact cut_63 _ 0 h2 _ _ _ (by omega) (rfl) (Nat.lt_succ_self _) hP hR hS (lv_sub hl [1, 2, 0] rfl)
            · have h9 : True := trivial
              refine lv_ldc2 (v := zL 31) hx hb hown (hT _ q_653) dX6_withOrders_40 ?_
              refine lv_lload_n hx hb dX6_withOrders_43 rfl (lv_at hl 1 rfl) ?_
              refine z_lmul hx hb dX6_withOrders_44 ?_
              refine lv_aload_n hx hb dX6_withOrders_45 rfl (lv_at hl 0 rfl) ?_
              refine lv_iload hx hb dX6_withOrders_46 (lv_at hl 2 rfl) ?_
              refine g_callVi (As := [.int (zI (↑j))]) (rest := [.long (zL (31 * h2))]) ⟨hx, hb, hml, hown, hts⟩ (k_X6_trim l D cI cZ ad az av hinj S hR n N t hT8 hV k0 hk8 hk0 ↑j (by omega) (by omega)) (cwV 1 hts (gV hsub q_662 q_546 q_547 q_1 q_548) rfl rfl rfl hdX6_trim ⟨Nat.le_of_ble_eq_true rfl, Nat.le_of_ble_eq_true rfl⟩) (cEb D cI cZ ad az av) (cEk D cI cZ ad az av) hE (va_recv (ci := 6) (q0 := 0) hK hP rfl rfl) hP hS rfl hl.1 rfl (Nat.le_of_ble_eq_true rfl) dX6_withOrders_48 ⟨Nat.le_of_ble_eq_true rfl, Nat.le_of_ble_eq_true rfl⟩ (fun r_10 S_11 H locs hq_12 hP hR hS _ => ?_)
              obtain ⟨vt_13, hs9, hA_14, rfl⟩ := hq_12
              obtain rfl := hs9.symm
              refine z_top (b := vt_13) rfl ?_
              have htr := tmV_r (w := ↑j) hn7 hN4 hxt
              refine z_top (b := tmV n (S 7) t xt ↑j) (tm_of (by omega) hnz hA_14 hxt) ?_
              refine z_i2l hx hb (by omega) (by omega) dX6_withOrders_51 ?_
              refine z_ladd hx hb dX6_withOrders_52 ?_
              refine lv_lstore_n (lv' := [(3, .long (zL ((31 * h2) + (tmV n (S 7) t xt ↑j)))), (0, .ref (ad 40)), (5, .int (zI (↑j)))]) hx hb dX6_withOrders_53 rfl hl (by decide) rfl (fun ls hl => ?_)
              refine z_iinc (lv' := [(5, .int (zI (↑j + 1))), (3, .long (zL ((31 * h2) + (tmV n (S 7) t xt ↑j)))), (0, .ref (ad 40))]) hx hb dX6_withOrders_54 hl (k := 2) rfl (by decide) rfl (fun ls hl => ?_)
              refine lv_goto (tgt := 34) hx hb dX6_withOrders_57 (by decide) ?_
              exact ih_34 (j + 1) ((31 * h2) + (tmV n (S 7) t xt ↑j)) _ _ _ (by omega) (by rw [hh2]; rfl) (by omega) hP hR hS (lv_sub hl [2, 1, 0] rfl)
        exact cut_34 _ 0 hh _ _ _ (by omega) (rfl) (Nat.lt_succ_self _) hP hR hS (lv_sub hl [1, 2, 0] rfl)
      · have h9 : True := trivial
        refine lv_ldc2 (v := zL 31) hx hb hown (hT _ q_653) dX6_withOrders_11 ?_
        refine lv_lload_n hx hb dX6_withOrders_14 rfl (lv_at hl 1 rfl) ?_
        refine z_lmul hx hb dX6_withOrders_15 ?_
        refine lv_aload_n hx hb dX6_withOrders_16 rfl (lv_at hl 0 rfl) ?_
        refine lv_iload hx hb dX6_withOrders_17 (lv_at hl 2 rfl) ?_
        refine g_callVi (As := [.int (zI (↑i))]) (rest := [.long (zL (31 * hh))]) ⟨hx, hb, hml, hown, hts⟩ (k_X6_orders l D cI cZ ad az av hinj S hR n N t hT8 hV k0 hk8 hk0 ↑i (by omega) (by omega)) (cwV 1 hts (gV hsub q_661 q_484 q_485 q_1 q_486) rfl rfl rfl hdX6_orders ⟨Nat.le_of_ble_eq_true rfl, Nat.le_of_ble_eq_true rfl⟩) (cEb D cI cZ ad az av) (cEk D cI cZ ad az av) hE (va_recv (ci := 6) (q0 := 0) hK hP rfl rfl) hP hS rfl hl.1 rfl (Nat.le_of_ble_eq_true rfl) dX6_withOrders_19 ⟨Nat.le_of_ble_eq_true rfl, Nat.le_of_ble_eq_true rfl⟩ (fun r_15 S_16 H locs hq_17 hP hR hS _ => ?_)
        obtain ⟨hs9, rfl⟩ := hq_17
        obtain rfl := hs9.symm
        refine z_top (b := ordersF n N (S 7) (dgF n (t k0)) t k0 ↑i) rfl ?_
        have hor := orsF_r (n := n) (kd := S 7) (f := (dgF n (t k0))) (t := t) (w := ↑i) hN4 hkN
        refine z_top (b := orsF n N (S 7) (dgF n (t k0)) t k0 ↑i) (by unfold ordersF; rw [if_pos (by omega), if_neg hnz]) ?_
        refine z_i2l hx hb (by omega) (by omega) dX6_withOrders_22 ?_
        refine z_ladd hx hb dX6_withOrders_23 ?_
        refine lv_lstore_n (lv' := [(3, .long (zL ((31 * hh) + (orsF n N (S 7) (dgF n (t k0)) t k0 ↑i)))), (0, .ref (ad 40)), (5, .int (zI (↑i)))]) hx hb dX6_withOrders_24 rfl hl (by decide) rfl (fun ls hl => ?_)
        refine z_iinc (lv' := [(5, .int (zI (↑i + 1))), (3, .long (zL ((31 * hh) + (orsF n N (S 7) (dgF n (t k0)) t k0 ↑i)))), (0, .ref (ad 40))]) hx hb dX6_withOrders_25 hl (k := 2) rfl (by decide) rfl (fun ls hl => ?_)
        refine lv_goto (tgt := 5) hx hb dX6_withOrders_28 (by decide) ?_
        exact ih_5 (i + 1) ((31 * hh) + (orsF n N (S 7) (dgF n (t k0)) t k0 ↑i)) _ _ _ (by omega) (by rw [hh1]; rfl) (by omega) hP hR hS (lv_sub hl [2, 1, 0] rfl)
  exact cut_5 _ 0 s0 _ _ _ (by omega) (rfl) (Nat.lt_succ_self _) hP hR hS (lv_sub hl [2, 1, 0] rfl)
set_option maxHeartbeats 4000000 in
set_option maxRecDepth 100000 in
theorem k_X6_digest (l : Launch) (D : va_G) (cI cZ : ClassId) (ad : Nat → Nat) (az av : Nat) (hinj : cInj ad) (S : St) (hR : RS S) (n N : Nat) (t : Nat → Int) (hT9 : cTab n N t S) (hV : cVer n N t S) (k0 : Nat) (hk8 : S 8 0 = ↑k0) (hk0 : n ≠ 0 → k0 < N) (m9 : Nat) (hse : seOK n m9 S) (sz : Nat) (hsz : S 1 0 = ↑sz) (hsz9 : sz ≤ 9) (hn2 : n ≠ 0 → 2 ≤ n) : Met l yX6_digest (Cond.code yX6_digest cX6_digest 5 (some .long) :: lwT) ({ frames := 7, cells := 0, slots := 0, locals := 153 }) (gPc D (cW cI cZ ad) (cE D cI cZ ad az av) S [.ref (ad 40)]) (va_Ql (fun (r : Int64) (S' : St) => ∃ v, S' = S ∧ digR n N (S 7) (dgF n (t k0)) t (sgC (S 11) (S 12) (S 13)) (S 0) k0 m9 (S 9 0) (S 10 0) (S 1 0) (S 33 0) v ∧ r = zL v) (gB D (cW cI cZ ad)) (cA ad)) 0 0 (cA ad) := by
  refine Met.ofW (cc := cX6_digest) (maxL := 5) (ret := (some .long)) (by decide) rfl ?_
  intro p e s m args below meth c s₁ B hml hv
  obtain ⟨rfl, hP, hE⟩ := hv
  have hx := B.exec
  have hb := B.bytes
  have hr := B.returns
  have hts := atoms_spec (ws := Cond.code yX6_digest cX6_digest 5 (some .long) :: lwT) B.pre
  have hT := fun w (h : w ∈ lwT) => hts w (List.mem_cons_of_mem _ h)
  have hsub : ∀ w ∈ lwT, w ∈ (Cond.code yX6_digest cX6_digest 5 (some .long) :: lwT) := fun w h => List.mem_cons_of_mem _ h
  have hown : s.vm.findClass RX6 = some m.cls := findClass_of_methodNamed B.named
  have hlocks := B.notSynchronized
  have hK : va_K D vwCl [(cI, .int), (cZ, .boolean)] s := hE.1
  have hS : va_S (cA ad) s.heap s.heap [] := va_S.rf
  have hT8 := hT9
  have hTo := hT9
  obtain ⟨⟨hn, hN, hn7, hN4⟩, hn0, hO9, hso, htb⟩ := hTo
  have hl := lv_entry ([.ref (ad 40)]) (n := 5) (Nat.le_of_ble_eq_true rfl)
  rw [lg_entry_eq]
  generalize (lg_sl ([.ref (ad 40)]) ++ List.replicate (5 - (lg_sl ([.ref (ad 40)])).length) Slot.unset).toArray = ls at hl ⊢
  have hl : lv_has ls 5 [(0, .ref (ad 40))] := hl
  refine lv_ldc2 (v := zL 1319) hx hb hown (hT _ q_652) dX6_digest_0 ?_
  refine lv_lstore_n (lv' := [(1, .long (zL (1319))), (0, .ref (ad 40))]) hx hb dX6_digest_3 rfl hl (by decide) rfl (fun ls hl => ?_)
  refine z_iconst hx hb dX6_digest_4 ?_
  refine lv_istore_n (lv' := [(3, .int (zI (0))), (1, .long (zL (1319))), (0, .ref (ad 40))]) hx hb dX6_digest_5 rfl hl (by decide) rfl (fun ls hl => ?_)
  have cut_6 : ∀ (k9 : Nat) (i : Nat) (hh : Int) (H : Heap) (locs : List Loc) (ls : Array Slot), (i ≤ n) → (hh = H1 n N (S 7) (dgF n (t k0)) t i) → (n - i) < k9 → va_P D vwCl (cW cI cZ ad S) H → RS S → va_S (cA ad) s.heap H locs → lv_has ls 5 [(0, .ref (ad 40)), (1, .long (zL (hh))), (3, .int (zI (↑i)))] → W p l e (headSpec (Cond.code yX6_digest cX6_digest 5 (some .long) :: lwT) ({ frames := 7, cells := 0, slots := 0, locals := 153 })).room s m ([.ref (ad 40)] : List Value).toArray below meth c H locs 0 0 (MQ below (va_Ql (fun (r : Int64) (S' : St) => ∃ v, S' = S ∧ digR n N (S 7) (dgF n (t k0)) t (sgC (S 11) (S 12) (S 13)) (S 0) k0 m9 (S 9 0) (S 10 0) (S 1 0) (S 33 0) v ∧ r = zL v) (gB D (cW cI cZ ad)) (cA ad)) ([.ref (ad 40)] : List Value).toArray s 0 0 (cA ad)) (F0 m 6 ls []) := by
    intro k9
    induction k9 with
    | zero =>
      intro i hh H locs ls hi hhh hk9 hP hR hS hl
      exact absurd hk9 (Nat.not_lt_zero _)
    | succ k9 ih_6 =>
      intro i hh H locs ls hi hhh hk9 hP hR hS hl
      refine lv_iload_n hx hb dX6_digest_6 rfl (lv_at hl 2 rfl) ?_
      refine lv_aload_n hx hb dX6_digest_7 rfl (lv_at hl 0 rfl) ?_
      refine va_get (D := D) (ci := 6) (v := .ref (ad 42)) (C := RX6) (T := TX6) (N := 9) hx hb hT inX6 hown hK hP 0 rfl rfl 1 (by decide) (hT _ q_177) (fun _ h9 => h9) rfl dX6_digest_8 ?_
      have g_1 : -2147483648 ≤ S 2 0 ∧ S 2 0 < 2147483648 := hR 2 0 (by decide)
      refine va_get (D := D) (ci := 0) (v := .int (zI (S 2 0))) (C := RX0) (T := TX0) (N := 5) hx hb hT inX0 hown hK hP 2 rfl rfl 0 (by decide) (hT _ q_48) (fun _ h9 => h9) rfl dX6_digest_11 ?_
      refine z_icmp_ge (tgt := 83) hx hb (by omega) (by omega) (by omega) (by omega) dX6_digest_14 (by decide) (fun c_2 => ?_) (fun c_2 => ?_)
      · have h9 : True := trivial
        have hin : i = n := by omega
        rw [hin] at hhh
        refine z_iconst hx hb dX6_digest_83 ?_
        refine lv_istore_n (lv' := [(3, .int (zI (0))), (0, .ref (ad 40)), (1, .long (zL (hh)))]) hx hb dX6_digest_84 rfl hl (by decide) rfl (fun ls hl => ?_)
        have cut_85 : ∀ (k9 : Nat) (j : Nat) (h2 : Int) (H : Heap) (locs : List Loc) (ls : Array Slot), (j ≤ n - 1) → (h2 = H2 n N (S 7) (dgF n (t k0)) t j) → (n - j) < k9 → va_P D vwCl (cW cI cZ ad S) H → RS S → va_S (cA ad) s.heap H locs → lv_has ls 5 [(0, .ref (ad 40)), (1, .long (zL (h2))), (3, .int (zI (↑j)))] → W p l e (headSpec (Cond.code yX6_digest cX6_digest 5 (some .long) :: lwT) ({ frames := 7, cells := 0, slots := 0, locals := 153 })).room s m ([.ref (ad 40)] : List Value).toArray below meth c H locs 0 0 (MQ below (va_Ql (fun (r : Int64) (S' : St) => ∃ v, S' = S ∧ digR n N (S 7) (dgF n (t k0)) t (sgC (S 11) (S 12) (S 13)) (S 0) k0 m9 (S 9 0) (S 10 0) (S 1 0) (S 33 0) v ∧ r = zL v) (gB D (cW cI cZ ad)) (cA ad)) ([.ref (ad 40)] : List Value).toArray s 0 0 (cA ad)) (F0 m 85 ls []) := by
          intro k9
          induction k9 with
          | zero =>
            intro j h2 H locs ls hj hh2 hk9 hP hR hS hl
            exact absurd hk9 (Nat.not_lt_zero _)
          | succ k9 ih_85 =>
            intro j h2 H locs ls hj hh2 hk9 hP hR hS hl
            refine lv_iload_n hx hb dX6_digest_85 rfl (lv_at hl 2 rfl) ?_
            refine lv_aload_n hx hb dX6_digest_86 rfl (lv_at hl 0 rfl) ?_
            refine va_get (D := D) (ci := 6) (v := .ref (ad 42)) (C := RX6) (T := TX6) (N := 9) hx hb hT inX6 hown hK hP 0 rfl rfl 1 (by decide) (hT _ q_177) (fun _ h9 => h9) rfl dX6_digest_87 ?_
            have g_3 : -2147483648 ≤ S 2 0 ∧ S 2 0 < 2147483648 := hR 2 0 (by decide)
            refine va_get (D := D) (ci := 0) (v := .int (zI (S 2 0))) (C := RX0) (T := TX0) (N := 5) hx hb hT inX0 hown hK hP 2 rfl rfl 0 (by decide) (hT _ q_48) (fun _ h9 => h9) rfl dX6_digest_90 ?_
            refine z_iconst hx hb dX6_digest_93 ?_
            refine z_isub hx hb dX6_digest_94 ?_
            refine z_icmp_ge (tgt := 134) hx hb (by omega) (by omega) (by omega) (by omega) dX6_digest_95 (by decide) (fun c_4 => ?_) (fun c_4 => ?_)
            · have h9 : True := trivial
              have hjn : j = n - 1 := by omega
              rw [hjn] at hh2
              have cut_147 : ∀ (xt : Int) (h3 : Int) (H : Heap) (locs : List Loc) (ls : Array Slot), (n ≠ 0 → argm (ftP n (S 7) t) (fun k => wmF n (S 7) (dgF n (t k))) N xt) → (h3 = (if n = 0 then H2 n N (S 7) (dgF n (t k0)) t (n - 1) else H3 n N (S 7) (dgF n (t k0)) t (sgC (S 11) (S 12) (S 13)) k0 m9 xt (H2 n N (S 7) (dgF n (t k0)) t (n - 1)))) → va_P D vwCl (cW cI cZ ad S) H → RS S → va_S (cA ad) s.heap H locs → lv_has ls 5 [(0, .ref (ad 40)), (1, .long (zL (h3)))] → W p l e (headSpec (Cond.code yX6_digest cX6_digest 5 (some .long) :: lwT) ({ frames := 7, cells := 0, slots := 0, locals := 153 })).room s m ([.ref (ad 40)] : List Value).toArray below meth c H locs 0 0 (MQ below (va_Ql (fun (r : Int64) (S' : St) => ∃ v, S' = S ∧ digR n N (S 7) (dgF n (t k0)) t (sgC (S 11) (S 12) (S 13)) (S 0) k0 m9 (S 9 0) (S 10 0) (S 1 0) (S 33 0) v ∧ r = zL v) (gB D (cW cI cZ ad)) (cA ad)) ([.ref (ad 40)] : List Value).toArray s 0 0 (cA ad)) (F0 m 147 ls []) := by
                intro xt h3 H locs ls hxt hh3 hP hR hS hl
                refine z_iconst hx hb dX6_digest_147 ?_
                refine lv_istore_n (lv' := [(3, .int (zI (0))), (0, .ref (ad 40)), (1, .long (zL (h3)))]) hx hb dX6_digest_148 rfl hl (by decide) rfl (fun ls hl => ?_)
                have cut_149 : ∀ (k9 : Nat) (i2 : Nat) (h2 : Int) (H : Heap) (locs : List Loc) (ls : Array Slot), (i2 ≤ sz) → (h2 = itF (fun k h => hx9 h (S 0 k)) h3 i2) → (sz - i2) < k9 → va_P D vwCl (cW cI cZ ad S) H → RS S → va_S (cA ad) s.heap H locs → lv_has ls 5 [(0, .ref (ad 40)), (1, .long (zL (h2))), (3, .int (zI (↑i2)))] → W p l e (headSpec (Cond.code yX6_digest cX6_digest 5 (some .long) :: lwT) ({ frames := 7, cells := 0, slots := 0, locals := 153 })).room s m ([.ref (ad 40)] : List Value).toArray below meth c H locs 0 0 (MQ below (va_Ql (fun (r : Int64) (S' : St) => ∃ v, S' = S ∧ digR n N (S 7) (dgF n (t k0)) t (sgC (S 11) (S 12) (S 13)) (S 0) k0 m9 (S 9 0) (S 10 0) (S 1 0) (S 33 0) v ∧ r = zL v) (gB D (cW cI cZ ad)) (cA ad)) ([.ref (ad 40)] : List Value).toArray s 0 0 (cA ad)) (F0 m 149 ls []) := by
                  intro k9
                  induction k9 with
                  | zero =>
                    intro i2 h2 H locs ls hi2 hh2 hk9 hP hR hS hl
                    exact absurd hk9 (Nat.not_lt_zero _)
                  | succ k9 ih_149 =>
                    intro i2 h2 H locs ls hi2 hh2 hk9 hP hR hS hl
                    refine lv_iload_n hx hb dX6_digest_149 rfl (lv_at hl 2 rfl) ?_
                    refine lv_aload_n hx hb dX6_digest_150 rfl (lv_at hl 0 rfl) ?_
                    refine va_get (D := D) (ci := 6) (v := .ref (ad 41)) (C := RX6) (T := TX6) (N := 9) hx hb hT inX6 hown hK hP 0 rfl rfl 0 (by decide) (hT _ q_176) (fun _ h9 => h9) rfl dX6_digest_151 ?_
                    have g_5 : -2147483648 ≤ S 1 0 ∧ S 1 0 < 2147483648 := hR 1 0 (by decide)
                    refine va_get (D := D) (ci := 2) (v := .int (zI (S 1 0))) (C := RX2) (T := TX2) (N := 2) hx hb hT inX2 hown hK hP 1 rfl rfl 1 (by decide) (hT _ q_32) (fun _ h9 => h9) rfl dX6_digest_154 ?_
                    refine z_icmp_ge (tgt := 183) hx hb (by omega) (by omega) (by omega) (by omega) dX6_digest_157 (by decide) (fun c_6 => ?_) (fun c_6 => ?_)
                    · have h9 : True := trivial
                      refine z_iconst hx hb dX6_digest_183 ?_
                      refine lv_istore_n (lv' := [(3, .int (zI (0))), (0, .ref (ad 40)), (1, .long (zL (h2)))]) hx hb dX6_digest_184 rfl hl (by decide) rfl (fun ls hl => ?_)
                      have cut_185 : ∀ (k9 : Nat) (i3 : Nat) (h4 : Int) (H : Heap) (locs : List Loc) (ls : Array Slot), (i3 ≤ 10) → (h4 = itF (fun w h => hx9 h (ctF n (S 7) (dgF n (t k0)) (S 9 0) (S 10 0) (S 1 0) (S 33 0) ↑w)) h2 i3) → (10 - i3) < k9 → va_P D vwCl (cW cI cZ ad S) H → RS S → va_S (cA ad) s.heap H locs → lv_has ls 5 [(0, .ref (ad 40)), (1, .long (zL (h4))), (3, .int (zI (↑i3)))] → W p l e (headSpec (Cond.code yX6_digest cX6_digest 5 (some .long) :: lwT) ({ frames := 7, cells := 0, slots := 0, locals := 153 })).room s m ([.ref (ad 40)] : List Value).toArray below meth c H locs 0 0 (MQ below (va_Ql (fun (r : Int64) (S' : St) => ∃ v, S' = S ∧ digR n N (S 7) (dgF n (t k0)) t (sgC (S 11) (S 12) (S 13)) (S 0) k0 m9 (S 9 0) (S 10 0) (S 1 0) (S 33 0) v ∧ r = zL v) (gB D (cW cI cZ ad)) (cA ad)) ([.ref (ad 40)] : List Value).toArray s 0 0 (cA ad)) (F0 m 185 ls []) := by
                        intro k9
                        induction k9 with
                        | zero =>
                          intro i3 h4 H locs ls hi3 hh4 hk9 hP hR hS hl
                          exact absurd hk9 (Nat.not_lt_zero _)
                        | succ k9 ih_185 =>
                          intro i3 h4 H locs ls hi3 hh4 hk9 hP hR hS hl
                          refine lv_iload_n hx hb dX6_digest_185 rfl (lv_at hl 2 rfl) ?_
                          refine z_bipush hx hb dX6_digest_186 (by decide) ?_
                          refine z_icmp_gt (tgt := 210) hx hb (by omega) (by omega) (by omega) (by omega) dX6_digest_188 (by decide) (fun c_7 => ?_) (fun c_7 => ?_)
                          · have h9 : True := trivial
                            refine lv_lload_n hx hb dX6_digest_210 rfl (lv_at hl 1 rfl) ?_
                            exact g_lret (S1 := S) (v := zL (h4)) hx hb hr hlocks hP hR hS (⟨_, rfl, dig_end hxt (by rw [hh4, hh2, hh3, show i3 = 10 by omega, show i2 = sz by omega, hsz]; rfl), rfl⟩) dX6_digest_211
                          · have h9 : True := trivial
                            refine lv_ldc2 (v := zL 31) hx hb hown (hT _ q_653) dX6_digest_191 ?_
                            refine lv_lload_n hx hb dX6_digest_194 rfl (lv_at hl 1 rfl) ?_
                            refine z_lmul hx hb dX6_digest_195 ?_
                            refine lv_aload_n hx hb dX6_digest_196 rfl (lv_at hl 0 rfl) ?_
                            refine lv_iload_n hx hb dX6_digest_197 rfl (lv_at hl 2 rfl) ?_
                            refine g_callVi (As := [.int (zI (↑i3))]) (rest := [.long (zL (31 * h4))]) ⟨hx, hb, hml, hown, hts⟩ (k_X6_count l D cI cZ ad az av hinj S hR n N t hT8 hV k0 hk8 hk0 ↑i3 (by omega) (by omega)) (cwV 1 hts (gV hsub q_665 q_633 q_634 q_1 q_635) rfl rfl rfl hdX6_count ⟨Nat.le_of_ble_eq_true rfl, Nat.le_of_ble_eq_true rfl⟩) (cEb D cI cZ ad az av) (cEk D cI cZ ad az av) hE (va_recv (ci := 6) (q0 := 0) hK hP rfl rfl) hP hS rfl hl.1 rfl (Nat.le_of_ble_eq_true rfl) dX6_digest_198 ⟨Nat.le_of_ble_eq_true rfl, Nat.le_of_ble_eq_true rfl⟩ (fun r_8 S_9 H locs hq_10 hP hR hS _ => ?_)
                            obtain ⟨hs9, rfl⟩ := hq_10
                            obtain rfl := hs9.symm
                            refine z_top (b := ctF n (S 7) (dgF n (t k0)) (S 9 0) (S 10 0) (S 1 0) (S 33 0) ↑i3) rfl ?_
                            have hct := ctF_r (kd := S 7) (f := (dgF n (t k0))) (w := ↑i3) hn7 (hR 9 0 (by decide)) (hR 10 0 (by decide)) (hR 1 0 (by decide)) (hR 33 0 (by decide))
                            refine z_top (b := ctF n (S 7) (dgF n (t k0)) (S 9 0) (S 10 0) (S 1 0) (S 33 0) ↑i3) (rfl) ?_
                            refine z_i2l hx hb (by omega) (by omega) dX6_digest_201 ?_
                            refine z_ladd hx hb dX6_digest_202 ?_
                            refine lv_lstore_n (lv' := [(1, .long (zL ((31 * h4) + (ctF n (S 7) (dgF n (t k0)) (S 9 0) (S 10 0) (S 1 0) (S 33 0) ↑i3)))), (0, .ref (ad 40)), (3, .int (zI (↑i3)))]) hx hb dX6_digest_203 rfl hl (by decide) rfl (fun ls hl => ?_)
                            refine z_iinc (lv' := [(3, .int (zI (↑i3 + 1))), (1, .long (zL ((31 * h4) + (ctF n (S 7) (dgF n (t k0)) (S 9 0) (S 10 0) (S 1 0) (S 33 0) ↑i3)))), (0, .ref (ad 40))]) hx hb dX6_digest_204 hl (k := 2) rfl (by decide) rfl (fun ls hl => ?_)
                            refine lv_goto (tgt := 185) hx hb dX6_digest_207 (by decide) ?_
                            exact ih_185 (i3 + 1) ((31 * h4) + (ctF n (S 7) (dgF n (t k0)) (S 9 0) (S 10 0) (S 1 0) (S 33 0) ↑i3)) _ _ _ (by omega) (by rw [hh4]; rfl) (by omega) hP hR hS (lv_sub hl [2, 1, 0] rfl)
                      exact cut_185 _ 0 h2 _ _ _ (by omega) (rfl) (Nat.lt_succ_self _) hP hR hS (lv_sub hl [1, 2, 0] rfl)
                    · have h9 : True := trivial
                      refine lv_ldc2 (v := zL 31) hx hb hown (hT _ q_653) dX6_digest_160 ?_
                      refine lv_lload_n hx hb dX6_digest_163 rfl (lv_at hl 1 rfl) ?_
                      refine z_lmul hx hb dX6_digest_164 ?_
                      refine lv_aload_n hx hb dX6_digest_165 rfl (lv_at hl 0 rfl) ?_
                      refine va_get (D := D) (ci := 6) (v := .ref (ad 41)) (C := RX6) (T := TX6) (N := 9) hx hb hT inX6 hown hK hP 0 rfl rfl 0 (by decide) (hT _ q_176) (fun _ h9 => h9) rfl dX6_digest_166 ?_
                      refine va_get (D := D) (ci := 2) (v := .ref (ad 0)) (C := RX2) (T := TX2) (N := 2) hx hb hT inX2 hown hK hP 1 rfl rfl 0 (by decide) (hT _ q_30) (fun _ h9 => h9) rfl dX6_digest_169 ?_
                      refine lv_iload_n hx hb dX6_digest_172 rfl (lv_at hl 2 rfl) ?_
                      have g_11 : -2147483648 ≤ S 0 i2 ∧ S 0 i2 < 2147483648 := hR 0 i2 (by decide)
                      refine z_ald (f := S 0) hx hb hK hP 8 0 rfl rfl (by omega) (by omega) (by decide) (j := i2) rfl dX6_digest_173 ?_
                      refine z_i2l hx hb (by omega) (by omega) dX6_digest_174 ?_
                      refine z_ladd hx hb dX6_digest_175 ?_
                      refine lv_lstore_n (lv' := [(1, .long (zL ((31 * h2) + (S 0 i2)))), (0, .ref (ad 40)), (3, .int (zI (↑i2)))]) hx hb dX6_digest_176 rfl hl (by decide) rfl (fun ls hl => ?_)
                      refine z_iinc (lv' := [(3, .int (zI (↑i2 + 1))), (1, .long (zL ((31 * h2) + (S 0 i2)))), (0, .ref (ad 40))]) hx hb dX6_digest_177 hl (k := 2) rfl (by decide) rfl (fun ls hl => ?_)
                      refine lv_goto (tgt := 149) hx hb dX6_digest_180 (by decide) ?_
                      exact ih_149 (i2 + 1) ((31 * h2) + (S 0 i2)) _ _ _ (by omega) (by rw [hh2]; rfl) (by omega) hP hR hS (lv_sub hl [2, 1, 0] rfl)
                exact cut_149 _ 0 h3 _ _ _ (by omega) (rfl) (Nat.lt_succ_self _) hP hR hS (lv_sub hl [1, 2, 0] rfl)
              refine lv_aload_n hx hb dX6_digest_134 rfl (lv_at hl 0 rfl) ?_
              refine g_callVi (As := []) (rest := []) ⟨hx, hb, hml, hown, hts⟩ (k_X6_isWithoutStrip l D cI cZ ad az av hinj S hR ) (cwV 0 hts (gV hsub q_462 q_464 q_sX6_isWithoutStrip q_1 q_465) rfl rfl rfl hdX6_isWithoutStrip ⟨Nat.le_of_ble_eq_true rfl, Nat.le_of_ble_eq_true rfl⟩) (cEb D cI cZ ad az av) (cEk D cI cZ ad az av) hE (va_recv (ci := 6) (q0 := 0) hK hP rfl rfl) hP hS rfl hl.1 rfl (Nat.le_of_ble_eq_true rfl) dX6_digest_135 ⟨Nat.le_of_ble_eq_true rfl, Nat.le_of_ble_eq_true rfl⟩ (fun r_12 S_13 H locs hq_14 hP hR hS _ => ?_)
              obtain ⟨hs9, rfl⟩ := hq_14
              obtain rfl := hs9.symm
              refine z_top (b := b2 (decide (S 2 0 = 0))) rfl ?_
              refine z_ifneB (tgt := 147) hx hb dX6_digest_138 (by decide) (fun c_15 => ?_) (fun c_15 => ?_)
              · have h9 : True := trivial
                have c_15 : S 2 0 = 0 := of_decide_eq_true c_15
                exact cut_147 0 h2 _ _ _ (fun h => absurd (by omega) h) (by rw [if_pos (by omega)]; exact hh2) hP hR hS (lv_sub hl [0, 1] rfl)
              · have h9 : True := trivial
                have c_15 : ¬ (S 2 0 = 0) := of_decide_eq_false c_15
                refine lv_aload_n hx hb dX6_digest_141 rfl (lv_at hl 0 rfl) ?_
                refine lv_lload_n hx hb dX6_digest_142 rfl (lv_at hl 1 rfl) ?_
                refine g_callVl (As := [.long (zL (h2))]) (rest := []) ⟨hx, hb, hml, hown, hts⟩ (k_X6_withOrders l D cI cZ ad az av hinj S hR n N t hT8 hV k0 hk8 hk0 m9 hse (hn2 (by omega)) h2) (cwV 1 hts (gV hsub q_657 q_659 q_sX6_withOrders q_1 q_660) rfl rfl rfl hdX6_withOrders ⟨Nat.le_of_ble_eq_true rfl, Nat.le_of_ble_eq_true rfl⟩) (cEb D cI cZ ad az av) (cEk D cI cZ ad az av) hE (va_recv (ci := 6) (q0 := 0) hK hP rfl rfl) hP hS rfl hl.1 rfl (Nat.le_of_ble_eq_true rfl) dX6_digest_143 ⟨Nat.le_of_ble_eq_true rfl, Nat.le_of_ble_eq_true rfl⟩ (fun r_16 S_17 H locs hq_18 hP hR hS _ => ?_)
                obtain ⟨xo_19, hs9, hA_20, rfl⟩ := hq_18
                obtain rfl := hs9.symm
                refine lv_lstore_n (lv' := [(1, .long (zL (H3 n N (S 7) (dgF n (t k0)) t (sgC (S 11) (S 12) (S 13)) k0 m9 xo_19 h2))), (0, .ref (ad 40)), (3, .int (zI (↑j)))]) hx hb dX6_digest_146 rfl hl (by decide) rfl (fun ls hl => ?_)
                exact cut_147 xo_19 (H3 n N (S 7) (dgF n (t k0)) t (sgC (S 11) (S 12) (S 13)) k0 m9 xo_19 h2) _ _ _ (fun _ => hA_20) (by rw [if_neg (by omega), ← hh2]) hP hR hS (lv_sub hl [1, 0] rfl)
            · have h9 : True := trivial
              have hnz : n ≠ 0 := by omega
              have hkN := hk0 hnz
              have hO := hO9 hnz
              have hpk := (hO.2.1 k0 hkN).2.1
              refine z_iconst hx hb dX6_digest_98 ?_
              refine lv_istore (lv' := [(4, .int (zI (0))), (0, .ref (ad 40)), (1, .long (zL (h2))), (3, .int (zI (↑j)))]) hx hb dX6_digest_99 hl (by decide) rfl (fun ls hl => ?_)
              have cut_101 : ∀ (k9 : Nat) (q : Nat) (h3 : Int) (H : Heap) (locs : List Loc) (ls : Array Slot), (q ≤ 2) → (h3 = itF (fun w h => hx9 h (hingeF n (S 7) (dgF n (t k0)) ↑j ↑w)) h2 q) → (2 - q) < k9 → va_P D vwCl (cW cI cZ ad S) H → RS S → va_S (cA ad) s.heap H locs → lv_has ls 5 [(0, .ref (ad 40)), (1, .long (zL (h3))), (3, .int (zI (↑j))), (4, .int (zI (↑q)))] → W p l e (headSpec (Cond.code yX6_digest cX6_digest 5 (some .long) :: lwT) ({ frames := 7, cells := 0, slots := 0, locals := 153 })).room s m ([.ref (ad 40)] : List Value).toArray below meth c H locs 0 0 (MQ below (va_Ql (fun (r : Int64) (S' : St) => ∃ v, S' = S ∧ digR n N (S 7) (dgF n (t k0)) t (sgC (S 11) (S 12) (S 13)) (S 0) k0 m9 (S 9 0) (S 10 0) (S 1 0) (S 33 0) v ∧ r = zL v) (gB D (cW cI cZ ad)) (cA ad)) ([.ref (ad 40)] : List Value).toArray s 0 0 (cA ad)) (F0 m 101 ls []) := by
                intro k9
                induction k9 with
                | zero =>
                  intro q h3 H locs ls hq hh3 hk9 hP hR hS hl
                  exact absurd hk9 (Nat.not_lt_zero _)
                | succ k9 ih_101 =>
                  intro q h3 H locs ls hq hh3 hk9 hP hR hS hl
                  refine lv_iload hx hb dX6_digest_101 (lv_at hl 3 rfl) ?_
                  refine z_iconst hx hb dX6_digest_103 ?_
                  refine z_icmp_gt (tgt := 128) hx hb (by omega) (by omega) (by omega) (by omega) dX6_digest_104 (by decide) (fun c_21 => ?_) (fun c_21 => ?_)
                  · have h9 : True := trivial
                    refine z_iinc (lv' := [(3, .int (zI (↑j + 1))), (0, .ref (ad 40)), (1, .long (zL (h3))), (4, .int (zI (↑q)))]) hx hb dX6_digest_128 hl (k := 2) rfl (by decide) rfl (fun ls hl => ?_)
                    refine lv_goto (tgt := 85) hx hb dX6_digest_131 (by decide) ?_
                    exact ih_85 (j + 1) h3 _ _ _ (by omega) (by rw [hh3, hh2, show q = 2 by omega]; exact hg_2 (by omega)) (by omega) hP hR hS (lv_sub hl [1, 2, 0] rfl)
                  · have h9 : True := trivial
                    refine lv_ldc2 (v := zL 31) hx hb hown (hT _ q_653) dX6_digest_107 ?_
                    refine lv_lload_n hx hb dX6_digest_110 rfl (lv_at hl 1 rfl) ?_
                    refine z_lmul hx hb dX6_digest_111 ?_
                    refine lv_aload_n hx hb dX6_digest_112 rfl (lv_at hl 0 rfl) ?_
                    refine lv_iload_n hx hb dX6_digest_113 rfl (lv_at hl 2 rfl) ?_
                    refine lv_iload hx hb dX6_digest_114 (lv_at hl 3 rfl) ?_
                    refine g_callVi (As := [.int (zI (↑j)), .int (zI (↑q))]) (rest := [.long (zL (31 * h3))]) ⟨hx, hb, hml, hown, hts⟩ (k_X6_hinge l D cI cZ ad az av hinj S hR n N t hT8 hV k0 hk8 hk0 ↑j ↑q (by omega) (by omega) (by omega) (by omega)) (cwV 2 hts (gV hsub q_656 q_415 q_416 q_1 q_417) rfl rfl rfl hdX6_hinge ⟨Nat.le_of_ble_eq_true rfl, Nat.le_of_ble_eq_true rfl⟩) (cEb D cI cZ ad az av) (cEk D cI cZ ad az av) hE (va_recv (ci := 6) (q0 := 0) hK hP rfl rfl) hP hS rfl hl.1 rfl (Nat.le_of_ble_eq_true rfl) dX6_digest_116 ⟨Nat.le_of_ble_eq_true rfl, Nat.le_of_ble_eq_true rfl⟩ (fun r_22 S_23 H locs hq_24 hP hR hS _ => ?_)
                    obtain ⟨hs9, rfl⟩ := hq_24
                    obtain rfl := hs9.symm
                    refine z_top (b := hingeF n (S 7) (dgF n (t k0)) ↑j ↑q) rfl ?_
                    have hgr := hg_r (n := n) (kd := S 7) (f := (dgF n (t k0))) (x := ↑j) (w := ↑q) hn7 (by omega)
                    refine z_top (b := hingeF n (S 7) (dgF n (t k0)) ↑j ↑q) (rfl) ?_
                    refine z_i2l hx hb (by omega) (by omega) dX6_digest_119 ?_
                    refine z_ladd hx hb dX6_digest_120 ?_
                    refine lv_lstore_n (lv' := [(1, .long (zL ((31 * h3) + (hingeF n (S 7) (dgF n (t k0)) ↑j ↑q)))), (0, .ref (ad 40)), (3, .int (zI (↑j))), (4, .int (zI (↑q)))]) hx hb dX6_digest_121 rfl hl (by decide) rfl (fun ls hl => ?_)
                    refine z_iinc (lv' := [(4, .int (zI (↑q + 1))), (1, .long (zL ((31 * h3) + (hingeF n (S 7) (dgF n (t k0)) ↑j ↑q)))), (0, .ref (ad 40)), (3, .int (zI (↑j)))]) hx hb dX6_digest_122 hl (k := 3) rfl (by decide) rfl (fun ls hl => ?_)
                    refine lv_goto (tgt := 101) hx hb dX6_digest_125 (by decide) ?_
                    exact ih_101 (q + 1) ((31 * h3) + (hingeF n (S 7) (dgF n (t k0)) ↑j ↑q)) _ _ _ (by omega) (by rw [hh3]; rfl) (by omega) hP hR hS (lv_sub hl [2, 1, 3, 0] rfl)
              exact cut_101 _ 0 h2 _ _ _ (by omega) (rfl) (Nat.lt_succ_self _) hP hR hS (lv_sub hl [1, 2, 3, 0] rfl)
        exact cut_85 _ 0 hh _ _ _ (by omega) (hhh) (Nat.lt_succ_self _) hP hR hS (lv_sub hl [1, 2, 0] rfl)
      · have h9 : True := trivial
        have hnz : n ≠ 0 := by omega
        have hkN := hk0 hnz
        have hO := hO9 hnz
        have hpk := (hO.2.1 k0 hkN).2.1
        refine z_iconst hx hb dX6_digest_17 ?_
        refine lv_istore (lv' := [(4, .int (zI (0))), (0, .ref (ad 40)), (1, .long (zL (hh))), (3, .int (zI (↑i)))]) hx hb dX6_digest_18 hl (by decide) rfl (fun ls hl => ?_)
        have cut_20 : ∀ (k9 : Nat) (j : Nat) (h2 : Int) (H : Heap) (locs : List Loc) (ls : Array Slot), (j ≤ 4) → (h2 = itF (fun w h => hx9 h (tlF n (S 7) (dgF n (t k0)) i ↑w)) hh j) → (4 - j) < k9 → va_P D vwCl (cW cI cZ ad S) H → RS S → va_S (cA ad) s.heap H locs → lv_has ls 5 [(0, .ref (ad 40)), (1, .long (zL (h2))), (3, .int (zI (↑i))), (4, .int (zI (↑j)))] → W p l e (headSpec (Cond.code yX6_digest cX6_digest 5 (some .long) :: lwT) ({ frames := 7, cells := 0, slots := 0, locals := 153 })).room s m ([.ref (ad 40)] : List Value).toArray below meth c H locs 0 0 (MQ below (va_Ql (fun (r : Int64) (S' : St) => ∃ v, S' = S ∧ digR n N (S 7) (dgF n (t k0)) t (sgC (S 11) (S 12) (S 13)) (S 0) k0 m9 (S 9 0) (S 10 0) (S 1 0) (S 33 0) v ∧ r = zL v) (gB D (cW cI cZ ad)) (cA ad)) ([.ref (ad 40)] : List Value).toArray s 0 0 (cA ad)) (F0 m 20 ls []) := by
          intro k9
          induction k9 with
          | zero =>
            intro j h2 H locs ls hj hh2 hk9 hP hR hS hl
            exact absurd hk9 (Nat.not_lt_zero _)
          | succ k9 ih_20 =>
            intro j h2 H locs ls hj hh2 hk9 hP hR hS hl
            refine lv_iload hx hb dX6_digest_20 (lv_at hl 3 rfl) ?_
            refine z_iconst hx hb dX6_digest_22 ?_
            refine z_icmp_gt (tgt := 47) hx hb (by omega) (by omega) (by omega) (by omega) dX6_digest_23 (by decide) (fun c_25 => ?_) (fun c_25 => ?_)
            · have h9 : True := trivial
              refine z_iconst hx hb dX6_digest_47 ?_
              refine lv_istore (lv' := [(4, .int (zI (0))), (0, .ref (ad 40)), (1, .long (zL (h2))), (3, .int (zI (↑i)))]) hx hb dX6_digest_48 hl (by decide) rfl (fun ls hl => ?_)
              have cut_50 : ∀ (k9 : Nat) (q : Nat) (h3 : Int) (H : Heap) (locs : List Loc) (ls : Array Slot), (q ≤ 2) → (h3 = itF (fun w h => hx9 h (topA n N (S 7) t ↑i ↑w)) h2 q) → (2 - q) < k9 → va_P D vwCl (cW cI cZ ad S) H → RS S → va_S (cA ad) s.heap H locs → lv_has ls 5 [(0, .ref (ad 40)), (1, .long (zL (h3))), (3, .int (zI (↑i))), (4, .int (zI (↑q)))] → W p l e (headSpec (Cond.code yX6_digest cX6_digest 5 (some .long) :: lwT) ({ frames := 7, cells := 0, slots := 0, locals := 153 })).room s m ([.ref (ad 40)] : List Value).toArray below meth c H locs 0 0 (MQ below (va_Ql (fun (r : Int64) (S' : St) => ∃ v, S' = S ∧ digR n N (S 7) (dgF n (t k0)) t (sgC (S 11) (S 12) (S 13)) (S 0) k0 m9 (S 9 0) (S 10 0) (S 1 0) (S 33 0) v ∧ r = zL v) (gB D (cW cI cZ ad)) (cA ad)) ([.ref (ad 40)] : List Value).toArray s 0 0 (cA ad)) (F0 m 50 ls []) := by
                intro k9
                induction k9 with
                | zero =>
                  intro q h3 H locs ls hq hh3 hk9 hP hR hS hl
                  exact absurd hk9 (Nat.not_lt_zero _)
                | succ k9 ih_50 =>
                  intro q h3 H locs ls hq hh3 hk9 hP hR hS hl
                  refine lv_iload hx hb dX6_digest_50 (lv_at hl 3 rfl) ?_
                  refine z_iconst hx hb dX6_digest_52 ?_
                  refine z_icmp_gt (tgt := 77) hx hb (by omega) (by omega) (by omega) (by omega) dX6_digest_53 (by decide) (fun c_26 => ?_) (fun c_26 => ?_)
                  · have h9 : True := trivial
                    refine z_iinc (lv' := [(3, .int (zI (↑i + 1))), (0, .ref (ad 40)), (1, .long (zL (h3))), (4, .int (zI (↑q)))]) hx hb dX6_digest_77 hl (k := 2) rfl (by decide) rfl (fun ls hl => ?_)
                    refine lv_goto (tgt := 6) hx hb dX6_digest_80 (by decide) ?_
                    exact ih_6 (i + 1) h3 _ _ _ (by omega) (by rw [hh3, hh2, hhh, show j = 4 by omega, show q = 2 by omega]; rfl) (by omega) hP hR hS (lv_sub hl [1, 2, 0] rfl)
                  · have h9 : True := trivial
                    refine lv_ldc2 (v := zL 31) hx hb hown (hT _ q_653) dX6_digest_56 ?_
                    refine lv_lload_n hx hb dX6_digest_59 rfl (lv_at hl 1 rfl) ?_
                    refine z_lmul hx hb dX6_digest_60 ?_
                    refine lv_aload_n hx hb dX6_digest_61 rfl (lv_at hl 0 rfl) ?_
                    refine lv_iload_n hx hb dX6_digest_62 rfl (lv_at hl 2 rfl) ?_
                    refine lv_iload hx hb dX6_digest_63 (lv_at hl 3 rfl) ?_
                    refine g_callVi (As := [.int (zI (↑i)), .int (zI (↑q))]) (rest := [.long (zL (31 * h3))]) ⟨hx, hb, hml, hown, hts⟩ (k_X6_tops l D cI cZ ad az av hinj S hR n N t hT8 hV k0 hk8 hk0 ↑i ↑q (by omega) (by omega) (by omega) (by omega)) (cwV 2 hts (gV hsub q_655 q_500 q_501 q_1 q_502) rfl rfl rfl hdX6_tops ⟨Nat.le_of_ble_eq_true rfl, Nat.le_of_ble_eq_true rfl⟩) (cEb D cI cZ ad az av) (cEk D cI cZ ad az av) hE (va_recv (ci := 6) (q0 := 0) hK hP rfl rfl) hP hS rfl hl.1 rfl (Nat.le_of_ble_eq_true rfl) dX6_digest_65 ⟨Nat.le_of_ble_eq_true rfl, Nat.le_of_ble_eq_true rfl⟩ (fun r_27 S_28 H locs hq_29 hP hR hS _ => ?_)
                    obtain ⟨hs9, rfl⟩ := hq_29
                    obtain rfl := hs9.symm
                    refine z_top (b := topsF n N (S 7) t ↑i ↑q) rfl ?_
                    have ht0 := topA_r (n := n) (kd := S 7) (t := t) (x := ↑i) (w := ↑q) hN4
                    refine z_top (b := topA n N (S 7) t ↑i ↑q) (by unfold topsF; rw [if_pos (by omega), if_pos (by omega)]; rfl) ?_
                    refine z_i2l hx hb (by omega) (by omega) dX6_digest_68 ?_
                    refine z_ladd hx hb dX6_digest_69 ?_
                    refine lv_lstore_n (lv' := [(1, .long (zL ((31 * h3) + (topA n N (S 7) t ↑i ↑q)))), (0, .ref (ad 40)), (3, .int (zI (↑i))), (4, .int (zI (↑q)))]) hx hb dX6_digest_70 rfl hl (by decide) rfl (fun ls hl => ?_)
                    refine z_iinc (lv' := [(4, .int (zI (↑q + 1))), (1, .long (zL ((31 * h3) + (topA n N (S 7) t ↑i ↑q)))), (0, .ref (ad 40)), (3, .int (zI (↑i)))]) hx hb dX6_digest_71 hl (k := 3) rfl (by decide) rfl (fun ls hl => ?_)
                    refine lv_goto (tgt := 50) hx hb dX6_digest_74 (by decide) ?_
                    exact ih_50 (q + 1) ((31 * h3) + (topA n N (S 7) t ↑i ↑q)) _ _ _ (by omega) (by rw [hh3]; rfl) (by omega) hP hR hS (lv_sub hl [2, 1, 3, 0] rfl)
              exact cut_50 _ 0 h2 _ _ _ (by omega) (rfl) (Nat.lt_succ_self _) hP hR hS (lv_sub hl [1, 2, 3, 0] rfl)
            · have h9 : True := trivial
              refine lv_ldc2 (v := zL 31) hx hb hown (hT _ q_653) dX6_digest_26 ?_
              refine lv_lload_n hx hb dX6_digest_29 rfl (lv_at hl 1 rfl) ?_
              refine z_lmul hx hb dX6_digest_30 ?_
              refine lv_aload_n hx hb dX6_digest_31 rfl (lv_at hl 0 rfl) ?_
              refine lv_iload_n hx hb dX6_digest_32 rfl (lv_at hl 2 rfl) ?_
              refine lv_iload hx hb dX6_digest_33 (lv_at hl 3 rfl) ?_
              refine g_callVi (As := [.int (zI (↑i)), .int (zI (↑j))]) (rest := [.long (zL (31 * h2))]) ⟨hx, hb, hml, hown, hts⟩ (k_X6_leaf l D cI cZ ad az av hinj S hR n N t hT8 hV k0 hk8 hk0 ↑i ↑j (by omega) (by omega) (by omega) (by omega)) (cwV 2 hts (gV hsub q_654 q_392 q_393 q_1 q_394) rfl rfl rfl hdX6_leaf ⟨Nat.le_of_ble_eq_true rfl, Nat.le_of_ble_eq_true rfl⟩) (cEb D cI cZ ad az av) (cEk D cI cZ ad az av) hE (va_recv (ci := 6) (q0 := 0) hK hP rfl rfl) hP hS rfl hl.1 rfl (Nat.le_of_ble_eq_true rfl) dX6_digest_35 ⟨Nat.le_of_ble_eq_true rfl, Nat.le_of_ble_eq_true rfl⟩ (fun r_30 S_31 H locs hq_32 hP hR hS _ => ?_)
              obtain ⟨hs9, rfl⟩ := hq_32
              obtain rfl := hs9.symm
              refine z_top (b := leafF n (S 7) (dgF n (t k0)) ↑i ↑j) rfl ?_
              have htl := tlF_r (w := ↑j) (v := i) hn7 hpk (by omega) (hR 7 i (by decide))
              refine z_top (b := tlF n (S 7) (dgF n (t k0)) i ↑j) (by unfold leafF; rw [if_pos (by omega)]; rfl) ?_
              refine z_i2l hx hb (by omega) (by omega) dX6_digest_38 ?_
              refine z_ladd hx hb dX6_digest_39 ?_
              refine lv_lstore_n (lv' := [(1, .long (zL ((31 * h2) + (tlF n (S 7) (dgF n (t k0)) i ↑j)))), (0, .ref (ad 40)), (3, .int (zI (↑i))), (4, .int (zI (↑j)))]) hx hb dX6_digest_40 rfl hl (by decide) rfl (fun ls hl => ?_)
              refine z_iinc (lv' := [(4, .int (zI (↑j + 1))), (1, .long (zL ((31 * h2) + (tlF n (S 7) (dgF n (t k0)) i ↑j)))), (0, .ref (ad 40)), (3, .int (zI (↑i)))]) hx hb dX6_digest_41 hl (k := 3) rfl (by decide) rfl (fun ls hl => ?_)
              refine lv_goto (tgt := 20) hx hb dX6_digest_44 (by decide) ?_
              exact ih_20 (j + 1) ((31 * h2) + (tlF n (S 7) (dgF n (t k0)) i ↑j)) _ _ _ (by omega) (by rw [hh2]; rfl) (by omega) hP hR hS (lv_sub hl [2, 1, 3, 0] rfl)
        exact cut_20 _ 0 hh _ _ _ (by omega) (rfl) (Nat.lt_succ_self _) hP hR hS (lv_sub hl [1, 2, 3, 0] rfl)
  exact cut_6 _ 0 1319 _ _ _ (by omega) (rfl) (Nat.lt_succ_self _) hP hR hS (lv_sub hl [2, 1, 0] rfl)
set_option maxHeartbeats 4000000 in
set_option maxRecDepth 100000 in
theorem k_X6_strip (l : Launch) (D : va_G) (cI cZ : ClassId) (ad : Nat → Nat) (az av : Nat) (hinj : cInj ad) (S : St) (hR : RS S) (sz : Nat) (hsz : S 1 0 = ↑sz) (hsz9 : sz ≤ 9) (hpg : ∀ j, j < sz → 1 ≤ S 0 j ∧ S 0 j ≤ 126) (n N : Nat) (t : Nat → Int) (hT9 : cTab n N t S) (hV : cVer n N t S) (hNn : N = nb n) (htn : t = tb n) (h33 : 0 ≤ S 33 0 ∧ S 33 0 < 1000000) : Met l yX6_strip (Cond.code yX6_strip cX6_strip 2 (some .int) :: lwT) ({ frames := 11, cells := 0, slots := 0, locals := 252 }) (gPc D (cW cI cZ ad) (cE D cI cZ ad az av) S [.ref (ad 40)]) (va_Qi (fun (r : Int32) (S' : St) => ∃ e7 e2 e3 e4 e5 e6 e1 e8 e9 e10 e32 e33 e21 e22 e23, S' = sA (sA (sA (sA (sA (sA (sA (sA (sA (sA (sA (sA (sA (sA (sA S 7 e7) 2 e2) 3 e3) 4 e4) 5 e5) 6 e6) 1 e1) 8 e8) 9 e9) 10 e10) 32 e32) 33 e33) 21 e21) 22 e22) 23 e23 ∧ ∃ k : Nat, isFlt (S 0) sz k ∧ (((k < sz ∨ sz < 2) ∧ S' = S ∧ r = zI (-103)) ∨ (k = sz ∧ 2 ≤ sz ∧ sz ≤ 7 ∧ r = zI ↑sz ∧ cTab sz (nb sz) (tb sz) S' ∧ cVer sz (nb sz) (tb sz) S' ∧ (∀ j, j < sz → e7 j = kbF (S 0 j)) ∧ e1 0 = 0 ∧ e8 0 = 0 ∧ e9 0 = 0 ∧ e10 0 = 0 ∧ e32 0 = 0 ∧ e33 0 = S 33 0 + 1))) (gB D (cW cI cZ ad)) (cA ad)) 0 0 (cA ad) := by
  refine Met.ofW (cc := cX6_strip) (maxL := 2) (ret := (some .int)) (by decide) rfl ?_
  intro p e s m args below meth c s₁ B hml hv
  obtain ⟨rfl, hP, hE⟩ := hv
  have hx := B.exec
  have hb := B.bytes
  have hr := B.returns
  have hts := atoms_spec (ws := Cond.code yX6_strip cX6_strip 2 (some .int) :: lwT) B.pre
  have hT := fun w (h : w ∈ lwT) => hts w (List.mem_cons_of_mem _ h)
  have hsub : ∀ w ∈ lwT, w ∈ (Cond.code yX6_strip cX6_strip 2 (some .int) :: lwT) := fun w h => List.mem_cons_of_mem _ h
  have hown : s.vm.findClass RX6 = some m.cls := findClass_of_methodNamed B.named
  have hlocks := B.notSynchronized
  have hK : va_K D vwCl [(cI, .int), (cZ, .boolean)] s := hE.1
  have hS : va_S (cA ad) s.heap s.heap [] := va_S.rf
  have hT8 := hT9
  have hTo := hT9
  obtain ⟨⟨hn, hN, hn7, hN4⟩, hn0, hO9, hso, htb⟩ := hTo
  obtain ⟨kf, hkf⟩ := flt_ex (S 0) sz
  have hkl := hkf.1
  have hk7 := hkf.2.1
  have hl := lv_entry ([.ref (ad 40)]) (n := 2) (Nat.le_of_ble_eq_true rfl)
  rw [lg_entry_eq]
  generalize (lg_sl ([.ref (ad 40)]) ++ List.replicate (2 - (lg_sl ([.ref (ad 40)])).length) Slot.unset).toArray = ls at hl ⊢
  have hl : lv_has ls 2 [(0, .ref (ad 40))] := hl
  refine lv_aload_n hx hb dX6_strip_0 rfl (lv_at hl 0 rfl) ?_
  refine va_get (D := D) (ci := 6) (v := .ref (ad 41)) (C := RX6) (T := TX6) (N := 9) hx hb hT inX6 hown hK hP 0 rfl rfl 0 (by decide) (hT _ q_176) (fun _ h9 => h9) rfl dX6_strip_1 ?_
  have g_1 : -2147483648 ≤ S 1 0 ∧ S 1 0 < 2147483648 := hR 1 0 (by decide)
  refine va_get (D := D) (ci := 2) (v := .int (zI (S 1 0))) (C := RX2) (T := TX2) (N := 2) hx hb hT inX2 hown hK hP 1 rfl rfl 1 (by decide) (hT _ q_32) (fun _ h9 => h9) rfl dX6_strip_4 ?_
  refine z_iconst hx hb dX6_strip_7 ?_
  refine z_icmp_lt (tgt := 40) hx hb (by omega) (by omega) (by omega) (by omega) dX6_strip_8 (by decide) (fun c_2 => ?_) (fun c_2 => ?_)
  · have h9 : True := trivial
    refine z_bipush hx hb dX6_strip_40 (by decide) ?_
    have hSe_3 : S = sA (sA (sA (sA (sA (sA (sA (sA (sA (sA (sA (sA (sA (sA (sA S 7 (S 7)) 2 (S 2)) 3 (S 3)) 4 (S 4)) 5 (S 5)) 6 (S 6)) 1 (S 1)) 8 (S 8)) 9 (S 9)) 10 (S 10)) 32 (S 32)) 33 (S 33)) 21 (S 21)) 22 (S 22)) 23 (S 23) := by
      funext k8
      by_cases e80 : k8 = 7
      · subst e80; first | rfl | (funext j8; rfl)
      by_cases e81 : k8 = 2
      · subst e81; first | rfl | (funext j8; rfl)
      by_cases e82 : k8 = 3
      · subst e82; first | rfl | (funext j8; rfl)
      by_cases e83 : k8 = 4
      · subst e83; first | rfl | (funext j8; rfl)
      by_cases e84 : k8 = 5
      · subst e84; first | rfl | (funext j8; rfl)
      by_cases e85 : k8 = 6
      · subst e85; first | rfl | (funext j8; rfl)
      by_cases e86 : k8 = 1
      · subst e86; first | rfl | (funext j8; rfl)
      by_cases e87 : k8 = 8
      · subst e87; first | rfl | (funext j8; rfl)
      by_cases e88 : k8 = 9
      · subst e88; first | rfl | (funext j8; rfl)
      by_cases e89 : k8 = 10
      · subst e89; first | rfl | (funext j8; rfl)
      by_cases e810 : k8 = 32
      · subst e810; first | rfl | (funext j8; rfl)
      by_cases e811 : k8 = 33
      · subst e811; first | rfl | (funext j8; rfl)
      by_cases e812 : k8 = 21
      · subst e812; first | rfl | (funext j8; rfl)
      by_cases e813 : k8 = 22
      · subst e813; first | rfl | (funext j8; rfl)
      by_cases e814 : k8 = 23
      · subst e814; first | rfl | (funext j8; rfl)
      simp [sA, e80, e81, e82, e83, e84, e85, e86, e87, e88, e89, e810, e811, e812, e813, e814]
    rw [hSe_3] at hP hR
    exact g_iret (S1 := sA (sA (sA (sA (sA (sA (sA (sA (sA (sA (sA (sA (sA (sA (sA S 7 (S 7)) 2 (S 2)) 3 (S 3)) 4 (S 4)) 5 (S 5)) 6 (S 6)) 1 (S 1)) 8 (S 8)) 9 (S 9)) 10 (S 10)) 32 (S 32)) 33 (S 33)) 21 (S 21)) 22 (S 22)) 23 (S 23)) (v := zI (-103)) hx hb hr hlocks hP hR hS (⟨_, _, _, _, _, _, _, _, _, _, _, _, _, _, _, rfl, kf, hkf, Or.inl ⟨by omega, by simp only [sA_self], rfl⟩⟩) dX6_strip_42
  · have h9 : True := trivial
    refine lv_aload_n hx hb dX6_strip_11 rfl (lv_at hl 0 rfl) ?_
    refine va_get (D := D) (ci := 6) (v := .ref (ad 41)) (C := RX6) (T := TX6) (N := 9) hx hb hT inX6 hown hK hP 0 rfl rfl 0 (by decide) (hT _ q_176) (fun _ h9 => h9) rfl dX6_strip_12 ?_
    refine va_get (D := D) (ci := 2) (v := .int (zI (S 1 0))) (C := RX2) (T := TX2) (N := 2) hx hb hT inX2 hown hK hP 1 rfl rfl 1 (by decide) (hT _ q_32) (fun _ h9 => h9) rfl dX6_strip_15 ?_
    refine z_bipush hx hb dX6_strip_18 (by decide) ?_
    refine z_icmp_gt (tgt := 40) hx hb (by omega) (by omega) (by omega) (by omega) dX6_strip_20 (by decide) (fun c_4 => ?_) (fun c_4 => ?_)
    · have h9 : True := trivial
      refine z_bipush hx hb dX6_strip_40 (by decide) ?_
      have hSe_5 : S = sA (sA (sA (sA (sA (sA (sA (sA (sA (sA (sA (sA (sA (sA (sA S 7 (S 7)) 2 (S 2)) 3 (S 3)) 4 (S 4)) 5 (S 5)) 6 (S 6)) 1 (S 1)) 8 (S 8)) 9 (S 9)) 10 (S 10)) 32 (S 32)) 33 (S 33)) 21 (S 21)) 22 (S 22)) 23 (S 23) := by
        funext k8
        by_cases e80 : k8 = 7
        · subst e80; first | rfl | (funext j8; rfl)
        by_cases e81 : k8 = 2
        · subst e81; first | rfl | (funext j8; rfl)
        by_cases e82 : k8 = 3
        · subst e82; first | rfl | (funext j8; rfl)
        by_cases e83 : k8 = 4
        · subst e83; first | rfl | (funext j8; rfl)
        by_cases e84 : k8 = 5
        · subst e84; first | rfl | (funext j8; rfl)
        by_cases e85 : k8 = 6
        · subst e85; first | rfl | (funext j8; rfl)
        by_cases e86 : k8 = 1
        · subst e86; first | rfl | (funext j8; rfl)
        by_cases e87 : k8 = 8
        · subst e87; first | rfl | (funext j8; rfl)
        by_cases e88 : k8 = 9
        · subst e88; first | rfl | (funext j8; rfl)
        by_cases e89 : k8 = 10
        · subst e89; first | rfl | (funext j8; rfl)
        by_cases e810 : k8 = 32
        · subst e810; first | rfl | (funext j8; rfl)
        by_cases e811 : k8 = 33
        · subst e811; first | rfl | (funext j8; rfl)
        by_cases e812 : k8 = 21
        · subst e812; first | rfl | (funext j8; rfl)
        by_cases e813 : k8 = 22
        · subst e813; first | rfl | (funext j8; rfl)
        by_cases e814 : k8 = 23
        · subst e814; first | rfl | (funext j8; rfl)
        simp [sA, e80, e81, e82, e83, e84, e85, e86, e87, e88, e89, e810, e811, e812, e813, e814]
      rw [hSe_5] at hP hR
      exact g_iret (S1 := sA (sA (sA (sA (sA (sA (sA (sA (sA (sA (sA (sA (sA (sA (sA S 7 (S 7)) 2 (S 2)) 3 (S 3)) 4 (S 4)) 5 (S 5)) 6 (S 6)) 1 (S 1)) 8 (S 8)) 9 (S 9)) 10 (S 10)) 32 (S 32)) 33 (S 33)) 21 (S 21)) 22 (S 22)) 23 (S 23)) (v := zI (-103)) hx hb hr hlocks hP hR hS (⟨_, _, _, _, _, _, _, _, _, _, _, _, _, _, _, rfl, kf, hkf, Or.inl ⟨by omega, by simp only [sA_self], rfl⟩⟩) dX6_strip_42
    · have h9 : True := trivial
      refine lv_aload_n hx hb dX6_strip_23 rfl (lv_at hl 0 rfl) ?_
      refine va_get (D := D) (ci := 6) (v := .ref (ad 41)) (C := RX6) (T := TX6) (N := 9) hx hb hT inX6 hown hK hP 0 rfl rfl 0 (by decide) (hT _ q_176) (fun _ h9 => h9) rfl dX6_strip_24 ?_
      refine g_callVi (As := []) (rest := []) ⟨hx, hb, hml, hown, hts⟩ (k_X2_firstWrong l D cI cZ ad az av hinj S hR sz hsz hsz9 hpg) (cwV 0 hts (gV hsub q_220 q_221 q_222 q_2 q_223) rfl rfl rfl hdX2_firstWrong ⟨Nat.le_of_ble_eq_true rfl, Nat.le_of_ble_eq_true rfl⟩) (cEb D cI cZ ad az av) (cEk D cI cZ ad az av) hE (va_recv (ci := 2) (q0 := 1) hK hP rfl rfl) hP hS rfl hl.1 rfl (Nat.le_of_ble_eq_true rfl) dX6_strip_27 ⟨Nat.le_of_ble_eq_true rfl, Nat.le_of_ble_eq_true rfl⟩ (fun r_6 S_7 H locs hq_8 hP hR hS _ => ?_)
      obtain ⟨yf_9, hs9, hA_10, rfl⟩ := hq_8
      obtain rfl := hs9.symm
      have g_11 := And.intro hA_10.1 hA_10.2.1
      refine z_top (b := ↑yf_9) rfl ?_
      have hye := isFlt_u hA_10 hkf
      refine lv_aload_n hx hb dX6_strip_30 rfl (lv_at hl 0 rfl) ?_
      refine va_get (D := D) (ci := 6) (v := .ref (ad 41)) (C := RX6) (T := TX6) (N := 9) hx hb hT inX6 hown hK hP 0 rfl rfl 0 (by decide) (hT _ q_176) (fun _ h9 => h9) rfl dX6_strip_31 ?_
      refine va_get (D := D) (ci := 2) (v := .int (zI (S 1 0))) (C := RX2) (T := TX2) (N := 2) hx hb hT inX2 hown hK hP 1 rfl rfl 1 (by decide) (hT _ q_32) (fun _ h9 => h9) rfl dX6_strip_34 ?_
      refine z_icmp_ge (tgt := 43) hx hb (by omega) (by omega) (by omega) (by omega) dX6_strip_37 (by decide) (fun c_12 => ?_) (fun c_12 => ?_)
      · have h9 : True := trivial
        have hks : kf = sz := by omega
        refine z_iconst hx hb dX6_strip_43 ?_
        refine lv_istore_n (lv' := [(1, .int (zI (0))), (0, .ref (ad 40))]) hx hb dX6_strip_44 rfl hl (by decide) rfl (fun ls hl => ?_)
        have cut_45 : ∀ (k9 : Nat) (i : Nat) (kd : Nat → Int) (H : Heap) (locs : List Loc) (ls : Array Slot), (i ≤ sz) → (∀ j, j < i → kd j = kbF (S 0 j)) → (sz - i) < k9 → va_P D vwCl (cW cI cZ ad (sA S 7 kd)) H → RS (sA S 7 kd) → va_S (cA ad) s.heap H locs → lv_has ls 2 [(0, .ref (ad 40)), (1, .int (zI (↑i)))] → W p l e (headSpec (Cond.code yX6_strip cX6_strip 2 (some .int) :: lwT) ({ frames := 11, cells := 0, slots := 0, locals := 252 })).room s m ([.ref (ad 40)] : List Value).toArray below meth c H locs 0 0 (MQ below (va_Qi (fun (r : Int32) (S' : St) => ∃ e7 e2 e3 e4 e5 e6 e1 e8 e9 e10 e32 e33 e21 e22 e23, S' = sA (sA (sA (sA (sA (sA (sA (sA (sA (sA (sA (sA (sA (sA (sA S 7 e7) 2 e2) 3 e3) 4 e4) 5 e5) 6 e6) 1 e1) 8 e8) 9 e9) 10 e10) 32 e32) 33 e33) 21 e21) 22 e22) 23 e23 ∧ ∃ k : Nat, isFlt (S 0) sz k ∧ (((k < sz ∨ sz < 2) ∧ S' = S ∧ r = zI (-103)) ∨ (k = sz ∧ 2 ≤ sz ∧ sz ≤ 7 ∧ r = zI ↑sz ∧ cTab sz (nb sz) (tb sz) S' ∧ cVer sz (nb sz) (tb sz) S' ∧ (∀ j, j < sz → e7 j = kbF (S 0 j)) ∧ e1 0 = 0 ∧ e8 0 = 0 ∧ e9 0 = 0 ∧ e10 0 = 0 ∧ e32 0 = 0 ∧ e33 0 = S 33 0 + 1))) (gB D (cW cI cZ ad)) (cA ad)) ([.ref (ad 40)] : List Value).toArray s 0 0 (cA ad)) (F0 m 45 ls []) := by
          intro k9
          induction k9 with
          | zero =>
            intro i kd H locs ls hi hkd hk9 hP hR hS hl
            exact absurd hk9 (Nat.not_lt_zero _)
          | succ k9 ih_45 =>
            intro i kd H locs ls hi hkd hk9 hP hR hS hl
            refine lv_iload_n hx hb dX6_strip_45 rfl (lv_at hl 1 rfl) ?_
            refine lv_aload_n hx hb dX6_strip_46 rfl (lv_at hl 0 rfl) ?_
            refine va_get (D := D) (ci := 6) (v := .ref (ad 41)) (C := RX6) (T := TX6) (N := 9) hx hb hT inX6 hown hK hP 0 rfl rfl 0 (by decide) (hT _ q_176) (fun _ h9 => h9) rfl dX6_strip_47 ?_
            have g_13 : -2147483648 ≤ S 1 0 ∧ S 1 0 < 2147483648 := hR 1 0 (by decide)
            refine va_get (D := D) (ci := 2) (v := .int (zI (S 1 0))) (C := RX2) (T := TX2) (N := 2) hx hb hT inX2 hown hK hP 1 rfl rfl 1 (by decide) (hT _ q_32) (fun _ h9 => h9) rfl dX6_strip_50 ?_
            refine z_icmp_ge (tgt := 79) hx hb (by omega) (by omega) (by omega) (by omega) dX6_strip_53 (by decide) (fun c_14 => ?_) (fun c_14 => ?_)
            · have h9 : True := trivial
              refine lv_aload_n hx hb dX6_strip_79 rfl (lv_at hl 0 rfl) ?_
              refine va_get (D := D) (ci := 6) (v := .ref (ad 42)) (C := RX6) (T := TX6) (N := 9) hx hb hT inX6 hown hK hP 0 rfl rfl 1 (by decide) (hT _ q_177) (fun _ h9 => h9) rfl dX6_strip_80 ?_
              refine lv_aload_n hx hb dX6_strip_83 rfl (lv_at hl 0 rfl) ?_
              refine va_get (D := D) (ci := 6) (v := .ref (ad 41)) (C := RX6) (T := TX6) (N := 9) hx hb hT inX6 hown hK hP 0 rfl rfl 0 (by decide) (hT _ q_176) (fun _ h9 => h9) rfl dX6_strip_84 ?_
              refine va_get (D := D) (ci := 2) (v := .int (zI (S 1 0))) (C := RX2) (T := TX2) (N := 2) hx hb hT inX2 hown hK hP 1 rfl rfl 1 (by decide) (hT _ q_32) (fun _ h9 => h9) rfl dX6_strip_87 ?_
              refine g_callVv (As := [.int (zI (S 1 0))]) (rest := []) ⟨hx, hb, hml, hown, hts⟩ (k_X0_foldAll l D cI cZ ad az av hinj (sA S 7 kd) hR n hn sz (by omega) (fun e => by subst e; subst hNn; subst htn; exact hT8) (S 1 0) hsz) (cwV 1 hts (gV hsub q_321 q_322 q_323 q_3 q_324) rfl rfl rfl hdX0_foldAll ⟨Nat.le_of_ble_eq_true rfl, Nat.le_of_ble_eq_true rfl⟩) (cEb D cI cZ ad az av) (cEk D cI cZ ad az av) hE (va_recv (ci := 0) (q0 := 2) hK hP rfl rfl) hP hS rfl hl.1 rfl (Nat.le_of_ble_eq_true rfl) dX6_strip_90 ⟨Nat.le_of_ble_eq_true rfl, Nat.le_of_ble_eq_true rfl⟩ (fun S_16 H locs hq_17 hP hR hS _ => ?_)
              obtain ⟨e_18, e_19, e_20, e_21, e_22, rfl, hct_23⟩ := hq_17
              refine lv_aload_n hx hb dX6_strip_93 rfl (lv_at hl 0 rfl) ?_
              refine va_get (D := D) (ci := 6) (v := .ref (ad 41)) (C := RX6) (T := TX6) (N := 9) hx hb hT inX6 hown hK hP 0 rfl rfl 0 (by decide) (hT _ q_176) (fun _ h9 => h9) rfl dX6_strip_94 ?_
              refine z_iconst hx hb dX6_strip_97 ?_
              refine va_put (D := D) (ci := 2) (v := .int (zI (0))) (ty := .int) (C := RX2) (T := TX2) (N := 2) hx hb hT inX2 tyX2 tyX2_ok nmX2 hown hK hP (cD hinj cI cZ _) hS 1 rfl rfl 1 (by decide) (hT _ q_32) (fun _ h9 => h9) rfl (by decide +kernel) rfl rfl (Nat.le_of_ble_eq_true rfl) dX6_strip_98 (fun H locs hP _ hS => ?_)
              have hP : va_P D vwCl (cW cI cZ ad (sA (sA (sA (sA (sA (sA (sA S 7 kd) 2 e_18) 3 e_19) 4 e_20) 5 e_21) 6 e_22) 1 (fun _ => 0))) H := hP
              have hR : RS (sA (sA (sA (sA (sA (sA (sA S 7 kd) 2 e_18) 3 e_19) 4 e_20) 5 e_21) 6 e_22) 1 (fun _ => 0)) := hR.one (by omega) (by omega)
              refine lv_aload_n hx hb dX6_strip_101 rfl (lv_at hl 0 rfl) ?_
              refine va_get (D := D) (ci := 6) (v := .ref (ad 43)) (C := RX6) (T := TX6) (N := 9) hx hb hT inX6 hown hK hP 0 rfl rfl 2 (by decide) (hT _ q_178) (fun _ h9 => h9) rfl dX6_strip_102 ?_
              refine z_iconst hx hb dX6_strip_105 ?_
              refine va_put (D := D) (ci := 4) (v := .int (zI (0))) (ty := .int) (C := RX4) (T := TX4) (N := 7) hx hb hT inX4 tyX4 tyX4_ok nmX4 hown hK hP (cD hinj cI cZ _) hS 3 rfl rfl 1 (by decide) (hT _ q_78) (fun _ h9 => h9) rfl (by decide +kernel) rfl rfl (Nat.le_of_ble_eq_true rfl) dX6_strip_106 (fun H locs hP _ hS => ?_)
              have hP : va_P D vwCl (cW cI cZ ad (sA (sA (sA (sA (sA (sA (sA (sA S 7 kd) 2 e_18) 3 e_19) 4 e_20) 5 e_21) 6 e_22) 1 (fun _ => 0)) 8 (fun _ => 0))) H := hP
              have hR : RS (sA (sA (sA (sA (sA (sA (sA (sA S 7 kd) 2 e_18) 3 e_19) 4 e_20) 5 e_21) 6 e_22) 1 (fun _ => 0)) 8 (fun _ => 0)) := hR.one (by omega) (by omega)
              refine lv_aload_n hx hb dX6_strip_109 rfl (lv_at hl 0 rfl) ?_
              refine va_get (D := D) (ci := 6) (v := .ref (ad 43)) (C := RX6) (T := TX6) (N := 9) hx hb hT inX6 hown hK hP 0 rfl rfl 2 (by decide) (hT _ q_178) (fun _ h9 => h9) rfl dX6_strip_110 ?_
              refine z_iconst hx hb dX6_strip_113 ?_
              refine va_put (D := D) (ci := 4) (v := .int (zI (0))) (ty := .int) (C := RX4) (T := TX4) (N := 7) hx hb hT inX4 tyX4 tyX4_ok nmX4 hown hK hP (cD hinj cI cZ _) hS 3 rfl rfl 2 (by decide) (hT _ q_80) (fun _ h9 => h9) rfl (by decide +kernel) rfl rfl (Nat.le_of_ble_eq_true rfl) dX6_strip_114 (fun H locs hP _ hS => ?_)
              have hP : va_P D vwCl (cW cI cZ ad (sA (sA (sA (sA (sA (sA (sA (sA (sA S 7 kd) 2 e_18) 3 e_19) 4 e_20) 5 e_21) 6 e_22) 1 (fun _ => 0)) 8 (fun _ => 0)) 9 (fun _ => 0))) H := hP
              have hR : RS (sA (sA (sA (sA (sA (sA (sA (sA (sA S 7 kd) 2 e_18) 3 e_19) 4 e_20) 5 e_21) 6 e_22) 1 (fun _ => 0)) 8 (fun _ => 0)) 9 (fun _ => 0)) := hR.one (by omega) (by omega)
              refine lv_aload_n hx hb dX6_strip_117 rfl (lv_at hl 0 rfl) ?_
              refine va_get (D := D) (ci := 6) (v := .ref (ad 43)) (C := RX6) (T := TX6) (N := 9) hx hb hT inX6 hown hK hP 0 rfl rfl 2 (by decide) (hT _ q_178) (fun _ h9 => h9) rfl dX6_strip_118 ?_
              refine z_iconst hx hb dX6_strip_121 ?_
              refine va_put (D := D) (ci := 4) (v := .int (zI (0))) (ty := .int) (C := RX4) (T := TX4) (N := 7) hx hb hT inX4 tyX4 tyX4_ok nmX4 hown hK hP (cD hinj cI cZ _) hS 3 rfl rfl 3 (by decide) (hT _ q_83) (fun _ h9 => h9) rfl (by decide +kernel) rfl rfl (Nat.le_of_ble_eq_true rfl) dX6_strip_122 (fun H locs hP _ hS => ?_)
              have hP : va_P D vwCl (cW cI cZ ad (sA (sA (sA (sA (sA (sA (sA (sA (sA (sA S 7 kd) 2 e_18) 3 e_19) 4 e_20) 5 e_21) 6 e_22) 1 (fun _ => 0)) 8 (fun _ => 0)) 9 (fun _ => 0)) 10 (fun _ => 0))) H := hP
              have hR : RS (sA (sA (sA (sA (sA (sA (sA (sA (sA (sA S 7 kd) 2 e_18) 3 e_19) 4 e_20) 5 e_21) 6 e_22) 1 (fun _ => 0)) 8 (fun _ => 0)) 9 (fun _ => 0)) 10 (fun _ => 0)) := hR.one (by omega) (by omega)
              refine lv_aload_n hx hb dX6_strip_125 rfl (lv_at hl 0 rfl) ?_
              refine z_iconst hx hb dX6_strip_126 ?_
              refine va_put (D := D) (ci := 6) (v := .int (zI (0))) (ty := .boolean) (C := RX6) (T := TX6) (N := 9) hx hb hT inX6 tyX6 tyX6_ok nmX6 hown hK hP (cD hinj cI cZ _) hS 0 rfl rfl 7 (by decide) (hT _ q_183) (fun _ h9 => h9) rfl (by decide +kernel) (by decide) (by decide) (Nat.le_of_ble_eq_true rfl) dX6_strip_127 (fun H locs hP _ hS => ?_)
              have hP : va_P D vwCl (cW cI cZ ad (sA (sA (sA (sA (sA (sA (sA (sA (sA (sA (sA S 7 kd) 2 e_18) 3 e_19) 4 e_20) 5 e_21) 6 e_22) 1 (fun _ => 0)) 8 (fun _ => 0)) 9 (fun _ => 0)) 10 (fun _ => 0)) 32 (fun _ => 0))) H := hP
              have hR : RS (sA (sA (sA (sA (sA (sA (sA (sA (sA (sA (sA S 7 kd) 2 e_18) 3 e_19) 4 e_20) 5 e_21) 6 e_22) 1 (fun _ => 0)) 8 (fun _ => 0)) 9 (fun _ => 0)) 10 (fun _ => 0)) 32 (fun _ => 0)) := hR.one (by omega) (by omega)
              refine lv_aload_n hx hb dX6_strip_130 rfl (lv_at hl 0 rfl) ?_
              refine lv_dup hx hb dX6_strip_131 rfl ?_
              have g_24 : -2147483648 ≤ S 33 0 ∧ S 33 0 < 2147483648 := hR 33 0 (by decide)
              refine va_get (D := D) (ci := 6) (v := .int (zI (S 33 0))) (C := RX6) (T := TX6) (N := 9) hx hb hT inX6 hown hK hP 0 rfl rfl 8 (by decide) (hT _ q_184) (fun _ h9 => h9) rfl dX6_strip_132 ?_
              refine z_iconst hx hb dX6_strip_135 ?_
              refine z_iadd hx hb dX6_strip_136 ?_
              refine va_put (D := D) (ci := 6) (v := .int (zI ((S 33 0) + 1))) (ty := .int) (C := RX6) (T := TX6) (N := 9) hx hb hT inX6 tyX6 tyX6_ok nmX6 hown hK hP (cD hinj cI cZ _) hS 0 rfl rfl 8 (by decide) (hT _ q_184) (fun _ h9 => h9) rfl (by decide +kernel) rfl rfl (Nat.le_of_ble_eq_true rfl) dX6_strip_137 (fun H locs hP _ hS => ?_)
              have hP : va_P D vwCl (cW cI cZ ad (sA (sA (sA (sA (sA (sA (sA (sA (sA (sA (sA (sA S 7 kd) 2 e_18) 3 e_19) 4 e_20) 5 e_21) 6 e_22) 1 (fun _ => 0)) 8 (fun _ => 0)) 9 (fun _ => 0)) 10 (fun _ => 0)) 32 (fun _ => 0)) 33 (fun _ => (S 33 0) + 1))) H := hP
              have hR : RS (sA (sA (sA (sA (sA (sA (sA (sA (sA (sA (sA (sA S 7 kd) 2 e_18) 3 e_19) 4 e_20) 5 e_21) 6 e_22) 1 (fun _ => 0)) 8 (fun _ => 0)) 9 (fun _ => 0)) 10 (fun _ => 0)) 32 (fun _ => 0)) 33 (fun _ => (S 33 0) + 1)) := hR.one (by omega) (by omega)
              refine lv_aload_n hx hb dX6_strip_140 rfl (lv_at hl 0 rfl) ?_
              refine va_get (D := D) (ci := 6) (v := .ref (ad 45)) (C := RX6) (T := TX6) (N := 9) hx hb hT inX6 hown hK hP 0 rfl rfl 4 (by decide) (hT _ q_180) (fun _ h9 => h9) rfl dX6_strip_141 ?_
              refine g_callVv (As := []) (rest := []) ⟨hx, hb, hml, hown, hts⟩ (k_X5_judgeAll l D cI cZ ad az av hinj (sA (sA (sA (sA (sA (sA (sA (sA (sA (sA (sA (sA S 7 kd) 2 e_18) 3 e_19) 4 e_20) 5 e_21) 6 e_22) 1 (fun _ => 0)) 8 (fun _ => 0)) 9 (fun _ => 0)) 10 (fun _ => 0)) 32 (fun _ => 0)) 33 (fun _ => (S 33 0) + 1)) hR sz (nb sz) (tb sz) hct_23) (cwV 0 hts (gV hsub q_347 q_348 q_349 q_5 q_350) rfl rfl rfl hdX5_judgeAll ⟨Nat.le_of_ble_eq_true rfl, Nat.le_of_ble_eq_true rfl⟩) (cEb D cI cZ ad az av) (cEk D cI cZ ad az av) hE (va_recv (ci := 5) (q0 := 5) hK hP rfl rfl) hP hS rfl hl.1 rfl (Nat.le_of_ble_eq_true rfl) dX6_strip_144 ⟨Nat.le_of_ble_eq_true rfl, Nat.le_of_ble_eq_true rfl⟩ (fun S_26 H locs hq_27 hP hR hS _ => ?_)
              obtain ⟨e_28, e_29, e_30, rfl, hj1_31, hj2_32⟩ := hq_27
              refine lv_aload_n hx hb dX6_strip_147 rfl (lv_at hl 0 rfl) ?_
              refine va_get (D := D) (ci := 6) (v := .ref (ad 42)) (C := RX6) (T := TX6) (N := 9) hx hb hT inX6 hown hK hP 0 rfl rfl 1 (by decide) (hT _ q_177) (fun _ h9 => h9) rfl dX6_strip_148 ?_
              have g_33 : -2147483648 ≤ e_18 0 ∧ e_18 0 < 2147483648 := hR 2 0 (by decide)
              refine va_get (D := D) (ci := 0) (v := .int (zI (e_18 0))) (C := RX0) (T := TX0) (N := 5) hx hb hT inX0 hown hK hP 2 rfl rfl 0 (by decide) (hT _ q_48) (fun _ h9 => h9) rfl dX6_strip_151 ?_
              exact g_iret (S1 := sA (sA (sA (sA (sA (sA (sA (sA (sA (sA (sA (sA (sA (sA (sA S 7 kd) 2 e_18) 3 e_19) 4 e_20) 5 e_21) 6 e_22) 1 (fun _ => 0)) 8 (fun _ => 0)) 9 (fun _ => 0)) 10 (fun _ => 0)) 32 (fun _ => 0)) 33 (fun _ => (S 33 0) + 1)) 21 e_28) 22 e_29) 23 e_30) (v := zI (e_18 0)) hx hb hr hlocks hP hR hS (⟨_, _, _, _, _, _, _, _, _, _, _, _, _, _, _, rfl, kf, hkf, Or.inr ⟨hks, by omega, by omega, congrArg zI hct_23.1.1, hct_23, ⟨hj1_31, hj2_32⟩, fun j hj => hkd j (by omega), rfl, rfl, rfl, rfl, rfl, rfl⟩⟩) dX6_strip_154
            · have h9 : True := trivial
              refine lv_aload_n hx hb dX6_strip_56 rfl (lv_at hl 0 rfl) ?_
              refine va_get (D := D) (ci := 6) (v := .ref (ad 43)) (C := RX6) (T := TX6) (N := 9) hx hb hT inX6 hown hK hP 0 rfl rfl 2 (by decide) (hT _ q_178) (fun _ h9 => h9) rfl dX6_strip_57 ?_
              refine va_get (D := D) (ci := 4) (v := .ref (ad 7)) (C := RX4) (T := TX4) (N := 7) hx hb hT inX4 hown hK hP 3 rfl rfl 0 (by decide) (hT _ q_76) (fun _ h9 => h9) rfl dX6_strip_60 ?_
              refine lv_iload_n hx hb dX6_strip_63 rfl (lv_at hl 1 rfl) ?_
              refine lv_aload_n hx hb dX6_strip_64 rfl (lv_at hl 0 rfl) ?_
              refine va_get (D := D) (ci := 6) (v := .ref (ad 41)) (C := RX6) (T := TX6) (N := 9) hx hb hT inX6 hown hK hP 0 rfl rfl 0 (by decide) (hT _ q_176) (fun _ h9 => h9) rfl dX6_strip_65 ?_
              refine lv_iload_n hx hb dX6_strip_68 rfl (lv_at hl 1 rfl) ?_
              refine g_callVi (As := [.int (zI (↑i))]) (rest := [.int (zI (↑i)), .ref (ad 7)]) ⟨hx, hb, hml, hown, hts⟩ (k_X2_kindAt l D cI cZ ad az av hinj (sA S 7 kd) hR sz hsz hsz9 hpg ↑i (by omega) (by omega)) (cwV 1 hts (gV hsub q_320 q_225 q_226 q_2 q_227) rfl rfl rfl hdX2_kindAt ⟨Nat.le_of_ble_eq_true rfl, Nat.le_of_ble_eq_true rfl⟩) (cEb D cI cZ ad az av) (cEk D cI cZ ad az av) hE (va_recv (ci := 2) (q0 := 1) hK hP rfl rfl) hP hS rfl hl.1 rfl (Nat.le_of_ble_eq_true rfl) dX6_strip_69 ⟨Nat.le_of_ble_eq_true rfl, Nat.le_of_ble_eq_true rfl⟩ (fun r_34 S_35 H locs hq_36 hP hR hS _ => ?_)
              obtain ⟨hs9, rfl⟩ := hq_36
              obtain rfl := hs9.symm
              refine z_top (b := if (0 : Int) ≤ ↑i ∧ (↑i : Int) < ↑sz then kbF (S 0 (↑i : Int).toNat) else -1) rfl ?_
              have hkr := kbF_r (S 0 i)
              refine z_top (b := kbF (S 0 i)) (by rw [if_pos (by omega)]; rfl) ?_
              refine z_ast (f := (sA S 7 kd) 7) (i := ↑i) (v := kbF (S 0 i)) hx hb hK hP (cD hinj cI cZ _) hS 12 0 rfl rfl (by omega) (by omega) (by decide) dX6_strip_72 (fun H locs hP hS => ?_)
              have hP : va_P D vwCl (cW cI cZ ad (sA S 7 (uZ kd i (kbF (S 0 i))))) H := hP
              have hR : RS (sA S 7 (uZ kd i (kbF (S 0 i)))) := hR.put' (by omega) (by omega)
              refine z_iinc (lv' := [(1, .int (zI (↑i + 1))), (0, .ref (ad 40))]) hx hb dX6_strip_73 hl (k := 1) rfl (by decide) rfl (fun ls hl => ?_)
              refine lv_goto (tgt := 45) hx hb dX6_strip_76 (by decide) ?_
              exact ih_45 (i + 1) (uZ kd i (kbF (S 0 i))) _ _ _ (by omega) (fun j hj => by unfold uZ; split <;> first | (rename_i e9; rw [e9]) | exact hkd j (by omega)) (by omega) hP hR hS (lv_sub hl [1, 0] rfl)
        have hSe_37 : S = sA S 7 (S 7) := by
          funext k8
          by_cases e80 : k8 = 7
          · subst e80; first | rfl | (funext j8; rfl)
          simp [sA, e80]
        rw [hSe_37] at hP hR
        exact cut_45 _ 0 (S 7) _ _ _ (by omega) (fun j h => absurd h (Nat.not_lt_zero j)) (Nat.lt_succ_self _) hP hR hS (lv_sub hl [1, 0] rfl)
      · have h9 : True := trivial
        refine z_bipush hx hb dX6_strip_40 (by decide) ?_
        have hSe_38 : S = sA (sA (sA (sA (sA (sA (sA (sA (sA (sA (sA (sA (sA (sA (sA S 7 (S 7)) 2 (S 2)) 3 (S 3)) 4 (S 4)) 5 (S 5)) 6 (S 6)) 1 (S 1)) 8 (S 8)) 9 (S 9)) 10 (S 10)) 32 (S 32)) 33 (S 33)) 21 (S 21)) 22 (S 22)) 23 (S 23) := by
          funext k8
          by_cases e80 : k8 = 7
          · subst e80; first | rfl | (funext j8; rfl)
          by_cases e81 : k8 = 2
          · subst e81; first | rfl | (funext j8; rfl)
          by_cases e82 : k8 = 3
          · subst e82; first | rfl | (funext j8; rfl)
          by_cases e83 : k8 = 4
          · subst e83; first | rfl | (funext j8; rfl)
          by_cases e84 : k8 = 5
          · subst e84; first | rfl | (funext j8; rfl)
          by_cases e85 : k8 = 6
          · subst e85; first | rfl | (funext j8; rfl)
          by_cases e86 : k8 = 1
          · subst e86; first | rfl | (funext j8; rfl)
          by_cases e87 : k8 = 8
          · subst e87; first | rfl | (funext j8; rfl)
          by_cases e88 : k8 = 9
          · subst e88; first | rfl | (funext j8; rfl)
          by_cases e89 : k8 = 10
          · subst e89; first | rfl | (funext j8; rfl)
          by_cases e810 : k8 = 32
          · subst e810; first | rfl | (funext j8; rfl)
          by_cases e811 : k8 = 33
          · subst e811; first | rfl | (funext j8; rfl)
          by_cases e812 : k8 = 21
          · subst e812; first | rfl | (funext j8; rfl)
          by_cases e813 : k8 = 22
          · subst e813; first | rfl | (funext j8; rfl)
          by_cases e814 : k8 = 23
          · subst e814; first | rfl | (funext j8; rfl)
          simp [sA, e80, e81, e82, e83, e84, e85, e86, e87, e88, e89, e810, e811, e812, e813, e814]
        rw [hSe_38] at hP hR
        exact g_iret (S1 := sA (sA (sA (sA (sA (sA (sA (sA (sA (sA (sA (sA (sA (sA (sA S 7 (S 7)) 2 (S 2)) 3 (S 3)) 4 (S 4)) 5 (S 5)) 6 (S 6)) 1 (S 1)) 8 (S 8)) 9 (S 9)) 10 (S 10)) 32 (S 32)) 33 (S 33)) 21 (S 21)) 22 (S 22)) 23 (S 23)) (v := zI (-103)) hx hb hr hlocks hP hR hS (⟨_, _, _, _, _, _, _, _, _, _, _, _, _, _, _, rfl, kf, hkf, Or.inl ⟨by omega, by simp only [sA_self], rfl⟩⟩) dX6_strip_42
