set_option maxHeartbeats 4000000 in
set_option maxRecDepth 100000 in
theorem k_X0_takeOut (l : Launch) (p9 : Nat) (x y : Int) (hyp : y = ↑p9) (hp9 : p9 < 7) (F : Nat → Int) (hF : d7 F) (hxF : x = cdF F 7) : Met l yX0_takeOut (Cond.code yX0_takeOut cX0_takeOut 4 (some .int) :: lwT) ({ frames := 1, cells := 0, slots := 0, locals := 21 }) (va_Pc [.int (zI (x)), .int (zI (y))] (fun _ => True)) (vp_Si (fun r : Int32 => r = zI (cdF (tkF F p9) 7))) 0 0 (fun _ => False) := by
  refine Met.ofW (cc := cX0_takeOut) (maxL := 4) (ret := (some .int)) (by decide) rfl ?_
  intro p e s m args below meth c s₁ B hml hv
  obtain ⟨rfl, -⟩ := hv
  have hx := B.exec
  have hb := B.bytes
  have hr := B.returns
  have hts := atoms_spec (ws := Cond.code yX0_takeOut cX0_takeOut 4 (some .int) :: lwT) B.pre
  have hT := fun w (h : w ∈ lwT) => hts w (List.mem_cons_of_mem _ h)
  have hsub : ∀ w ∈ lwT, w ∈ (Cond.code yX0_takeOut cX0_takeOut 4 (some .int) :: lwT) := fun w h => List.mem_cons_of_mem _ h
  have hown : s.vm.findClass RX0 = some m.cls := findClass_of_methodNamed B.named
  have hlocks := B.notSynchronized
  have hcr := cdF_r (f := F) (n := 7) hF
  have h77 : (8 : Int) ^ 7 = 2097152 := by decide
  have hpw := pw2 (3 * (6 - p9)) (by omega)
  have hpw3 : (2 : Int) ^ (3 * (6 - p9) + 3) = 2 ^ (3 * (6 - p9)) * 8 := by rw [Int.pow_add]; rfl
  have hmd := Int.emod_nonneg x (show (2 : Int) ^ (3 * (6 - p9)) ≠ 0 by omega)
  have hml9 := Int.emod_lt_of_pos x (show 0 < (2 : Int) ^ (3 * (6 - p9)) by omega)
  have hup : 0 ≤ x / 2 ^ (3 * (6 - p9) + 3) * 2 ^ (3 * (6 - p9) + 3) := Int.mul_nonneg (Int.ediv_nonneg (by omega) (by omega)) (by omega)
  have hl := lv_entry ([.int (zI (x)), .int (zI (y))]) (n := 4) (Nat.le_of_ble_eq_true rfl)
  rw [lg_entry_eq]
  generalize (lg_sl ([.int (zI (x)), .int (zI (y))]) ++ List.replicate (4 - (lg_sl ([.int (zI (x)), .int (zI (y))])).length) Slot.unset).toArray = ls at hl ⊢
  have hl : lv_has ls 4 [(0, .int (zI (x))), (1, .int (zI (y)))] := hl
  refine lv_iload_n hx hb dX0_takeOut_0 rfl (lv_at hl 1 rfl) ?_
  refine s_callSi (As := [.int (zI (y))]) (rest := []) ⟨hx, hb, hml, hown, hts⟩ (k_X0_shiftOf l (p9) y (by omega) (by omega)) (cwS 1 hts (gS hsub q_344 q_345 q_3 q_346) rfl rfl rfl hdX0_shiftOf ⟨Nat.le_of_ble_eq_true rfl, Nat.le_of_ble_eq_true rfl⟩) rfl hl.1 rfl (Nat.le_of_ble_eq_true rfl) dX0_takeOut_1 ⟨Nat.le_of_ble_eq_true rfl, Nat.le_of_ble_eq_true rfl⟩ (fun r_1 hq_3 => ?_)
  rw [hq_3]
  refine lv_istore_n (lv' := [(2, .int (zI (↑(3 * (6 - p9))))), (0, .int (zI (x))), (1, .int (zI (y)))]) hx hb dX0_takeOut_4 rfl hl (by decide) rfl (fun ls hl => ?_)
  refine lv_iload_n hx hb dX0_takeOut_5 rfl (lv_at hl 1 rfl) ?_
  refine z_iconst hx hb dX0_takeOut_6 ?_
  refine lv_iload_n hx hb dX0_takeOut_7 rfl (lv_at hl 0 rfl) ?_
  refine z_ishl hx hb (3 * (6 - p9)) (by omega) (by omega) (by omega) (by omega) dX0_takeOut_8 ?_
  refine z_iconst hx hb dX0_takeOut_9 ?_
  refine z_isub hx hb dX0_takeOut_10 ?_
  refine z_iandM hx hb (3 * (6 - p9)) (by omega) (by omega) dX0_takeOut_11 ?_
  refine lv_istore_n (lv' := [(3, .int (zI (x % 2 ^ (3 * (6 - p9))))), (2, .int (zI (↑(3 * (6 - p9))))), (0, .int (zI (x))), (1, .int (zI (y)))]) hx hb dX0_takeOut_12 rfl hl (by decide) rfl (fun ls hl => ?_)
  refine lv_iload_n hx hb dX0_takeOut_13 rfl (lv_at hl 2 rfl) ?_
  refine lv_iload_n hx hb dX0_takeOut_14 rfl (lv_at hl 1 rfl) ?_
  refine s_callSi (As := [.int (zI (x)), .int (zI (↑(3 * (6 - p9))))]) (rest := []) ⟨hx, hb, hml, hown, hts⟩ (k_X0_upTo l (3 * (6 - p9)) x (↑(3 * (6 - p9))) (by omega) (by omega) (by omega) (by omega)) (cwS 2 hts (gS hsub q_440 q_441 q_3 q_442) rfl rfl rfl hdX0_upTo ⟨Nat.le_of_ble_eq_true rfl, Nat.le_of_ble_eq_true rfl⟩) rfl hl.1 rfl (Nat.le_of_ble_eq_true rfl) dX0_takeOut_15 ⟨Nat.le_of_ble_eq_true rfl, Nat.le_of_ble_eq_true rfl⟩ (fun r_4 hq_6 => ?_)
  rw [hq_6]
  refine lv_iload_n hx hb dX0_takeOut_18 rfl (lv_at hl 0 rfl) ?_
  refine z_iconst hx hb dX0_takeOut_19 ?_
  refine z_ishl hx hb (3) (by omega) (by omega) (by omega) (by omega) dX0_takeOut_20 ?_
  refine z_iorS hx hb (3 * (6 - p9) + 3) (by omega) (Int.mul_emod_left _ _) (by omega) (by omega) dX0_takeOut_21 ?_
  exact s_iret (v := zI ((x / 2 ^ (3 * (6 - p9) + 3) * 2 ^ (3 * (6 - p9) + 3)) + ((x % 2 ^ (3 * (6 - p9))) * 2 ^ 3))) hx hb hr hlocks (by rw [← tk_eq hF hp9, hxF]; rfl) dX0_takeOut_22
set_option maxHeartbeats 4000000 in
set_option maxRecDepth 100000 in
theorem k_X0_putIn (l : Launch) (q9 : Nat) (x v y : Int) (hyq : y = ↑q9) (hq9 : q9 < 7) (hv : 0 ≤ v ∧ v < 8) (F : Nat → Int) (hF : d7 F) (hF6 : F 6 = 0) (hxF : x = cdF F 7) : Met l yX0_putIn (Cond.code yX0_putIn cX0_putIn 5 (some .int) :: lwT) ({ frames := 1, cells := 0, slots := 0, locals := 21 }) (va_Pc [.int (zI (x)), .int (zI (v)), .int (zI (y))] (fun _ => True)) (vp_Si (fun r : Int32 => r = zI (cdF (ptF F v q9) 7))) 0 0 (fun _ => False) := by
  refine Met.ofW (cc := cX0_putIn) (maxL := 5) (ret := (some .int)) (by decide) rfl ?_
  intro p e s m args below meth c s₁ B hml hv
  obtain ⟨rfl, -⟩ := hv
  have hx := B.exec
  have hb := B.bytes
  have hr := B.returns
  have hts := atoms_spec (ws := Cond.code yX0_putIn cX0_putIn 5 (some .int) :: lwT) B.pre
  have hT := fun w (h : w ∈ lwT) => hts w (List.mem_cons_of_mem _ h)
  have hsub : ∀ w ∈ lwT, w ∈ (Cond.code yX0_putIn cX0_putIn 5 (some .int) :: lwT) := fun w h => List.mem_cons_of_mem _ h
  have hown : s.vm.findClass RX0 = some m.cls := findClass_of_methodNamed B.named
  have hlocks := B.notSynchronized
  have hcr := cdF_r (f := F) (n := 7) hF
  have h77 : (8 : Int) ^ 7 = 2097152 := by decide
  have hpw := pw2 (3 * (6 - q9)) (by omega)
  have hpw3 : (2 : Int) ^ (3 * (6 - q9) + 3) = 2 ^ (3 * (6 - q9)) * 8 := by rw [Int.pow_add]; rfl
  have hmd := Int.emod_nonneg x (show (2 : Int) ^ (3 * (6 - q9) + 3) ≠ 0 by omega)
  have hml9 := Int.emod_lt_of_pos x (show 0 < (2 : Int) ^ (3 * (6 - q9) + 3) by omega)
  have hup : 0 ≤ x / 2 ^ (3 * (6 - q9) + 3) * 2 ^ (3 * (6 - q9) + 3) := Int.mul_nonneg (Int.ediv_nonneg (by omega) (by omega)) (by omega)
  have hv0 : 0 ≤ v * 2 ^ (3 * (6 - q9)) := Int.mul_nonneg hv.1 (by omega)
  have hv1 : v * 2 ^ (3 * (6 - q9)) < 2 ^ (3 * (6 - q9) + 3) := by rw [hpw3, Int.mul_comm]; exact Int.mul_lt_mul_of_pos_left hv.2 (by omega)
  have h30 : (2 : Int) ^ 3 = 8 := by decide
  have hw21 := pw2 (3 * (6 - q9) + 3) (by omega)
  have hl := lv_entry ([.int (zI (x)), .int (zI (v)), .int (zI (y))]) (n := 5) (Nat.le_of_ble_eq_true rfl)
  rw [lg_entry_eq]
  generalize (lg_sl ([.int (zI (x)), .int (zI (v)), .int (zI (y))]) ++ List.replicate (5 - (lg_sl ([.int (zI (x)), .int (zI (v)), .int (zI (y))])).length) Slot.unset).toArray = ls at hl ⊢
  have hl : lv_has ls 5 [(0, .int (zI (x))), (1, .int (zI (v))), (2, .int (zI (y)))] := hl
  refine lv_iload_n hx hb dX0_putIn_0 rfl (lv_at hl 2 rfl) ?_
  refine s_callSi (As := [.int (zI (y))]) (rest := []) ⟨hx, hb, hml, hown, hts⟩ (k_X0_shiftOf l (q9) y (by omega) (by omega)) (cwS 1 hts (gS hsub q_344 q_345 q_3 q_346) rfl rfl rfl hdX0_shiftOf ⟨Nat.le_of_ble_eq_true rfl, Nat.le_of_ble_eq_true rfl⟩) rfl hl.1 rfl (Nat.le_of_ble_eq_true rfl) dX0_putIn_1 ⟨Nat.le_of_ble_eq_true rfl, Nat.le_of_ble_eq_true rfl⟩ (fun r_1 hq_3 => ?_)
  rw [hq_3]
  refine lv_istore_n (lv' := [(3, .int (zI (↑(3 * (6 - q9))))), (0, .int (zI (x))), (1, .int (zI (v))), (2, .int (zI (y)))]) hx hb dX0_putIn_4 rfl hl (by decide) rfl (fun ls hl => ?_)
  refine lv_iload_n hx hb dX0_putIn_5 rfl (lv_at hl 1 rfl) ?_
  refine z_iconst hx hb dX0_putIn_6 ?_
  refine lv_iload_n hx hb dX0_putIn_7 rfl (lv_at hl 0 rfl) ?_
  refine z_iconst hx hb dX0_putIn_8 ?_
  refine z_iadd hx hb dX0_putIn_9 ?_
  refine z_ishl hx hb (3 * (6 - q9) + 3) (by omega) (by omega) (by omega) (by omega) dX0_putIn_10 ?_
  refine z_iconst hx hb dX0_putIn_11 ?_
  refine z_isub hx hb dX0_putIn_12 ?_
  refine z_iandM hx hb (3 * (6 - q9) + 3) (by omega) (by omega) dX0_putIn_13 ?_
  refine lv_istore (lv' := [(4, .int (zI (x % 2 ^ (3 * (6 - q9) + 3)))), (3, .int (zI (↑(3 * (6 - q9))))), (0, .int (zI (x))), (1, .int (zI (v))), (2, .int (zI (y)))]) hx hb dX0_putIn_14 hl (by decide) rfl (fun ls hl => ?_)
  refine lv_iload_n hx hb dX0_putIn_16 rfl (lv_at hl 2 rfl) ?_
  refine lv_iload_n hx hb dX0_putIn_17 rfl (lv_at hl 1 rfl) ?_
  refine s_callSi (As := [.int (zI (x)), .int (zI (↑(3 * (6 - q9))))]) (rest := []) ⟨hx, hb, hml, hown, hts⟩ (k_X0_upTo l (3 * (6 - q9)) x (↑(3 * (6 - q9))) (by omega) (by omega) (by omega) (by omega)) (cwS 2 hts (gS hsub q_440 q_441 q_3 q_442) rfl rfl rfl hdX0_upTo ⟨Nat.le_of_ble_eq_true rfl, Nat.le_of_ble_eq_true rfl⟩) rfl hl.1 rfl (Nat.le_of_ble_eq_true rfl) dX0_putIn_18 ⟨Nat.le_of_ble_eq_true rfl, Nat.le_of_ble_eq_true rfl⟩ (fun r_4 hq_6 => ?_)
  rw [hq_6]
  refine lv_iload_n hx hb dX0_putIn_21 rfl (lv_at hl 3 rfl) ?_
  refine lv_iload_n hx hb dX0_putIn_22 rfl (lv_at hl 1 rfl) ?_
  refine z_ishl hx hb (3 * (6 - q9)) (by omega) (by omega) (by omega) (by omega) dX0_putIn_23 ?_
  refine z_iorS hx hb (3 * (6 - q9) + 3) (by omega) (Int.mul_emod_left _ _) (by omega) (by omega) dX0_putIn_24 ?_
  refine lv_iload hx hb dX0_putIn_25 (lv_at hl 0 rfl) ?_
  refine z_iconst hx hb dX0_putIn_27 ?_
  refine z_ishr hx hb (3) (by omega) (by omega) (by omega) (by omega) dX0_putIn_28 ?_
  refine z_iorS hx hb (3 * (6 - q9)) (by omega) (by rw [hpw3, Int.mul_comm (2 ^ (3 * (6 - q9))) 8, ← Int.mul_assoc, ← Int.add_mul]; exact Int.mul_emod_left _ _) (by rw [h30]; omega) (by rw [h30]; omega) dX0_putIn_29 ?_
  exact s_iret (v := zI (((x / 2 ^ (3 * (6 - q9) + 3) * 2 ^ (3 * (6 - q9) + 3)) + (v * 2 ^ (3 * (6 - q9)))) + ((x % 2 ^ (3 * (6 - q9) + 3)) / 2 ^ 3))) hx hb hr hlocks (by rw [← pt_eq hF hF6 hv hq9, hxF]; rfl) dX0_putIn_30
set_option maxHeartbeats 4000000 in
set_option maxRecDepth 100000 in
theorem k_X0_leafAt (l : Launch) (D : va_G) (cI cZ : ClassId) (ad : Nat → Nat) (az av : Nat) (hinj : cInj ad) (S : St) (hR : RS S) (n N : Nat) (t : Nat → Int) (hT9 : cTab n N t S) (x y : Int) (hx1 : -2147483648 ≤ x) (hx2 : x < 2147483648) (hy1 : -2147483648 ≤ y) (hy2 : y < 2147483648) : Met l yX0_leafAt (Cond.code yX0_leafAt cX0_leafAt 3 (some .int) :: lwT) ({ frames := 2, cells := 0, slots := 0, locals := 41 }) (gPc D (cW cI cZ ad) (cE D cI cZ ad az av) S [.ref (ad 42), .int (zI (x)), .int (zI (y))]) (va_Qi (fun (r : Int32) (S' : St) => S' = S ∧ r = zI (laF n N t x y)) (gB D (cW cI cZ ad)) (cA ad)) 0 0 (cA ad) := by
  refine Met.ofW (cc := cX0_leafAt) (maxL := 3) (ret := (some .int)) (by decide) rfl ?_
  intro p e s m args below meth c s₁ B hml hv
  obtain ⟨rfl, hP, hE⟩ := hv
  have hx := B.exec
  have hb := B.bytes
  have hr := B.returns
  have hts := atoms_spec (ws := Cond.code yX0_leafAt cX0_leafAt 3 (some .int) :: lwT) B.pre
  have hT := fun w (h : w ∈ lwT) => hts w (List.mem_cons_of_mem _ h)
  have hsub : ∀ w ∈ lwT, w ∈ (Cond.code yX0_leafAt cX0_leafAt 3 (some .int) :: lwT) := fun w h => List.mem_cons_of_mem _ h
  have hown : s.vm.findClass RX0 = some m.cls := findClass_of_methodNamed B.named
  have hlocks := B.notSynchronized
  have hK : va_K D vwCl [(cI, .int), (cZ, .boolean)] s := hE.1
  have hS : va_S (cA ad) s.heap s.heap [] := va_S.rf
  obtain ⟨⟨hn, hN, hn7, hN4⟩, hn0, hO9, hso, htb⟩ := hT9
  have hl := lv_entry ([.ref (ad 42), .int (zI (x)), .int (zI (y))]) (n := 3) (Nat.le_of_ble_eq_true rfl)
  rw [lg_entry_eq]
  generalize (lg_sl ([.ref (ad 42), .int (zI (x)), .int (zI (y))]) ++ List.replicate (3 - (lg_sl ([.ref (ad 42), .int (zI (x)), .int (zI (y))])).length) Slot.unset).toArray = ls at hl ⊢
  have hl : lv_has ls 3 [(0, .ref (ad 42)), (1, .int (zI (x))), (2, .int (zI (y)))] := hl
  refine lv_iload_n hx hb dX0_leafAt_0 rfl (lv_at hl 1 rfl) ?_
  refine z_if_lt (tgt := 24) hx hb (by omega) (by omega) dX0_leafAt_1 (by decide) (fun c_1 => ?_) (fun c_1 => ?_)
  · have h9 : True := trivial
    refine z_iconst hx hb dX0_leafAt_24 ?_
    exact g_iret (S1 := S) (v := zI (-1)) hx hb hr hlocks hP hR hS (⟨rfl, by unfold laF; rw [if_neg (by omega)]⟩) dX0_leafAt_25
  · have h9 : True := trivial
    refine lv_iload_n hx hb dX0_leafAt_4 rfl (lv_at hl 1 rfl) ?_
    refine lv_aload_n hx hb dX0_leafAt_5 rfl (lv_at hl 0 rfl) ?_
    have g_2 : -2147483648 ≤ S 3 0 ∧ S 3 0 < 2147483648 := hR 3 0 (by decide)
    refine va_get (D := D) (ci := 0) (v := .int (zI (S 3 0))) (C := RX0) (T := TX0) (N := 5) hx hb hT inX0 hown hK hP 2 rfl rfl 1 (by decide) (hT _ q_50) (fun _ h9 => h9) rfl dX0_leafAt_6 ?_
    refine z_icmp_ge (tgt := 24) hx hb (by omega) (by omega) (by omega) (by omega) dX0_leafAt_9 (by decide) (fun c_3 => ?_) (fun c_3 => ?_)
    · have h9 : True := trivial
      refine z_iconst hx hb dX0_leafAt_24 ?_
      exact g_iret (S1 := S) (v := zI (-1)) hx hb hr hlocks hP hR hS (⟨rfl, by unfold laF; rw [if_neg (by omega)]⟩) dX0_leafAt_25
    · have h9 : True := trivial
      refine lv_iload_n hx hb dX0_leafAt_12 rfl (lv_at hl 2 rfl) ?_
      refine z_if_lt (tgt := 24) hx hb (by omega) (by omega) dX0_leafAt_13 (by decide) (fun c_4 => ?_) (fun c_4 => ?_)
      · have h9 : True := trivial
        refine z_iconst hx hb dX0_leafAt_24 ?_
        exact g_iret (S1 := S) (v := zI (-1)) hx hb hr hlocks hP hR hS (⟨rfl, by unfold laF; rw [if_neg (by omega)]⟩) dX0_leafAt_25
      · have h9 : True := trivial
        refine lv_iload_n hx hb dX0_leafAt_16 rfl (lv_at hl 2 rfl) ?_
        refine lv_aload_n hx hb dX0_leafAt_17 rfl (lv_at hl 0 rfl) ?_
        have g_5 : -2147483648 ≤ S 2 0 ∧ S 2 0 < 2147483648 := hR 2 0 (by decide)
        refine va_get (D := D) (ci := 0) (v := .int (zI (S 2 0))) (C := RX0) (T := TX0) (N := 5) hx hb hT inX0 hown hK hP 2 rfl rfl 0 (by decide) (hT _ q_45) (fun _ h9 => h9) rfl dX0_leafAt_18 ?_
        refine z_icmp_lt (tgt := 26) hx hb (by omega) (by omega) (by omega) (by omega) dX0_leafAt_21 (by decide) (fun c_6 => ?_) (fun c_6 => ?_)
        · have h9 : True := trivial
          refine lv_aload_n hx hb dX0_leafAt_26 rfl (lv_at hl 0 rfl) ?_
          refine va_get (D := D) (ci := 0) (v := .ref (ad 4)) (C := RX0) (T := TX0) (N := 5) hx hb hT inX0 hown hK hP 2 rfl rfl 2 (by decide) (hT _ q_55) (fun _ h9 => h9) rfl dX0_leafAt_27 ?_
          refine lv_iload_n hx hb dX0_leafAt_30 rfl (lv_at hl 1 rfl) ?_
          have g_7 : -2147483648 ≤ S 4 (x).toNat ∧ S 4 (x).toNat < 2147483648 := hR 4 ((x).toNat) (by decide)
          refine z_ald (f := S 4) hx hb hK hP 9 0 rfl rfl (by omega) (by omega) (by decide) (j := (x).toNat) rfl dX0_leafAt_31 ?_
          obtain ⟨b1, b2, b3⟩ := htb x.toNat (by omega)
          obtain ⟨a1, a2, a3⟩ := (hO9 (by omega)).2.1 x.toNat (by omega)
          have a4 : 0 ≤ t x.toNat * 8 ^ (7 - n) := Int.mul_nonneg a1 (Int.pow_nonneg (by decide))
          refine lv_iload_n hx hb dX0_leafAt_32 rfl (lv_at hl 2 rfl) ?_
          refine s_callSi (As := [.int (zI (S 4 (x).toNat)), .int (zI (y))]) (rest := []) ⟨hx, hb, hml, hown, hts⟩ (k_X0_leafIn l (y.toNat) (S 4 (x).toNat) y (by omega) (by omega) (by omega) (by omega)) (cwS 2 hts (gS hsub q_374 q_375 q_3 q_376) rfl rfl rfl hdX0_leafIn ⟨Nat.le_of_ble_eq_true rfl, Nat.le_of_ble_eq_true rfl⟩) rfl hl.1 rfl (Nat.le_of_ble_eq_true rfl) dX0_leafAt_33 ⟨Nat.le_of_ble_eq_true rfl, Nat.le_of_ble_eq_true rfl⟩ (fun r_8 hq_10 => ?_)
          rw [hq_10]
          exact g_iret (S1 := S) (v := zI ((S 4 (x).toNat) / 2 ^ (3 * (6 - y.toNat)) % 8)) hx hb hr hlocks hP hR hS (⟨rfl, by unfold laF; rw [if_pos (by omega), b1, la_eq hn7 (by omega)]⟩) dX0_leafAt_36
        · have h9 : True := trivial
          refine z_iconst hx hb dX0_leafAt_24 ?_
          exact g_iret (S1 := S) (v := zI (-1)) hx hb hr hlocks hP hR hS (⟨rfl, by unfold laF; rw [if_neg (by omega)]⟩) dX0_leafAt_25
set_option maxHeartbeats 4000000 in
set_option maxRecDepth 100000 in
theorem k_X0_placeOf (l : Launch) (D : va_G) (cI cZ : ClassId) (ad : Nat → Nat) (az av : Nat) (hinj : cInj ad) (S : St) (hR : RS S) (n N : Nat) (t : Nat → Int) (hT9 : cTab n N t S) (x y : Int) (hx1 : -2147483648 ≤ x) (hx2 : x < 2147483648) (hy1 : -2147483648 ≤ y) (hy2 : y < 2147483648) : Met l yX0_placeOf (Cond.code yX0_placeOf cX0_placeOf 3 (some .int) :: lwT) ({ frames := 0, cells := 0, slots := 0, locals := 0 }) (gPc D (cW cI cZ ad) (cE D cI cZ ad az av) S [.ref (ad 42), .int (zI (x)), .int (zI (y))]) (va_Qi (fun (r : Int32) (S' : St) => S' = S ∧ r = zI (plV n N t x y)) (gB D (cW cI cZ ad)) (cA ad)) 0 0 (cA ad) := by
  refine Met.ofW (cc := cX0_placeOf) (maxL := 3) (ret := (some .int)) (by decide) rfl ?_
  intro p e s m args below meth c s₁ B hml hv
  obtain ⟨rfl, hP, hE⟩ := hv
  have hx := B.exec
  have hb := B.bytes
  have hr := B.returns
  have hts := atoms_spec (ws := Cond.code yX0_placeOf cX0_placeOf 3 (some .int) :: lwT) B.pre
  have hT := fun w (h : w ∈ lwT) => hts w (List.mem_cons_of_mem _ h)
  have hsub : ∀ w ∈ lwT, w ∈ (Cond.code yX0_placeOf cX0_placeOf 3 (some .int) :: lwT) := fun w h => List.mem_cons_of_mem _ h
  have hown : s.vm.findClass RX0 = some m.cls := findClass_of_methodNamed B.named
  have hlocks := B.notSynchronized
  have hK : va_K D vwCl [(cI, .int), (cZ, .boolean)] s := hE.1
  have hS : va_S (cA ad) s.heap s.heap [] := va_S.rf
  obtain ⟨⟨hn, hN, hn7, hN4⟩, hn0, hO9, hso, htb⟩ := hT9
  have hl := lv_entry ([.ref (ad 42), .int (zI (x)), .int (zI (y))]) (n := 3) (Nat.le_of_ble_eq_true rfl)
  rw [lg_entry_eq]
  generalize (lg_sl ([.ref (ad 42), .int (zI (x)), .int (zI (y))]) ++ List.replicate (3 - (lg_sl ([.ref (ad 42), .int (zI (x)), .int (zI (y))])).length) Slot.unset).toArray = ls at hl ⊢
  have hl : lv_has ls 3 [(0, .ref (ad 42)), (1, .int (zI (x))), (2, .int (zI (y)))] := hl
  refine lv_iload_n hx hb dX0_placeOf_0 rfl (lv_at hl 1 rfl) ?_
  refine z_if_lt (tgt := 24) hx hb (by omega) (by omega) dX0_placeOf_1 (by decide) (fun c_1 => ?_) (fun c_1 => ?_)
  · have h9 : True := trivial
    refine z_iconst hx hb dX0_placeOf_24 ?_
    exact g_iret (S1 := S) (v := zI (-1)) hx hb hr hlocks hP hR hS (⟨rfl, by unfold plV; rw [if_neg (by omega)]⟩) dX0_placeOf_25
  · have h9 : True := trivial
    refine lv_iload_n hx hb dX0_placeOf_4 rfl (lv_at hl 1 rfl) ?_
    refine lv_aload_n hx hb dX0_placeOf_5 rfl (lv_at hl 0 rfl) ?_
    have g_2 : -2147483648 ≤ S 3 0 ∧ S 3 0 < 2147483648 := hR 3 0 (by decide)
    refine va_get (D := D) (ci := 0) (v := .int (zI (S 3 0))) (C := RX0) (T := TX0) (N := 5) hx hb hT inX0 hown hK hP 2 rfl rfl 1 (by decide) (hT _ q_50) (fun _ h9 => h9) rfl dX0_placeOf_6 ?_
    refine z_icmp_ge (tgt := 24) hx hb (by omega) (by omega) (by omega) (by omega) dX0_placeOf_9 (by decide) (fun c_3 => ?_) (fun c_3 => ?_)
    · have h9 : True := trivial
      refine z_iconst hx hb dX0_placeOf_24 ?_
      exact g_iret (S1 := S) (v := zI (-1)) hx hb hr hlocks hP hR hS (⟨rfl, by unfold plV; rw [if_neg (by omega)]⟩) dX0_placeOf_25
    · have h9 : True := trivial
      refine lv_iload_n hx hb dX0_placeOf_12 rfl (lv_at hl 2 rfl) ?_
      refine z_if_lt (tgt := 24) hx hb (by omega) (by omega) dX0_placeOf_13 (by decide) (fun c_4 => ?_) (fun c_4 => ?_)
      · have h9 : True := trivial
        refine z_iconst hx hb dX0_placeOf_24 ?_
        exact g_iret (S1 := S) (v := zI (-1)) hx hb hr hlocks hP hR hS (⟨rfl, by unfold plV; rw [if_neg (by omega)]⟩) dX0_placeOf_25
      · have h9 : True := trivial
        refine lv_iload_n hx hb dX0_placeOf_16 rfl (lv_at hl 2 rfl) ?_
        refine lv_aload_n hx hb dX0_placeOf_17 rfl (lv_at hl 0 rfl) ?_
        have g_5 : -2147483648 ≤ S 2 0 ∧ S 2 0 < 2147483648 := hR 2 0 (by decide)
        refine va_get (D := D) (ci := 0) (v := .int (zI (S 2 0))) (C := RX0) (T := TX0) (N := 5) hx hb hT inX0 hown hK hP 2 rfl rfl 0 (by decide) (hT _ q_45) (fun _ h9 => h9) rfl dX0_placeOf_18 ?_
        refine z_icmp_lt (tgt := 26) hx hb (by omega) (by omega) (by omega) (by omega) dX0_placeOf_21 (by decide) (fun c_6 => ?_) (fun c_6 => ?_)
        · have h9 : True := trivial
          refine lv_aload_n hx hb dX0_placeOf_26 rfl (lv_at hl 0 rfl) ?_
          refine va_get (D := D) (ci := 0) (v := .ref (ad 5)) (C := RX0) (T := TX0) (N := 5) hx hb hT inX0 hown hK hP 2 rfl rfl 3 (by decide) (hT _ q_56) (fun _ h9 => h9) rfl dX0_placeOf_27 ?_
          refine lv_iload_n hx hb dX0_placeOf_30 rfl (lv_at hl 1 rfl) ?_
          have g_7 : -2147483648 ≤ S 5 (x).toNat ∧ S 5 (x).toNat < 2147483648 := hR 5 ((x).toNat) (by decide)
          refine z_ald (f := S 5) hx hb hK hP 10 0 rfl rfl (by omega) (by omega) (by decide) (j := (x).toNat) rfl dX0_placeOf_31 ?_
          obtain ⟨b1, b2, b3⟩ := htb x.toNat (by omega)
          refine z_iconst hx hb dX0_placeOf_32 ?_
          refine lv_iload_n hx hb dX0_placeOf_33 rfl (lv_at hl 2 rfl) ?_
          refine z_imul hx hb dX0_placeOf_34 ?_
          refine z_ishr hx hb (3 * y.toNat) (by omega) (by omega) (by omega) (by omega) dX0_placeOf_35 ?_
          have h8 : 0 ≤ S 5 x.toNat / 2 ^ (3 * y.toNat) := Int.ediv_nonneg b2 (Int.pow_nonneg (by decide))
          refine z_bipush hx hb dX0_placeOf_36 (by decide) ?_
          refine z_iandM hx hb (3) (by decide) (by omega) dX0_placeOf_38 ?_
          exact g_iret (S1 := S) (v := zI (((S 5 (x).toNat) / 2 ^ (3 * y.toNat)) % 2 ^ 3)) hx hb hr hlocks hP hR hS (⟨rfl, by unfold plV; rw [if_pos (by omega)]; exact congrArg zI (b3 y.toNat (by omega))⟩) dX0_placeOf_39
        · have h9 : True := trivial
          refine z_iconst hx hb dX0_placeOf_24 ?_
          exact g_iret (S1 := S) (v := zI (-1)) hx hb hr hlocks hP hR hS (⟨rfl, by unfold plV; rw [if_neg (by omega)]⟩) dX0_placeOf_25
