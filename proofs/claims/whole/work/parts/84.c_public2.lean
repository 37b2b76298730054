set_option maxHeartbeats 4000000 in
set_option maxRecDepth 100000 in
theorem k_X6_move (l : Launch) (D : va_G) (cI cZ : ClassId) (ad : Nat → Nat) (az av : Nat) (hinj : cInj ad) (S : St) (hR : RS S) (n N : Nat) (t : Nat → Int) (hT9 : cTab n N t S) (hV : cVer n N t S) (k0 : Nat) (hk8 : S 8 0 = ↑k0) (hk0 : n ≠ 0 → k0 < N) (x y : Int) (hx1 : -2147483648 ≤ x) (hx2 : x < 2147483648) (hy1 : -2147483648 ≤ y) (hy2 : y < 2147483648) : Met l yX6_move (Cond.code yX6_move cX6_move 4 (some .int) :: lwT) ({ frames := 5, cells := 0, slots := 0, locals := 112 }) (gPc D (cW cI cZ ad) (cE D cI cZ ad az av) S [.ref (ad 40), .int (zI (x)), .int (zI (y))]) (va_Qi (fun (r : Int32) (S' : St) => ∃ e8 e9, S' = sA (sA S 8 e8) 9 e9 ∧ ∃ v, moveC n N (S 7) t k0 (S 9 0) x y v (e8 0) (e9 0) ∧ r = zI v) (gB D (cW cI cZ ad)) (cA ad)) 0 0 (cA ad) := by
  refine Met.ofW (cc := cX6_move) (maxL := 4) (ret := (some .int)) (by decide) rfl ?_
  intro p e s m args below meth c s₁ B hml hv
  obtain ⟨rfl, hP, hE⟩ := hv
  have hx := B.exec
  have hb := B.bytes
  have hr := B.returns
  have hts := atoms_spec (ws := Cond.code yX6_move cX6_move 4 (some .int) :: lwT) B.pre
  have hT := fun w (h : w ∈ lwT) => hts w (List.mem_cons_of_mem _ h)
  have hsub : ∀ w ∈ lwT, w ∈ (Cond.code yX6_move cX6_move 4 (some .int) :: lwT) := fun w h => List.mem_cons_of_mem _ h
  have hown : s.vm.findClass RX6 = some m.cls := findClass_of_methodNamed B.named
  have hlocks := B.notSynchronized
  have hK : va_K D vwCl [(cI, .int), (cZ, .boolean)] s := hE.1
  have hS : va_S (cA ad) s.heap s.heap [] := va_S.rf
  have hT8 := hT9
  have hTo := hT9
  obtain ⟨⟨hn, hN, hn7, hN4⟩, hn0, hO9, hso, htb⟩ := hTo
  have hl := lv_entry ([.ref (ad 40), .int (zI (x)), .int (zI (y))]) (n := 4) (Nat.le_of_ble_eq_true rfl)
  rw [lg_entry_eq]
  generalize (lg_sl ([.ref (ad 40), .int (zI (x)), .int (zI (y))]) ++ List.replicate (4 - (lg_sl ([.ref (ad 40), .int (zI (x)), .int (zI (y))])).length) Slot.unset).toArray = ls at hl ⊢
  have hl : lv_has ls 4 [(0, .ref (ad 40)), (1, .int (zI (x))), (2, .int (zI (y)))] := hl
  refine lv_aload_n hx hb dX6_move_0 rfl (lv_at hl 0 rfl) ?_
  refine lv_iload_n hx hb dX6_move_1 rfl (lv_at hl 1 rfl) ?_
  refine g_callVi (As := [.int (zI (x))]) (rest := []) ⟨hx, hb, hml, hown, hts⟩ (k_X6_isLeaf l D cI cZ ad az av hinj S hR x (by omega) (by omega)) (cwV 1 hts (gV hsub q_395 q_397 q_sX6_isLeaf q_1 q_398) rfl rfl rfl hdX6_isLeaf ⟨Nat.le_of_ble_eq_true rfl, Nat.le_of_ble_eq_true rfl⟩) (cEb D cI cZ ad az av) (cEk D cI cZ ad az av) hE (va_recv (ci := 6) (q0 := 0) hK hP rfl rfl) hP hS rfl hl.1 rfl (Nat.le_of_ble_eq_true rfl) dX6_move_2 ⟨Nat.le_of_ble_eq_true rfl, Nat.le_of_ble_eq_true rfl⟩ (fun r_1 S_2 H locs hq_3 hP hR hS _ => ?_)
  obtain ⟨hs9, rfl⟩ := hq_3
  obtain rfl := hs9.symm
  refine z_top (b := b2 (decide (0 ≤ x ∧ x ≤ S 2 0 - 1))) rfl ?_
  refine z_ifeqB (tgt := 16) hx hb dX6_move_5 (by decide) (fun c_4 => ?_) (fun c_4 => ?_)
  · have h9 : True := trivial
    have c_4 : ¬ (0 ≤ x ∧ x ≤ S 2 0 - 1) := of_decide_eq_false c_4
    refine z_bipush hx hb dX6_move_16 (by decide) ?_
    have hSe_5 : S = sA (sA S 8 (S 8)) 9 (S 9) := by
      funext k8
      by_cases e80 : k8 = 8
      · subst e80; first | rfl | (funext j8; rfl)
      by_cases e81 : k8 = 9
      · subst e81; first | rfl | (funext j8; rfl)
      simp [sA, e80, e81]
    rw [hSe_5] at hP hR
    exact g_iret (S1 := sA (sA S 8 (S 8)) 9 (S 9)) (v := zI (-101)) hx hb hr hlocks hP hR hS (⟨_, _, rfl, _, Or.inl ⟨by unfold isL; omega, rfl, hk8, rfl⟩, rfl⟩) dX6_move_18
  · have h9 : True := trivial
    have c_4 : 0 ≤ x ∧ x ≤ S 2 0 - 1 := of_decide_eq_true c_4
    refine lv_aload_n hx hb dX6_move_8 rfl (lv_at hl 0 rfl) ?_
    refine lv_iload_n hx hb dX6_move_9 rfl (lv_at hl 2 rfl) ?_
    refine g_callVi (As := [.int (zI (y))]) (rest := []) ⟨hx, hb, hml, hown, hts⟩ (k_X6_isPlace l D cI cZ ad az av hinj S hR y (by omega) (by omega)) (cwV 1 hts (gV hsub q_423 q_425 q_sX6_isPlace q_1 q_426) rfl rfl rfl hdX6_isPlace ⟨Nat.le_of_ble_eq_true rfl, Nat.le_of_ble_eq_true rfl⟩) (cEb D cI cZ ad az av) (cEk D cI cZ ad az av) hE (va_recv (ci := 6) (q0 := 0) hK hP rfl rfl) hP hS rfl hl.1 rfl (Nat.le_of_ble_eq_true rfl) dX6_move_10 ⟨Nat.le_of_ble_eq_true rfl, Nat.le_of_ble_eq_true rfl⟩ (fun r_6 S_7 H locs hq_8 hP hR hS _ => ?_)
    obtain ⟨hs9, rfl⟩ := hq_8
    obtain rfl := hs9.symm
    refine z_top (b := b2 (decide (0 ≤ y ∧ y ≤ S 2 0 - 1))) rfl ?_
    refine z_ifneB (tgt := 19) hx hb dX6_move_13 (by decide) (fun c_9 => ?_) (fun c_9 => ?_)
    · have h9 : True := trivial
      have c_9 : 0 ≤ y ∧ y ≤ S 2 0 - 1 := of_decide_eq_true c_9
      have hnz : n ≠ 0 := by omega
      have hkN := hk0 hnz
      have hO := hO9 hnz
      have hpk := (hO.2.1 k0 hkN).2.1
      refine lv_aload_n hx hb dX6_move_19 rfl (lv_at hl 0 rfl) ?_
      refine va_get (D := D) (ci := 6) (v := .ref (ad 42)) (C := RX6) (T := TX6) (N := 9) hx hb hT inX6 hown hK hP 0 rfl rfl 1 (by decide) (hT _ q_177) (fun _ h9 => h9) rfl dX6_move_20 ?_
      refine lv_aload_n hx hb dX6_move_23 rfl (lv_at hl 0 rfl) ?_
      refine va_get (D := D) (ci := 6) (v := .ref (ad 43)) (C := RX6) (T := TX6) (N := 9) hx hb hT inX6 hown hK hP 0 rfl rfl 2 (by decide) (hT _ q_178) (fun _ h9 => h9) rfl dX6_move_24 ?_
      have g_10 : -2147483648 ≤ S 8 0 ∧ S 8 0 < 2147483648 := hR 8 0 (by decide)
      refine va_get (D := D) (ci := 4) (v := .int (zI (S 8 0))) (C := RX4) (T := TX4) (N := 7) hx hb hT inX4 hown hK hP 3 rfl rfl 1 (by decide) (hT _ q_78) (fun _ h9 => h9) rfl dX6_move_27 ?_
      refine lv_iload_n hx hb dX6_move_30 rfl (lv_at hl 1 rfl) ?_
      refine lv_iload_n hx hb dX6_move_31 rfl (lv_at hl 2 rfl) ?_
      refine g_callVi (As := [.int (zI (S 8 0)), .int (zI (x)), .int (zI (y))]) (rest := []) ⟨hx, hb, hml, hown, hts⟩ (k_X0_afterMove l D cI cZ ad az av hinj S hR n N t hT8 k0 x.toNat y.toNat (S 8 0) x y (by omega) (by omega) (by omega) hkN (by omega) (by omega)) (cwV 3 hts (gV hsub q_432 q_433 q_434 q_3 q_435) rfl rfl rfl hdX0_afterMove ⟨Nat.le_of_ble_eq_true rfl, Nat.le_of_ble_eq_true rfl⟩) (cEb D cI cZ ad az av) (cEk D cI cZ ad az av) hE (va_recv (ci := 0) (q0 := 2) hK hP rfl rfl) hP hS rfl hl.1 rfl (Nat.le_of_ble_eq_true rfl) dX6_move_32 ⟨Nat.le_of_ble_eq_true rfl, Nat.le_of_ble_eq_true rfl⟩ (fun r_11 S_12 H locs hq_13 hP hR hS _ => ?_)
      obtain ⟨hs9, rfl⟩ := hq_13
      obtain rfl := hs9.symm
      refine z_top (b := amF n N t k0 x.toNat y.toNat) rfl ?_
      have hmr := am_r (n := n) (N := N) (t := t) (k := k0) (v := x.toNat) (q := y.toNat)
      refine lv_istore_n (lv' := [(3, .int (zI (amF n N t k0 x.toNat y.toNat))), (0, .ref (ad 40)), (1, .int (zI (x))), (2, .int (zI (y)))]) hx hb dX6_move_35 rfl hl (by decide) rfl (fun ls hl => ?_)
      refine lv_iload_n hx hb dX6_move_36 rfl (lv_at hl 0 rfl) ?_
      refine z_iconst hx hb dX6_move_37 ?_
      refine z_icmp_eq (tgt := 52) hx hb (by omega) (by omega) (by omega) (by omega) dX6_move_38 (by decide) (fun c_14 => ?_) (fun c_14 => ?_)
      · have h9 : True := trivial
        refine z_bipush hx hb dX6_move_52 (by decide) ?_
        have hSe_15 : S = sA (sA S 8 (S 8)) 9 (S 9) := by
          funext k8
          by_cases e80 : k8 = 8
          · subst e80; first | rfl | (funext j8; rfl)
          by_cases e81 : k8 = 9
          · subst e81; first | rfl | (funext j8; rfl)
          simp [sA, e80, e81]
        rw [hSe_15] at hP hR
        exact g_iret (S1 := sA (sA S 8 (S 8)) 9 (S 9)) (v := zI (-103)) hx hb hr hlocks hP hR hS (⟨_, _, rfl, _, Or.inr (Or.inl ⟨(by unfold isL; omega), am_no hO hn7 hkN (by omega) (by omega) (by omega), rfl, hk8, rfl⟩), rfl⟩) dX6_move_54
      · have h9 : True := trivial
        refine lv_iload_n hx hb dX6_move_41 rfl (lv_at hl 0 rfl) ?_
        refine lv_aload_n hx hb dX6_move_42 rfl (lv_at hl 1 rfl) ?_
        refine va_get (D := D) (ci := 6) (v := .ref (ad 43)) (C := RX6) (T := TX6) (N := 9) hx hb hT inX6 hown hK hP 0 rfl rfl 2 (by decide) (hT _ q_178) (fun _ h9 => h9) rfl dX6_move_43 ?_
        refine va_get (D := D) (ci := 4) (v := .int (zI (S 8 0))) (C := RX4) (T := TX4) (N := 7) hx hb hT inX4 hown hK hP 3 rfl rfl 1 (by decide) (hT _ q_78) (fun _ h9 => h9) rfl dX6_move_46 ?_
        refine z_icmp_ne (tgt := 55) hx hb (by omega) (by omega) (by omega) (by omega) dX6_move_49 (by decide) (fun c_16 => ?_) (fun c_16 => ?_)
        · have h9 : True := trivial
          obtain ⟨hcb, y9, hy9, hya, hyt⟩ := am_yes hO hn7 hkN (v := x.toNat) (q := y.toNat) (by omega) (by omega) (by omega) (by omega)
          refine lv_aload_n hx hb dX6_move_55 rfl (lv_at hl 1 rfl) ?_
          refine va_get (D := D) (ci := 6) (v := .ref (ad 43)) (C := RX6) (T := TX6) (N := 9) hx hb hT inX6 hown hK hP 0 rfl rfl 2 (by decide) (hT _ q_178) (fun _ h9 => h9) rfl dX6_move_56 ?_
          have g_17 : -2147483648 ≤ S 9 0 ∧ S 9 0 < 2147483648 := hR 9 0 (by decide)
          refine va_get (D := D) (ci := 4) (v := .int (zI (S 9 0))) (C := RX4) (T := TX4) (N := 7) hx hb hT inX4 hown hK hP 3 rfl rfl 2 (by decide) (hT _ q_80) (fun _ h9 => h9) rfl dX6_move_59 ?_
          refine z_sipush hx hb dX6_move_62 (by decide) ?_
          refine z_icmp_lt (tgt := 71) hx hb (by omega) (by omega) (by omega) (by omega) dX6_move_65 (by decide) (fun c_18 => ?_) (fun c_18 => ?_)
          · have h9 : True := trivial
            refine lv_aload_n hx hb dX6_move_71 rfl (lv_at hl 1 rfl) ?_
            refine va_get (D := D) (ci := 6) (v := .ref (ad 43)) (C := RX6) (T := TX6) (N := 9) hx hb hT inX6 hown hK hP 0 rfl rfl 2 (by decide) (hT _ q_178) (fun _ h9 => h9) rfl dX6_move_72 ?_
            refine lv_iload_n hx hb dX6_move_75 rfl (lv_at hl 0 rfl) ?_
            refine va_put (D := D) (ci := 4) (v := .int (zI (amF n N t k0 x.toNat y.toNat))) (ty := .int) (C := RX4) (T := TX4) (N := 7) hx hb hT inX4 tyX4 tyX4_ok nmX4 hown hK hP (cD hinj cI cZ _) hS 3 rfl rfl 1 (by decide) (hT _ q_78) (fun _ h9 => h9) rfl (by decide +kernel) rfl rfl (Nat.le_of_ble_eq_true rfl) dX6_move_76 (fun H locs hP _ hS => ?_)
            have hP : va_P D vwCl (cW cI cZ ad (sA S 8 (fun _ => amF n N t k0 x.toNat y.toNat))) H := hP
            have hR : RS (sA S 8 (fun _ => amF n N t k0 x.toNat y.toNat)) := hR.one (by omega) (by omega)
            refine lv_aload_n hx hb dX6_move_79 rfl (lv_at hl 1 rfl) ?_
            refine va_get (D := D) (ci := 6) (v := .ref (ad 43)) (C := RX6) (T := TX6) (N := 9) hx hb hT inX6 hown hK hP 0 rfl rfl 2 (by decide) (hT _ q_178) (fun _ h9 => h9) rfl dX6_move_80 ?_
            refine lv_dup hx hb dX6_move_83 rfl ?_
            refine va_get (D := D) (ci := 4) (v := .int (zI (S 9 0))) (C := RX4) (T := TX4) (N := 7) hx hb hT inX4 hown hK hP 3 rfl rfl 2 (by decide) (hT _ q_80) (fun _ h9 => h9) rfl dX6_move_84 ?_
            refine z_iconst hx hb dX6_move_87 ?_
            refine z_iadd hx hb dX6_move_88 ?_
            refine va_put (D := D) (ci := 4) (v := .int (zI ((S 9 0) + 1))) (ty := .int) (C := RX4) (T := TX4) (N := 7) hx hb hT inX4 tyX4 tyX4_ok nmX4 hown hK hP (cD hinj cI cZ _) hS 3 rfl rfl 2 (by decide) (hT _ q_80) (fun _ h9 => h9) rfl (by decide +kernel) rfl rfl (Nat.le_of_ble_eq_true rfl) dX6_move_89 (fun H locs hP _ hS => ?_)
            have hP : va_P D vwCl (cW cI cZ ad (sA (sA S 8 (fun _ => amF n N t k0 x.toNat y.toNat)) 9 (fun _ => (S 9 0) + 1))) H := hP
            have hR : RS (sA (sA S 8 (fun _ => amF n N t k0 x.toNat y.toNat)) 9 (fun _ => (S 9 0) + 1)) := hR.one (by omega) (by omega)
            refine lv_aload_n hx hb dX6_move_92 rfl (lv_at hl 1 rfl) ?_
            refine g_callVi (As := []) (rest := []) ⟨hx, hb, hml, hown, hts⟩ (k_X6_openHinges l D cI cZ ad az av hinj (sA (sA S 8 (fun _ => amF n N t k0 x.toNat y.toNat)) 9 (fun _ => (S 9 0) + 1)) hR n N t hT8 y9 hya (fun _ => hy9)) (cwV 0 hts (gV hsub q_454 q_456 q_sX6_openHinges q_1 q_457) rfl rfl rfl hdX6_openHinges ⟨Nat.le_of_ble_eq_true rfl, Nat.le_of_ble_eq_true rfl⟩) (cEb D cI cZ ad az av) (cEk D cI cZ ad az av) hE (va_recv (ci := 6) (q0 := 0) hK hP rfl rfl) hP hS rfl hl.1 rfl (Nat.le_of_ble_eq_true rfl) dX6_move_93 ⟨Nat.le_of_ble_eq_true rfl, Nat.le_of_ble_eq_true rfl⟩ (fun r_19 S_20 H locs hq_21 hP hR hS _ => ?_)
            obtain ⟨hs9, rfl⟩ := hq_21
            obtain rfl := hs9.symm
            refine z_top (b := opF n (S 7) (dgF n (t y9))) rfl ?_
            exact g_iret (S1 := sA (sA S 8 (fun _ => amF n N t k0 x.toNat y.toNat)) 9 (fun _ => (S 9 0) + 1)) (v := zI (opF n (S 7) (dgF n (t y9)))) hx hb hr hlocks hP hR hS (⟨_, _, rfl, _, Or.inr (Or.inr (Or.inr ⟨(by unfold isL; omega), hcb, by omega, y9, hy9, hyt, hya, rfl, rfl⟩)), rfl⟩) dX6_move_96
          · have h9 : True := trivial
            refine z_bipush hx hb dX6_move_68 (by decide) ?_
            have hSe_22 : S = sA (sA S 8 (S 8)) 9 (S 9) := by
              funext k8
              by_cases e80 : k8 = 8
              · subst e80; first | rfl | (funext j8; rfl)
              by_cases e81 : k8 = 9
              · subst e81; first | rfl | (funext j8; rfl)
              simp [sA, e80, e81]
            rw [hSe_22] at hP hR
            exact g_iret (S1 := sA (sA S 8 (S 8)) 9 (S 9)) (v := zI (-104)) hx hb hr hlocks hP hR hS (⟨_, _, rfl, _, Or.inr (Or.inr (Or.inl ⟨(by unfold isL; omega), hcb, by omega, rfl, hk8, rfl⟩)), rfl⟩) dX6_move_70
        · have h9 : True := trivial
          refine z_bipush hx hb dX6_move_52 (by decide) ?_
          have hSe_23 : S = sA (sA S 8 (S 8)) 9 (S 9) := by
            funext k8
            by_cases e80 : k8 = 8
            · subst e80; first | rfl | (funext j8; rfl)
            by_cases e81 : k8 = 9
            · subst e81; first | rfl | (funext j8; rfl)
            simp [sA, e80, e81]
          rw [hSe_23] at hP hR
          exact g_iret (S1 := sA (sA S 8 (S 8)) 9 (S 9)) (v := zI (-103)) hx hb hr hlocks hP hR hS (⟨_, _, rfl, _, Or.inr (Or.inl ⟨(by unfold isL; omega), am_no hO hn7 hkN (by omega) (by omega) (by omega), rfl, hk8, rfl⟩), rfl⟩) dX6_move_54
    · have h9 : True := trivial
      have c_9 : ¬ (0 ≤ y ∧ y ≤ S 2 0 - 1) := of_decide_eq_false c_9
      refine z_bipush hx hb dX6_move_16 (by decide) ?_
      have hSe_24 : S = sA (sA S 8 (S 8)) 9 (S 9) := by
        funext k8
        by_cases e80 : k8 = 8
        · subst e80; first | rfl | (funext j8; rfl)
        by_cases e81 : k8 = 9
        · subst e81; first | rfl | (funext j8; rfl)
        simp [sA, e80, e81]
      rw [hSe_24] at hP hR
      exact g_iret (S1 := sA (sA S 8 (S 8)) 9 (S 9)) (v := zI (-101)) hx hb hr hlocks hP hR hS (⟨_, _, rfl, _, Or.inl ⟨by unfold isL; omega, rfl, hk8, rfl⟩, rfl⟩) dX6_move_18
set_option maxHeartbeats 4000000 in
set_option maxRecDepth 100000 in
theorem k_X6_turn (l : Launch) (D : va_G) (cI cZ : ClassId) (ad : Nat → Nat) (az av : Nat) (hinj : cInj ad) (S : St) (hR : RS S) (n N : Nat) (t : Nat → Int) (hT9 : cTab n N t S) (hV : cVer n N t S) (k0 : Nat) (hk8 : S 8 0 = ↑k0) (hk0 : n ≠ 0 → k0 < N) : Met l yX6_turn (Cond.code yX6_turn cX6_turn 1 (some .int) :: lwT) ({ frames := 4, cells := 0, slots := 0, locals := 86 }) (gPc D (cW cI cZ ad) (cE D cI cZ ad az av) S [.ref (ad 40)]) (va_Qi (fun (r : Int32) (S' : St) => ∃ e8, S' = sA S 8 e8 ∧ ∃ v, turnC n N t k0 v (e8 0) ∧ r = zI v) (gB D (cW cI cZ ad)) (cA ad)) 0 0 (cA ad) := by
  refine Met.ofW (cc := cX6_turn) (maxL := 1) (ret := (some .int)) (by decide) rfl ?_
  intro p e s m args below meth c s₁ B hml hv
  obtain ⟨rfl, hP, hE⟩ := hv
  have hx := B.exec
  have hb := B.bytes
  have hr := B.returns
  have hts := atoms_spec (ws := Cond.code yX6_turn cX6_turn 1 (some .int) :: lwT) B.pre
  have hT := fun w (h : w ∈ lwT) => hts w (List.mem_cons_of_mem _ h)
  have hsub : ∀ w ∈ lwT, w ∈ (Cond.code yX6_turn cX6_turn 1 (some .int) :: lwT) := fun w h => List.mem_cons_of_mem _ h
  have hown : s.vm.findClass RX6 = some m.cls := findClass_of_methodNamed B.named
  have hlocks := B.notSynchronized
  have hK : va_K D vwCl [(cI, .int), (cZ, .boolean)] s := hE.1
  have hS : va_S (cA ad) s.heap s.heap [] := va_S.rf
  have hT8 := hT9
  have hTo := hT9
  obtain ⟨⟨hn, hN, hn7, hN4⟩, hn0, hO9, hso, htb⟩ := hTo
  have hl := lv_entry ([.ref (ad 40)]) (n := 1) (Nat.le_of_ble_eq_true rfl)
  rw [lg_entry_eq]
  generalize (lg_sl ([.ref (ad 40)]) ++ List.replicate (1 - (lg_sl ([.ref (ad 40)])).length) Slot.unset).toArray = ls at hl ⊢
  have hl : lv_has ls 1 [(0, .ref (ad 40))] := hl
  refine lv_aload_n hx hb dX6_turn_0 rfl (lv_at hl 0 rfl) ?_
  refine g_callVi (As := []) (rest := []) ⟨hx, hb, hml, hown, hts⟩ (k_X6_isWithoutStrip l D cI cZ ad az av hinj S hR ) (cwV 0 hts (gV hsub q_462 q_464 q_sX6_isWithoutStrip q_1 q_465) rfl rfl rfl hdX6_isWithoutStrip ⟨Nat.le_of_ble_eq_true rfl, Nat.le_of_ble_eq_true rfl⟩) (cEb D cI cZ ad az av) (cEk D cI cZ ad az av) hE (va_recv (ci := 6) (q0 := 0) hK hP rfl rfl) hP hS rfl hl.1 rfl (Nat.le_of_ble_eq_true rfl) dX6_turn_1 ⟨Nat.le_of_ble_eq_true rfl, Nat.le_of_ble_eq_true rfl⟩ (fun r_1 S_2 H locs hq_3 hP hR hS _ => ?_)
  obtain ⟨hs9, rfl⟩ := hq_3
  obtain rfl := hs9.symm
  refine z_top (b := b2 (decide (S 2 0 = 0))) rfl ?_
  refine z_ifeqB (tgt := 10) hx hb dX6_turn_4 (by decide) (fun c_4 => ?_) (fun c_4 => ?_)
  · have h9 : True := trivial
    have c_4 : ¬ (S 2 0 = 0) := of_decide_eq_false c_4
    have hnz : n ≠ 0 := by omega
    have hkN := hk0 hnz
    have hO := hO9 hnz
    have hpk := (hO.2.1 k0 hkN).2.1
    obtain ⟨y9, hy9, hya, hyt, -⟩ := tu_in hO hn7 hkN
    refine lv_aload_n hx hb dX6_turn_10 rfl (lv_at hl 0 rfl) ?_
    refine va_get (D := D) (ci := 6) (v := .ref (ad 43)) (C := RX6) (T := TX6) (N := 9) hx hb hT inX6 hown hK hP 0 rfl rfl 2 (by decide) (hT _ q_178) (fun _ h9 => h9) rfl dX6_turn_11 ?_
    refine lv_aload_n hx hb dX6_turn_14 rfl (lv_at hl 0 rfl) ?_
    refine va_get (D := D) (ci := 6) (v := .ref (ad 42)) (C := RX6) (T := TX6) (N := 9) hx hb hT inX6 hown hK hP 0 rfl rfl 1 (by decide) (hT _ q_177) (fun _ h9 => h9) rfl dX6_turn_15 ?_
    refine lv_aload_n hx hb dX6_turn_18 rfl (lv_at hl 0 rfl) ?_
    refine va_get (D := D) (ci := 6) (v := .ref (ad 43)) (C := RX6) (T := TX6) (N := 9) hx hb hT inX6 hown hK hP 0 rfl rfl 2 (by decide) (hT _ q_178) (fun _ h9 => h9) rfl dX6_turn_19 ?_
    have g_5 : -2147483648 ≤ S 8 0 ∧ S 8 0 < 2147483648 := hR 8 0 (by decide)
    refine va_get (D := D) (ci := 4) (v := .int (zI (S 8 0))) (C := RX4) (T := TX4) (N := 7) hx hb hT inX4 hown hK hP 3 rfl rfl 1 (by decide) (hT _ q_78) (fun _ h9 => h9) rfl dX6_turn_22 ?_
    refine g_callVi (As := [.int (zI (S 8 0))]) (rest := [.ref (ad 43)]) ⟨hx, hb, hml, hown, hts⟩ (k_X0_afterTurn l D cI cZ ad az av hinj S hR n N t hT8 k0 (S 8 0) (by omega) hkN hnz) (cwV 1 hts (gV hsub q_466 q_467 q_468 q_3 q_469) rfl rfl rfl hdX0_afterTurn ⟨Nat.le_of_ble_eq_true rfl, Nat.le_of_ble_eq_true rfl⟩) (cEb D cI cZ ad az av) (cEk D cI cZ ad az av) hE (va_recv (ci := 0) (q0 := 2) hK hP rfl rfl) hP hS rfl hl.1 rfl (Nat.le_of_ble_eq_true rfl) dX6_turn_25 ⟨Nat.le_of_ble_eq_true rfl, Nat.le_of_ble_eq_true rfl⟩ (fun r_6 S_7 H locs hq_8 hP hR hS _ => ?_)
    obtain ⟨hs9, rfl⟩ := hq_8
    obtain rfl := hs9.symm
    refine z_top (b := tuF n N t k0) rfl ?_
    refine z_top (b := ↑y9) (hya) ?_
    refine va_put (D := D) (ci := 4) (v := .int (zI (↑y9))) (ty := .int) (C := RX4) (T := TX4) (N := 7) hx hb hT inX4 tyX4 tyX4_ok nmX4 hown hK hP (cD hinj cI cZ _) hS 3 rfl rfl 1 (by decide) (hT _ q_78) (fun _ h9 => h9) rfl (by decide +kernel) rfl rfl (Nat.le_of_ble_eq_true rfl) dX6_turn_28 (fun H locs hP _ hS => ?_)
    have hP : va_P D vwCl (cW cI cZ ad (sA S 8 (fun _ => ↑y9))) H := hP
    have hR : RS (sA S 8 (fun _ => ↑y9)) := hR.one (by omega) (by omega)
    refine lv_aload_n hx hb dX6_turn_31 rfl (lv_at hl 0 rfl) ?_
    refine va_get (D := D) (ci := 6) (v := .ref (ad 42)) (C := RX6) (T := TX6) (N := 9) hx hb hT inX6 hown hK hP 0 rfl rfl 1 (by decide) (hT _ q_177) (fun _ h9 => h9) rfl dX6_turn_32 ?_
    refine lv_aload_n hx hb dX6_turn_35 rfl (lv_at hl 0 rfl) ?_
    refine va_get (D := D) (ci := 6) (v := .ref (ad 43)) (C := RX6) (T := TX6) (N := 9) hx hb hT inX6 hown hK hP 0 rfl rfl 2 (by decide) (hT _ q_178) (fun _ h9 => h9) rfl dX6_turn_36 ?_
    refine va_get (D := D) (ci := 4) (v := .int (zI (↑y9))) (C := RX4) (T := TX4) (N := 7) hx hb hT inX4 hown hK hP 3 rfl rfl 1 (by decide) (hT _ q_78) (fun _ h9 => h9) rfl dX6_turn_39 ?_
    refine z_iconst hx hb dX6_turn_42 ?_
    refine g_callVi (As := [.int (zI (↑y9)), .int (zI (0))]) (rest := []) ⟨hx, hb, hml, hown, hts⟩ (k_X0_leafAt l D cI cZ ad az av hinj (sA S 8 (fun _ => ↑y9)) hR n N t hT8 ↑y9 0 (by omega) (by omega) (by omega) (by omega)) (cwV 2 hts (gV hsub q_427 q_371 q_372 q_3 q_373) rfl rfl rfl hdX0_leafAt ⟨Nat.le_of_ble_eq_true rfl, Nat.le_of_ble_eq_true rfl⟩) (cEb D cI cZ ad az av) (cEk D cI cZ ad az av) hE (va_recv (ci := 0) (q0 := 2) hK hP rfl rfl) hP hS rfl hl.1 rfl (Nat.le_of_ble_eq_true rfl) dX6_turn_43 ⟨Nat.le_of_ble_eq_true rfl, Nat.le_of_ble_eq_true rfl⟩ (fun r_9 S_10 H locs hq_11 hP hR hS _ => ?_)
    obtain ⟨hs9, rfl⟩ := hq_11
    obtain rfl := hs9.symm
    refine z_top (b := laF n N t ↑y9 0) rfl ?_
    refine z_top (b := dgF n (t y9) 0) (by unfold laF; rw [if_pos (by omega)]; rfl) ?_
    exact g_iret (S1 := sA S 8 (fun _ => ↑y9)) (v := zI (dgF n (t y9) 0)) hx hb hr hlocks hP hR hS (⟨_, rfl, _, Or.inr ⟨hnz, y9, hy9, hyt, rfl, rfl⟩, rfl⟩) dX6_turn_46
  · have h9 : True := trivial
    have c_4 : S 2 0 = 0 := of_decide_eq_true c_4
    refine z_bipush hx hb dX6_turn_7 (by decide) ?_
    have hSe_12 : S = sA S 8 (S 8) := by
      funext k8
      by_cases e80 : k8 = 8
      · subst e80; first | rfl | (funext j8; rfl)
      simp [sA, e80]
    rw [hSe_12] at hP hR
    exact g_iret (S1 := sA S 8 (S 8)) (v := zI (-103)) hx hb hr hlocks hP hR hS (⟨_, rfl, _, Or.inl ⟨by omega, rfl, hk8⟩, rfl⟩) dX6_turn_9
set_option maxHeartbeats 4000000 in
set_option maxRecDepth 100000 in
theorem k_X6_lay (l : Launch) (D : va_G) (cI cZ : ClassId) (ad : Nat → Nat) (az av : Nat) (hinj : cInj ad) (S : St) (hR : RS S) (n N : Nat) (t : Nat → Int) (hT9 : cTab n N t S) (hV : cVer n N t S) (k0 : Nat) (hk8 : S 8 0 = ↑k0) (hk0 : n ≠ 0 → k0 < N) (x : Int) (hx1 : -2147483648 ≤ x) (hx2 : x < 2147483648) : Met l yX6_lay (Cond.code yX6_lay cX6_lay 3 (some .int) :: lwT) ({ frames := 1, cells := 0, slots := 0, locals := 21 }) (gPc D (cW cI cZ ad) (cE D cI cZ ad az av) S [.ref (ad 40), .int (zI (x))]) (va_Qi (fun (r : Int32) (S' : St) => ∃ e8, S' = sA S 8 e8 ∧ ∃ v, layC N k0 x v (e8 0) ∧ r = zI v) (gB D (cW cI cZ ad)) (cA ad)) 0 0 (cA ad) := by
  refine Met.ofW (cc := cX6_lay) (maxL := 3) (ret := (some .int)) (by decide) rfl ?_
  intro p e s m args below meth c s₁ B hml hv
  obtain ⟨rfl, hP, hE⟩ := hv
  have hx := B.exec
  have hb := B.bytes
  have hr := B.returns
  have hts := atoms_spec (ws := Cond.code yX6_lay cX6_lay 3 (some .int) :: lwT) B.pre
  have hT := fun w (h : w ∈ lwT) => hts w (List.mem_cons_of_mem _ h)
  have hsub : ∀ w ∈ lwT, w ∈ (Cond.code yX6_lay cX6_lay 3 (some .int) :: lwT) := fun w h => List.mem_cons_of_mem _ h
  have hown : s.vm.findClass RX6 = some m.cls := findClass_of_methodNamed B.named
  have hlocks := B.notSynchronized
  have hK : va_K D vwCl [(cI, .int), (cZ, .boolean)] s := hE.1
  have hS : va_S (cA ad) s.heap s.heap [] := va_S.rf
  have hT8 := hT9
  have hTo := hT9
  obtain ⟨⟨hn, hN, hn7, hN4⟩, hn0, hO9, hso, htb⟩ := hTo
  have hl := lv_entry ([.ref (ad 40), .int (zI (x))]) (n := 3) (Nat.le_of_ble_eq_true rfl)
  rw [lg_entry_eq]
  generalize (lg_sl ([.ref (ad 40), .int (zI (x))]) ++ List.replicate (3 - (lg_sl ([.ref (ad 40), .int (zI (x))])).length) Slot.unset).toArray = ls at hl ⊢
  have hl : lv_has ls 3 [(0, .ref (ad 40)), (1, .int (zI (x)))] := hl
  refine lv_aload_n hx hb dX6_lay_0 rfl (lv_at hl 0 rfl) ?_
  refine lv_iload_n hx hb dX6_lay_1 rfl (lv_at hl 1 rfl) ?_
  refine g_callVi (As := [.int (zI (x))]) (rest := []) ⟨hx, hb, hml, hown, hts⟩ (k_X6_isOrder l D cI cZ ad az av hinj S hR x (by omega) (by omega)) (cwV 1 hts (gV hsub q_475 q_477 q_sX6_isOrder q_1 q_478) rfl rfl rfl hdX6_isOrder ⟨Nat.le_of_ble_eq_true rfl, Nat.le_of_ble_eq_true rfl⟩) (cEb D cI cZ ad az av) (cEk D cI cZ ad az av) hE (va_recv (ci := 6) (q0 := 0) hK hP rfl rfl) hP hS rfl hl.1 rfl (Nat.le_of_ble_eq_true rfl) dX6_lay_2 ⟨Nat.le_of_ble_eq_true rfl, Nat.le_of_ble_eq_true rfl⟩ (fun r_1 S_2 H locs hq_3 hP hR hS _ => ?_)
  obtain ⟨hs9, rfl⟩ := hq_3
  obtain rfl := hs9.symm
  refine z_top (b := b2 (decide (0 ≤ x ∧ x ≤ S 3 0 - 1))) rfl ?_
  refine z_ifneB (tgt := 11) hx hb dX6_lay_5 (by decide) (fun c_4 => ?_) (fun c_4 => ?_)
  · have h9 : True := trivial
    have c_4 : 0 ≤ x ∧ x ≤ S 3 0 - 1 := of_decide_eq_true c_4
    refine lv_aload_n hx hb dX6_lay_11 rfl (lv_at hl 0 rfl) ?_
    refine va_get (D := D) (ci := 6) (v := .ref (ad 43)) (C := RX6) (T := TX6) (N := 9) hx hb hT inX6 hown hK hP 0 rfl rfl 2 (by decide) (hT _ q_178) (fun _ h9 => h9) rfl dX6_lay_12 ?_
    have g_5 : -2147483648 ≤ S 8 0 ∧ S 8 0 < 2147483648 := hR 8 0 (by decide)
    refine va_get (D := D) (ci := 4) (v := .int (zI (S 8 0))) (C := RX4) (T := TX4) (N := 7) hx hb hT inX4 hown hK hP 3 rfl rfl 1 (by decide) (hT _ q_78) (fun _ h9 => h9) rfl dX6_lay_15 ?_
    refine lv_istore_n (lv' := [(2, .int (zI (S 8 0))), (0, .ref (ad 40)), (1, .int (zI (x)))]) hx hb dX6_lay_18 rfl hl (by decide) rfl (fun ls hl => ?_)
    refine lv_aload_n hx hb dX6_lay_19 rfl (lv_at hl 1 rfl) ?_
    refine va_get (D := D) (ci := 6) (v := .ref (ad 43)) (C := RX6) (T := TX6) (N := 9) hx hb hT inX6 hown hK hP 0 rfl rfl 2 (by decide) (hT _ q_178) (fun _ h9 => h9) rfl dX6_lay_20 ?_
    refine lv_iload_n hx hb dX6_lay_23 rfl (lv_at hl 2 rfl) ?_
    refine va_put (D := D) (ci := 4) (v := .int (zI (x))) (ty := .int) (C := RX4) (T := TX4) (N := 7) hx hb hT inX4 tyX4 tyX4_ok nmX4 hown hK hP (cD hinj cI cZ _) hS 3 rfl rfl 1 (by decide) (hT _ q_78) (fun _ h9 => h9) rfl (by decide +kernel) rfl rfl (Nat.le_of_ble_eq_true rfl) dX6_lay_24 (fun H locs hP _ hS => ?_)
    have hP : va_P D vwCl (cW cI cZ ad (sA S 8 (fun _ => x))) H := hP
    have hR : RS (sA S 8 (fun _ => x)) := hR.one (by omega) (by omega)
    refine lv_iload_n hx hb dX6_lay_27 rfl (lv_at hl 0 rfl) ?_
    exact g_iret (S1 := sA S 8 (fun _ => x)) (v := zI (S 8 0)) hx hb hr hlocks hP hR hS (⟨_, rfl, _, Or.inr ⟨by omega, hk8, rfl⟩, rfl⟩) dX6_lay_28
  · have h9 : True := trivial
    have c_4 : ¬ (0 ≤ x ∧ x ≤ S 3 0 - 1) := of_decide_eq_false c_4
    refine z_bipush hx hb dX6_lay_8 (by decide) ?_
    have hSe_6 : S = sA S 8 (S 8) := by
      funext k8
      by_cases e80 : k8 = 8
      · subst e80; first | rfl | (funext j8; rfl)
      simp [sA, e80]
    rw [hSe_6] at hP hR
    exact g_iret (S1 := sA S 8 (S 8)) (v := zI (-101)) hx hb hr hlocks hP hR hS (⟨_, rfl, _, Or.inl ⟨by omega, rfl, hk8⟩, rfl⟩) dX6_lay_10
set_option maxHeartbeats 4000000 in
set_option maxRecDepth 100000 in
theorem k_X6_change (l : Launch) (D : va_G) (cI cZ : ClassId) (ad : Nat → Nat) (az av : Nat) (hinj : cInj ad) (S : St) (hR : RS S) (n N : Nat) (t : Nat → Int) (hT9 : cTab n N t S) (hV : cVer n N t S) (k0 : Nat) (hk8 : S 8 0 = ↑k0) (hk0 : n ≠ 0 → k0 < N) (x w : Int) (hx1 : -2147483648 ≤ x) (hx2 : x < 2147483648) (hw1 : -2147483648 ≤ w) (hw2 : w < 2147483648) : Met l yX6_change (Cond.code yX6_change cX6_change 4 (some .int) :: lwT) ({ frames := 7, cells := 0, slots := 0, locals := 153 }) (gPc D (cW cI cZ ad) (cE D cI cZ ad az av) S [.ref (ad 40), .int (zI (x)), .int (zI (w))]) (va_Qi (fun (r : Int32) (S' : St) => ∃ e7 e21 e22 e23, S' = sA (sA (sA (sA S 7 e7) 21 e21) 22 e22) 23 e23 ∧ cVer n N t S' ∧ ∃ v, changeR n (S 7) x w v e7 ∧ r = zI v) (gB D (cW cI cZ ad)) (cA ad)) 0 0 (cA ad) := by
  refine Met.ofW (cc := cX6_change) (maxL := 4) (ret := (some .int)) (by decide) rfl ?_
  intro p e s m args below meth c s₁ B hml hv
  obtain ⟨rfl, hP, hE⟩ := hv
  have hx := B.exec
  have hb := B.bytes
  have hr := B.returns
  have hts := atoms_spec (ws := Cond.code yX6_change cX6_change 4 (some .int) :: lwT) B.pre
  have hT := fun w (h : w ∈ lwT) => hts w (List.mem_cons_of_mem _ h)
  have hsub : ∀ w ∈ lwT, w ∈ (Cond.code yX6_change cX6_change 4 (some .int) :: lwT) := fun w h => List.mem_cons_of_mem _ h
  have hown : s.vm.findClass RX6 = some m.cls := findClass_of_methodNamed B.named
  have hlocks := B.notSynchronized
  have hK : va_K D vwCl [(cI, .int), (cZ, .boolean)] s := hE.1
  have hS : va_S (cA ad) s.heap s.heap [] := va_S.rf
  have hT8 := hT9
  have hTo := hT9
  obtain ⟨⟨hn, hN, hn7, hN4⟩, hn0, hO9, hso, htb⟩ := hTo
  have hl := lv_entry ([.ref (ad 40), .int (zI (x)), .int (zI (w))]) (n := 4) (Nat.le_of_ble_eq_true rfl)
  rw [lg_entry_eq]
  generalize (lg_sl ([.ref (ad 40), .int (zI (x)), .int (zI (w))]) ++ List.replicate (4 - (lg_sl ([.ref (ad 40), .int (zI (x)), .int (zI (w))])).length) Slot.unset).toArray = ls at hl ⊢
  have hl : lv_has ls 4 [(0, .ref (ad 40)), (1, .int (zI (x))), (2, .int (zI (w)))] := hl
  refine lv_aload_n hx hb dX6_change_0 rfl (lv_at hl 0 rfl) ?_
  refine lv_iload_n hx hb dX6_change_1 rfl (lv_at hl 1 rfl) ?_
  refine g_callVi (As := [.int (zI (x))]) (rest := []) ⟨hx, hb, hml, hown, hts⟩ (k_X6_isLeaf l D cI cZ ad az av hinj S hR x (by omega) (by omega)) (cwV 1 hts (gV hsub q_395 q_397 q_sX6_isLeaf q_1 q_398) rfl rfl rfl hdX6_isLeaf ⟨Nat.le_of_ble_eq_true rfl, Nat.le_of_ble_eq_true rfl⟩) (cEb D cI cZ ad az av) (cEk D cI cZ ad az av) hE (va_recv (ci := 6) (q0 := 0) hK hP rfl rfl) hP hS rfl hl.1 rfl (Nat.le_of_ble_eq_true rfl) dX6_change_2 ⟨Nat.le_of_ble_eq_true rfl, Nat.le_of_ble_eq_true rfl⟩ (fun r_1 S_2 H locs hq_3 hP hR hS _ => ?_)
  obtain ⟨hs9, rfl⟩ := hq_3
  obtain rfl := hs9.symm
  refine z_top (b := b2 (decide (0 ≤ x ∧ x ≤ S 2 0 - 1))) rfl ?_
  refine z_ifneB (tgt := 11) hx hb dX6_change_5 (by decide) (fun c_4 => ?_) (fun c_4 => ?_)
  · have h9 : True := trivial
    have c_4 : 0 ≤ x ∧ x ≤ S 2 0 - 1 := of_decide_eq_true c_4
    refine lv_iload_n hx hb dX6_change_11 rfl (lv_at hl 2 rfl) ?_
    refine g_callSi (As := [.int (zI (w))]) (rest := []) ⟨hx, hb, hml, hown, hts⟩ (k_X6_isKind l D cI cZ ad az av hinj S hR w (by omega) (by omega)) (cwS 1 hts (gS hsub q_409 q_410 q_1 q_411) rfl rfl rfl hdX6_isKind ⟨Nat.le_of_ble_eq_true rfl, Nat.le_of_ble_eq_true rfl⟩) (cEb D cI cZ ad az av) (cEk D cI cZ ad az av) hE hP hS rfl hl.1 rfl (Nat.le_of_ble_eq_true rfl) dX6_change_12 ⟨Nat.le_of_ble_eq_true rfl, Nat.le_of_ble_eq_true rfl⟩ (fun r_5 S_6 H locs hq_7 hP hR hS _ => ?_)
    obtain ⟨hs9, rfl⟩ := hq_7
    obtain rfl := hs9.symm
    refine z_top (b := b2 (pB ((0 : Int) ≤ w ∧ (w : Int) ≤ 4))) rfl ?_
    refine z_ifneB (tgt := 21) hx hb dX6_change_15 (by decide) (fun c_8 => ?_) (fun c_8 => ?_)
    · have h9 : True := trivial
      have hwk := pB_t.mp c_8
      refine lv_aload_n hx hb dX6_change_21 rfl (lv_at hl 0 rfl) ?_
      refine va_get (D := D) (ci := 6) (v := .ref (ad 43)) (C := RX6) (T := TX6) (N := 9) hx hb hT inX6 hown hK hP 0 rfl rfl 2 (by decide) (hT _ q_178) (fun _ h9 => h9) rfl dX6_change_22 ?_
      refine va_get (D := D) (ci := 4) (v := .ref (ad 7)) (C := RX4) (T := TX4) (N := 7) hx hb hT inX4 hown hK hP 3 rfl rfl 0 (by decide) (hT _ q_76) (fun _ h9 => h9) rfl dX6_change_25 ?_
      refine lv_iload_n hx hb dX6_change_28 rfl (lv_at hl 1 rfl) ?_
      have g_9 : -2147483648 ≤ S 7 (x).toNat ∧ S 7 (x).toNat < 2147483648 := hR 7 ((x).toNat) (by decide)
      refine z_ald (f := S 7) hx hb hK hP 12 0 rfl rfl (by omega) (by omega) (by decide) (j := (x).toNat) rfl dX6_change_29 ?_
      refine lv_istore_n (lv' := [(3, .int (zI (S 7 (x).toNat))), (0, .ref (ad 40)), (1, .int (zI (x))), (2, .int (zI (w)))]) hx hb dX6_change_30 rfl hl (by decide) rfl (fun ls hl => ?_)
      refine lv_aload_n hx hb dX6_change_31 rfl (lv_at hl 1 rfl) ?_
      refine va_get (D := D) (ci := 6) (v := .ref (ad 43)) (C := RX6) (T := TX6) (N := 9) hx hb hT inX6 hown hK hP 0 rfl rfl 2 (by decide) (hT _ q_178) (fun _ h9 => h9) rfl dX6_change_32 ?_
      refine va_get (D := D) (ci := 4) (v := .ref (ad 7)) (C := RX4) (T := TX4) (N := 7) hx hb hT inX4 hown hK hP 3 rfl rfl 0 (by decide) (hT _ q_76) (fun _ h9 => h9) rfl dX6_change_35 ?_
      refine lv_iload_n hx hb dX6_change_38 rfl (lv_at hl 2 rfl) ?_
      refine lv_iload_n hx hb dX6_change_39 rfl (lv_at hl 3 rfl) ?_
      refine z_ast (f := S 7) (i := x) (v := w) hx hb hK hP (cD hinj cI cZ _) hS 12 0 rfl rfl (by omega) (by omega) (by decide) dX6_change_40 (fun H locs hP hS => ?_)
      have hP : va_P D vwCl (cW cI cZ ad (sA S 7 (uZ (S 7) (x).toNat w))) H := hP
      have hR : RS (sA S 7 (uZ (S 7) (x).toNat w)) := hR.put (by omega) (by omega)
      refine lv_aload_n hx hb dX6_change_41 rfl (lv_at hl 1 rfl) ?_
      refine va_get (D := D) (ci := 6) (v := .ref (ad 45)) (C := RX6) (T := TX6) (N := 9) hx hb hT inX6 hown hK hP 0 rfl rfl 4 (by decide) (hT _ q_180) (fun _ h9 => h9) rfl dX6_change_42 ?_
      refine g_callVv (As := []) (rest := []) ⟨hx, hb, hml, hown, hts⟩ (k_X5_judgeAll l D cI cZ ad az av hinj (sA S 7 (uZ (S 7) (x).toNat w)) hR n N t hT8) (cwV 0 hts (gV hsub q_347 q_348 q_349 q_5 q_350) rfl rfl rfl hdX5_judgeAll ⟨Nat.le_of_ble_eq_true rfl, Nat.le_of_ble_eq_true rfl⟩) (cEb D cI cZ ad az av) (cEk D cI cZ ad az av) hE (va_recv (ci := 5) (q0 := 5) hK hP rfl rfl) hP hS rfl hl.1 rfl (Nat.le_of_ble_eq_true rfl) dX6_change_45 ⟨Nat.le_of_ble_eq_true rfl, Nat.le_of_ble_eq_true rfl⟩ (fun S_11 H locs hq_12 hP hR hS _ => ?_)
      obtain ⟨e_13, e_14, e_15, rfl, hj1_16, hj2_17⟩ := hq_12
      refine lv_iload_n hx hb dX6_change_48 rfl (lv_at hl 0 rfl) ?_
      exact g_iret (S1 := sA (sA (sA (sA S 7 (uZ (S 7) (x).toNat w)) 21 e_13) 22 e_14) 23 e_15) (v := zI (S 7 (x).toNat)) hx hb hr hlocks hP hR hS (⟨_, _, _, _, rfl, ⟨hj1_16, hj2_17⟩, _, Or.inr (Or.inr ⟨(by unfold isL; omega), by omega, rfl, rfl⟩), rfl⟩) dX6_change_49
    · have h9 : True := trivial
      have hwk := pB_f.mp c_8
      refine z_bipush hx hb dX6_change_18 (by decide) ?_
      have hSe_18 : S = sA (sA (sA (sA S 7 (S 7)) 21 (S 21)) 22 (S 22)) 23 (S 23) := by
        funext k8
        by_cases e80 : k8 = 7
        · subst e80; first | rfl | (funext j8; rfl)
        by_cases e81 : k8 = 21
        · subst e81; first | rfl | (funext j8; rfl)
        by_cases e82 : k8 = 22
        · subst e82; first | rfl | (funext j8; rfl)
        by_cases e83 : k8 = 23
        · subst e83; first | rfl | (funext j8; rfl)
        simp [sA, e80, e81, e82, e83]
      rw [hSe_18] at hP hR
      exact g_iret (S1 := sA (sA (sA (sA S 7 (S 7)) 21 (S 21)) 22 (S 22)) 23 (S 23)) (v := zI (-102)) hx hb hr hlocks hP hR hS (⟨_, _, _, _, rfl, hV, _, Or.inr (Or.inl ⟨(by unfold isL; omega), by omega, rfl, rfl⟩), rfl⟩) dX6_change_20
  · have h9 : True := trivial
    have c_4 : ¬ (0 ≤ x ∧ x ≤ S 2 0 - 1) := of_decide_eq_false c_4
    refine z_bipush hx hb dX6_change_8 (by decide) ?_
    have hSe_19 : S = sA (sA (sA (sA S 7 (S 7)) 21 (S 21)) 22 (S 22)) 23 (S 23) := by
      funext k8
      by_cases e80 : k8 = 7
      · subst e80; first | rfl | (funext j8; rfl)
      by_cases e81 : k8 = 21
      · subst e81; first | rfl | (funext j8; rfl)
      by_cases e82 : k8 = 22
      · subst e82; first | rfl | (funext j8; rfl)
      by_cases e83 : k8 = 23
      · subst e83; first | rfl | (funext j8; rfl)
      simp [sA, e80, e81, e82, e83]
    rw [hSe_19] at hP hR
    exact g_iret (S1 := sA (sA (sA (sA S 7 (S 7)) 21 (S 21)) 22 (S 22)) 23 (S 23)) (v := zI (-101)) hx hb hr hlocks hP hR hS (⟨_, _, _, _, rfl, hV, _, Or.inl ⟨by unfold isL; omega, rfl, rfl⟩, rfl⟩) dX6_change_10
set_option maxHeartbeats 4000000 in
set_option maxRecDepth 100000 in
theorem k_X6_orders (l : Launch) (D : va_G) (cI cZ : ClassId) (ad : Nat → Nat) (az av : Nat) (hinj : cInj ad) (S : St) (hR : RS S) (n N : Nat) (t : Nat → Int) (hT9 : cTab n N t S) (hV : cVer n N t S) (k0 : Nat) (hk8 : S 8 0 = ↑k0) (hk0 : n ≠ 0 → k0 < N) (w : Int) (hw1 : -2147483648 ≤ w) (hw2 : w < 2147483648) : Met l yX6_orders (Cond.code yX6_orders cX6_orders 2 (some .int) :: lwT) ({ frames := 1, cells := 0, slots := 0, locals := 21 }) (gPc D (cW cI cZ ad) (cE D cI cZ ad az av) S [.ref (ad 40), .int (zI (w))]) (va_Qi (fun (r : Int32) (S' : St) => S' = S ∧ r = zI (ordersF n N (S 7) (dgF n (t k0)) t k0 w)) (gB D (cW cI cZ ad)) (cA ad)) 0 0 (cA ad) := by
  refine Met.ofW (cc := cX6_orders) (maxL := 2) (ret := (some .int)) (by decide) rfl ?_
  intro p e s m args below meth c s₁ B hml hv
  obtain ⟨rfl, hP, hE⟩ := hv
  have hx := B.exec
  have hb := B.bytes
  have hr := B.returns
  have hts := atoms_spec (ws := Cond.code yX6_orders cX6_orders 2 (some .int) :: lwT) B.pre
  have hT := fun w (h : w ∈ lwT) => hts w (List.mem_cons_of_mem _ h)
  have hsub : ∀ w ∈ lwT, w ∈ (Cond.code yX6_orders cX6_orders 2 (some .int) :: lwT) := fun w h => List.mem_cons_of_mem _ h
  have hown : s.vm.findClass RX6 = some m.cls := findClass_of_methodNamed B.named
  have hlocks := B.notSynchronized
  have hK : va_K D vwCl [(cI, .int), (cZ, .boolean)] s := hE.1
  have hS : va_S (cA ad) s.heap s.heap [] := va_S.rf
  have hT8 := hT9
  have hTo := hT9
  obtain ⟨⟨hn, hN, hn7, hN4⟩, hn0, hO9, hso, htb⟩ := hTo
  have hl := lv_entry ([.ref (ad 40), .int (zI (w))]) (n := 2) (Nat.le_of_ble_eq_true rfl)
  rw [lg_entry_eq]
  generalize (lg_sl ([.ref (ad 40), .int (zI (w))]) ++ List.replicate (2 - (lg_sl ([.ref (ad 40), .int (zI (w))])).length) Slot.unset).toArray = ls at hl ⊢
  have hl : lv_has ls 2 [(0, .ref (ad 40)), (1, .int (zI (w)))] := hl
  refine lv_iload_n hx hb dX6_orders_0 rfl (lv_at hl 1 rfl) ?_
  refine z_if_lt (tgt := 9) hx hb (by omega) (by omega) dX6_orders_1 (by decide) (fun c_1 => ?_) (fun c_1 => ?_)
  · have h9 : True := trivial
    refine z_bipush hx hb dX6_orders_9 (by decide) ?_
    exact g_iret (S1 := S) (v := zI (-102)) hx hb hr hlocks hP hR hS (⟨rfl, by unfold ordersF; rw [if_neg (by omega)]⟩) dX6_orders_11
  · have h9 : True := trivial
    refine lv_iload_n hx hb dX6_orders_4 rfl (lv_at hl 1 rfl) ?_
    refine z_iconst hx hb dX6_orders_5 ?_
    refine z_icmp_le (tgt := 12) hx hb (by omega) (by omega) (by omega) (by omega) dX6_orders_6 (by decide) (fun c_2 => ?_) (fun c_2 => ?_)
    · have h9 : True := trivial
      refine lv_aload_n hx hb dX6_orders_12 rfl (lv_at hl 0 rfl) ?_
      refine g_callVi (As := []) (rest := []) ⟨hx, hb, hml, hown, hts⟩ (k_X6_isWithoutStrip l D cI cZ ad az av hinj S hR ) (cwV 0 hts (gV hsub q_462 q_464 q_sX6_isWithoutStrip q_1 q_465) rfl rfl rfl hdX6_isWithoutStrip ⟨Nat.le_of_ble_eq_true rfl, Nat.le_of_ble_eq_true rfl⟩) (cEb D cI cZ ad az av) (cEk D cI cZ ad az av) hE (va_recv (ci := 6) (q0 := 0) hK hP rfl rfl) hP hS rfl hl.1 rfl (Nat.le_of_ble_eq_true rfl) dX6_orders_13 ⟨Nat.le_of_ble_eq_true rfl, Nat.le_of_ble_eq_true rfl⟩ (fun r_3 S_4 H locs hq_5 hP hR hS _ => ?_)
      obtain ⟨hs9, rfl⟩ := hq_5
      obtain rfl := hs9.symm
      refine z_top (b := b2 (decide (S 2 0 = 0))) rfl ?_
      refine z_ifeqB (tgt := 22) hx hb dX6_orders_16 (by decide) (fun c_6 => ?_) (fun c_6 => ?_)
      · have h9 : True := trivial
        have c_6 : ¬ (S 2 0 = 0) := of_decide_eq_false c_6
        have hnz : n ≠ 0 := by omega
        have hkN := hk0 hnz
        have hO := hO9 hnz
        have hpk := (hO.2.1 k0 hkN).2.1
        refine lv_iload_n hx hb dX6_orders_22 rfl (lv_at hl 1 rfl) ?_
        rcases (show (w < 0 ∨ 2 < w) ∨ w = 0 ∨ w = 1 ∨ w = 2 by omega) with c_7 | c_7 | c_7 | c_7
        · refine z_tabOut hx hb (by omega) (by omega) dX6_orders_23 c_7 (tgt := 72) (by decide) ?_
          refine lv_aload_n hx hb dX6_orders_72 rfl (lv_at hl 0 rfl) ?_
          refine va_get (D := D) (ci := 6) (v := .ref (ad 45)) (C := RX6) (T := TX6) (N := 9) hx hb hT inX6 hown hK hP 0 rfl rfl 4 (by decide) (hT _ q_180) (fun _ h9 => h9) rfl dX6_orders_73 ?_
          refine lv_aload_n hx hb dX6_orders_76 rfl (lv_at hl 0 rfl) ?_
          refine va_get (D := D) (ci := 6) (v := .ref (ad 43)) (C := RX6) (T := TX6) (N := 9) hx hb hT inX6 hown hK hP 0 rfl rfl 2 (by decide) (hT _ q_178) (fun _ h9 => h9) rfl dX6_orders_77 ?_
          have g_8 : -2147483648 ≤ S 8 0 ∧ S 8 0 < 2147483648 := hR 8 0 (by decide)
          refine va_get (D := D) (ci := 4) (v := .int (zI (S 8 0))) (C := RX4) (T := TX4) (N := 7) hx hb hT inX4 hown hK hP 3 rfl rfl 1 (by decide) (hT _ q_78) (fun _ h9 => h9) rfl dX6_orders_80 ?_
          refine g_callVi (As := [.int (zI (S 8 0))]) (rest := []) ⟨hx, hb, hml, hown, hts⟩ (k_X5_isFit l D cI cZ ad az av hinj S hR n N t hT8 hV (S 8 0) (by omega) (by omega)) (cwV 1 hts (gV hsub q_487 q_488 q_489 q_5 q_490) rfl rfl rfl hdX5_isFit ⟨Nat.le_of_ble_eq_true rfl, Nat.le_of_ble_eq_true rfl⟩) (cEb D cI cZ ad az av) (cEk D cI cZ ad az av) hE (va_recv (ci := 5) (q0 := 5) hK hP rfl rfl) hP hS rfl hl.1 rfl (Nat.le_of_ble_eq_true rfl) dX6_orders_83 ⟨Nat.le_of_ble_eq_true rfl, Nat.le_of_ble_eq_true rfl⟩ (fun r_9 S_10 H locs hq_11 hP hR hS _ => ?_)
          obtain ⟨hs9, rfl⟩ := hq_11
          obtain rfl := hs9.symm
          refine z_top (b := b2 (pB (((0 : Int) ≤ (S 8 0) ∧ ((S 8 0) : Int) < ↑N) ∧ ftP n (S 7) t (S 8 0 : Int).toNat))) rfl ?_
          refine s_callSi (As := [.int (zI (b2 (pB (((0 : Int) ≤ (S 8 0) ∧ ((S 8 0) : Int) < ↑N) ∧ ftP n (S 7) t (S 8 0 : Int).toNat))))]) (rest := []) ⟨hx, hb, hml, hown, hts⟩ (k_X6_asNumber l (pB (((0 : Int) ≤ (S 8 0) ∧ ((S 8 0) : Int) < ↑N) ∧ ftP n (S 7) t (S 8 0 : Int).toNat))) (cwS 1 hts (gS hsub q_402 q_403 q_1 q_404) rfl rfl rfl hdX6_asNumber ⟨Nat.le_of_ble_eq_true rfl, Nat.le_of_ble_eq_true rfl⟩) rfl hl.1 rfl (Nat.le_of_ble_eq_true rfl) dX6_orders_86 ⟨Nat.le_of_ble_eq_true rfl, Nat.le_of_ble_eq_true rfl⟩ (fun r_12 hq_14 => ?_)
          rw [hq_14]
          exact g_iret (S1 := S) (v := zI (b2 (pB (((0 : Int) ≤ (S 8 0) ∧ ((S 8 0) : Int) < ↑N) ∧ ftP n (S 7) t (S 8 0 : Int).toNat)))) hx hb hr hlocks hP hR hS (⟨rfl, by unfold ordersF; unfold orsF; rw [if_pos (by omega), if_neg (by omega), if_neg (by omega), if_neg (by omega), if_neg (by omega)]; refine congrArg (fun b => zI (b2 b)) (pB_c ?_); rw [show (S 8 0).toNat = k0 by omega]; exact ⟨fun h => h.2, fun h => ⟨by omega, h⟩⟩⟩) dX6_orders_89
        · refine z_tabIn hx hb c_7 (by decide) (by decide) dX6_orders_23 (by decide) (by decide) (off := 25) (by decide) (tgt := 48) (by decide) ?_
          refine lv_aload_n hx hb dX6_orders_48 rfl (lv_at hl 0 rfl) ?_
          refine va_get (D := D) (ci := 6) (v := .ref (ad 42)) (C := RX6) (T := TX6) (N := 9) hx hb hT inX6 hown hK hP 0 rfl rfl 1 (by decide) (hT _ q_177) (fun _ h9 => h9) rfl dX6_orders_49 ?_
          have g_15 : -2147483648 ≤ S 3 0 ∧ S 3 0 < 2147483648 := hR 3 0 (by decide)
          refine va_get (D := D) (ci := 0) (v := .int (zI (S 3 0))) (C := RX0) (T := TX0) (N := 5) hx hb hT inX0 hown hK hP 2 rfl rfl 1 (by decide) (hT _ q_54) (fun _ h9 => h9) rfl dX6_orders_52 ?_
          exact g_iret (S1 := S) (v := zI (S 3 0)) hx hb hr hlocks hP hR hS (⟨rfl, by unfold ordersF; unfold orsF; rw [if_pos (by omega), if_neg (by omega), if_pos (by omega), hN]⟩) dX6_orders_55
        · refine z_tabIn hx hb c_7 (by decide) (by decide) dX6_orders_23 (by decide) (by decide) (off := 33) (by decide) (tgt := 56) (by decide) ?_
          refine lv_aload_n hx hb dX6_orders_56 rfl (lv_at hl 0 rfl) ?_
          refine va_get (D := D) (ci := 6) (v := .ref (ad 45)) (C := RX6) (T := TX6) (N := 9) hx hb hT inX6 hown hK hP 0 rfl rfl 4 (by decide) (hT _ q_180) (fun _ h9 => h9) rfl dX6_orders_57 ?_
          have g_16 : -2147483648 ≤ S 21 0 ∧ S 21 0 < 2147483648 := hR 21 0 (by decide)
          refine va_get (D := D) (ci := 5) (v := .int (zI (S 21 0))) (C := RX5) (T := TX5) (N := 5) hx hb hT inX5 hown hK hP 5 rfl rfl 0 (by decide) (hT _ q_113) (fun _ h9 => h9) rfl dX6_orders_60 ?_
          exact g_iret (S1 := S) (v := zI (S 21 0)) hx hb hr hlocks hP hR hS (⟨rfl, by unfold ordersF; unfold orsF; rw [if_pos (by omega), if_neg (by omega), if_neg (by omega), if_pos (by omega), hV.1]⟩) dX6_orders_63
        · refine z_tabIn hx hb c_7 (by decide) (by decide) dX6_orders_23 (by decide) (by decide) (off := 41) (by decide) (tgt := 64) (by decide) ?_
          refine lv_aload_n hx hb dX6_orders_64 rfl (lv_at hl 0 rfl) ?_
          refine va_get (D := D) (ci := 6) (v := .ref (ad 43)) (C := RX6) (T := TX6) (N := 9) hx hb hT inX6 hown hK hP 0 rfl rfl 2 (by decide) (hT _ q_178) (fun _ h9 => h9) rfl dX6_orders_65 ?_
          have g_17 : -2147483648 ≤ S 8 0 ∧ S 8 0 < 2147483648 := hR 8 0 (by decide)
          refine va_get (D := D) (ci := 4) (v := .int (zI (S 8 0))) (C := RX4) (T := TX4) (N := 7) hx hb hT inX4 hown hK hP 3 rfl rfl 1 (by decide) (hT _ q_78) (fun _ h9 => h9) rfl dX6_orders_68 ?_
          exact g_iret (S1 := S) (v := zI (S 8 0)) hx hb hr hlocks hP hR hS (⟨rfl, by unfold ordersF; unfold orsF; rw [if_pos (by omega), if_neg (by omega), if_neg (by omega), if_neg (by omega), if_pos (by omega), hk8]⟩) dX6_orders_71
      · have h9 : True := trivial
        have c_6 : S 2 0 = 0 := of_decide_eq_true c_6
        refine z_bipush hx hb dX6_orders_19 (by decide) ?_
        exact g_iret (S1 := S) (v := zI (-103)) hx hb hr hlocks hP hR hS (⟨rfl, by unfold ordersF; rw [if_pos (by omega), if_pos (by omega)]⟩) dX6_orders_21
    · have h9 : True := trivial
      refine z_bipush hx hb dX6_orders_9 (by decide) ?_
      exact g_iret (S1 := S) (v := zI (-102)) hx hb hr hlocks hP hR hS (⟨rfl, by unfold ordersF; rw [if_neg (by omega)]⟩) dX6_orders_11
set_option maxHeartbeats 4000000 in
set_option maxRecDepth 100000 in
theorem k_X6_order (l : Launch) (D : va_G) (cI cZ : ClassId) (ad : Nat → Nat) (az av : Nat) (hinj : cInj ad) (S : St) (hR : RS S) (n N : Nat) (t : Nat → Int) (hT9 : cTab n N t S) (hV : cVer n N t S) (k0 : Nat) (hk8 : S 8 0 = ↑k0) (hk0 : n ≠ 0 → k0 < N) (x w : Int) (hx1 : -2147483648 ≤ x) (hx2 : x < 2147483648) (hw1 : -2147483648 ≤ w) (hw2 : w < 2147483648) : Met l yX6_order (Cond.code yX6_order cX6_order 3 (some .int) :: lwT) ({ frames := 3, cells := 0, slots := 0, locals := 63 }) (gPc D (cW cI cZ ad) (cE D cI cZ ad az av) S [.ref (ad 40), .int (zI (x)), .int (zI (w))]) (va_Qi (fun (r : Int32) (S' : St) => S' = S ∧ r = zI (orderF n N (S 7) t x w)) (gB D (cW cI cZ ad)) (cA ad)) 0 0 (cA ad) := by
  refine Met.ofW (cc := cX6_order) (maxL := 3) (ret := (some .int)) (by decide) rfl ?_
  intro p e s m args below meth c s₁ B hml hv
  obtain ⟨rfl, hP, hE⟩ := hv
  have hx := B.exec
  have hb := B.bytes
  have hr := B.returns
  have hts := atoms_spec (ws := Cond.code yX6_order cX6_order 3 (some .int) :: lwT) B.pre
  have hT := fun w (h : w ∈ lwT) => hts w (List.mem_cons_of_mem _ h)
  have hsub : ∀ w ∈ lwT, w ∈ (Cond.code yX6_order cX6_order 3 (some .int) :: lwT) := fun w h => List.mem_cons_of_mem _ h
  have hown : s.vm.findClass RX6 = some m.cls := findClass_of_methodNamed B.named
  have hlocks := B.notSynchronized
  have hK : va_K D vwCl [(cI, .int), (cZ, .boolean)] s := hE.1
  have hS : va_S (cA ad) s.heap s.heap [] := va_S.rf
  have hT8 := hT9
  have hTo := hT9
  obtain ⟨⟨hn, hN, hn7, hN4⟩, hn0, hO9, hso, htb⟩ := hTo
  have hl := lv_entry ([.ref (ad 40), .int (zI (x)), .int (zI (w))]) (n := 3) (Nat.le_of_ble_eq_true rfl)
  rw [lg_entry_eq]
  generalize (lg_sl ([.ref (ad 40), .int (zI (x)), .int (zI (w))]) ++ List.replicate (3 - (lg_sl ([.ref (ad 40), .int (zI (x)), .int (zI (w))])).length) Slot.unset).toArray = ls at hl ⊢
  have hl : lv_has ls 3 [(0, .ref (ad 40)), (1, .int (zI (x))), (2, .int (zI (w)))] := hl
  refine lv_aload_n hx hb dX6_order_0 rfl (lv_at hl 0 rfl) ?_
  refine lv_iload_n hx hb dX6_order_1 rfl (lv_at hl 1 rfl) ?_
  refine g_callVi (As := [.int (zI (x))]) (rest := []) ⟨hx, hb, hml, hown, hts⟩ (k_X6_isOrder l D cI cZ ad az av hinj S hR x (by omega) (by omega)) (cwV 1 hts (gV hsub q_475 q_477 q_sX6_isOrder q_1 q_478) rfl rfl rfl hdX6_isOrder ⟨Nat.le_of_ble_eq_true rfl, Nat.le_of_ble_eq_true rfl⟩) (cEb D cI cZ ad az av) (cEk D cI cZ ad az av) hE (va_recv (ci := 6) (q0 := 0) hK hP rfl rfl) hP hS rfl hl.1 rfl (Nat.le_of_ble_eq_true rfl) dX6_order_2 ⟨Nat.le_of_ble_eq_true rfl, Nat.le_of_ble_eq_true rfl⟩ (fun r_1 S_2 H locs hq_3 hP hR hS _ => ?_)
  obtain ⟨hs9, rfl⟩ := hq_3
  obtain rfl := hs9.symm
  refine z_top (b := b2 (decide (0 ≤ x ∧ x ≤ S 3 0 - 1))) rfl ?_
  refine z_ifneB (tgt := 11) hx hb dX6_order_5 (by decide) (fun c_4 => ?_) (fun c_4 => ?_)
  · have h9 : True := trivial
    have c_4 : 0 ≤ x ∧ x ≤ S 3 0 - 1 := of_decide_eq_true c_4
    have hnz : n ≠ 0 := fun e => by have := hn0 e; omega
    refine lv_iload_n hx hb dX6_order_11 rfl (lv_at hl 2 rfl) ?_
    refine z_if_ne (tgt := 27) hx hb (by omega) (by omega) dX6_order_12 (by decide) (fun c_5 => ?_) (fun c_5 => ?_)
    · have h9 : True := trivial
      refine lv_iload_n hx hb dX6_order_27 rfl (lv_at hl 2 rfl) ?_
      refine z_iconst hx hb dX6_order_28 ?_
      refine z_icmp_ne (tgt := 41) hx hb (by omega) (by omega) (by omega) (by omega) dX6_order_29 (by decide) (fun c_6 => ?_) (fun c_6 => ?_)
      · have h9 : True := trivial
        refine lv_iload_n hx hb dX6_order_41 rfl (lv_at hl 2 rfl) ?_
        refine z_bipush hx hb dX6_order_42 (by decide) ?_
        refine z_icmp_lt (tgt := 53) hx hb (by omega) (by omega) (by omega) (by omega) dX6_order_44 (by decide) (fun c_7 => ?_) (fun c_7 => ?_)
        · have h9 : True := trivial
          refine z_bipush hx hb dX6_order_53 (by decide) ?_
          exact g_iret (S1 := S) (v := zI (-102)) hx hb hr hlocks hP hR hS (⟨rfl, by unfold orderF; rw [if_pos (by omega), if_neg (by omega)]⟩) dX6_order_55
        · have h9 : True := trivial
          refine lv_iload_n hx hb dX6_order_47 rfl (lv_at hl 2 rfl) ?_
          refine z_bipush hx hb dX6_order_48 (by decide) ?_
          refine z_icmp_lt (tgt := 56) hx hb (by omega) (by omega) (by omega) (by omega) dX6_order_50 (by decide) (fun c_8 => ?_) (fun c_8 => ?_)
          · have h9 : True := trivial
            refine lv_aload_n hx hb dX6_order_56 rfl (lv_at hl 0 rfl) ?_
            refine va_get (D := D) (ci := 6) (v := .ref (ad 42)) (C := RX6) (T := TX6) (N := 9) hx hb hT inX6 hown hK hP 0 rfl rfl 1 (by decide) (hT _ q_177) (fun _ h9 => h9) rfl dX6_order_57 ?_
            refine lv_iload_n hx hb dX6_order_60 rfl (lv_at hl 1 rfl) ?_
            refine lv_iload_n hx hb dX6_order_61 rfl (lv_at hl 2 rfl) ?_
            refine z_bipush hx hb dX6_order_62 (by decide) ?_
            refine z_isub hx hb dX6_order_64 ?_
            refine g_callVi (As := [.int (zI (x)), .int (zI (w - 10))]) (rest := []) ⟨hx, hb, hml, hown, hts⟩ (k_X0_leafAt l D cI cZ ad az av hinj S hR n N t hT8 x (w - 10) (by omega) (by omega) (by omega) (by omega)) (cwV 2 hts (gV hsub q_427 q_371 q_372 q_3 q_373) rfl rfl rfl hdX0_leafAt ⟨Nat.le_of_ble_eq_true rfl, Nat.le_of_ble_eq_true rfl⟩) (cEb D cI cZ ad az av) (cEk D cI cZ ad az av) hE (va_recv (ci := 0) (q0 := 2) hK hP rfl rfl) hP hS rfl hl.1 rfl (Nat.le_of_ble_eq_true rfl) dX6_order_65 ⟨Nat.le_of_ble_eq_true rfl, Nat.le_of_ble_eq_true rfl⟩ (fun r_9 S_10 H locs hq_11 hP hR hS _ => ?_)
            obtain ⟨hs9, rfl⟩ := hq_11
            obtain rfl := hs9.symm
            refine z_top (b := laF n N t x (w - 10)) rfl ?_
            exact g_iret (S1 := S) (v := zI (laF n N t x (w - 10))) hx hb hr hlocks hP hR hS (⟨rfl, by unfold orderF; unfold toF laF; rw [if_pos (show n ≠ 0 ∧ 0 ≤ x ∧ x ≤ (N : Int) - 1 by omega), if_pos (show (0 ≤ w ∧ w ≤ 1) ∨ (10 ≤ w ∧ w ≤ 16) by omega), if_neg (show ¬ w < 2 by omega)]; exact congrArg zI (la_to (by omega) (by omega))⟩) dX6_order_68
          · have h9 : True := trivial
            refine z_bipush hx hb dX6_order_53 (by decide) ?_
            exact g_iret (S1 := S) (v := zI (-102)) hx hb hr hlocks hP hR hS (⟨rfl, by unfold orderF; rw [if_pos (by omega), if_neg (by omega)]⟩) dX6_order_55
      · have h9 : True := trivial
        refine lv_aload_n hx hb dX6_order_32 rfl (lv_at hl 0 rfl) ?_
        refine va_get (D := D) (ci := 6) (v := .ref (ad 45)) (C := RX6) (T := TX6) (N := 9) hx hb hT inX6 hown hK hP 0 rfl rfl 4 (by decide) (hT _ q_180) (fun _ h9 => h9) rfl dX6_order_33 ?_
        refine lv_iload_n hx hb dX6_order_36 rfl (lv_at hl 1 rfl) ?_
        refine g_callVi (As := [.int (zI (x))]) (rest := []) ⟨hx, hb, hml, hown, hts⟩ (k_X5_widestOf l D cI cZ ad az av hinj S hR n N t hT8 hV x (by omega) (by omega)) (cwV 1 hts (gV hsub q_495 q_496 q_497 q_5 q_498) rfl rfl rfl hdX5_widestOf ⟨Nat.le_of_ble_eq_true rfl, Nat.le_of_ble_eq_true rfl⟩) (cEb D cI cZ ad az av) (cEk D cI cZ ad az av) hE (va_recv (ci := 5) (q0 := 5) hK hP rfl rfl) hP hS rfl hl.1 rfl (Nat.le_of_ble_eq_true rfl) dX6_order_37 ⟨Nat.le_of_ble_eq_true rfl, Nat.le_of_ble_eq_true rfl⟩ (fun r_12 S_13 H locs hq_14 hP hR hS _ => ?_)
        obtain ⟨hs9, rfl⟩ := hq_14
        obtain rfl := hs9.symm
        refine z_top (b := if (0 : Int) ≤ x ∧ (x : Int) < ↑N then wmF n (S 7) (dgF n (t (x : Int).toNat)) else 0) rfl ?_
        exact g_iret (S1 := S) (v := zI (if (0 : Int) ≤ x ∧ (x : Int) < ↑N then wmF n (S 7) (dgF n (t (x : Int).toNat)) else 0)) hx hb hr hlocks hP hR hS (⟨rfl, by unfold orderF; unfold toF; rw [if_pos (by omega), if_pos (by omega), if_pos (by omega), if_pos (by omega), if_pos (by omega)]⟩) dX6_order_40
    · have h9 : True := trivial
      refine lv_aload_n hx hb dX6_order_15 rfl (lv_at hl 0 rfl) ?_
      refine va_get (D := D) (ci := 6) (v := .ref (ad 45)) (C := RX6) (T := TX6) (N := 9) hx hb hT inX6 hown hK hP 0 rfl rfl 4 (by decide) (hT _ q_180) (fun _ h9 => h9) rfl dX6_order_16 ?_
      refine lv_iload_n hx hb dX6_order_19 rfl (lv_at hl 1 rfl) ?_
      refine g_callVi (As := [.int (zI (x))]) (rest := []) ⟨hx, hb, hml, hown, hts⟩ (k_X5_isFit l D cI cZ ad az av hinj S hR n N t hT8 hV x (by omega) (by omega)) (cwV 1 hts (gV hsub q_487 q_488 q_489 q_5 q_490) rfl rfl rfl hdX5_isFit ⟨Nat.le_of_ble_eq_true rfl, Nat.le_of_ble_eq_true rfl⟩) (cEb D cI cZ ad az av) (cEk D cI cZ ad az av) hE (va_recv (ci := 5) (q0 := 5) hK hP rfl rfl) hP hS rfl hl.1 rfl (Nat.le_of_ble_eq_true rfl) dX6_order_20 ⟨Nat.le_of_ble_eq_true rfl, Nat.le_of_ble_eq_true rfl⟩ (fun r_15 S_16 H locs hq_17 hP hR hS _ => ?_)
      obtain ⟨hs9, rfl⟩ := hq_17
      obtain rfl := hs9.symm
      refine z_top (b := b2 (pB (((0 : Int) ≤ x ∧ (x : Int) < ↑N) ∧ ftP n (S 7) t (x : Int).toNat))) rfl ?_
      refine s_callSi (As := [.int (zI (b2 (pB (((0 : Int) ≤ x ∧ (x : Int) < ↑N) ∧ ftP n (S 7) t (x : Int).toNat))))]) (rest := []) ⟨hx, hb, hml, hown, hts⟩ (k_X6_asNumber l (pB (((0 : Int) ≤ x ∧ (x : Int) < ↑N) ∧ ftP n (S 7) t (x : Int).toNat))) (cwS 1 hts (gS hsub q_402 q_403 q_1 q_404) rfl rfl rfl hdX6_asNumber ⟨Nat.le_of_ble_eq_true rfl, Nat.le_of_ble_eq_true rfl⟩) rfl hl.1 rfl (Nat.le_of_ble_eq_true rfl) dX6_order_23 ⟨Nat.le_of_ble_eq_true rfl, Nat.le_of_ble_eq_true rfl⟩ (fun r_18 hq_20 => ?_)
      rw [hq_20]
      exact g_iret (S1 := S) (v := zI (b2 (pB (((0 : Int) ≤ x ∧ (x : Int) < ↑N) ∧ ftP n (S 7) t (x : Int).toNat)))) hx hb hr hlocks hP hR hS (⟨rfl, by unfold orderF; unfold toF; rw [if_pos (by omega), if_pos (by omega), if_pos (by omega), if_neg (by omega)]; exact congrArg (fun b => zI (b2 b)) (pB_c ⟨fun h => h.2, fun h => ⟨by omega, h⟩⟩)⟩) dX6_order_26
  · have h9 : True := trivial
    have c_4 : ¬ (0 ≤ x ∧ x ≤ S 3 0 - 1) := of_decide_eq_false c_4
    refine z_bipush hx hb dX6_order_8 (by decide) ?_
    exact g_iret (S1 := S) (v := zI (-101)) hx hb hr hlocks hP hR hS (⟨rfl, by unfold orderF; rw [if_neg (by omega)]⟩) dX6_order_10
set_option maxHeartbeats 4000000 in
set_option maxRecDepth 100000 in
theorem k_X6_tops (l : Launch) (D : va_G) (cI cZ : ClassId) (ad : Nat → Nat) (az av : Nat) (hinj : cInj ad) (S : St) (hR : RS S) (n N : Nat) (t : Nat → Int) (hT9 : cTab n N t S) (hV : cVer n N t S) (k0 : Nat) (hk8 : S 8 0 = ↑k0) (hk0 : n ≠ 0 → k0 < N) (x w : Int) (hx1 : -2147483648 ≤ x) (hx2 : x < 2147483648) (hw1 : -2147483648 ≤ w) (hw2 : w < 2147483648) : Met l yX6_tops (Cond.code yX6_tops cX6_tops 5 (some .int) :: lwT) ({ frames := 3, cells := 0, slots := 0, locals := 63 }) (gPc D (cW cI cZ ad) (cE D cI cZ ad az av) S [.ref (ad 40), .int (zI (x)), .int (zI (w))]) (va_Qi (fun (r : Int32) (S' : St) => S' = S ∧ r = zI (topsF n N (S 7) t x w)) (gB D (cW cI cZ ad)) (cA ad)) 0 0 (cA ad) := by
  refine Met.ofW (cc := cX6_tops) (maxL := 5) (ret := (some .int)) (by decide) rfl ?_
  intro p e s m args below meth c s₁ B hml hv
  obtain ⟨rfl, hP, hE⟩ := hv
  have hx := B.exec
  have hb := B.bytes
  have hr := B.returns
  have hts := atoms_spec (ws := Cond.code yX6_tops cX6_tops 5 (some .int) :: lwT) B.pre
  have hT := fun w (h : w ∈ lwT) => hts w (List.mem_cons_of_mem _ h)
  have hsub : ∀ w ∈ lwT, w ∈ (Cond.code yX6_tops cX6_tops 5 (some .int) :: lwT) := fun w h => List.mem_cons_of_mem _ h
  have hown : s.vm.findClass RX6 = some m.cls := findClass_of_methodNamed B.named
  have hlocks := B.notSynchronized
  have hK : va_K D vwCl [(cI, .int), (cZ, .boolean)] s := hE.1
  have hS : va_S (cA ad) s.heap s.heap [] := va_S.rf
  have hT8 := hT9
  have hTo := hT9
  obtain ⟨⟨hn, hN, hn7, hN4⟩, hn0, hO9, hso, htb⟩ := hTo
  have hl := lv_entry ([.ref (ad 40), .int (zI (x)), .int (zI (w))]) (n := 5) (Nat.le_of_ble_eq_true rfl)
  rw [lg_entry_eq]
  generalize (lg_sl ([.ref (ad 40), .int (zI (x)), .int (zI (w))]) ++ List.replicate (5 - (lg_sl ([.ref (ad 40), .int (zI (x)), .int (zI (w))])).length) Slot.unset).toArray = ls at hl ⊢
  have hl : lv_has ls 5 [(0, .ref (ad 40)), (1, .int (zI (x))), (2, .int (zI (w)))] := hl
  refine lv_aload_n hx hb dX6_tops_0 rfl (lv_at hl 0 rfl) ?_
  refine lv_iload_n hx hb dX6_tops_1 rfl (lv_at hl 1 rfl) ?_
  refine g_callVi (As := [.int (zI (x))]) (rest := []) ⟨hx, hb, hml, hown, hts⟩ (k_X6_isLeaf l D cI cZ ad az av hinj S hR x (by omega) (by omega)) (cwV 1 hts (gV hsub q_395 q_397 q_sX6_isLeaf q_1 q_398) rfl rfl rfl hdX6_isLeaf ⟨Nat.le_of_ble_eq_true rfl, Nat.le_of_ble_eq_true rfl⟩) (cEb D cI cZ ad az av) (cEk D cI cZ ad az av) hE (va_recv (ci := 6) (q0 := 0) hK hP rfl rfl) hP hS rfl hl.1 rfl (Nat.le_of_ble_eq_true rfl) dX6_tops_2 ⟨Nat.le_of_ble_eq_true rfl, Nat.le_of_ble_eq_true rfl⟩ (fun r_1 S_2 H locs hq_3 hP hR hS _ => ?_)
  obtain ⟨hs9, rfl⟩ := hq_3
  obtain rfl := hs9.symm
  refine z_top (b := b2 (decide (0 ≤ x ∧ x ≤ S 2 0 - 1))) rfl ?_
  refine z_ifneB (tgt := 11) hx hb dX6_tops_5 (by decide) (fun c_4 => ?_) (fun c_4 => ?_)
  · have h9 : True := trivial
    have c_4 : 0 ≤ x ∧ x ≤ S 2 0 - 1 := of_decide_eq_true c_4
    have hnz : n ≠ 0 := by omega
    have hkN := hk0 hnz
    have hO := hO9 hnz
    have hpk := (hO.2.1 k0 hkN).2.1
    refine lv_iload_n hx hb dX6_tops_11 rfl (lv_at hl 2 rfl) ?_
    refine z_if_lt (tgt := 20) hx hb (by omega) (by omega) dX6_tops_12 (by decide) (fun c_5 => ?_) (fun c_5 => ?_)
    · have h9 : True := trivial
      refine z_bipush hx hb dX6_tops_20 (by decide) ?_
      exact g_iret (S1 := S) (v := zI (-102)) hx hb hr hlocks hP hR hS (⟨rfl, by unfold topsF; rw [if_pos (by omega), if_neg (by omega)]⟩) dX6_tops_22
    · have h9 : True := trivial
      refine lv_iload_n hx hb dX6_tops_15 rfl (lv_at hl 2 rfl) ?_
      refine z_iconst hx hb dX6_tops_16 ?_
      refine z_icmp_le (tgt := 23) hx hb (by omega) (by omega) (by omega) (by omega) dX6_tops_17 (by decide) (fun c_6 => ?_) (fun c_6 => ?_)
      · have h9 : True := trivial
        refine z_iconst hx hb dX6_tops_23 ?_
        refine lv_istore_n (lv' := [(3, .int (zI (0))), (0, .ref (ad 40)), (1, .int (zI (x))), (2, .int (zI (w)))]) hx hb dX6_tops_24 rfl hl (by decide) rfl (fun ls hl => ?_)
        refine z_iconst hx hb dX6_tops_25 ?_
        refine lv_istore (lv' := [(4, .int (zI (0))), (3, .int (zI (0))), (0, .ref (ad 40)), (1, .int (zI (x))), (2, .int (zI (w)))]) hx hb dX6_tops_26 hl (by decide) rfl (fun ls hl => ?_)
        have cut_28 : ∀ (k9 : Nat) (i : Nat) (y : Int) (H : Heap) (locs : List Loc) (ls : Array Slot), (i ≤ N) → (y = cnt (fun k => pB ((w = 0 ∨ ftP n (S 7) t k) ∧ dgF n (t k) 0 = x)) i) → (N - i) < k9 → va_P D vwCl (cW cI cZ ad S) H → RS S → va_S (cA ad) s.heap H locs → lv_has ls 5 [(0, .ref (ad 40)), (1, .int (zI (x))), (2, .int (zI (w))), (3, .int (zI (y))), (4, .int (zI (↑i)))] → W p l e (headSpec (Cond.code yX6_tops cX6_tops 5 (some .int) :: lwT) ({ frames := 3, cells := 0, slots := 0, locals := 63 })).room s m ([.ref (ad 40), .int (zI (x)), .int (zI (w))] : List Value).toArray below meth c H locs 0 0 (MQ below (va_Qi (fun (r : Int32) (S' : St) => S' = S ∧ r = zI (topsF n N (S 7) t x w)) (gB D (cW cI cZ ad)) (cA ad)) ([.ref (ad 40), .int (zI (x)), .int (zI (w))] : List Value).toArray s 0 0 (cA ad)) (F0 m 28 ls []) := by
          intro k9
          induction k9 with
          | zero =>
            intro i y H locs ls hi hy hk9 hP hR hS hl
            exact absurd hk9 (Nat.not_lt_zero _)
          | succ k9 ih_28 =>
            intro i y H locs ls hi hy hk9 hP hR hS hl
            refine lv_iload hx hb dX6_tops_28 (lv_at hl 4 rfl) ?_
            refine lv_aload_n hx hb dX6_tops_30 rfl (lv_at hl 0 rfl) ?_
            refine va_get (D := D) (ci := 6) (v := .ref (ad 42)) (C := RX6) (T := TX6) (N := 9) hx hb hT inX6 hown hK hP 0 rfl rfl 1 (by decide) (hT _ q_177) (fun _ h9 => h9) rfl dX6_tops_31 ?_
            have g_7 : -2147483648 ≤ S 3 0 ∧ S 3 0 < 2147483648 := hR 3 0 (by decide)
            refine va_get (D := D) (ci := 0) (v := .int (zI (S 3 0))) (C := RX0) (T := TX0) (N := 5) hx hb hT inX0 hown hK hP 2 rfl rfl 1 (by decide) (hT _ q_54) (fun _ h9 => h9) rfl dX6_tops_34 ?_
            refine z_icmp_ge (tgt := 79) hx hb (by omega) (by omega) (by omega) (by omega) dX6_tops_37 (by decide) (fun c_8 => ?_) (fun c_8 => ?_)
            · have h9 : True := trivial
              refine lv_iload_n hx hb dX6_tops_79 rfl (lv_at hl 3 rfl) ?_
              exact g_iret (S1 := S) (v := zI (y)) hx hb hr hlocks hP hR hS (⟨rfl, by unfold topsF; rw [if_pos (by omega), if_pos (by omega), hy, show i = N by omega]⟩) dX6_tops_80
            · have h9 : True := trivial
              refine lv_aload_n hx hb dX6_tops_40 rfl (lv_at hl 0 rfl) ?_
              refine va_get (D := D) (ci := 6) (v := .ref (ad 42)) (C := RX6) (T := TX6) (N := 9) hx hb hT inX6 hown hK hP 0 rfl rfl 1 (by decide) (hT _ q_177) (fun _ h9 => h9) rfl dX6_tops_41 ?_
              refine lv_iload hx hb dX6_tops_44 (lv_at hl 4 rfl) ?_
              refine z_iconst hx hb dX6_tops_46 ?_
              refine g_callVi (As := [.int (zI (↑i)), .int (zI (0))]) (rest := []) ⟨hx, hb, hml, hown, hts⟩ (k_X0_leafAt l D cI cZ ad az av hinj S hR n N t hT8 ↑i 0 (by omega) (by omega) (by omega) (by omega)) (cwV 2 hts (gV hsub q_427 q_371 q_372 q_3 q_373) rfl rfl rfl hdX0_leafAt ⟨Nat.le_of_ble_eq_true rfl, Nat.le_of_ble_eq_true rfl⟩) (cEb D cI cZ ad az av) (cEk D cI cZ ad az av) hE (va_recv (ci := 0) (q0 := 2) hK hP rfl rfl) hP hS rfl hl.1 rfl (Nat.le_of_ble_eq_true rfl) dX6_tops_47 ⟨Nat.le_of_ble_eq_true rfl, Nat.le_of_ble_eq_true rfl⟩ (fun r_9 S_10 H locs hq_11 hP hR hS _ => ?_)
              obtain ⟨hs9, rfl⟩ := hq_11
              obtain rfl := hs9.symm
              refine z_top (b := laF n N t ↑i 0) rfl ?_
              have hdr := (hO.2.1 i (by omega)).2.1.1 0 (by omega)
              refine z_top (b := dgF n (t i) 0) (by unfold laF; rw [if_pos (by omega)]; rfl) ?_
              refine lv_iload_n hx hb dX6_tops_50 rfl (lv_at hl 1 rfl) ?_
              refine z_icmp_ne (tgt := 73) hx hb (by omega) (by omega) (by omega) (by omega) dX6_tops_51 (by decide) (fun c_12 => ?_) (fun c_12 => ?_)
              · have h9 : True := trivial
                refine z_iinc (lv' := [(4, .int (zI (↑i + 1))), (0, .ref (ad 40)), (1, .int (zI (x))), (2, .int (zI (w))), (3, .int (zI (y)))]) hx hb dX6_tops_73 hl (k := 4) rfl (by decide) rfl (fun ls hl => ?_)
                refine lv_goto (tgt := 28) hx hb dX6_tops_76 (by decide) ?_
                exact ih_28 (i + 1) y _ _ _ (by omega) ((Int.add_zero y).symm.trans (cnt_f (P := (fun k => pB ((w = 0 ∨ ftP n (S 7) t k) ∧ dgF n (t k) 0 = x))) (pB_f.mpr (fun h => by have := h.2; omega)) hy)) (by omega) hP hR hS (lv_sub hl [1, 2, 3, 4, 0] rfl)
              · have h9 : True := trivial
                refine lv_iload_n hx hb dX6_tops_54 rfl (lv_at hl 2 rfl) ?_
                refine z_if_eq (tgt := 70) hx hb (by omega) (by omega) dX6_tops_55 (by decide) (fun c_13 => ?_) (fun c_13 => ?_)
                · have h9 : True := trivial
                  refine z_iinc (lv' := [(3, .int (zI (y + 1))), (0, .ref (ad 40)), (1, .int (zI (x))), (2, .int (zI (w))), (4, .int (zI (↑i)))]) hx hb dX6_tops_70 hl (k := 3) rfl (by decide) rfl (fun ls hl => ?_)
                  refine z_iinc (lv' := [(4, .int (zI (↑i + 1))), (3, .int (zI (y + 1))), (0, .ref (ad 40)), (1, .int (zI (x))), (2, .int (zI (w)))]) hx hb dX6_tops_73 hl (k := 4) rfl (by decide) rfl (fun ls hl => ?_)
                  refine lv_goto (tgt := 28) hx hb dX6_tops_76 (by decide) ?_
                  exact ih_28 (i + 1) (y + 1) _ _ _ (by omega) (cnt_t (P := (fun k => pB ((w = 0 ∨ ftP n (S 7) t k) ∧ dgF n (t k) 0 = x))) (pB_t.mpr ⟨Or.inl (by omega), by omega⟩) hy) (by omega) hP hR hS (lv_sub hl [2, 3, 4, 1, 0] rfl)
                · have h9 : True := trivial
                  refine lv_aload_n hx hb dX6_tops_58 rfl (lv_at hl 0 rfl) ?_
                  refine va_get (D := D) (ci := 6) (v := .ref (ad 45)) (C := RX6) (T := TX6) (N := 9) hx hb hT inX6 hown hK hP 0 rfl rfl 4 (by decide) (hT _ q_180) (fun _ h9 => h9) rfl dX6_tops_59 ?_
                  refine lv_iload hx hb dX6_tops_62 (lv_at hl 4 rfl) ?_
                  refine g_callVi (As := [.int (zI (↑i))]) (rest := []) ⟨hx, hb, hml, hown, hts⟩ (k_X5_isFit l D cI cZ ad az av hinj S hR n N t hT8 hV ↑i (by omega) (by omega)) (cwV 1 hts (gV hsub q_487 q_488 q_489 q_5 q_490) rfl rfl rfl hdX5_isFit ⟨Nat.le_of_ble_eq_true rfl, Nat.le_of_ble_eq_true rfl⟩) (cEb D cI cZ ad az av) (cEk D cI cZ ad az av) hE (va_recv (ci := 5) (q0 := 5) hK hP rfl rfl) hP hS rfl hl.1 rfl (Nat.le_of_ble_eq_true rfl) dX6_tops_64 ⟨Nat.le_of_ble_eq_true rfl, Nat.le_of_ble_eq_true rfl⟩ (fun r_14 S_15 H locs hq_16 hP hR hS _ => ?_)
                  obtain ⟨hs9, rfl⟩ := hq_16
                  obtain rfl := hs9.symm
                  refine z_top (b := b2 (pB (((0 : Int) ≤ ↑i ∧ (↑i : Int) < ↑N) ∧ ftP n (S 7) t (↑i : Int).toNat))) rfl ?_
                  refine z_ifeqB (tgt := 73) hx hb dX6_tops_67 (by decide) (fun c_17 => ?_) (fun c_17 => ?_)
                  · have h9 : True := trivial
                    refine z_iinc (lv' := [(4, .int (zI (↑i + 1))), (0, .ref (ad 40)), (1, .int (zI (x))), (2, .int (zI (w))), (3, .int (zI (y)))]) hx hb dX6_tops_73 hl (k := 4) rfl (by decide) rfl (fun ls hl => ?_)
                    refine lv_goto (tgt := 28) hx hb dX6_tops_76 (by decide) ?_
                    exact ih_28 (i + 1) y _ _ _ (by omega) ((Int.add_zero y).symm.trans (cnt_f (P := (fun k => pB ((w = 0 ∨ ftP n (S 7) t k) ∧ dgF n (t k) 0 = x))) (pB_f.mpr (fun h => h.1.elim (by omega) (fun g => pB_f.mp c_17 ⟨by omega, g⟩))) hy)) (by omega) hP hR hS (lv_sub hl [1, 2, 3, 4, 0] rfl)
                  · have h9 : True := trivial
                    refine z_iinc (lv' := [(3, .int (zI (y + 1))), (0, .ref (ad 40)), (1, .int (zI (x))), (2, .int (zI (w))), (4, .int (zI (↑i)))]) hx hb dX6_tops_70 hl (k := 3) rfl (by decide) rfl (fun ls hl => ?_)
                    refine z_iinc (lv' := [(4, .int (zI (↑i + 1))), (3, .int (zI (y + 1))), (0, .ref (ad 40)), (1, .int (zI (x))), (2, .int (zI (w)))]) hx hb dX6_tops_73 hl (k := 4) rfl (by decide) rfl (fun ls hl => ?_)
                    refine lv_goto (tgt := 28) hx hb dX6_tops_76 (by decide) ?_
                    exact ih_28 (i + 1) (y + 1) _ _ _ (by omega) (cnt_t (P := (fun k => pB ((w = 0 ∨ ftP n (S 7) t k) ∧ dgF n (t k) 0 = x))) (pB_t.mpr ⟨Or.inr (pB_t.mp c_17).2, by omega⟩) hy) (by omega) hP hR hS (lv_sub hl [2, 3, 4, 1, 0] rfl)
        exact cut_28 _ 0 0 _ _ _ (by omega) (rfl) (Nat.lt_succ_self _) hP hR hS (lv_sub hl [2, 3, 4, 1, 0] rfl)
      · have h9 : True := trivial
        refine z_bipush hx hb dX6_tops_20 (by decide) ?_
        exact g_iret (S1 := S) (v := zI (-102)) hx hb hr hlocks hP hR hS (⟨rfl, by unfold topsF; rw [if_pos (by omega), if_neg (by omega)]⟩) dX6_tops_22
  · have h9 : True := trivial
    have c_4 : ¬ (0 ≤ x ∧ x ≤ S 2 0 - 1) := of_decide_eq_false c_4
    refine z_bipush hx hb dX6_tops_8 (by decide) ?_
    exact g_iret (S1 := S) (v := zI (-101)) hx hb hr hlocks hP hR hS (⟨rfl, by unfold topsF; rw [if_neg (by omega)]⟩) dX6_tops_10
set_option maxHeartbeats 4000000 in
set_option maxRecDepth 100000 in
theorem k_X6_near (l : Launch) (D : va_G) (cI cZ : ClassId) (ad : Nat → Nat) (az av : Nat) (hinj : cInj ad) (S : St) (hR : RS S) (n N : Nat) (t : Nat → Int) (hT9 : cTab n N t S) (hV : cVer n N t S) (k0 : Nat) (hk8 : S 8 0 = ↑k0) (hk0 : n ≠ 0 → k0 < N) (hnn : n ≠ 0 → 2 ≤ n ∧ n ≤ 7) (hNn : N = nb n) (htn : t = tb n) (hpa : paI S) (x : Int) (hx1 : -2147483648 ≤ x) (hx2 : x < 2147483648) : Met l yX6_near (Cond.code yX6_near cX6_near 2 (some .int) :: lwT) ({ frames := 6, cells := 0, slots := 0, locals := 137 }) (gPc D (cW cI cZ ad) (cE D cI cZ ad az av) S [.ref (ad 40), .int (zI (x))]) (va_Qi (fun (r : Int32) (S' : St) => ∃ e24 e25 e26 e27 e28 e29 e30, S' = sA (sA (sA (sA (sA (sA (sA S 24 e24) 25 e25) 26 e26) 27 e27) 28 e28) 29 e29) 30 e30 ∧ paI S' ∧ ∃ v, nearR n N t k0 x v ∧ r = zI v) (gB D (cW cI cZ ad)) (cA ad)) 0 0 (cA ad) := by
  refine Met.ofW (cc := cX6_near) (maxL := 2) (ret := (some .int)) (by decide) rfl ?_
  intro p e s m args below meth c s₁ B hml hv
  obtain ⟨rfl, hP, hE⟩ := hv
  have hx := B.exec
  have hb := B.bytes
  have hr := B.returns
  have hts := atoms_spec (ws := Cond.code yX6_near cX6_near 2 (some .int) :: lwT) B.pre
  have hT := fun w (h : w ∈ lwT) => hts w (List.mem_cons_of_mem _ h)
  have hsub : ∀ w ∈ lwT, w ∈ (Cond.code yX6_near cX6_near 2 (some .int) :: lwT) := fun w h => List.mem_cons_of_mem _ h
  have hown : s.vm.findClass RX6 = some m.cls := findClass_of_methodNamed B.named
  have hlocks := B.notSynchronized
  have hK : va_K D vwCl [(cI, .int), (cZ, .boolean)] s := hE.1
  have hS : va_S (cA ad) s.heap s.heap [] := va_S.rf
  have hT8 := hT9
  have hTo := hT9
  obtain ⟨⟨hn, hN, hn7, hN4⟩, hn0, hO9, hso, htb⟩ := hTo
  have hl := lv_entry ([.ref (ad 40), .int (zI (x))]) (n := 2) (Nat.le_of_ble_eq_true rfl)
  rw [lg_entry_eq]
  generalize (lg_sl ([.ref (ad 40), .int (zI (x))]) ++ List.replicate (2 - (lg_sl ([.ref (ad 40), .int (zI (x))])).length) Slot.unset).toArray = ls at hl ⊢
  have hl : lv_has ls 2 [(0, .ref (ad 40)), (1, .int (zI (x)))] := hl
  refine lv_aload_n hx hb dX6_near_0 rfl (lv_at hl 0 rfl) ?_
  refine lv_iload_n hx hb dX6_near_1 rfl (lv_at hl 1 rfl) ?_
  refine g_callVi (As := [.int (zI (x))]) (rest := []) ⟨hx, hb, hml, hown, hts⟩ (k_X6_isOrder l D cI cZ ad az av hinj S hR x (by omega) (by omega)) (cwV 1 hts (gV hsub q_475 q_477 q_sX6_isOrder q_1 q_478) rfl rfl rfl hdX6_isOrder ⟨Nat.le_of_ble_eq_true rfl, Nat.le_of_ble_eq_true rfl⟩) (cEb D cI cZ ad az av) (cEk D cI cZ ad az av) hE (va_recv (ci := 6) (q0 := 0) hK hP rfl rfl) hP hS rfl hl.1 rfl (Nat.le_of_ble_eq_true rfl) dX6_near_2 ⟨Nat.le_of_ble_eq_true rfl, Nat.le_of_ble_eq_true rfl⟩ (fun r_1 S_2 H locs hq_3 hP hR hS _ => ?_)
  obtain ⟨hs9, rfl⟩ := hq_3
  obtain rfl := hs9.symm
  refine z_top (b := b2 (decide (0 ≤ x ∧ x ≤ S 3 0 - 1))) rfl ?_
  refine z_ifneB (tgt := 11) hx hb dX6_near_5 (by decide) (fun c_4 => ?_) (fun c_4 => ?_)
  · have h9 : True := trivial
    have c_4 : 0 ≤ x ∧ x ≤ S 3 0 - 1 := of_decide_eq_true c_4
    have hnz : n ≠ 0 := fun e => by have := hn0 e; omega
    have hkN := hk0 hnz
    refine lv_aload_n hx hb dX6_near_11 rfl (lv_at hl 0 rfl) ?_
    refine va_get (D := D) (ci := 6) (v := .ref (ad 46)) (C := RX6) (T := TX6) (N := 9) hx hb hT inX6 hown hK hP 0 rfl rfl 5 (by decide) (hT _ q_181) (fun _ h9 => h9) rfl dX6_near_12 ?_
    refine lv_aload_n hx hb dX6_near_15 rfl (lv_at hl 0 rfl) ?_
    refine va_get (D := D) (ci := 6) (v := .ref (ad 43)) (C := RX6) (T := TX6) (N := 9) hx hb hT inX6 hown hK hP 0 rfl rfl 2 (by decide) (hT _ q_178) (fun _ h9 => h9) rfl dX6_near_16 ?_
    have g_5 : -2147483648 ≤ S 8 0 ∧ S 8 0 < 2147483648 := hR 8 0 (by decide)
    refine va_get (D := D) (ci := 4) (v := .int (zI (S 8 0))) (C := RX4) (T := TX4) (N := 7) hx hb hT inX4 hown hK hP 3 rfl rfl 1 (by decide) (hT _ q_78) (fun _ h9 => h9) rfl dX6_near_19 ?_
    refine g_callVv (As := [.int (zI (S 8 0))]) (rest := []) ⟨hx, hb, hml, hown, hts⟩ (k_X3_measureFrom l D cI cZ ad az av hinj S hR n N t hT8 (hnn hnz) hNn htn hpa k0 (S 8 0) (by omega) hkN) (cwV 1 hts (gV hsub q_507 q_508 q_509 q_6 q_510) rfl rfl rfl hdX3_measureFrom ⟨Nat.le_of_ble_eq_true rfl, Nat.le_of_ble_eq_true rfl⟩) (cEb D cI cZ ad az av) (cEk D cI cZ ad az av) hE (va_recv (ci := 3) (q0 := 6) hK hP rfl rfl) hP hS rfl hl.1 rfl (Nat.le_of_ble_eq_true rfl) dX6_near_22 ⟨Nat.le_of_ble_eq_true rfl, Nat.le_of_ble_eq_true rfl⟩ (fun S_7 H locs hq_8 hP hR hS _ => ?_)
    obtain ⟨e_9, e_10, e_11, e_12, e_13, e_14, e_15, rfl, hm1_16, hm2_17⟩ := hq_8
    refine lv_aload_n hx hb dX6_near_25 rfl (lv_at hl 0 rfl) ?_
    refine va_get (D := D) (ci := 6) (v := .ref (ad 46)) (C := RX6) (T := TX6) (N := 9) hx hb hT inX6 hown hK hP 0 rfl rfl 5 (by decide) (hT _ q_181) (fun _ h9 => h9) rfl dX6_near_26 ?_
    refine lv_iload_n hx hb dX6_near_29 rfl (lv_at hl 1 rfl) ?_
    refine g_callVi (As := [.int (zI (x))]) (rest := []) ⟨hx, hb, hml, hown, hts⟩ (k_X3_distanceTo l D cI cZ ad az av hinj (sA (sA (sA (sA (sA (sA (sA S 24 e_9) 25 e_10) 26 e_11) 27 e_12) 28 e_13) 29 e_14) 30 e_15) hR N hN hN4 x (by omega) (by omega)) (cwV 1 hts (gV hsub q_529 q_530 q_531 q_6 q_532) rfl rfl rfl hdX3_distanceTo ⟨Nat.le_of_ble_eq_true rfl, Nat.le_of_ble_eq_true rfl⟩) (cEb D cI cZ ad az av) (cEk D cI cZ ad az av) hE (va_recv (ci := 3) (q0 := 6) hK hP rfl rfl) hP hS rfl hl.1 rfl (Nat.le_of_ble_eq_true rfl) dX6_near_30 ⟨Nat.le_of_ble_eq_true rfl, Nat.le_of_ble_eq_true rfl⟩ (fun r_18 S_19 H locs hq_20 hP hR hS _ => ?_)
    obtain ⟨hs9, rfl⟩ := hq_20
    obtain rfl := hs9.symm
    refine z_top (b := if (0 : Int) ≤ x ∧ (x : Int) < ↑N then e_14 (x : Int).toNat else -1) rfl ?_
    refine z_top (b := e_14 x.toNat) (if_pos (by omega)) ?_
    exact g_iret (S1 := sA (sA (sA (sA (sA (sA (sA S 24 e_9) 25 e_10) 26 e_11) 27 e_12) 28 e_13) 29 e_14) 30 e_15) (v := zI (e_14 x.toNat)) hx hb hr hlocks hP hR hS (⟨_, _, _, _, _, _, _, rfl, hm1_16, _, Or.inl ⟨hnz, by omega, by omega, _, hm2_17, rfl⟩, rfl⟩) dX6_near_33
  · have h9 : True := trivial
    have c_4 : ¬ (0 ≤ x ∧ x ≤ S 3 0 - 1) := of_decide_eq_false c_4
    have hbad : ¬ (n ≠ 0 ∧ 0 ≤ x ∧ x ≤ (N : Int) - 1) := by omega
    refine z_bipush hx hb dX6_near_8 (by decide) ?_
    have hSe_21 : S = sA (sA (sA (sA (sA (sA (sA S 24 (S 24)) 25 (S 25)) 26 (S 26)) 27 (S 27)) 28 (S 28)) 29 (S 29)) 30 (S 30) := by
      funext k8
      by_cases e80 : k8 = 24
      · subst e80; first | rfl | (funext j8; rfl)
      by_cases e81 : k8 = 25
      · subst e81; first | rfl | (funext j8; rfl)
      by_cases e82 : k8 = 26
      · subst e82; first | rfl | (funext j8; rfl)
      by_cases e83 : k8 = 27
      · subst e83; first | rfl | (funext j8; rfl)
      by_cases e84 : k8 = 28
      · subst e84; first | rfl | (funext j8; rfl)
      by_cases e85 : k8 = 29
      · subst e85; first | rfl | (funext j8; rfl)
      by_cases e86 : k8 = 30
      · subst e86; first | rfl | (funext j8; rfl)
      simp [sA, e80, e81, e82, e83, e84, e85, e86]
    rw [hSe_21] at hP hR
    exact g_iret (S1 := sA (sA (sA (sA (sA (sA (sA S 24 (S 24)) 25 (S 25)) 26 (S 26)) 27 (S 27)) 28 (S 28)) 29 (S 29)) 30 (S 30)) (v := zI (-101)) hx hb hr hlocks hP hR hS (⟨_, _, _, _, _, _, _, rfl, hpa, _, Or.inr ⟨hbad, rfl⟩, rfl⟩) dX6_near_10
set_option maxHeartbeats 4000000 in
set_option maxRecDepth 100000 in
theorem k_X6_farthest (l : Launch) (D : va_G) (cI cZ : ClassId) (ad : Nat → Nat) (az av : Nat) (hinj : cInj ad) (S : St) (hR : RS S) (n N : Nat) (t : Nat → Int) (hT9 : cTab n N t S) (k0 : Nat) (hk8 : S 8 0 = ↑k0) (hkN : k0 < N) (hD : isDist N (mvE n t) k0 (S 29)) : Met l yX6_farthest (Cond.code yX6_farthest cX6_farthest 3 (some .int) :: lwT) ({ frames := 1, cells := 0, slots := 0, locals := 21 }) (gPc D (cW cI cZ ad) (cE D cI cZ ad az av) S [.ref (ad 40)]) (va_Qi (fun (r : Int32) (S' : St) => ∃ b : Nat, S' = S ∧ argx (S 29) N b ∧ r = zI ↑b) (gB D (cW cI cZ ad)) (cA ad)) 0 0 (cA ad) := by
  refine Met.ofW (cc := cX6_farthest) (maxL := 3) (ret := (some .int)) (by decide) rfl ?_
  intro p e s m args below meth c s₁ B hml hv
  obtain ⟨rfl, hP, hE⟩ := hv
  have hx := B.exec
  have hb := B.bytes
  have hr := B.returns
  have hts := atoms_spec (ws := Cond.code yX6_farthest cX6_farthest 3 (some .int) :: lwT) B.pre
  have hT := fun w (h : w ∈ lwT) => hts w (List.mem_cons_of_mem _ h)
  have hsub : ∀ w ∈ lwT, w ∈ (Cond.code yX6_farthest cX6_farthest 3 (some .int) :: lwT) := fun w h => List.mem_cons_of_mem _ h
  have hown : s.vm.findClass RX6 = some m.cls := findClass_of_methodNamed B.named
  have hlocks := B.notSynchronized
  have hK : va_K D vwCl [(cI, .int), (cZ, .boolean)] s := hE.1
  have hS : va_S (cA ad) s.heap s.heap [] := va_S.rf
  have hT8 := hT9
  have hTo := hT9
  obtain ⟨⟨hn, hN, hn7, hN4⟩, hn0, hO9, hso, htb⟩ := hTo
  have hd0 := hD.1
  have hl := lv_entry ([.ref (ad 40)]) (n := 3) (Nat.le_of_ble_eq_true rfl)
  rw [lg_entry_eq]
  generalize (lg_sl ([.ref (ad 40)]) ++ List.replicate (3 - (lg_sl ([.ref (ad 40)])).length) Slot.unset).toArray = ls at hl ⊢
  have hl : lv_has ls 3 [(0, .ref (ad 40))] := hl
  refine lv_aload_n hx hb dX6_farthest_0 rfl (lv_at hl 0 rfl) ?_
  refine va_get (D := D) (ci := 6) (v := .ref (ad 43)) (C := RX6) (T := TX6) (N := 9) hx hb hT inX6 hown hK hP 0 rfl rfl 2 (by decide) (hT _ q_178) (fun _ h9 => h9) rfl dX6_farthest_1 ?_
  have g_1 : -2147483648 ≤ S 8 0 ∧ S 8 0 < 2147483648 := hR 8 0 (by decide)
  refine va_get (D := D) (ci := 4) (v := .int (zI (S 8 0))) (C := RX4) (T := TX4) (N := 7) hx hb hT inX4 hown hK hP 3 rfl rfl 1 (by decide) (hT _ q_78) (fun _ h9 => h9) rfl dX6_farthest_4 ?_
  refine lv_istore_n (lv' := [(1, .int (zI (S 8 0))), (0, .ref (ad 40))]) hx hb dX6_farthest_7 rfl hl (by decide) rfl (fun ls hl => ?_)
  refine z_iconst hx hb dX6_farthest_8 ?_
  refine lv_istore_n (lv' := [(2, .int (zI (0))), (1, .int (zI (S 8 0))), (0, .ref (ad 40))]) hx hb dX6_farthest_9 rfl hl (by decide) rfl (fun ls hl => ?_)
  have cut_10 : ∀ (k9 : Nat) (i : Nat) (b : Nat) (zb : Int) (H : Heap) (locs : List Loc) (ls : Array Slot), (i ≤ N) → (zb = ↑b) → (faI (S 29) k0 i b) → (N - i) < k9 → va_P D vwCl (cW cI cZ ad S) H → RS S → va_S (cA ad) s.heap H locs → lv_has ls 3 [(0, .ref (ad 40)), (1, .int (zI (zb))), (2, .int (zI (↑i)))] → W p l e (headSpec (Cond.code yX6_farthest cX6_farthest 3 (some .int) :: lwT) ({ frames := 1, cells := 0, slots := 0, locals := 21 })).room s m ([.ref (ad 40)] : List Value).toArray below meth c H locs 0 0 (MQ below (va_Qi (fun (r : Int32) (S' : St) => ∃ b : Nat, S' = S ∧ argx (S 29) N b ∧ r = zI ↑b) (gB D (cW cI cZ ad)) (cA ad)) ([.ref (ad 40)] : List Value).toArray s 0 0 (cA ad)) (F0 m 10 ls []) := by
    intro k9
    induction k9 with
    | zero =>
      intro i b zb H locs ls hi hzb hf hk9 hP hR hS hl
      exact absurd hk9 (Nat.not_lt_zero _)
    | succ k9 ih_10 =>
      intro i b zb H locs ls hi hzb hf hk9 hP hR hS hl
      have hbN := faI_lt hkN hi hf
      have hrb := hR 29 b (by decide)
      refine lv_iload_n hx hb dX6_farthest_10 rfl (lv_at hl 2 rfl) ?_
      refine lv_aload_n hx hb dX6_farthest_11 rfl (lv_at hl 0 rfl) ?_
      refine va_get (D := D) (ci := 6) (v := .ref (ad 42)) (C := RX6) (T := TX6) (N := 9) hx hb hT inX6 hown hK hP 0 rfl rfl 1 (by decide) (hT _ q_177) (fun _ h9 => h9) rfl dX6_farthest_12 ?_
      have g_2 : -2147483648 ≤ S 3 0 ∧ S 3 0 < 2147483648 := hR 3 0 (by decide)
      refine va_get (D := D) (ci := 0) (v := .int (zI (S 3 0))) (C := RX0) (T := TX0) (N := 5) hx hb hT inX0 hown hK hP 2 rfl rfl 1 (by decide) (hT _ q_54) (fun _ h9 => h9) rfl dX6_farthest_15 ?_
      refine z_icmp_ge (tgt := 48) hx hb (by omega) (by omega) (by omega) (by omega) dX6_farthest_18 (by decide) (fun c_3 => ?_) (fun c_3 => ?_)
      · have h9 : True := trivial
        refine lv_iload_n hx hb dX6_farthest_48 rfl (lv_at hl 1 rfl) ?_
        exact g_iret (S1 := S) (v := zI (zb)) hx hb hr hlocks hP hR hS (⟨b, rfl, faI_end hkN hD ((show i = N by omega) ▸ hf), by rw [hzb]⟩) dX6_farthest_49
      · have h9 : True := trivial
        have hri := hR 29 i (by decide)
        refine lv_aload_n hx hb dX6_farthest_21 rfl (lv_at hl 0 rfl) ?_
        refine va_get (D := D) (ci := 6) (v := .ref (ad 46)) (C := RX6) (T := TX6) (N := 9) hx hb hT inX6 hown hK hP 0 rfl rfl 5 (by decide) (hT _ q_181) (fun _ h9 => h9) rfl dX6_farthest_22 ?_
        refine lv_iload_n hx hb dX6_farthest_25 rfl (lv_at hl 2 rfl) ?_
        refine g_callVi (As := [.int (zI (↑i))]) (rest := []) ⟨hx, hb, hml, hown, hts⟩ (k_X3_distanceTo l D cI cZ ad az av hinj S hR N hN hN4 ↑i (by omega) (by omega)) (cwV 1 hts (gV hsub q_529 q_530 q_531 q_6 q_532) rfl rfl rfl hdX3_distanceTo ⟨Nat.le_of_ble_eq_true rfl, Nat.le_of_ble_eq_true rfl⟩) (cEb D cI cZ ad az av) (cEk D cI cZ ad az av) hE (va_recv (ci := 3) (q0 := 6) hK hP rfl rfl) hP hS rfl hl.1 rfl (Nat.le_of_ble_eq_true rfl) dX6_farthest_26 ⟨Nat.le_of_ble_eq_true rfl, Nat.le_of_ble_eq_true rfl⟩ (fun r_4 S_5 H locs hq_6 hP hR hS _ => ?_)
        obtain ⟨hs9, rfl⟩ := hq_6
        obtain rfl := hs9.symm
        refine z_top (b := if (0 : Int) ≤ ↑i ∧ (↑i : Int) < ↑N then S 29 (↑i : Int).toNat else -1) rfl ?_
        refine z_top (b := S 29 i) (if_pos (by omega)) ?_
        refine lv_aload_n hx hb dX6_farthest_29 rfl (lv_at hl 0 rfl) ?_
        refine va_get (D := D) (ci := 6) (v := .ref (ad 46)) (C := RX6) (T := TX6) (N := 9) hx hb hT inX6 hown hK hP 0 rfl rfl 5 (by decide) (hT _ q_181) (fun _ h9 => h9) rfl dX6_farthest_30 ?_
        refine lv_iload_n hx hb dX6_farthest_33 rfl (lv_at hl 1 rfl) ?_
        refine g_callVi (As := [.int (zI (zb))]) (rest := [.int (zI (S 29 i))]) ⟨hx, hb, hml, hown, hts⟩ (k_X3_distanceTo l D cI cZ ad az av hinj S hR N hN hN4 zb (by omega) (by omega)) (cwV 1 hts (gV hsub q_529 q_530 q_531 q_6 q_532) rfl rfl rfl hdX3_distanceTo ⟨Nat.le_of_ble_eq_true rfl, Nat.le_of_ble_eq_true rfl⟩) (cEb D cI cZ ad az av) (cEk D cI cZ ad az av) hE (va_recv (ci := 3) (q0 := 6) hK hP rfl rfl) hP hS rfl hl.1 rfl (Nat.le_of_ble_eq_true rfl) dX6_farthest_34 ⟨Nat.le_of_ble_eq_true rfl, Nat.le_of_ble_eq_true rfl⟩ (fun r_7 S_8 H locs hq_9 hP hR hS _ => ?_)
        obtain ⟨hs9, rfl⟩ := hq_9
        obtain rfl := hs9.symm
        refine z_top (b := if (0 : Int) ≤ zb ∧ (zb : Int) < ↑N then S 29 (zb : Int).toNat else -1) rfl ?_
        refine z_top (b := S 29 b) (by rw [if_pos (by omega), show zb.toNat = b by omega]) ?_
        refine z_icmp_le (tgt := 42) hx hb (by omega) (by omega) (by omega) (by omega) dX6_farthest_37 (by decide) (fun c_10 => ?_) (fun c_10 => ?_)
        · have h9 : True := trivial
          refine z_iinc (lv' := [(2, .int (zI (↑i + 1))), (0, .ref (ad 40)), (1, .int (zI (zb)))]) hx hb dX6_farthest_42 hl (k := 2) rfl (by decide) rfl (fun ls hl => ?_)
          refine lv_goto (tgt := 10) hx hb dX6_farthest_45 (by decide) ?_
          exact ih_10 (i + 1) b zb _ _ _ (by omega) (hzb) (faI_k hd0 hf (by omega)) (by omega) hP hR hS (lv_sub hl [1, 2, 0] rfl)
        · have h9 : True := trivial
          refine lv_iload_n hx hb dX6_farthest_40 rfl (lv_at hl 2 rfl) ?_
          refine lv_istore_n (lv' := [(1, .int (zI (↑i))), (0, .ref (ad 40)), (2, .int (zI (↑i)))]) hx hb dX6_farthest_41 rfl hl (by decide) rfl (fun ls hl => ?_)
          refine z_iinc (lv' := [(2, .int (zI (↑i + 1))), (1, .int (zI (↑i))), (0, .ref (ad 40))]) hx hb dX6_farthest_42 hl (k := 2) rfl (by decide) rfl (fun ls hl => ?_)
          refine lv_goto (tgt := 10) hx hb dX6_farthest_45 (by decide) ?_
          exact ih_10 (i + 1) i ↑i _ _ _ (by omega) (rfl) (faI_n hd0 hf (by omega)) (by omega) hP hR hS (lv_sub hl [2, 1, 0] rfl)
  exact cut_10 _ 0 k0 (S 8 0) _ _ _ (by omega) (hk8) (faI_0 _ _) (Nat.lt_succ_self _) hP hR hS (lv_sub hl [2, 1, 0] rfl)
set_option maxHeartbeats 4000000 in
set_option maxRecDepth 100000 in
theorem k_X6_home (l : Launch) (D : va_G) (cI cZ : ClassId) (ad : Nat → Nat) (az av : Nat) (hinj : cInj ad) (S : St) (hR : RS S) (n N : Nat) (t : Nat → Int) (hT9 : cTab n N t S) (hV : cVer n N t S) : Met l yX6_home (Cond.code yX6_home cX6_home 4 (some .int) :: lwT) ({ frames := 1, cells := 0, slots := 0, locals := 21 }) (gPc D (cW cI cZ ad) (cE D cI cZ ad az av) S [.ref (ad 40)]) (va_Qi (fun (r : Int32) (S' : St) => ∃ x : Int, S' = S ∧ argm (fun k => S 29 k ≠ -1 ∧ ftP n (S 7) t k) (S 29) N x ∧ r = zI x) (gB D (cW cI cZ ad)) (cA ad)) 0 0 (cA ad) := by
  refine Met.ofW (cc := cX6_home) (maxL := 4) (ret := (some .int)) (by decide) rfl ?_
  intro p e s m args below meth c s₁ B hml hv
  obtain ⟨rfl, hP, hE⟩ := hv
  have hx := B.exec
  have hb := B.bytes
  have hr := B.returns
  have hts := atoms_spec (ws := Cond.code yX6_home cX6_home 4 (some .int) :: lwT) B.pre
  have hT := fun w (h : w ∈ lwT) => hts w (List.mem_cons_of_mem _ h)
  have hsub : ∀ w ∈ lwT, w ∈ (Cond.code yX6_home cX6_home 4 (some .int) :: lwT) := fun w h => List.mem_cons_of_mem _ h
  have hown : s.vm.findClass RX6 = some m.cls := findClass_of_methodNamed B.named
  have hlocks := B.notSynchronized
  have hK : va_K D vwCl [(cI, .int), (cZ, .boolean)] s := hE.1
  have hS : va_S (cA ad) s.heap s.heap [] := va_S.rf
  have hT8 := hT9
  have hTo := hT9
  obtain ⟨⟨hn, hN, hn7, hN4⟩, hn0, hO9, hso, htb⟩ := hTo
  have hl := lv_entry ([.ref (ad 40)]) (n := 4) (Nat.le_of_ble_eq_true rfl)
  rw [lg_entry_eq]
  generalize (lg_sl ([.ref (ad 40)]) ++ List.replicate (4 - (lg_sl ([.ref (ad 40)])).length) Slot.unset).toArray = ls at hl ⊢
  have hl : lv_has ls 4 [(0, .ref (ad 40))] := hl
  refine z_iconst hx hb dX6_home_0 ?_
  refine lv_istore_n (lv' := [(1, .int (zI (-1))), (0, .ref (ad 40))]) hx hb dX6_home_1 rfl hl (by decide) rfl (fun ls hl => ?_)
  refine z_iconst hx hb dX6_home_2 ?_
  refine lv_istore_n (lv' := [(2, .int (zI (0))), (1, .int (zI (-1))), (0, .ref (ad 40))]) hx hb dX6_home_3 rfl hl (by decide) rfl (fun ls hl => ?_)
  have cut_4 : ∀ (k9 : Nat) (i : Nat) (x : Int) (H : Heap) (locs : List Loc) (ls : Array Slot), (i ≤ N) → (argm (fun k => S 29 k ≠ -1 ∧ ftP n (S 7) t k) (S 29) i x) → (N - i) < k9 → va_P D vwCl (cW cI cZ ad S) H → RS S → va_S (cA ad) s.heap H locs → lv_has ls 4 [(0, .ref (ad 40)), (1, .int (zI (x))), (2, .int (zI (↑i)))] → W p l e (headSpec (Cond.code yX6_home cX6_home 4 (some .int) :: lwT) ({ frames := 1, cells := 0, slots := 0, locals := 21 })).room s m ([.ref (ad 40)] : List Value).toArray below meth c H locs 0 0 (MQ below (va_Qi (fun (r : Int32) (S' : St) => ∃ x : Int, S' = S ∧ argm (fun k => S 29 k ≠ -1 ∧ ftP n (S 7) t k) (S 29) N x ∧ r = zI x) (gB D (cW cI cZ ad)) (cA ad)) ([.ref (ad 40)] : List Value).toArray s 0 0 (cA ad)) (F0 m 4 ls []) := by
    intro k9
    induction k9 with
    | zero =>
      intro i x H locs ls hi hm hk9 hP hR hS hl
      exact absurd hk9 (Nat.not_lt_zero _)
    | succ k9 ih_4 =>
      intro i x H locs ls hi hm hk9 hP hR hS hl
      have hxr := argm_r hm
      refine lv_iload_n hx hb dX6_home_4 rfl (lv_at hl 2 rfl) ?_
      refine lv_aload_n hx hb dX6_home_5 rfl (lv_at hl 0 rfl) ?_
      refine va_get (D := D) (ci := 6) (v := .ref (ad 42)) (C := RX6) (T := TX6) (N := 9) hx hb hT inX6 hown hK hP 0 rfl rfl 1 (by decide) (hT _ q_177) (fun _ h9 => h9) rfl dX6_home_6 ?_
      have g_1 : -2147483648 ≤ S 3 0 ∧ S 3 0 < 2147483648 := hR 3 0 (by decide)
      refine va_get (D := D) (ci := 0) (v := .int (zI (S 3 0))) (C := RX0) (T := TX0) (N := 5) hx hb hT inX0 hown hK hP 2 rfl rfl 1 (by decide) (hT _ q_54) (fun _ h9 => h9) rfl dX6_home_9 ?_
      refine z_icmp_ge (tgt := 68) hx hb (by omega) (by omega) (by omega) (by omega) dX6_home_12 (by decide) (fun c_2 => ?_) (fun c_2 => ?_)
      · have h9 : True := trivial
        refine lv_iload_n hx hb dX6_home_68 rfl (lv_at hl 1 rfl) ?_
        exact g_iret (S1 := S) (v := zI (x)) hx hb hr hlocks hP hR hS (⟨x, rfl, (show i = N by omega) ▸ hm, rfl⟩) dX6_home_69
      · have h9 : True := trivial
        have hri := hR 29 i (by decide)
        refine lv_aload_n hx hb dX6_home_15 rfl (lv_at hl 0 rfl) ?_
        refine va_get (D := D) (ci := 6) (v := .ref (ad 46)) (C := RX6) (T := TX6) (N := 9) hx hb hT inX6 hown hK hP 0 rfl rfl 5 (by decide) (hT _ q_181) (fun _ h9 => h9) rfl dX6_home_16 ?_
        refine lv_iload_n hx hb dX6_home_19 rfl (lv_at hl 2 rfl) ?_
        refine g_callVi (As := [.int (zI (↑i))]) (rest := []) ⟨hx, hb, hml, hown, hts⟩ (k_X3_distanceTo l D cI cZ ad az av hinj S hR N hN hN4 ↑i (by omega) (by omega)) (cwV 1 hts (gV hsub q_529 q_530 q_531 q_6 q_532) rfl rfl rfl hdX3_distanceTo ⟨Nat.le_of_ble_eq_true rfl, Nat.le_of_ble_eq_true rfl⟩) (cEb D cI cZ ad az av) (cEk D cI cZ ad az av) hE (va_recv (ci := 3) (q0 := 6) hK hP rfl rfl) hP hS rfl hl.1 rfl (Nat.le_of_ble_eq_true rfl) dX6_home_20 ⟨Nat.le_of_ble_eq_true rfl, Nat.le_of_ble_eq_true rfl⟩ (fun r_3 S_4 H locs hq_5 hP hR hS _ => ?_)
        obtain ⟨hs9, rfl⟩ := hq_5
        obtain rfl := hs9.symm
        refine z_top (b := if (0 : Int) ≤ ↑i ∧ (↑i : Int) < ↑N then S 29 (↑i : Int).toNat else -1) rfl ?_
        refine z_top (b := S 29 i) (if_pos (by omega)) ?_
        refine lv_istore_n (lv' := [(3, .int (zI (S 29 i))), (0, .ref (ad 40)), (1, .int (zI (x))), (2, .int (zI (↑i)))]) hx hb dX6_home_23 rfl hl (by decide) rfl (fun ls hl => ?_)
        refine lv_iload_n hx hb dX6_home_24 rfl (lv_at hl 0 rfl) ?_
        refine z_iconst hx hb dX6_home_25 ?_
        refine z_icmp_eq (tgt := 62) hx hb (by omega) (by omega) (by omega) (by omega) dX6_home_26 (by decide) (fun c_6 => ?_) (fun c_6 => ?_)
        · have h9 : True := trivial
          refine z_iinc (lv' := [(2, .int (zI (↑i + 1))), (3, .int (zI (S 29 i))), (0, .ref (ad 40)), (1, .int (zI (x)))]) hx hb dX6_home_62 hl (k := 3) rfl (by decide) rfl (fun ls hl => ?_)
          refine lv_goto (tgt := 4) hx hb dX6_home_65 (by decide) ?_
          exact ih_4 (i + 1) x _ _ _ (by omega) (argm_s hm (fun h => h.1 (by omega))) (by omega) hP hR hS (lv_sub hl [2, 3, 0] rfl)
        · have h9 : True := trivial
          refine lv_aload_n hx hb dX6_home_29 rfl (lv_at hl 1 rfl) ?_
          refine va_get (D := D) (ci := 6) (v := .ref (ad 45)) (C := RX6) (T := TX6) (N := 9) hx hb hT inX6 hown hK hP 0 rfl rfl 4 (by decide) (hT _ q_180) (fun _ h9 => h9) rfl dX6_home_30 ?_
          refine lv_iload_n hx hb dX6_home_33 rfl (lv_at hl 3 rfl) ?_
          refine g_callVi (As := [.int (zI (↑i))]) (rest := []) ⟨hx, hb, hml, hown, hts⟩ (k_X5_isFit l D cI cZ ad az av hinj S hR n N t hT8 hV ↑i (by omega) (by omega)) (cwV 1 hts (gV hsub q_487 q_488 q_489 q_5 q_490) rfl rfl rfl hdX5_isFit ⟨Nat.le_of_ble_eq_true rfl, Nat.le_of_ble_eq_true rfl⟩) (cEb D cI cZ ad az av) (cEk D cI cZ ad az av) hE (va_recv (ci := 5) (q0 := 5) hK hP rfl rfl) hP hS rfl hl.1 rfl (Nat.le_of_ble_eq_true rfl) dX6_home_34 ⟨Nat.le_of_ble_eq_true rfl, Nat.le_of_ble_eq_true rfl⟩ (fun r_7 S_8 H locs hq_9 hP hR hS _ => ?_)
          obtain ⟨hs9, rfl⟩ := hq_9
          obtain rfl := hs9.symm
          refine z_top (b := b2 (pB (((0 : Int) ≤ ↑i ∧ (↑i : Int) < ↑N) ∧ ftP n (S 7) t (↑i : Int).toNat))) rfl ?_
          refine z_ifneB (tgt := 43) hx hb dX6_home_37 (by decide) (fun c_10 => ?_) (fun c_10 => ?_)
          · have h9 : True := trivial
            refine lv_iload_n hx hb dX6_home_43 rfl (lv_at hl 2 rfl) ?_
            refine z_iconst hx hb dX6_home_44 ?_
            refine z_icmp_eq (tgt := 60) hx hb (by omega) (by omega) (by omega) (by omega) dX6_home_45 (by decide) (fun c_11 => ?_) (fun c_11 => ?_)
            · have h9 : True := trivial
              refine lv_iload_n hx hb dX6_home_60 rfl (lv_at hl 3 rfl) ?_
              refine lv_istore_n (lv' := [(1, .int (zI (↑i))), (3, .int (zI (S 29 i))), (0, .ref (ad 40)), (2, .int (zI (↑i)))]) hx hb dX6_home_61 rfl hl (by decide) rfl (fun ls hl => ?_)
              refine z_iinc (lv' := [(2, .int (zI (↑i + 1))), (1, .int (zI (↑i))), (3, .int (zI (S 29 i))), (0, .ref (ad 40))]) hx hb dX6_home_62 hl (k := 3) rfl (by decide) rfl (fun ls hl => ?_)
              refine lv_goto (tgt := 4) hx hb dX6_home_65 (by decide) ?_
              exact ih_4 (i + 1) ↑i _ _ _ (by omega) (argm_n hm ⟨by omega, (pB_t.mp c_10).2⟩ (fun b e => by omega)) (by omega) hP hR hS (lv_sub hl [3, 1, 0] rfl)
            · have h9 : True := trivial
              have hrx := hR 29 x.toNat (by decide)
              refine lv_iload_n hx hb dX6_home_48 rfl (lv_at hl 0 rfl) ?_
              refine lv_aload_n hx hb dX6_home_49 rfl (lv_at hl 1 rfl) ?_
              refine va_get (D := D) (ci := 6) (v := .ref (ad 46)) (C := RX6) (T := TX6) (N := 9) hx hb hT inX6 hown hK hP 0 rfl rfl 5 (by decide) (hT _ q_181) (fun _ h9 => h9) rfl dX6_home_50 ?_
              refine lv_iload_n hx hb dX6_home_53 rfl (lv_at hl 2 rfl) ?_
              refine g_callVi (As := [.int (zI (x))]) (rest := [.int (zI (S 29 i))]) ⟨hx, hb, hml, hown, hts⟩ (k_X3_distanceTo l D cI cZ ad az av hinj S hR N hN hN4 x (by omega) (by omega)) (cwV 1 hts (gV hsub q_529 q_530 q_531 q_6 q_532) rfl rfl rfl hdX3_distanceTo ⟨Nat.le_of_ble_eq_true rfl, Nat.le_of_ble_eq_true rfl⟩) (cEb D cI cZ ad az av) (cEk D cI cZ ad az av) hE (va_recv (ci := 3) (q0 := 6) hK hP rfl rfl) hP hS rfl hl.1 rfl (Nat.le_of_ble_eq_true rfl) dX6_home_54 ⟨Nat.le_of_ble_eq_true rfl, Nat.le_of_ble_eq_true rfl⟩ (fun r_12 S_13 H locs hq_14 hP hR hS _ => ?_)
              obtain ⟨hs9, rfl⟩ := hq_14
              obtain rfl := hs9.symm
              refine z_top (b := if (0 : Int) ≤ x ∧ (x : Int) < ↑N then S 29 (x : Int).toNat else -1) rfl ?_
              refine z_top (b := S 29 x.toNat) (if_pos (by omega)) ?_
              refine z_icmp_ge (tgt := 62) hx hb (by omega) (by omega) (by omega) (by omega) dX6_home_57 (by decide) (fun c_15 => ?_) (fun c_15 => ?_)
              · have h9 : True := trivial
                refine z_iinc (lv' := [(2, .int (zI (↑i + 1))), (3, .int (zI (S 29 i))), (0, .ref (ad 40)), (1, .int (zI (x)))]) hx hb dX6_home_62 hl (k := 3) rfl (by decide) rfl (fun ls hl => ?_)
                refine lv_goto (tgt := 4) hx hb dX6_home_65 (by decide) ?_
                exact ih_4 (i + 1) x _ _ _ (by omega) (argm_k hm (by omega) (fun b e => (show x.toNat = b by omega) ▸ c_15)) (by omega) hP hR hS (lv_sub hl [2, 3, 0] rfl)
              · have h9 : True := trivial
                refine lv_iload_n hx hb dX6_home_60 rfl (lv_at hl 3 rfl) ?_
                refine lv_istore_n (lv' := [(1, .int (zI (↑i))), (3, .int (zI (S 29 i))), (0, .ref (ad 40)), (2, .int (zI (↑i)))]) hx hb dX6_home_61 rfl hl (by decide) rfl (fun ls hl => ?_)
                refine z_iinc (lv' := [(2, .int (zI (↑i + 1))), (1, .int (zI (↑i))), (3, .int (zI (S 29 i))), (0, .ref (ad 40))]) hx hb dX6_home_62 hl (k := 3) rfl (by decide) rfl (fun ls hl => ?_)
                refine lv_goto (tgt := 4) hx hb dX6_home_65 (by decide) ?_
                exact ih_4 (i + 1) ↑i _ _ _ (by omega) (argm_n hm ⟨by omega, (pB_t.mp c_10).2⟩ (fun b e => (show x.toNat = b by omega) ▸ c_15)) (by omega) hP hR hS (lv_sub hl [3, 1, 0] rfl)
          · have h9 : True := trivial
            refine lv_goto (tgt := 62) hx hb dX6_home_40 (by decide) ?_
            refine z_iinc (lv' := [(2, .int (zI (↑i + 1))), (3, .int (zI (S 29 i))), (0, .ref (ad 40)), (1, .int (zI (x)))]) hx hb dX6_home_62 hl (k := 3) rfl (by decide) rfl (fun ls hl => ?_)
            refine lv_goto (tgt := 4) hx hb dX6_home_65 (by decide) ?_
            exact ih_4 (i + 1) x _ _ _ (by omega) (argm_s hm (fun h => pB_f.mp c_10 ⟨by omega, h.2⟩)) (by omega) hP hR hS (lv_sub hl [2, 3, 0] rfl)
  exact cut_4 _ 0 (-1) _ _ _ (by omega) (argm_0) (Nat.lt_succ_self _) hP hR hS (lv_sub hl [2, 1, 0] rfl)
set_option maxHeartbeats 4000000 in
set_option maxRecDepth 100000 in
theorem k_X6_far (l : Launch) (D : va_G) (cI cZ : ClassId) (ad : Nat → Nat) (az av : Nat) (hinj : cInj ad) (S : St) (hR : RS S) (n N : Nat) (t : Nat → Int) (hT9 : cTab n N t S) (hV : cVer n N t S) (k0 : Nat) (hk8 : S 8 0 = ↑k0) (hk0 : n ≠ 0 → k0 < N) (hnn : n ≠ 0 → 2 ≤ n ∧ n ≤ 7) (hNn : N = nb n) (htn : t = tb n) (hpa : paI S) (w : Int) (hw1 : -2147483648 ≤ w) (hw2 : w < 2147483648) : Met l yX6_far (Cond.code yX6_far cX6_far 3 (some .int) :: lwT) ({ frames := 6, cells := 0, slots := 0, locals := 137 }) (gPc D (cW cI cZ ad) (cE D cI cZ ad az av) S [.ref (ad 40), .int (zI (w))]) (va_Qi (fun (r : Int32) (S' : St) => ∃ e24 e25 e26 e27 e28 e29 e30, S' = sA (sA (sA (sA (sA (sA (sA S 24 e24) 25 e25) 26 e26) 27 e27) 28 e28) 29 e29) 30 e30 ∧ paI S' ∧ ∃ v, farR n N (S 7) t k0 w v ∧ r = zI v) (gB D (cW cI cZ ad)) (cA ad)) 0 0 (cA ad) := by
  refine Met.ofW (cc := cX6_far) (maxL := 3) (ret := (some .int)) (by decide) rfl ?_
  intro p e s m args below meth c s₁ B hml hv
  obtain ⟨rfl, hP, hE⟩ := hv
  have hx := B.exec
  have hb := B.bytes
  have hr := B.returns
  have hts := atoms_spec (ws := Cond.code yX6_far cX6_far 3 (some .int) :: lwT) B.pre
  have hT := fun w (h : w ∈ lwT) => hts w (List.mem_cons_of_mem _ h)
  have hsub : ∀ w ∈ lwT, w ∈ (Cond.code yX6_far cX6_far 3 (some .int) :: lwT) := fun w h => List.mem_cons_of_mem _ h
  have hown : s.vm.findClass RX6 = some m.cls := findClass_of_methodNamed B.named
  have hlocks := B.notSynchronized
  have hK : va_K D vwCl [(cI, .int), (cZ, .boolean)] s := hE.1
  have hS : va_S (cA ad) s.heap s.heap [] := va_S.rf
  have hT8 := hT9
  have hTo := hT9
  obtain ⟨⟨hn, hN, hn7, hN4⟩, hn0, hO9, hso, htb⟩ := hTo
  have hl := lv_entry ([.ref (ad 40), .int (zI (w))]) (n := 3) (Nat.le_of_ble_eq_true rfl)
  rw [lg_entry_eq]
  generalize (lg_sl ([.ref (ad 40), .int (zI (w))]) ++ List.replicate (3 - (lg_sl ([.ref (ad 40), .int (zI (w))])).length) Slot.unset).toArray = ls at hl ⊢
  have hl : lv_has ls 3 [(0, .ref (ad 40)), (1, .int (zI (w)))] := hl
  refine lv_iload_n hx hb dX6_far_0 rfl (lv_at hl 1 rfl) ?_
  refine z_if_lt (tgt := 9) hx hb (by omega) (by omega) dX6_far_1 (by decide) (fun c_1 => ?_) (fun c_1 => ?_)
  · have h9 : True := trivial
    refine z_bipush hx hb dX6_far_9 (by decide) ?_
    have hSe_2 : S = sA (sA (sA (sA (sA (sA (sA S 24 (S 24)) 25 (S 25)) 26 (S 26)) 27 (S 27)) 28 (S 28)) 29 (S 29)) 30 (S 30) := by
      funext k8
      by_cases e80 : k8 = 24
      · subst e80; first | rfl | (funext j8; rfl)
      by_cases e81 : k8 = 25
      · subst e81; first | rfl | (funext j8; rfl)
      by_cases e82 : k8 = 26
      · subst e82; first | rfl | (funext j8; rfl)
      by_cases e83 : k8 = 27
      · subst e83; first | rfl | (funext j8; rfl)
      by_cases e84 : k8 = 28
      · subst e84; first | rfl | (funext j8; rfl)
      by_cases e85 : k8 = 29
      · subst e85; first | rfl | (funext j8; rfl)
      by_cases e86 : k8 = 30
      · subst e86; first | rfl | (funext j8; rfl)
      simp [sA, e80, e81, e82, e83, e84, e85, e86]
    rw [hSe_2] at hP hR
    exact g_iret (S1 := sA (sA (sA (sA (sA (sA (sA S 24 (S 24)) 25 (S 25)) 26 (S 26)) 27 (S 27)) 28 (S 28)) 29 (S 29)) 30 (S 30)) (v := zI (-102)) hx hb hr hlocks hP hR hS (⟨_, _, _, _, _, _, _, rfl, hpa, _, Or.inl ⟨by omega, rfl⟩, rfl⟩) dX6_far_11
  · have h9 : True := trivial
    refine lv_iload_n hx hb dX6_far_4 rfl (lv_at hl 1 rfl) ?_
    refine z_iconst hx hb dX6_far_5 ?_
    refine z_icmp_le (tgt := 12) hx hb (by omega) (by omega) (by omega) (by omega) dX6_far_6 (by decide) (fun c_3 => ?_) (fun c_3 => ?_)
    · have h9 : True := trivial
      refine lv_aload_n hx hb dX6_far_12 rfl (lv_at hl 0 rfl) ?_
      refine g_callVi (As := []) (rest := []) ⟨hx, hb, hml, hown, hts⟩ (k_X6_isWithoutStrip l D cI cZ ad az av hinj S hR ) (cwV 0 hts (gV hsub q_462 q_464 q_sX6_isWithoutStrip q_1 q_465) rfl rfl rfl hdX6_isWithoutStrip ⟨Nat.le_of_ble_eq_true rfl, Nat.le_of_ble_eq_true rfl⟩) (cEb D cI cZ ad az av) (cEk D cI cZ ad az av) hE (va_recv (ci := 6) (q0 := 0) hK hP rfl rfl) hP hS rfl hl.1 rfl (Nat.le_of_ble_eq_true rfl) dX6_far_13 ⟨Nat.le_of_ble_eq_true rfl, Nat.le_of_ble_eq_true rfl⟩ (fun r_4 S_5 H locs hq_6 hP hR hS _ => ?_)
      obtain ⟨hs9, rfl⟩ := hq_6
      obtain rfl := hs9.symm
      refine z_top (b := b2 (decide (S 2 0 = 0))) rfl ?_
      refine z_ifeqB (tgt := 22) hx hb dX6_far_16 (by decide) (fun c_7 => ?_) (fun c_7 => ?_)
      · have h9 : True := trivial
        have c_7 : ¬ (S 2 0 = 0) := of_decide_eq_false c_7
        have hnz : n ≠ 0 := by omega
        have hkN := hk0 hnz
        have hO := hO9 hnz
        have hpk := (hO.2.1 k0 hkN).2.1
        refine lv_aload_n hx hb dX6_far_22 rfl (lv_at hl 0 rfl) ?_
        refine va_get (D := D) (ci := 6) (v := .ref (ad 46)) (C := RX6) (T := TX6) (N := 9) hx hb hT inX6 hown hK hP 0 rfl rfl 5 (by decide) (hT _ q_181) (fun _ h9 => h9) rfl dX6_far_23 ?_
        refine lv_aload_n hx hb dX6_far_26 rfl (lv_at hl 0 rfl) ?_
        refine va_get (D := D) (ci := 6) (v := .ref (ad 43)) (C := RX6) (T := TX6) (N := 9) hx hb hT inX6 hown hK hP 0 rfl rfl 2 (by decide) (hT _ q_178) (fun _ h9 => h9) rfl dX6_far_27 ?_
        have g_8 : -2147483648 ≤ S 8 0 ∧ S 8 0 < 2147483648 := hR 8 0 (by decide)
        refine va_get (D := D) (ci := 4) (v := .int (zI (S 8 0))) (C := RX4) (T := TX4) (N := 7) hx hb hT inX4 hown hK hP 3 rfl rfl 1 (by decide) (hT _ q_78) (fun _ h9 => h9) rfl dX6_far_30 ?_
        refine g_callVv (As := [.int (zI (S 8 0))]) (rest := []) ⟨hx, hb, hml, hown, hts⟩ (k_X3_measureFrom l D cI cZ ad az av hinj S hR n N t hT8 (hnn hnz) hNn htn hpa k0 (S 8 0) (by omega) hkN) (cwV 1 hts (gV hsub q_507 q_508 q_509 q_6 q_510) rfl rfl rfl hdX3_measureFrom ⟨Nat.le_of_ble_eq_true rfl, Nat.le_of_ble_eq_true rfl⟩) (cEb D cI cZ ad az av) (cEk D cI cZ ad az av) hE (va_recv (ci := 3) (q0 := 6) hK hP rfl rfl) hP hS rfl hl.1 rfl (Nat.le_of_ble_eq_true rfl) dX6_far_33 ⟨Nat.le_of_ble_eq_true rfl, Nat.le_of_ble_eq_true rfl⟩ (fun S_10 H locs hq_11 hP hR hS _ => ?_)
        obtain ⟨e_12, e_13, e_14, e_15, e_16, e_17, e_18, rfl, hm1_19, hm2_20⟩ := hq_11
        have cut_52 : ∀ (x : Int) (H : Heap) (locs : List Loc) (ls : Array Slot), (-1 ≤ x ∧ x < ↑N) → ((w < 2 ∧ ∃ b : Nat, argx e_17 N b ∧ x = ↑b) ∨ (2 ≤ w ∧ argm (fun k => e_17 k ≠ -1 ∧ ftP n (S 7) t k) e_17 N x)) → va_P D vwCl (cW cI cZ ad (sA (sA (sA (sA (sA (sA (sA S 24 e_12) 25 e_13) 26 e_14) 27 e_15) 28 e_16) 29 e_17) 30 e_18)) H → RS (sA (sA (sA (sA (sA (sA (sA S 24 e_12) 25 e_13) 26 e_14) 27 e_15) 28 e_16) 29 e_17) 30 e_18) → va_S (cA ad) s.heap H locs → lv_has ls 3 [(0, .ref (ad 40)), (1, .int (zI (w)))] → W p l e (headSpec (Cond.code yX6_far cX6_far 3 (some .int) :: lwT) ({ frames := 6, cells := 0, slots := 0, locals := 137 })).room s m ([.ref (ad 40), .int (zI (w))] : List Value).toArray below meth c H locs 0 0 (MQ below (va_Qi (fun (r : Int32) (S' : St) => ∃ e24 e25 e26 e27 e28 e29 e30, S' = sA (sA (sA (sA (sA (sA (sA S 24 e24) 25 e25) 26 e26) 27 e27) 28 e28) 29 e29) 30 e30 ∧ paI S' ∧ ∃ v, farR n N (S 7) t k0 w v ∧ r = zI v) (gB D (cW cI cZ ad)) (cA ad)) ([.ref (ad 40), .int (zI (w))] : List Value).toArray s 0 0 (cA ad)) (F0 m 52 ls [.int (zI (x))]) := by
          intro x H locs ls hxr hfa hP hR hS hl
          refine lv_istore_n (lv' := [(2, .int (zI (x))), (0, .ref (ad 40)), (1, .int (zI (w)))]) hx hb dX6_far_52 rfl hl (by decide) rfl (fun ls hl => ?_)
          refine lv_iload_n hx hb dX6_far_53 rfl (lv_at hl 2 rfl) ?_
          refine z_iconst hx hb dX6_far_54 ?_
          refine z_irem hx hb (by omega) (by omega) (by omega) (by omega) dX6_far_55 ?_
          refine z_iconst hx hb dX6_far_56 ?_
          refine z_icmp_ne (tgt := 64) hx hb (by omega) (by omega) (by omega) (by omega) dX6_far_57 (by decide) (fun c_21 => ?_) (fun c_21 => ?_)
          · have h9 : True := trivial
            refine lv_aload_n hx hb dX6_far_64 rfl (lv_at hl 1 rfl) ?_
            refine va_get (D := D) (ci := 6) (v := .ref (ad 46)) (C := RX6) (T := TX6) (N := 9) hx hb hT inX6 hown hK hP 0 rfl rfl 5 (by decide) (hT _ q_181) (fun _ h9 => h9) rfl dX6_far_65 ?_
            refine lv_iload_n hx hb dX6_far_68 rfl (lv_at hl 0 rfl) ?_
            refine g_callVi (As := [.int (zI (x))]) (rest := []) ⟨hx, hb, hml, hown, hts⟩ (k_X3_distanceTo l D cI cZ ad az av hinj (sA (sA (sA (sA (sA (sA (sA S 24 e_12) 25 e_13) 26 e_14) 27 e_15) 28 e_16) 29 e_17) 30 e_18) hR N hN hN4 x (by omega) (by omega)) (cwV 1 hts (gV hsub q_529 q_530 q_531 q_6 q_532) rfl rfl rfl hdX3_distanceTo ⟨Nat.le_of_ble_eq_true rfl, Nat.le_of_ble_eq_true rfl⟩) (cEb D cI cZ ad az av) (cEk D cI cZ ad az av) hE (va_recv (ci := 3) (q0 := 6) hK hP rfl rfl) hP hS rfl hl.1 rfl (Nat.le_of_ble_eq_true rfl) dX6_far_69 ⟨Nat.le_of_ble_eq_true rfl, Nat.le_of_ble_eq_true rfl⟩ (fun r_22 S_23 H locs hq_24 hP hR hS _ => ?_)
            obtain ⟨hs9, rfl⟩ := hq_24
            obtain rfl := hs9.symm
            refine z_top (b := if (0 : Int) ≤ x ∧ (x : Int) < ↑N then e_17 (x : Int).toNat else -1) rfl ?_
            exact g_iret (S1 := sA (sA (sA (sA (sA (sA (sA S 24 e_12) 25 e_13) 26 e_14) 27 e_15) 28 e_16) 29 e_17) 30 e_18) (v := zI (if (0 : Int) ≤ x ∧ (x : Int) < ↑N then e_17 (x : Int).toNat else -1)) hx hb hr hlocks hP hR hS (⟨_, _, _, _, _, _, _, rfl, hm1_19, _, Or.inr (Or.inr ⟨by omega, hnz, _, hm2_20, hfa.elim (fun h => Or.inl ⟨h.1, far_w0 h.1 (by omega) h.2⟩) (fun h => Or.inr ⟨h.1, far_w2 h.1 (by omega) (by omega) h.2⟩)⟩), rfl⟩) dX6_far_72
          · have h9 : True := trivial
            refine lv_iload_n hx hb dX6_far_60 rfl (lv_at hl 0 rfl) ?_
            refine lv_goto (tgt := 72) hx hb dX6_far_61 (by decide) ?_
            exact g_iret (S1 := sA (sA (sA (sA (sA (sA (sA S 24 e_12) 25 e_13) 26 e_14) 27 e_15) 28 e_16) 29 e_17) 30 e_18) (v := zI (x)) hx hb hr hlocks hP hR hS (⟨_, _, _, _, _, _, _, rfl, hm1_19, _, Or.inr (Or.inr ⟨by omega, hnz, _, hm2_20, hfa.elim (fun h => Or.inl ⟨h.1, far_w1 h.1 (by omega) h.2⟩) (fun h => Or.inr ⟨h.1, far_w3 (by omega) h.1 (by omega) h.2⟩)⟩), rfl⟩) dX6_far_72
        refine lv_iload_n hx hb dX6_far_36 rfl (lv_at hl 1 rfl) ?_
        refine z_iconst hx hb dX6_far_37 ?_
        refine z_icmp_ge (tgt := 48) hx hb (by omega) (by omega) (by omega) (by omega) dX6_far_38 (by decide) (fun c_25 => ?_) (fun c_25 => ?_)
        · have h9 : True := trivial
          refine lv_aload_n hx hb dX6_far_48 rfl (lv_at hl 0 rfl) ?_
          refine g_callVi (As := []) (rest := []) ⟨hx, hb, hml, hown, hts⟩ (k_X6_home l D cI cZ ad az av hinj (sA (sA (sA (sA (sA (sA (sA S 24 e_12) 25 e_13) 26 e_14) 27 e_15) 28 e_16) 29 e_17) 30 e_18) hR n N t hT8 hV) (cwV 0 hts (gV hsub q_541 q_543 q_sX6_home q_1 q_544) rfl rfl rfl hdX6_home ⟨Nat.le_of_ble_eq_true rfl, Nat.le_of_ble_eq_true rfl⟩) (cEb D cI cZ ad az av) (cEk D cI cZ ad az av) hE (va_recv (ci := 6) (q0 := 0) hK hP rfl rfl) hP hS rfl hl.1 rfl (Nat.le_of_ble_eq_true rfl) dX6_far_49 ⟨Nat.le_of_ble_eq_true rfl, Nat.le_of_ble_eq_true rfl⟩ (fun r_26 S_27 H locs hq_28 hP hR hS _ => ?_)
          obtain ⟨xt_29, hs9, hA_30, rfl⟩ := hq_28
          obtain rfl := hs9.symm
          have g_31 := argm_r hA_30
          refine z_top (b := xt_29) rfl ?_
          exact cut_52 xt_29 _ _ _ (by omega) (Or.inr ⟨by omega, hA_30⟩) hP hR hS (lv_sub hl [0, 1] rfl)
        · have h9 : True := trivial
          refine lv_aload_n hx hb dX6_far_41 rfl (lv_at hl 0 rfl) ?_
          refine g_callVi (As := []) (rest := []) ⟨hx, hb, hml, hown, hts⟩ (k_X6_farthest l D cI cZ ad az av hinj (sA (sA (sA (sA (sA (sA (sA S 24 e_12) 25 e_13) 26 e_14) 27 e_15) 28 e_16) 29 e_17) 30 e_18) hR n N t hT8 k0 hk8 hkN hm2_20) (cwV 0 hts (gV hsub q_537 q_539 q_sX6_farthest q_1 q_540) rfl rfl rfl hdX6_farthest ⟨Nat.le_of_ble_eq_true rfl, Nat.le_of_ble_eq_true rfl⟩) (cEb D cI cZ ad az av) (cEk D cI cZ ad az av) hE (va_recv (ci := 6) (q0 := 0) hK hP rfl rfl) hP hS rfl hl.1 rfl (Nat.le_of_ble_eq_true rfl) dX6_far_42 ⟨Nat.le_of_ble_eq_true rfl, Nat.le_of_ble_eq_true rfl⟩ (fun r_32 S_33 H locs hq_34 hP hR hS _ => ?_)
          obtain ⟨bf_35, hs9, hA_36, rfl⟩ := hq_34
          obtain rfl := hs9.symm
          have g_37 := hA_36.1
          refine z_top (b := ↑bf_35) rfl ?_
          refine lv_goto (tgt := 52) hx hb dX6_far_45 (by decide) ?_
          exact cut_52 ↑bf_35 _ _ _ (by omega) (Or.inl ⟨by omega, _, hA_36, rfl⟩) hP hR hS (lv_sub hl [0, 1] rfl)
      · have h9 : True := trivial
        have c_7 : S 2 0 = 0 := of_decide_eq_true c_7
        refine z_bipush hx hb dX6_far_19 (by decide) ?_
        have hSe_38 : S = sA (sA (sA (sA (sA (sA (sA S 24 (S 24)) 25 (S 25)) 26 (S 26)) 27 (S 27)) 28 (S 28)) 29 (S 29)) 30 (S 30) := by
          funext k8
          by_cases e80 : k8 = 24
          · subst e80; first | rfl | (funext j8; rfl)
          by_cases e81 : k8 = 25
          · subst e81; first | rfl | (funext j8; rfl)
          by_cases e82 : k8 = 26
          · subst e82; first | rfl | (funext j8; rfl)
          by_cases e83 : k8 = 27
          · subst e83; first | rfl | (funext j8; rfl)
          by_cases e84 : k8 = 28
          · subst e84; first | rfl | (funext j8; rfl)
          by_cases e85 : k8 = 29
          · subst e85; first | rfl | (funext j8; rfl)
          by_cases e86 : k8 = 30
          · subst e86; first | rfl | (funext j8; rfl)
          simp [sA, e80, e81, e82, e83, e84, e85, e86]
        rw [hSe_38] at hP hR
        exact g_iret (S1 := sA (sA (sA (sA (sA (sA (sA S 24 (S 24)) 25 (S 25)) 26 (S 26)) 27 (S 27)) 28 (S 28)) 29 (S 29)) 30 (S 30)) (v := zI (-103)) hx hb hr hlocks hP hR hS (⟨_, _, _, _, _, _, _, rfl, hpa, _, Or.inr (Or.inl ⟨by omega, by omega, rfl⟩), rfl⟩) dX6_far_21
    · have h9 : True := trivial
      refine z_bipush hx hb dX6_far_9 (by decide) ?_
      have hSe_39 : S = sA (sA (sA (sA (sA (sA (sA S 24 (S 24)) 25 (S 25)) 26 (S 26)) 27 (S 27)) 28 (S 28)) 29 (S 29)) 30 (S 30) := by
        funext k8
        by_cases e80 : k8 = 24
        · subst e80; first | rfl | (funext j8; rfl)
        by_cases e81 : k8 = 25
        · subst e81; first | rfl | (funext j8; rfl)
        by_cases e82 : k8 = 26
        · subst e82; first | rfl | (funext j8; rfl)
        by_cases e83 : k8 = 27
        · subst e83; first | rfl | (funext j8; rfl)
        by_cases e84 : k8 = 28
        · subst e84; first | rfl | (funext j8; rfl)
        by_cases e85 : k8 = 29
        · subst e85; first | rfl | (funext j8; rfl)
        by_cases e86 : k8 = 30
        · subst e86; first | rfl | (funext j8; rfl)
        simp [sA, e80, e81, e82, e83, e84, e85, e86]
      rw [hSe_39] at hP hR
      exact g_iret (S1 := sA (sA (sA (sA (sA (sA (sA S 24 (S 24)) 25 (S 25)) 26 (S 26)) 27 (S 27)) 28 (S 28)) 29 (S 29)) 30 (S 30)) (v := zI (-102)) hx hb hr hlocks hP hR hS (⟨_, _, _, _, _, _, _, rfl, hpa, _, Or.inl ⟨by omega, rfl⟩, rfl⟩) dX6_far_11
set_option maxHeartbeats 4000000 in
set_option maxRecDepth 100000 in
theorem k_X6_trim (l : Launch) (D : va_G) (cI cZ : ClassId) (ad : Nat → Nat) (az av : Nat) (hinj : cInj ad) (S : St) (hR : RS S) (n N : Nat) (t : Nat → Int) (hT9 : cTab n N t S) (hV : cVer n N t S) (k0 : Nat) (hk8 : S 8 0 = ↑k0) (hk0 : n ≠ 0 → k0 < N) (w : Int) (hw1 : -2147483648 ≤ w) (hw2 : w < 2147483648) : Met l yX6_trim (Cond.code yX6_trim cX6_trim 3 (some .int) :: lwT) ({ frames := 1, cells := 0, slots := 0, locals := 22 }) (gPc D (cW cI cZ ad) (cE D cI cZ ad az av) S [.ref (ad 40), .int (zI (w))]) (va_Qi (fun (r : Int32) (S' : St) => ∃ v, S' = S ∧ trimR n N (S 7) t w v ∧ r = zI v) (gB D (cW cI cZ ad)) (cA ad)) 0 0 (cA ad) := by
  refine Met.ofW (cc := cX6_trim) (maxL := 3) (ret := (some .int)) (by decide) rfl ?_
  intro p e s m args below meth c s₁ B hml hv
  obtain ⟨rfl, hP, hE⟩ := hv
  have hx := B.exec
  have hb := B.bytes
  have hr := B.returns
  have hts := atoms_spec (ws := Cond.code yX6_trim cX6_trim 3 (some .int) :: lwT) B.pre
  have hT := fun w (h : w ∈ lwT) => hts w (List.mem_cons_of_mem _ h)
  have hsub : ∀ w ∈ lwT, w ∈ (Cond.code yX6_trim cX6_trim 3 (some .int) :: lwT) := fun w h => List.mem_cons_of_mem _ h
  have hown : s.vm.findClass RX6 = some m.cls := findClass_of_methodNamed B.named
  have hlocks := B.notSynchronized
  have hK : va_K D vwCl [(cI, .int), (cZ, .boolean)] s := hE.1
  have hS : va_S (cA ad) s.heap s.heap [] := va_S.rf
  have hT8 := hT9
  have hTo := hT9
  obtain ⟨⟨hn, hN, hn7, hN4⟩, hn0, hO9, hso, htb⟩ := hTo
  have hl := lv_entry ([.ref (ad 40), .int (zI (w))]) (n := 3) (Nat.le_of_ble_eq_true rfl)
  rw [lg_entry_eq]
  generalize (lg_sl ([.ref (ad 40), .int (zI (w))]) ++ List.replicate (3 - (lg_sl ([.ref (ad 40), .int (zI (w))])).length) Slot.unset).toArray = ls at hl ⊢
  have hl : lv_has ls 3 [(0, .ref (ad 40)), (1, .int (zI (w)))] := hl
  refine lv_iload_n hx hb dX6_trim_0 rfl (lv_at hl 1 rfl) ?_
  refine z_if_lt (tgt := 9) hx hb (by omega) (by omega) dX6_trim_1 (by decide) (fun c_1 => ?_) (fun c_1 => ?_)
  · have h9 : True := trivial
    refine z_bipush hx hb dX6_trim_9 (by decide) ?_
    exact g_iret (S1 := S) (v := zI (-102)) hx hb hr hlocks hP hR hS (⟨_, rfl, Or.inl ⟨by omega, rfl⟩, rfl⟩) dX6_trim_11
  · have h9 : True := trivial
    refine lv_iload_n hx hb dX6_trim_4 rfl (lv_at hl 1 rfl) ?_
    refine z_iconst hx hb dX6_trim_5 ?_
    refine z_icmp_le (tgt := 12) hx hb (by omega) (by omega) (by omega) (by omega) dX6_trim_6 (by decide) (fun c_2 => ?_) (fun c_2 => ?_)
    · have h9 : True := trivial
      refine lv_aload_n hx hb dX6_trim_12 rfl (lv_at hl 0 rfl) ?_
      refine g_callVi (As := []) (rest := []) ⟨hx, hb, hml, hown, hts⟩ (k_X6_isWithoutStrip l D cI cZ ad az av hinj S hR ) (cwV 0 hts (gV hsub q_462 q_464 q_sX6_isWithoutStrip q_1 q_465) rfl rfl rfl hdX6_isWithoutStrip ⟨Nat.le_of_ble_eq_true rfl, Nat.le_of_ble_eq_true rfl⟩) (cEb D cI cZ ad az av) (cEk D cI cZ ad az av) hE (va_recv (ci := 6) (q0 := 0) hK hP rfl rfl) hP hS rfl hl.1 rfl (Nat.le_of_ble_eq_true rfl) dX6_trim_13 ⟨Nat.le_of_ble_eq_true rfl, Nat.le_of_ble_eq_true rfl⟩ (fun r_3 S_4 H locs hq_5 hP hR hS _ => ?_)
      obtain ⟨hs9, rfl⟩ := hq_5
      obtain rfl := hs9.symm
      refine z_top (b := b2 (decide (S 2 0 = 0))) rfl ?_
      refine z_ifeqB (tgt := 22) hx hb dX6_trim_16 (by decide) (fun c_6 => ?_) (fun c_6 => ?_)
      · have h9 : True := trivial
        have c_6 : ¬ (S 2 0 = 0) := of_decide_eq_false c_6
        have hnz : n ≠ 0 := by omega
        have hkN := hk0 hnz
        have hO := hO9 hnz
        have hpk := (hO.2.1 k0 hkN).2.1
        refine lv_aload_n hx hb dX6_trim_22 rfl (lv_at hl 0 rfl) ?_
        refine va_get (D := D) (ci := 6) (v := .ref (ad 45)) (C := RX6) (T := TX6) (N := 9) hx hb hT inX6 hown hK hP 0 rfl rfl 4 (by decide) (hT _ q_180) (fun _ h9 => h9) rfl dX6_trim_23 ?_
        refine g_callVi (As := []) (rest := []) ⟨hx, hb, hml, hown, hts⟩ (k_X5_trimmest l D cI cZ ad az av hinj S hR n N t hT8 hV) (cwV 0 hts (gV hsub q_549 q_550 q_551 q_5 q_552) rfl rfl rfl hdX5_trimmest ⟨Nat.le_of_ble_eq_true rfl, Nat.le_of_ble_eq_true rfl⟩) (cEb D cI cZ ad az av) (cEk D cI cZ ad az av) hE (va_recv (ci := 5) (q0 := 5) hK hP rfl rfl) hP hS rfl hl.1 rfl (Nat.le_of_ble_eq_true rfl) dX6_trim_26 ⟨Nat.le_of_ble_eq_true rfl, Nat.le_of_ble_eq_true rfl⟩ (fun r_7 S_8 H locs hq_9 hP hR hS _ => ?_)
        obtain ⟨xt_10, hs9, hA_11, rfl⟩ := hq_9
        obtain rfl := hs9.symm
        have g_12 := argm_r hA_11
        refine z_top (b := xt_10) rfl ?_
        refine lv_istore_n (lv' := [(2, .int (zI (xt_10))), (0, .ref (ad 40)), (1, .int (zI (w)))]) hx hb dX6_trim_29 rfl hl (by decide) rfl (fun ls hl => ?_)
        refine lv_iload_n hx hb dX6_trim_30 rfl (lv_at hl 2 rfl) ?_
        refine z_if_eq (tgt := 39) hx hb (by omega) (by omega) dX6_trim_31 (by decide) (fun c_13 => ?_) (fun c_13 => ?_)
        · have h9 : True := trivial
          refine lv_iload_n hx hb dX6_trim_39 rfl (lv_at hl 0 rfl) ?_
          refine lv_goto (tgt := 51) hx hb dX6_trim_40 (by decide) ?_
          exact g_iret (S1 := S) (v := zI (xt_10)) hx hb hr hlocks hP hR hS (⟨_, rfl, Or.inr (Or.inr ⟨by omega, hnz, _, hA_11, (if_pos (by omega)).symm⟩), rfl⟩) dX6_trim_51
        · have h9 : True := trivial
          refine lv_iload_n hx hb dX6_trim_34 rfl (lv_at hl 0 rfl) ?_
          refine z_iconst hx hb dX6_trim_35 ?_
          refine z_icmp_ne (tgt := 43) hx hb (by omega) (by omega) (by omega) (by omega) dX6_trim_36 (by decide) (fun c_14 => ?_) (fun c_14 => ?_)
          · have h9 : True := trivial
            refine lv_aload_n hx hb dX6_trim_43 rfl (lv_at hl 1 rfl) ?_
            refine va_get (D := D) (ci := 6) (v := .ref (ad 45)) (C := RX6) (T := TX6) (N := 9) hx hb hT inX6 hown hK hP 0 rfl rfl 4 (by decide) (hT _ q_180) (fun _ h9 => h9) rfl dX6_trim_44 ?_
            refine lv_iload_n hx hb dX6_trim_47 rfl (lv_at hl 0 rfl) ?_
            refine g_callVi (As := [.int (zI (xt_10))]) (rest := []) ⟨hx, hb, hml, hown, hts⟩ (k_X5_widestOf l D cI cZ ad az av hinj S hR n N t hT8 hV xt_10 (by omega) (by omega)) (cwV 1 hts (gV hsub q_495 q_496 q_497 q_5 q_498) rfl rfl rfl hdX5_widestOf ⟨Nat.le_of_ble_eq_true rfl, Nat.le_of_ble_eq_true rfl⟩) (cEb D cI cZ ad az av) (cEk D cI cZ ad az av) hE (va_recv (ci := 5) (q0 := 5) hK hP rfl rfl) hP hS rfl hl.1 rfl (Nat.le_of_ble_eq_true rfl) dX6_trim_48 ⟨Nat.le_of_ble_eq_true rfl, Nat.le_of_ble_eq_true rfl⟩ (fun r_15 S_16 H locs hq_17 hP hR hS _ => ?_)
            obtain ⟨hs9, rfl⟩ := hq_17
            obtain rfl := hs9.symm
            refine z_top (b := if (0 : Int) ≤ xt_10 ∧ (xt_10 : Int) < ↑N then wmF n (S 7) (dgF n (t (xt_10 : Int).toNat)) else 0) rfl ?_
            exact g_iret (S1 := S) (v := zI (if (0 : Int) ≤ xt_10 ∧ (xt_10 : Int) < ↑N then wmF n (S 7) (dgF n (t (xt_10 : Int).toNat)) else 0)) hx hb hr hlocks hP hR hS (⟨_, rfl, Or.inr (Or.inr ⟨by omega, hnz, _, hA_11, (if_pos (by omega)).trans (if_neg (by omega)).symm⟩), rfl⟩) dX6_trim_51
          · have h9 : True := trivial
            refine lv_iload_n hx hb dX6_trim_39 rfl (lv_at hl 0 rfl) ?_
            refine lv_goto (tgt := 51) hx hb dX6_trim_40 (by decide) ?_
            exact g_iret (S1 := S) (v := zI (xt_10)) hx hb hr hlocks hP hR hS (⟨_, rfl, Or.inr (Or.inr ⟨by omega, hnz, _, hA_11, (if_pos (by omega)).symm⟩), rfl⟩) dX6_trim_51
      · have h9 : True := trivial
        have c_6 : S 2 0 = 0 := of_decide_eq_true c_6
        refine z_bipush hx hb dX6_trim_19 (by decide) ?_
        exact g_iret (S1 := S) (v := zI (-103)) hx hb hr hlocks hP hR hS (⟨_, rfl, Or.inr (Or.inl ⟨by omega, by omega, rfl⟩), rfl⟩) dX6_trim_21
    · have h9 : True := trivial
      refine z_bipush hx hb dX6_trim_9 (by decide) ?_
      exact g_iret (S1 := S) (v := zI (-102)) hx hb hr hlocks hP hR hS (⟨_, rfl, Or.inl ⟨by omega, rfl⟩, rfl⟩) dX6_trim_11
set_option maxHeartbeats 4000000 in
set_option maxRecDepth 100000 in
theorem k_X6_odds (l : Launch) (D : va_G) (cI cZ : ClassId) (ad : Nat → Nat) (az av : Nat) (hinj : cInj ad) (S : St) (hR : RS S) (n N : Nat) (t : Nat → Int) (hT9 : cTab n N t S) (hV : cVer n N t S) (k0 : Nat) (hk8 : S 8 0 = ↑k0) (hk0 : n ≠ 0 → k0 < N) (x y w : Int) (hx1 : -2147483648 ≤ x) (hx2 : x < 2147483648) (hy1 : -2147483648 ≤ y) (hy2 : y < 2147483648) (hw1 : -2147483648 ≤ w) (hw2 : w < 2147483648) : Met l yX6_odds (Cond.code yX6_odds cX6_odds 6 (some .int) :: lwT) ({ frames := 2, cells := 0, slots := 0, locals := 46 }) (gPc D (cW cI cZ ad) (cE D cI cZ ad az av) S [.ref (ad 40), .int (zI (x)), .int (zI (y)), .int (zI (w))]) (va_Qi (fun (r : Int32) (S' : St) => S' = S ∧ r = zI (oddsF n N (S 7) t x y w)) (gB D (cW cI cZ ad)) (cA ad)) 0 0 (cA ad) := by
  refine Met.ofW (cc := cX6_odds) (maxL := 6) (ret := (some .int)) (by decide) rfl ?_
  intro p e s m args below meth c s₁ B hml hv
  obtain ⟨rfl, hP, hE⟩ := hv
  have hx := B.exec
  have hb := B.bytes
  have hr := B.returns
  have hts := atoms_spec (ws := Cond.code yX6_odds cX6_odds 6 (some .int) :: lwT) B.pre
  have hT := fun w (h : w ∈ lwT) => hts w (List.mem_cons_of_mem _ h)
  have hsub : ∀ w ∈ lwT, w ∈ (Cond.code yX6_odds cX6_odds 6 (some .int) :: lwT) := fun w h => List.mem_cons_of_mem _ h
  have hown : s.vm.findClass RX6 = some m.cls := findClass_of_methodNamed B.named
  have hlocks := B.notSynchronized
  have hK : va_K D vwCl [(cI, .int), (cZ, .boolean)] s := hE.1
  have hS : va_S (cA ad) s.heap s.heap [] := va_S.rf
  have hT8 := hT9
  have hTo := hT9
  obtain ⟨⟨hn, hN, hn7, hN4⟩, hn0, hO9, hso, htb⟩ := hTo
  have hfr := cnt_r (fun k => pB (ftP n (S 7) t k)) N
  have hfv := hV.1
  have hl := lv_entry ([.ref (ad 40), .int (zI (x)), .int (zI (y)), .int (zI (w))]) (n := 6) (Nat.le_of_ble_eq_true rfl)
  rw [lg_entry_eq]
  generalize (lg_sl ([.ref (ad 40), .int (zI (x)), .int (zI (y)), .int (zI (w))]) ++ List.replicate (6 - (lg_sl ([.ref (ad 40), .int (zI (x)), .int (zI (y)), .int (zI (w))])).length) Slot.unset).toArray = ls at hl ⊢
  have hl : lv_has ls 6 [(0, .ref (ad 40)), (1, .int (zI (x))), (2, .int (zI (y))), (3, .int (zI (w)))] := hl
  refine lv_aload_n hx hb dX6_odds_0 rfl (lv_at hl 0 rfl) ?_
  refine lv_iload_n hx hb dX6_odds_1 rfl (lv_at hl 1 rfl) ?_
  refine g_callVi (As := [.int (zI (x))]) (rest := []) ⟨hx, hb, hml, hown, hts⟩ (k_X6_isLeaf l D cI cZ ad az av hinj S hR x (by omega) (by omega)) (cwV 1 hts (gV hsub q_395 q_397 q_sX6_isLeaf q_1 q_398) rfl rfl rfl hdX6_isLeaf ⟨Nat.le_of_ble_eq_true rfl, Nat.le_of_ble_eq_true rfl⟩) (cEb D cI cZ ad az av) (cEk D cI cZ ad az av) hE (va_recv (ci := 6) (q0 := 0) hK hP rfl rfl) hP hS rfl hl.1 rfl (Nat.le_of_ble_eq_true rfl) dX6_odds_2 ⟨Nat.le_of_ble_eq_true rfl, Nat.le_of_ble_eq_true rfl⟩ (fun r_1 S_2 H locs hq_3 hP hR hS _ => ?_)
  obtain ⟨hs9, rfl⟩ := hq_3
  obtain rfl := hs9.symm
  refine z_top (b := b2 (decide (0 ≤ x ∧ x ≤ S 2 0 - 1))) rfl ?_
  refine z_ifeqB (tgt := 21) hx hb dX6_odds_5 (by decide) (fun c_4 => ?_) (fun c_4 => ?_)
  · have h9 : True := trivial
    have c_4 : ¬ (0 ≤ x ∧ x ≤ S 2 0 - 1) := of_decide_eq_false c_4
    refine z_bipush hx hb dX6_odds_21 (by decide) ?_
    exact g_iret (S1 := S) (v := zI (-101)) hx hb hr hlocks hP hR hS (⟨rfl, by unfold oddsF; rw [if_neg (by omega)]⟩) dX6_odds_23
  · have h9 : True := trivial
    have c_4 : 0 ≤ x ∧ x ≤ S 2 0 - 1 := of_decide_eq_true c_4
    refine lv_aload_n hx hb dX6_odds_8 rfl (lv_at hl 0 rfl) ?_
    refine lv_iload_n hx hb dX6_odds_9 rfl (lv_at hl 2 rfl) ?_
    refine g_callVi (As := [.int (zI (y))]) (rest := []) ⟨hx, hb, hml, hown, hts⟩ (k_X6_isLeaf l D cI cZ ad az av hinj S hR y (by omega) (by omega)) (cwV 1 hts (gV hsub q_395 q_397 q_sX6_isLeaf q_1 q_398) rfl rfl rfl hdX6_isLeaf ⟨Nat.le_of_ble_eq_true rfl, Nat.le_of_ble_eq_true rfl⟩) (cEb D cI cZ ad az av) (cEk D cI cZ ad az av) hE (va_recv (ci := 6) (q0 := 0) hK hP rfl rfl) hP hS rfl hl.1 rfl (Nat.le_of_ble_eq_true rfl) dX6_odds_10 ⟨Nat.le_of_ble_eq_true rfl, Nat.le_of_ble_eq_true rfl⟩ (fun r_5 S_6 H locs hq_7 hP hR hS _ => ?_)
    obtain ⟨hs9, rfl⟩ := hq_7
    obtain rfl := hs9.symm
    refine z_top (b := b2 (decide (0 ≤ y ∧ y ≤ S 2 0 - 1))) rfl ?_
    refine z_ifeqB (tgt := 21) hx hb dX6_odds_13 (by decide) (fun c_8 => ?_) (fun c_8 => ?_)
    · have h9 : True := trivial
      have c_8 : ¬ (0 ≤ y ∧ y ≤ S 2 0 - 1) := of_decide_eq_false c_8
      refine z_bipush hx hb dX6_odds_21 (by decide) ?_
      exact g_iret (S1 := S) (v := zI (-101)) hx hb hr hlocks hP hR hS (⟨rfl, by unfold oddsF; rw [if_neg (by omega)]⟩) dX6_odds_23
    · have h9 : True := trivial
      have c_8 : 0 ≤ y ∧ y ≤ S 2 0 - 1 := of_decide_eq_true c_8
      refine lv_iload_n hx hb dX6_odds_16 rfl (lv_at hl 1 rfl) ?_
      refine lv_iload_n hx hb dX6_odds_17 rfl (lv_at hl 2 rfl) ?_
      refine z_icmp_ne (tgt := 24) hx hb (by omega) (by omega) (by omega) (by omega) dX6_odds_18 (by decide) (fun c_9 => ?_) (fun c_9 => ?_)
      · have h9 : True := trivial
        refine lv_iload_n hx hb dX6_odds_24 rfl (lv_at hl 3 rfl) ?_
        refine z_if_lt (tgt := 33) hx hb (by omega) (by omega) dX6_odds_25 (by decide) (fun c_10 => ?_) (fun c_10 => ?_)
        · have h9 : True := trivial
          refine z_bipush hx hb dX6_odds_33 (by decide) ?_
          exact g_iret (S1 := S) (v := zI (-102)) hx hb hr hlocks hP hR hS (⟨rfl, by unfold oddsF; rw [if_pos (by omega), if_neg (by omega)]⟩) dX6_odds_35
        · have h9 : True := trivial
          refine lv_iload_n hx hb dX6_odds_28 rfl (lv_at hl 3 rfl) ?_
          refine z_iconst hx hb dX6_odds_29 ?_
          refine z_icmp_le (tgt := 36) hx hb (by omega) (by omega) (by omega) (by omega) dX6_odds_30 (by decide) (fun c_11 => ?_) (fun c_11 => ?_)
          · have h9 : True := trivial
            have hcr := cnt_r (fun k => pB (ftP n (S 7) t k ∧ pl n (dgF n (t k)) x.toNat < pl n (dgF n (t k)) y.toNat)) N
            refine lv_aload_n hx hb dX6_odds_36 rfl (lv_at hl 0 rfl) ?_
            refine va_get (D := D) (ci := 6) (v := .ref (ad 45)) (C := RX6) (T := TX6) (N := 9) hx hb hT inX6 hown hK hP 0 rfl rfl 4 (by decide) (hT _ q_180) (fun _ h9 => h9) rfl dX6_odds_37 ?_
            have g_12 : -2147483648 ≤ S 21 0 ∧ S 21 0 < 2147483648 := hR 21 0 (by decide)
            refine va_get (D := D) (ci := 5) (v := .int (zI (S 21 0))) (C := RX5) (T := TX5) (N := 5) hx hb hT inX5 hown hK hP 5 rfl rfl 0 (by decide) (hT _ q_113) (fun _ h9 => h9) rfl dX6_odds_40 ?_
            refine z_if_ne (tgt := 48) hx hb (by omega) (by omega) dX6_odds_43 (by decide) (fun c_13 => ?_) (fun c_13 => ?_)
            · have h9 : True := trivial
              refine lv_aload_n hx hb dX6_odds_48 rfl (lv_at hl 0 rfl) ?_
              refine va_get (D := D) (ci := 6) (v := .ref (ad 45)) (C := RX6) (T := TX6) (N := 9) hx hb hT inX6 hown hK hP 0 rfl rfl 4 (by decide) (hT _ q_180) (fun _ h9 => h9) rfl dX6_odds_49 ?_
              refine lv_iload_n hx hb dX6_odds_52 rfl (lv_at hl 1 rfl) ?_
              refine lv_iload_n hx hb dX6_odds_53 rfl (lv_at hl 2 rfl) ?_
              refine g_callVi (As := [.int (zI (x)), .int (zI (y))]) (rest := []) ⟨hx, hb, hml, hown, hts⟩ (k_X5_fitsWithAbove l D cI cZ ad az av hinj S hR n N t hT8 hV x.toNat y.toNat x y (by omega) (by omega) (by omega) (by omega)) (cwV 2 hts (gV hsub q_557 q_558 q_559 q_5 q_560) rfl rfl rfl hdX5_fitsWithAbove ⟨Nat.le_of_ble_eq_true rfl, Nat.le_of_ble_eq_true rfl⟩) (cEb D cI cZ ad az av) (cEk D cI cZ ad az av) hE (va_recv (ci := 5) (q0 := 5) hK hP rfl rfl) hP hS rfl hl.1 rfl (Nat.le_of_ble_eq_true rfl) dX6_odds_54 ⟨Nat.le_of_ble_eq_true rfl, Nat.le_of_ble_eq_true rfl⟩ (fun r_14 S_15 H locs hq_16 hP hR hS _ => ?_)
              obtain ⟨hs9, rfl⟩ := hq_16
              obtain rfl := hs9.symm
              refine z_top (b := cnt (fun k => pB (ftP n (S 7) t k ∧ pl n (dgF n (t k)) x.toNat < pl n (dgF n (t k)) y.toNat)) N) rfl ?_
              refine lv_istore (lv' := [(4, .int (zI (cnt (fun k => pB (ftP n (S 7) t k ∧ pl n (dgF n (t k)) x.toNat < pl n (dgF n (t k)) y.toNat)) N))), (0, .ref (ad 40)), (1, .int (zI (x))), (2, .int (zI (y))), (3, .int (zI (w)))]) hx hb dX6_odds_57 hl (by decide) rfl (fun ls hl => ?_)
              refine lv_aload_n hx hb dX6_odds_59 rfl (lv_at hl 1 rfl) ?_
              refine va_get (D := D) (ci := 6) (v := .ref (ad 45)) (C := RX6) (T := TX6) (N := 9) hx hb hT inX6 hown hK hP 0 rfl rfl 4 (by decide) (hT _ q_180) (fun _ h9 => h9) rfl dX6_odds_60 ?_
              refine va_get (D := D) (ci := 5) (v := .int (zI (S 21 0))) (C := RX5) (T := TX5) (N := 5) hx hb hT inX5 hown hK hP 5 rfl rfl 0 (by decide) (hT _ q_113) (fun _ h9 => h9) rfl dX6_odds_63 ?_
              refine lv_iload hx hb dX6_odds_66 (lv_at hl 0 rfl) ?_
              refine s_callSi (As := [.int (zI (S 21 0)), .int (zI (cnt (fun k => pB (ftP n (S 7) t k ∧ pl n (dgF n (t k)) x.toNat < pl n (dgF n (t k)) y.toNat)) N))]) (rest := []) ⟨hx, hb, hml, hown, hts⟩ (k_X6_commonDivisor l (S 21 0) (cnt (fun k => pB (ftP n (S 7) t k ∧ pl n (dgF n (t k)) x.toNat < pl n (dgF n (t k)) y.toNat)) N) (by omega) (by omega)) (cwS 2 hts (gS hsub q_561 q_562 q_1 q_563) rfl rfl rfl hdX6_commonDivisor ⟨Nat.le_of_ble_eq_true rfl, Nat.le_of_ble_eq_true rfl⟩) rfl hl.1 rfl (Nat.le_of_ble_eq_true rfl) dX6_odds_68 ⟨Nat.le_of_ble_eq_true rfl, Nat.le_of_ble_eq_true rfl⟩ (fun r_17 hq_19 => ?_)
              rw [hq_19]
              have hgl : ((Int.gcd (S 21 0) (cnt (fun k => pB (ftP n (S 7) t k ∧ pl n (dgF n (t k)) x.toNat < pl n (dgF n (t k)) y.toNat)) N) : Nat) : Int) ≤ 462 := gcd_le (by omega) (by omega)
              refine z_top (b := ((Int.gcd (S 21 0) (cnt (fun k => pB (ftP n (S 7) t k ∧ pl n (dgF n (t k)) x.toNat < pl n (dgF n (t k)) y.toNat)) N) : Nat) : Int)) (gcd_1 (by omega)) ?_
              refine lv_istore (lv' := [(5, .int (zI (((Int.gcd (S 21 0) (cnt (fun k => pB (ftP n (S 7) t k ∧ pl n (dgF n (t k)) x.toNat < pl n (dgF n (t k)) y.toNat)) N) : Nat) : Int)))), (4, .int (zI (cnt (fun k => pB (ftP n (S 7) t k ∧ pl n (dgF n (t k)) x.toNat < pl n (dgF n (t k)) y.toNat)) N))), (0, .ref (ad 40)), (1, .int (zI (x))), (2, .int (zI (y))), (3, .int (zI (w)))]) hx hb dX6_odds_71 hl (by decide) rfl (fun ls hl => ?_)
              have hgp := Int.gcd_pos_of_ne_zero_left (cnt (fun k => pB (ftP n (S 7) t k ∧ pl n (dgF n (t k)) x.toNat < pl n (dgF n (t k)) y.toNat)) N) (show S 21 0 ≠ 0 by omega)
              refine lv_iload_n hx hb dX6_odds_73 rfl (lv_at hl 5 rfl) ?_
              refine z_if_ne (tgt := 82) hx hb (by omega) (by omega) dX6_odds_74 (by decide) (fun c_20 => ?_) (fun c_20 => ?_)
              · have h9 : True := trivial
                refine lv_aload_n hx hb dX6_odds_82 rfl (lv_at hl 2 rfl) ?_
                refine va_get (D := D) (ci := 6) (v := .ref (ad 45)) (C := RX6) (T := TX6) (N := 9) hx hb hT inX6 hown hK hP 0 rfl rfl 4 (by decide) (hT _ q_180) (fun _ h9 => h9) rfl dX6_odds_83 ?_
                refine va_get (D := D) (ci := 5) (v := .int (zI (S 21 0))) (C := RX5) (T := TX5) (N := 5) hx hb hT inX5 hown hK hP 5 rfl rfl 0 (by decide) (hT _ q_113) (fun _ h9 => h9) rfl dX6_odds_86 ?_
                refine lv_iload hx hb dX6_odds_89 (lv_at hl 0 rfl) ?_
                refine z_idiv hx hb (by omega) (by omega) (by omega) (by omega) dX6_odds_91 ?_
                exact g_iret (S1 := S) (v := zI ((S 21 0) / (((Int.gcd (S 21 0) (cnt (fun k => pB (ftP n (S 7) t k ∧ pl n (dgF n (t k)) x.toNat < pl n (dgF n (t k)) y.toNat)) N) : Nat) : Int)))) hx hb hr hlocks hP hR hS (⟨rfl, by unfold oddsF odF; rw [if_pos (show (0 ≤ x ∧ x ≤ (n : Int) - 1) ∧ (0 ≤ y ∧ y ≤ (n : Int) - 1) ∧ x ≠ y by omega), if_pos (show 0 ≤ w ∧ w ≤ 1 by omega), if_neg (show ¬ cnt (fun k => pB (ftP n (S 7) t k)) N = 0 by rw [← hV.1]; omega), if_neg (by omega), hV.1]⟩) dX6_odds_92
              · have h9 : True := trivial
                refine lv_iload hx hb dX6_odds_77 (lv_at hl 1 rfl) ?_
                refine lv_goto (tgt := 89) hx hb dX6_odds_79 (by decide) ?_
                refine lv_iload hx hb dX6_odds_89 (lv_at hl 0 rfl) ?_
                refine z_idiv hx hb (by omega) (by omega) (by omega) (by omega) dX6_odds_91 ?_
                exact g_iret (S1 := S) (v := zI ((cnt (fun k => pB (ftP n (S 7) t k ∧ pl n (dgF n (t k)) x.toNat < pl n (dgF n (t k)) y.toNat)) N) / (((Int.gcd (S 21 0) (cnt (fun k => pB (ftP n (S 7) t k ∧ pl n (dgF n (t k)) x.toNat < pl n (dgF n (t k)) y.toNat)) N) : Nat) : Int)))) hx hb hr hlocks hP hR hS (⟨rfl, by unfold oddsF odF; rw [if_pos (show (0 ≤ x ∧ x ≤ (n : Int) - 1) ∧ (0 ≤ y ∧ y ≤ (n : Int) - 1) ∧ x ≠ y by omega), if_pos (show 0 ≤ w ∧ w ≤ 1 by omega), if_neg (show ¬ cnt (fun k => pB (ftP n (S 7) t k)) N = 0 by rw [← hV.1]; omega), if_pos (by omega), hV.1]⟩) dX6_odds_92
            · have h9 : True := trivial
              refine lv_iload_n hx hb dX6_odds_46 rfl (lv_at hl 3 rfl) ?_
              exact g_iret (S1 := S) (v := zI (w)) hx hb hr hlocks hP hR hS (⟨rfl, by unfold oddsF odF; rw [if_pos (by omega), if_pos (by omega), if_pos (by rw [← hV.1]; omega)]⟩) dX6_odds_47
          · have h9 : True := trivial
            refine z_bipush hx hb dX6_odds_33 (by decide) ?_
            exact g_iret (S1 := S) (v := zI (-102)) hx hb hr hlocks hP hR hS (⟨rfl, by unfold oddsF; rw [if_pos (by omega), if_neg (by omega)]⟩) dX6_odds_35
      · have h9 : True := trivial
        refine z_bipush hx hb dX6_odds_21 (by decide) ?_
        exact g_iret (S1 := S) (v := zI (-101)) hx hb hr hlocks hP hR hS (⟨rfl, by unfold oddsF; rw [if_neg (by omega)]⟩) dX6_odds_23
