set_option maxHeartbeats 4000000 in
set_option maxRecDepth 100000 in
theorem k_X7_strip (l : Launch) (D : va_G) (cI : ClassId) (ad : Nat → Nat) (hinj : mInj ad) (S : St) (hR : RS S) (sz : Nat) (hsz : S 1 0 = ↑sz) (hsz9 : sz ≤ 9) (h4 : 0 ≤ S 4 0 ∧ S 4 0 < 1000000) (M8 : Nat) (U : Nat → List Nat) (hU : 2 ≤ sz → sz ≤ 7 → isRun sz M8 U ∧ (pfx sz U M8).length ≤ 462) : Met l yX7_strip (Cond.code yX7_strip cX7_strip 2 (some .int) :: lwT) ({ frames := 3, cells := 0, slots := 0, locals := 68 }) (gPc D (mW cI ad) (mE D cI) S [.ref (ad 26)]) (va_Qi (fun (r : Int32) (S' : St) => ∃ e2 e5 e6 e9 e10 e7 e8 e3 e15 e4 e1, S' = sA (sA (sA (sA (sA (sA (sA (sA (sA (sA (sA S 2 e2) 5 e5) 6 e6) 9 e9) 10 e10) 7 e7) 8 e8) 3 e3) 15 e15) 4 e4) 1 e1 ∧ ∃ k : Nat, isFlt (S 0) sz k ∧ (((k < sz ∨ sz < 2) ∧ S' = S ∧ r = zI (-103)) ∨ (k = sz ∧ 2 ≤ sz ∧ sz ≤ 7 ∧ r = zI ↑sz ∧ e2 0 = ↑sz ∧ (∀ j, j < sz → e5 j = kbF (S 0 j)) ∧ (∀ j, j < sz → e6 j = ↑j) ∧ e8 0 = ↑(pfx sz U M8).length ∧ (∀ j, j < (pfx sz U M8).length → e7 j = (pfx sz U M8).getD j 0) ∧ e3 0 = 0 ∧ e15 0 = 0 ∧ e4 0 = S 4 0 + 1 ∧ e1 0 = 0))) (gB D (mW cI ad)) (mA ad)) 0 0 (mA ad) := by
  refine Met.ofW (cc := cX7_strip) (maxL := 2) (ret := (some .int)) (by decide) rfl ?_
  intro p e s m args below meth c s₁ B hml hv
  obtain ⟨rfl, hP, hE⟩ := hv
  have hx := B.exec
  have hb := B.bytes
  have hr := B.returns
  have hts := atoms_spec (ws := Cond.code yX7_strip cX7_strip 2 (some .int) :: lwT) B.pre
  have hT := fun w (h : w ∈ lwT) => hts w (List.mem_cons_of_mem _ h)
  have hsub : ∀ w ∈ lwT, w ∈ (Cond.code yX7_strip cX7_strip 2 (some .int) :: lwT) := fun w h => List.mem_cons_of_mem _ h
  have hown : s.vm.findClass RX7 = some m.cls := findClass_of_methodNamed B.named
  have hlocks := B.notSynchronized
  have hK : va_K D vwCl [(cI, .int)] s := hE
  have hS : va_S (mA ad) s.heap s.heap [] := va_S.rf
  have hl := lv_entry ([.ref (ad 26)]) (n := 2) (Nat.le_of_ble_eq_true rfl)
  rw [lg_entry_eq]
  generalize (lg_sl ([.ref (ad 26)]) ++ List.replicate (2 - (lg_sl ([.ref (ad 26)])).length) Slot.unset).toArray = ls at hl ⊢
  have hl : lv_has ls 2 [(0, .ref (ad 26))] := hl
  refine lv_aload_n hx hb dX7_strip_0 rfl (lv_at hl 0 rfl) ?_
  refine g_callVi (As := []) (rest := []) ⟨hx, hb, hml, hown, hts⟩ (k_X7_faultOf l D cI ad hinj S hR sz hsz hsz9) (cwV 0 hts (gV hsub q_767 q_769 q_sX7_faultOf q_8 q_770) rfl rfl rfl hdX7_faultOf ⟨Nat.le_of_ble_eq_true rfl, Nat.le_of_ble_eq_true rfl⟩) (mEb D cI) (mEk D cI (mA ad)) hE (va_recv (ci := 7) (q0 := 0) hK hP rfl rfl) hP hS rfl hl.1 rfl (Nat.le_of_ble_eq_true rfl) dX7_strip_1 ⟨Nat.le_of_ble_eq_true rfl, Nat.le_of_ble_eq_true rfl⟩ (fun r_1 S_2 H locs hq_3 hP hR hS _ => ?_)
  obtain ⟨kf, hs9, rfl, hkf⟩ := hq_3
  obtain rfl := hs9.symm
  refine z_top (b := ↑kf) rfl ?_
  have hkl := hkf.1
  refine lv_aload_n hx hb dX7_strip_4 rfl (lv_at hl 0 rfl) ?_
  have g_4 : -2147483648 ≤ S 1 0 ∧ S 1 0 < 2147483648 := hR 1 0 (by decide)
  refine va_get (D := D) (ci := 7) (v := .int (zI (S 1 0))) (C := RX7) (T := TX7) (N := 26) hx hb hT inX7 hown hK hP 0 rfl rfl 1 (by decide) (hT _ q_673) (fun _ h9 => h9) rfl dX7_strip_5 ?_
  refine z_icmp_lt (tgt := 19) hx hb (by omega) (by omega) (by omega) (by omega) dX7_strip_8 (by decide) (fun c_5 => ?_) (fun c_5 => ?_)
  · have h9 : True := trivial
    refine z_bipush hx hb dX7_strip_19 (by decide) ?_
    have hSe_6 : S = sA (sA (sA (sA (sA (sA (sA (sA (sA (sA (sA S 2 (S 2)) 5 (S 5)) 6 (S 6)) 9 (S 9)) 10 (S 10)) 7 (S 7)) 8 (S 8)) 3 (S 3)) 15 (S 15)) 4 (S 4)) 1 (S 1) := by
      funext k8
      by_cases e80 : k8 = 2
      · subst e80; first | rfl | (funext j8; rfl)
      by_cases e81 : k8 = 5
      · subst e81; first | rfl | (funext j8; rfl)
      by_cases e82 : k8 = 6
      · subst e82; first | rfl | (funext j8; rfl)
      by_cases e83 : k8 = 9
      · subst e83; first | rfl | (funext j8; rfl)
      by_cases e84 : k8 = 10
      · subst e84; first | rfl | (funext j8; rfl)
      by_cases e85 : k8 = 7
      · subst e85; first | rfl | (funext j8; rfl)
      by_cases e86 : k8 = 8
      · subst e86; first | rfl | (funext j8; rfl)
      by_cases e87 : k8 = 3
      · subst e87; first | rfl | (funext j8; rfl)
      by_cases e88 : k8 = 15
      · subst e88; first | rfl | (funext j8; rfl)
      by_cases e89 : k8 = 4
      · subst e89; first | rfl | (funext j8; rfl)
      by_cases e810 : k8 = 1
      · subst e810; first | rfl | (funext j8; rfl)
      simp [sA, e80, e81, e82, e83, e84, e85, e86, e87, e88, e89, e810]
    rw [hSe_6] at hP hR
    exact g_iret (S1 := sA (sA (sA (sA (sA (sA (sA (sA (sA (sA (sA S 2 (S 2)) 5 (S 5)) 6 (S 6)) 9 (S 9)) 10 (S 10)) 7 (S 7)) 8 (S 8)) 3 (S 3)) 15 (S 15)) 4 (S 4)) 1 (S 1)) (v := zI (-103)) hx hb hr hlocks hP hR hS (⟨_, _, _, _, _, _, _, _, _, _, _, rfl, kf, hkf, Or.inl ⟨by omega, by rw [sA_self, sA_self, sA_self, sA_self, sA_self, sA_self, sA_self, sA_self, sA_self, sA_self, sA_self], rfl⟩⟩) dX7_strip_21
  · have h9 : True := trivial
    refine lv_aload_n hx hb dX7_strip_11 rfl (lv_at hl 0 rfl) ?_
    refine va_get (D := D) (ci := 7) (v := .int (zI (S 1 0))) (C := RX7) (T := TX7) (N := 26) hx hb hT inX7 hown hK hP 0 rfl rfl 1 (by decide) (hT _ q_673) (fun _ h9 => h9) rfl dX7_strip_12 ?_
    refine z_iconst hx hb dX7_strip_15 ?_
    refine z_icmp_ge (tgt := 22) hx hb (by omega) (by omega) (by omega) (by omega) dX7_strip_16 (by decide) (fun c_7 => ?_) (fun c_7 => ?_)
    · have h9 : True := trivial
      have hks : kf = sz := by have := hkf.1; omega
      have hk7 : sz ≤ 7 := by have := hkf.2.1; omega
      obtain ⟨hUa, hUb⟩ := hU (by omega) hk7
      refine lv_aload_n hx hb dX7_strip_22 rfl (lv_at hl 0 rfl) ?_
      refine lv_aload_n hx hb dX7_strip_23 rfl (lv_at hl 0 rfl) ?_
      refine va_get (D := D) (ci := 7) (v := .int (zI (S 1 0))) (C := RX7) (T := TX7) (N := 26) hx hb hT inX7 hown hK hP 0 rfl rfl 1 (by decide) (hT _ q_673) (fun _ h9 => h9) rfl dX7_strip_24 ?_
      refine va_put (D := D) (ci := 7) (v := .int (zI (S 1 0))) (ty := .int) (C := RX7) (T := TX7) (N := 26) hx hb hT inX7 tyX7 tyX7_ok nmX7 hown hK hP (mD hinj cI _) hS 0 rfl rfl 2 (by decide) (hT _ q_674) (fun _ h9 => h9) rfl (by decide +kernel) rfl rfl (Nat.le_of_ble_eq_true rfl) dX7_strip_27 (fun H locs hP _ hS => ?_)
      have hP : va_P D vwCl (mW cI ad (sA S 2 (fun _ => S 1 0))) H := hP
      have hR : RS (sA S 2 (fun _ => S 1 0)) := hR.one (by omega) (by omega)
      refine z_iconst hx hb dX7_strip_30 ?_
      refine lv_istore_n (lv' := [(1, .int (zI (0))), (0, .ref (ad 26))]) hx hb dX7_strip_31 rfl hl (by decide) rfl (fun ls hl => ?_)
      have cut_32 : ∀ (k9 : Nat) (i : Nat) (kd : Nat → Int) (ly : Nat → Int) (H : Heap) (locs : List Loc) (ls : Array Slot), (i ≤ sz) → (∀ j, j < i → kd j = kbF (S 0 j)) → (∀ j, j < i → ly j = ↑j) → (sz - i) < k9 → va_P D vwCl (mW cI ad (sA (sA (sA S 2 (fun _ => S 1 0)) 5 kd) 6 ly)) H → RS (sA (sA (sA S 2 (fun _ => S 1 0)) 5 kd) 6 ly) → va_S (mA ad) s.heap H locs → lv_has ls 2 [(0, .ref (ad 26)), (1, .int (zI (↑i)))] → W p l e (headSpec (Cond.code yX7_strip cX7_strip 2 (some .int) :: lwT) ({ frames := 3, cells := 0, slots := 0, locals := 68 })).room s m ([.ref (ad 26)] : List Value).toArray below meth c H locs 0 0 (MQ below (va_Qi (fun (r : Int32) (S' : St) => ∃ e2 e5 e6 e9 e10 e7 e8 e3 e15 e4 e1, S' = sA (sA (sA (sA (sA (sA (sA (sA (sA (sA (sA S 2 e2) 5 e5) 6 e6) 9 e9) 10 e10) 7 e7) 8 e8) 3 e3) 15 e15) 4 e4) 1 e1 ∧ ∃ k : Nat, isFlt (S 0) sz k ∧ (((k < sz ∨ sz < 2) ∧ S' = S ∧ r = zI (-103)) ∨ (k = sz ∧ 2 ≤ sz ∧ sz ≤ 7 ∧ r = zI ↑sz ∧ e2 0 = ↑sz ∧ (∀ j, j < sz → e5 j = kbF (S 0 j)) ∧ (∀ j, j < sz → e6 j = ↑j) ∧ e8 0 = ↑(pfx sz U M8).length ∧ (∀ j, j < (pfx sz U M8).length → e7 j = (pfx sz U M8).getD j 0) ∧ e3 0 = 0 ∧ e15 0 = 0 ∧ e4 0 = S 4 0 + 1 ∧ e1 0 = 0))) (gB D (mW cI ad)) (mA ad)) ([.ref (ad 26)] : List Value).toArray s 0 0 (mA ad)) (F0 m 32 ls []) := by
        intro k9
        induction k9 with
        | zero =>
          intro i kd ly H locs ls hi hkd hly hk9 hP hR hS hl
          exact absurd hk9 (Nat.not_lt_zero _)
        | succ k9 ih_32 =>
          intro i kd ly H locs ls hi hkd hly hk9 hP hR hS hl
          refine lv_iload_n hx hb dX7_strip_32 rfl (lv_at hl 1 rfl) ?_
          refine lv_aload_n hx hb dX7_strip_33 rfl (lv_at hl 0 rfl) ?_
          refine va_get (D := D) (ci := 7) (v := .int (zI (S 1 0))) (C := RX7) (T := TX7) (N := 26) hx hb hT inX7 hown hK hP 0 rfl rfl 2 (by decide) (hT _ q_674) (fun _ h9 => h9) rfl dX7_strip_34 ?_
          refine z_icmp_ge (tgt := 68) hx hb (by omega) (by omega) (by omega) (by omega) dX7_strip_37 (by decide) (fun c_8 => ?_) (fun c_8 => ?_)
          · have h9 : True := trivial
            refine lv_aload_n hx hb dX7_strip_68 rfl (lv_at hl 0 rfl) ?_
            refine g_callVv (As := []) (rest := []) ⟨hx, hb, hml, hown, hts⟩ (k_X7_layOrders l D cI ad hinj (sA (sA (sA S 2 (fun _ => S 1 0)) 5 kd) 6 ly) hR sz hsz (by omega) (by omega) M8 U hUa hUb) (cwV 0 hts (gV hsub q_778 q_780 q_sX7_layOrders q_8 q_781) rfl rfl rfl hdX7_layOrders ⟨Nat.le_of_ble_eq_true rfl, Nat.le_of_ble_eq_true rfl⟩) (mEb D cI) (mEk D cI (mA ad)) hE (va_recv (ci := 7) (q0 := 0) hK hP rfl rfl) hP hS rfl hl.1 rfl (Nat.le_of_ble_eq_true rfl) dX7_strip_69 ⟨Nat.le_of_ble_eq_true rfl, Nat.le_of_ble_eq_true rfl⟩ (fun S_10 H locs hq_11 hP hR hS _ => ?_)
            obtain ⟨e_12, e_13, e_14, e_15, rfl, hL8_16, hL7_17⟩ := hq_11
            refine lv_aload_n hx hb dX7_strip_72 rfl (lv_at hl 0 rfl) ?_
            refine z_iconst hx hb dX7_strip_73 ?_
            refine va_put (D := D) (ci := 7) (v := .int (zI (0))) (ty := .int) (C := RX7) (T := TX7) (N := 26) hx hb hT inX7 tyX7 tyX7_ok nmX7 hown hK hP (mD hinj cI _) hS 0 rfl rfl 3 (by decide) (hT _ q_675) (fun _ h9 => h9) rfl (by decide +kernel) rfl rfl (Nat.le_of_ble_eq_true rfl) dX7_strip_74 (fun H locs hP _ hS => ?_)
            have hP : va_P D vwCl (mW cI ad (sA (sA (sA (sA (sA (sA (sA (sA S 2 (fun _ => S 1 0)) 5 kd) 6 ly) 9 e_12) 10 e_13) 7 e_14) 8 e_15) 3 (fun _ => 0))) H := hP
            have hR : RS (sA (sA (sA (sA (sA (sA (sA (sA S 2 (fun _ => S 1 0)) 5 kd) 6 ly) 9 e_12) 10 e_13) 7 e_14) 8 e_15) 3 (fun _ => 0)) := hR.one (by omega) (by omega)
            refine lv_aload_n hx hb dX7_strip_77 rfl (lv_at hl 0 rfl) ?_
            refine z_iconst hx hb dX7_strip_78 ?_
            refine va_put (D := D) (ci := 7) (v := .int (zI (0))) (ty := .int) (C := RX7) (T := TX7) (N := 26) hx hb hT inX7 tyX7 tyX7_ok nmX7 hown hK hP (mD hinj cI _) hS 0 rfl rfl 15 (by decide) (hT _ q_687) (fun _ h9 => h9) rfl (by decide +kernel) rfl rfl (Nat.le_of_ble_eq_true rfl) dX7_strip_79 (fun H locs hP _ hS => ?_)
            have hP : va_P D vwCl (mW cI ad (sA (sA (sA (sA (sA (sA (sA (sA (sA S 2 (fun _ => S 1 0)) 5 kd) 6 ly) 9 e_12) 10 e_13) 7 e_14) 8 e_15) 3 (fun _ => 0)) 15 (fun _ => 0))) H := hP
            have hR : RS (sA (sA (sA (sA (sA (sA (sA (sA (sA S 2 (fun _ => S 1 0)) 5 kd) 6 ly) 9 e_12) 10 e_13) 7 e_14) 8 e_15) 3 (fun _ => 0)) 15 (fun _ => 0)) := hR.one (by omega) (by omega)
            refine lv_aload_n hx hb dX7_strip_82 rfl (lv_at hl 0 rfl) ?_
            refine lv_dup hx hb dX7_strip_83 rfl ?_
            have g_18 : -2147483648 ≤ S 4 0 ∧ S 4 0 < 2147483648 := hR 4 0 (by decide)
            refine va_get (D := D) (ci := 7) (v := .int (zI (S 4 0))) (C := RX7) (T := TX7) (N := 26) hx hb hT inX7 hown hK hP 0 rfl rfl 4 (by decide) (hT _ q_676) (fun _ h9 => h9) rfl dX7_strip_84 ?_
            refine z_iconst hx hb dX7_strip_87 ?_
            refine z_iadd hx hb dX7_strip_88 ?_
            refine va_put (D := D) (ci := 7) (v := .int (zI ((S 4 0) + 1))) (ty := .int) (C := RX7) (T := TX7) (N := 26) hx hb hT inX7 tyX7 tyX7_ok nmX7 hown hK hP (mD hinj cI _) hS 0 rfl rfl 4 (by decide) (hT _ q_676) (fun _ h9 => h9) rfl (by decide +kernel) rfl rfl (Nat.le_of_ble_eq_true rfl) dX7_strip_89 (fun H locs hP _ hS => ?_)
            have hP : va_P D vwCl (mW cI ad (sA (sA (sA (sA (sA (sA (sA (sA (sA (sA S 2 (fun _ => S 1 0)) 5 kd) 6 ly) 9 e_12) 10 e_13) 7 e_14) 8 e_15) 3 (fun _ => 0)) 15 (fun _ => 0)) 4 (fun _ => (S 4 0) + 1))) H := hP
            have hR : RS (sA (sA (sA (sA (sA (sA (sA (sA (sA (sA S 2 (fun _ => S 1 0)) 5 kd) 6 ly) 9 e_12) 10 e_13) 7 e_14) 8 e_15) 3 (fun _ => 0)) 15 (fun _ => 0)) 4 (fun _ => (S 4 0) + 1)) := hR.one (by omega) (by omega)
            refine lv_aload_n hx hb dX7_strip_92 rfl (lv_at hl 0 rfl) ?_
            refine z_iconst hx hb dX7_strip_93 ?_
            refine va_put (D := D) (ci := 7) (v := .int (zI (0))) (ty := .int) (C := RX7) (T := TX7) (N := 26) hx hb hT inX7 tyX7 tyX7_ok nmX7 hown hK hP (mD hinj cI _) hS 0 rfl rfl 1 (by decide) (hT _ q_673) (fun _ h9 => h9) rfl (by decide +kernel) rfl rfl (Nat.le_of_ble_eq_true rfl) dX7_strip_94 (fun H locs hP _ hS => ?_)
            have hP : va_P D vwCl (mW cI ad (sA (sA (sA (sA (sA (sA (sA (sA (sA (sA (sA S 2 (fun _ => S 1 0)) 5 kd) 6 ly) 9 e_12) 10 e_13) 7 e_14) 8 e_15) 3 (fun _ => 0)) 15 (fun _ => 0)) 4 (fun _ => (S 4 0) + 1)) 1 (fun _ => 0))) H := hP
            have hR : RS (sA (sA (sA (sA (sA (sA (sA (sA (sA (sA (sA S 2 (fun _ => S 1 0)) 5 kd) 6 ly) 9 e_12) 10 e_13) 7 e_14) 8 e_15) 3 (fun _ => 0)) 15 (fun _ => 0)) 4 (fun _ => (S 4 0) + 1)) 1 (fun _ => 0)) := hR.one (by omega) (by omega)
            refine lv_aload_n hx hb dX7_strip_97 rfl (lv_at hl 0 rfl) ?_
            refine va_get (D := D) (ci := 7) (v := .int (zI (S 1 0))) (C := RX7) (T := TX7) (N := 26) hx hb hT inX7 hown hK hP 0 rfl rfl 2 (by decide) (hT _ q_674) (fun _ h9 => h9) rfl dX7_strip_98 ?_
            exact g_iret (S1 := sA (sA (sA (sA (sA (sA (sA (sA (sA (sA (sA S 2 (fun _ => S 1 0)) 5 kd) 6 ly) 9 e_12) 10 e_13) 7 e_14) 8 e_15) 3 (fun _ => 0)) 15 (fun _ => 0)) 4 (fun _ => (S 4 0) + 1)) 1 (fun _ => 0)) (v := zI (S 1 0)) hx hb hr hlocks hP hR hS (⟨_, _, _, _, _, _, _, _, _, _, _, rfl, kf, hkf, Or.inr ⟨hks, by omega, hk7, by rw [hsz], hsz, fun j hj => hkd j (by omega), fun j hj => hly j (by omega), hL8_16, hL7_17, rfl, rfl, rfl, rfl⟩⟩) dX7_strip_101
          · have h9 : True := trivial
            refine lv_aload_n hx hb dX7_strip_40 rfl (lv_at hl 0 rfl) ?_
            refine va_get (D := D) (ci := 7) (v := .ref (ad 5)) (C := RX7) (T := TX7) (N := 26) hx hb hT inX7 hown hK hP 0 rfl rfl 5 (by decide) (hT _ q_677) (fun _ h9 => h9) rfl dX7_strip_41 ?_
            refine lv_iload_n hx hb dX7_strip_44 rfl (lv_at hl 1 rfl) ?_
            refine lv_aload_n hx hb dX7_strip_45 rfl (lv_at hl 0 rfl) ?_
            refine va_get (D := D) (ci := 7) (v := .ref (ad 0)) (C := RX7) (T := TX7) (N := 26) hx hb hT inX7 hown hK hP 0 rfl rfl 0 (by decide) (hT _ q_672) (fun _ h9 => h9) rfl dX7_strip_46 ?_
            refine lv_iload_n hx hb dX7_strip_49 rfl (lv_at hl 1 rfl) ?_
            have g_19 : -2147483648 ≤ S 0 i ∧ S 0 i < 2147483648 := hR 0 i (by decide)
            refine z_ald (f := S 0) hx hb hK hP 1 0 rfl rfl (by omega) (by omega) (by decide) (j := i) rfl dX7_strip_50 ?_
            refine s_callSi (As := [.int (zI (S 0 i))]) (rest := [.int (zI (↑i)), .ref (ad 5)]) ⟨hx, hb, hml, hown, hts⟩ (k_X7_kindBy l (S 0 i) (by omega) (by omega)) (cwS 1 hts (gS hsub q_771 q_772 q_8 q_773) rfl rfl rfl hdX7_kindBy ⟨Nat.le_of_ble_eq_true rfl, Nat.le_of_ble_eq_true rfl⟩) rfl hl.1 rfl (Nat.le_of_ble_eq_true rfl) dX7_strip_51 ⟨Nat.le_of_ble_eq_true rfl, Nat.le_of_ble_eq_true rfl⟩ (fun r_20 hq_22 => ?_)
            rw [hq_22]
            have g_23 := kbF_r (S 0 i)
            refine z_ast (f := (sA (sA (sA S 2 (fun _ => S 1 0)) 5 kd) 6 ly) 5) (i := ↑i) (v := kbF (S 0 i)) hx hb hK hP (mD hinj cI _) hS 2 0 rfl rfl (by omega) (by omega) (by decide) dX7_strip_54 (fun H locs hP hS => ?_)
            have hP : va_P D vwCl (mW cI ad (sA (sA (sA (sA S 2 (fun _ => S 1 0)) 5 kd) 6 ly) 5 (uZ kd i (kbF (S 0 i))))) H := hP
            have hR : RS (sA (sA (sA (sA S 2 (fun _ => S 1 0)) 5 kd) 6 ly) 5 (uZ kd i (kbF (S 0 i)))) := hR.put (by omega) (by omega)
            refine lv_aload_n hx hb dX7_strip_55 rfl (lv_at hl 0 rfl) ?_
            refine va_get (D := D) (ci := 7) (v := .ref (ad 6)) (C := RX7) (T := TX7) (N := 26) hx hb hT inX7 hown hK hP 0 rfl rfl 6 (by decide) (hT _ q_678) (fun _ h9 => h9) rfl dX7_strip_56 ?_
            refine lv_iload_n hx hb dX7_strip_59 rfl (lv_at hl 1 rfl) ?_
            refine lv_iload_n hx hb dX7_strip_60 rfl (lv_at hl 1 rfl) ?_
            refine z_ast (f := (sA (sA (sA (sA S 2 (fun _ => S 1 0)) 5 kd) 6 ly) 5 (uZ kd i (kbF (S 0 i)))) 6) (i := ↑i) (v := ↑i) hx hb hK hP (mD hinj cI _) hS 3 0 rfl rfl (by omega) (by omega) (by decide) dX7_strip_61 (fun H locs hP hS => ?_)
            have hP : va_P D vwCl (mW cI ad (sA (sA (sA (sA (sA S 2 (fun _ => S 1 0)) 5 kd) 6 ly) 5 (uZ kd i (kbF (S 0 i)))) 6 (uZ ly i ↑i))) H := hP
            have hR : RS (sA (sA (sA (sA (sA S 2 (fun _ => S 1 0)) 5 kd) 6 ly) 5 (uZ kd i (kbF (S 0 i)))) 6 (uZ ly i ↑i)) := hR.put (by omega) (by omega)
            refine z_iinc (lv' := [(1, .int (zI (↑i + 1))), (0, .ref (ad 26))]) hx hb dX7_strip_62 hl (k := 1) rfl (by decide) rfl (fun ls hl => ?_)
            refine lv_goto (tgt := 32) hx hb dX7_strip_65 (by decide) ?_
            have hSe_24 : sA (sA (sA (sA (sA S 2 (fun _ => S 1 0)) 5 kd) 6 ly) 5 (uZ kd i (kbF (S 0 i)))) 6 (uZ ly i ↑i) = sA (sA (sA S 2 (fun _ => S 1 0)) 5 (uZ kd i (kbF (S 0 i)))) 6 (uZ ly i ↑i) := by
              funext k8
              by_cases e80 : k8 = 2
              · subst e80; funext j8; first | rfl | exact hsc_2 j8
              by_cases e81 : k8 = 5
              · subst e81; first | rfl | (funext j8; rfl)
              by_cases e82 : k8 = 6
              · subst e82; first | rfl | (funext j8; rfl)
              simp [sA, e80, e81, e82]
            rw [hSe_24] at hP hR
            exact ih_32 (i + 1) (uZ kd i (kbF (S 0 i))) (uZ ly i ↑i) _ _ _ (by omega) (fun j hj => by unfold uZ; split <;> first | (rename_i e9; rw [e9]) | exact hkd j (by omega)) (fun j hj => by unfold uZ; split <;> first | (rename_i e9; rw [e9]) | exact hly j (by omega)) (by omega) hP hR hS (lv_sub hl [1, 0] rfl)
      have hSe_25 : sA S 2 (fun _ => S 1 0) = sA (sA (sA S 2 (fun _ => S 1 0)) 5 (S 5)) 6 (S 6) := by
        funext k8
        by_cases e80 : k8 = 2
        · subst e80; funext j8; first | rfl | exact hsc_2 j8
        by_cases e81 : k8 = 5
        · subst e81; first | rfl | (funext j8; rfl)
        by_cases e82 : k8 = 6
        · subst e82; first | rfl | (funext j8; rfl)
        simp [sA, e80, e81, e82]
      rw [hSe_25] at hP hR
      exact cut_32 _ 0 (S 5) (S 6) _ _ _ (by omega) (fun j h => absurd h (Nat.not_lt_zero j)) (fun j h => absurd h (Nat.not_lt_zero j)) (Nat.lt_succ_self _) hP hR hS (lv_sub hl [1, 0] rfl)
    · have h9 : True := trivial
      refine z_bipush hx hb dX7_strip_19 (by decide) ?_
      have hSe_26 : S = sA (sA (sA (sA (sA (sA (sA (sA (sA (sA (sA S 2 (S 2)) 5 (S 5)) 6 (S 6)) 9 (S 9)) 10 (S 10)) 7 (S 7)) 8 (S 8)) 3 (S 3)) 15 (S 15)) 4 (S 4)) 1 (S 1) := by
        funext k8
        by_cases e80 : k8 = 2
        · subst e80; first | rfl | (funext j8; rfl)
        by_cases e81 : k8 = 5
        · subst e81; first | rfl | (funext j8; rfl)
        by_cases e82 : k8 = 6
        · subst e82; first | rfl | (funext j8; rfl)
        by_cases e83 : k8 = 9
        · subst e83; first | rfl | (funext j8; rfl)
        by_cases e84 : k8 = 10
        · subst e84; first | rfl | (funext j8; rfl)
        by_cases e85 : k8 = 7
        · subst e85; first | rfl | (funext j8; rfl)
        by_cases e86 : k8 = 8
        · subst e86; first | rfl | (funext j8; rfl)
        by_cases e87 : k8 = 3
        · subst e87; first | rfl | (funext j8; rfl)
        by_cases e88 : k8 = 15
        · subst e88; first | rfl | (funext j8; rfl)
        by_cases e89 : k8 = 4
        · subst e89; first | rfl | (funext j8; rfl)
        by_cases e810 : k8 = 1
        · subst e810; first | rfl | (funext j8; rfl)
        simp [sA, e80, e81, e82, e83, e84, e85, e86, e87, e88, e89, e810]
      rw [hSe_26] at hP hR
      exact g_iret (S1 := sA (sA (sA (sA (sA (sA (sA (sA (sA (sA (sA S 2 (S 2)) 5 (S 5)) 6 (S 6)) 9 (S 9)) 10 (S 10)) 7 (S 7)) 8 (S 8)) 3 (S 3)) 15 (S 15)) 4 (S 4)) 1 (S 1)) (v := zI (-103)) hx hb hr hlocks hP hR hS (⟨_, _, _, _, _, _, _, _, _, _, _, rfl, kf, hkf, Or.inl ⟨by omega, by rw [sA_self, sA_self, sA_self, sA_self, sA_self, sA_self, sA_self, sA_self, sA_self, sA_self, sA_self], rfl⟩⟩) dX7_strip_21
