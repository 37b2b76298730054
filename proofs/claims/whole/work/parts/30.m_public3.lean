set_option maxHeartbeats 4000000 in
set_option maxRecDepth 100000 in
theorem k_X7_image (l : Launch) (D : va_G) (cI : ClassId) (ad : Nat → Nat) (hinj : mInj ad) (S : St) (hR : RS S) (n : Nat) (hn : S 2 0 = ↑n) (hn7 : n ≤ 7) (N k0 : Nat) (hst : n ≠ 0 → STp n N k0 S) (h80 : 0 ≤ S 8 0) (hp : prm n (S 6)) : Met l yX7_image (Cond.code yX7_image cX7_image 1 (some .int) :: lwT) ({ frames := 1, cells := 0, slots := 0, locals := 22 }) (gPc D (mW cI ad) (mE D cI) S [.ref (ad 26)]) (va_Qi (fun (r : Int32) (S' : St) => ∃ e22 e23 e24 e20 e21 e19, S' = sA (sA (sA (sA (sA (sA S 22 e22) 23 e23) 24 e24) 20 e20) 21 e21) 19 e19 ∧ ((n = 0 ∧ r = zI (-103) ∧ S' = S) ∨ (n ≠ 0 ∧ r = zI (S 3 0) ∧ (∀ j, j < 7 → e22 j = S 5 j) ∧ (∀ j, j < 7 → e23 j = S 6 j) ∧ (∀ j, j < 18 → e24 j = S 16 j) ∧ e20 0 = S 3 0 ∧ e21 0 = S 15 0 ∧ e19 0 = S 4 0))) (gB D (mW cI ad)) (mA ad)) 0 0 (mA ad) := by
  refine Met.ofW (cc := cX7_image) (maxL := 1) (ret := (some .int)) (by decide) rfl ?_
  intro p e s m args below meth c s₁ B hml hv
  obtain ⟨rfl, hP, hE⟩ := hv
  have hx := B.exec
  have hb := B.bytes
  have hr := B.returns
  have hts := atoms_spec (ws := Cond.code yX7_image cX7_image 1 (some .int) :: lwT) B.pre
  have hT := fun w (h : w ∈ lwT) => hts w (List.mem_cons_of_mem _ h)
  have hsub : ∀ w ∈ lwT, w ∈ (Cond.code yX7_image cX7_image 1 (some .int) :: lwT) := fun w h => List.mem_cons_of_mem _ h
  have hown : s.vm.findClass RX7 = some m.cls := findClass_of_methodNamed B.named
  have hlocks := B.notSynchronized
  have hK : va_K D vwCl [(cI, .int)] s := hE
  have hS : va_S (mA ad) s.heap s.heap [] := va_S.rf
  have hl := lv_entry ([.ref (ad 26)]) (n := 1) (Nat.le_of_ble_eq_true rfl)
  rw [lg_entry_eq]
  generalize (lg_sl ([.ref (ad 26)]) ++ List.replicate (1 - (lg_sl ([.ref (ad 26)])).length) Slot.unset).toArray = ls at hl ⊢
  have hl : lv_has ls 1 [(0, .ref (ad 26))] := hl
  refine lv_aload_n hx hb dX7_image_0 rfl (lv_at hl 0 rfl) ?_
  refine g_callVi (As := []) (rest := []) ⟨hx, hb, hml, hown, hts⟩ (k_X7_lacks l D cI ad hinj S hR ) (cwV 0 hts (gV hsub q_812 q_814 q_sX7_lacks q_8 q_815) rfl rfl rfl hdX7_lacks ⟨Nat.le_of_ble_eq_true rfl, Nat.le_of_ble_eq_true rfl⟩) (mEb D cI) (mEk D cI (mA ad)) hE (va_recv (ci := 7) (q0 := 0) hK hP rfl rfl) hP hS rfl hl.1 rfl (Nat.le_of_ble_eq_true rfl) dX7_image_1 ⟨Nat.le_of_ble_eq_true rfl, Nat.le_of_ble_eq_true rfl⟩ (fun r_1 S_2 H locs hq_3 hP hR hS _ => ?_)
  obtain ⟨hs9, rfl⟩ := hq_3
  obtain rfl := hs9.symm
  refine z_top (b := b2 (decide (S 2 0 = 0))) rfl ?_
  refine z_ifeqB (tgt := 10) hx hb dX7_image_4 (by decide) (fun c_4 => ?_) (fun c_4 => ?_)
  · have h9 : True := trivial
    have c_4 : ¬ (S 2 0 = 0) := of_decide_eq_false c_4
    refine lv_aload_n hx hb dX7_image_10 rfl (lv_at hl 0 rfl) ?_
    refine va_get (D := D) (ci := 7) (v := .ref (ad 5)) (C := RX7) (T := TX7) (N := 26) hx hb hT inX7 hown hK hP 0 rfl rfl 5 (by decide) (hT _ q_677) (fun _ h9 => h9) rfl dX7_image_11 ?_
    refine lv_aload_n hx hb dX7_image_14 rfl (lv_at hl 0 rfl) ?_
    refine va_get (D := D) (ci := 7) (v := .ref (ad 22)) (C := RX7) (T := TX7) (N := 26) hx hb hT inX7 hown hK hP 0 rfl rfl 22 (by decide) (hT _ q_694) (fun _ h9 => h9) rfl dX7_image_15 ?_
    refine g_callSv (As := [.ref (ad 5), .ref (ad 22)]) (rest := []) ⟨hx, hb, hml, hown, hts⟩ (k_X7_copy_5_22 l D cI ad hinj S hR ) (cwS 2 hts (gS hsub q_840 q_841 q_8 q_842) rfl rfl rfl hdX7_copy ⟨Nat.le_of_ble_eq_true rfl, Nat.le_of_ble_eq_true rfl⟩) (mEb D cI) (mEk D cI (mA ad)) hE hP hS rfl hl.1 rfl (Nat.le_of_ble_eq_true rfl) dX7_image_18 ⟨Nat.le_of_ble_eq_true rfl, Nat.le_of_ble_eq_true rfl⟩ (fun S_6 H locs hq_7 hP hR hS _ => ?_)
    obtain ⟨f_8, rfl, hcp_9⟩ := hq_7
    refine lv_aload_n hx hb dX7_image_21 rfl (lv_at hl 0 rfl) ?_
    refine va_get (D := D) (ci := 7) (v := .ref (ad 6)) (C := RX7) (T := TX7) (N := 26) hx hb hT inX7 hown hK hP 0 rfl rfl 6 (by decide) (hT _ q_678) (fun _ h9 => h9) rfl dX7_image_22 ?_
    refine lv_aload_n hx hb dX7_image_25 rfl (lv_at hl 0 rfl) ?_
    refine va_get (D := D) (ci := 7) (v := .ref (ad 23)) (C := RX7) (T := TX7) (N := 26) hx hb hT inX7 hown hK hP 0 rfl rfl 23 (by decide) (hT _ q_695) (fun _ h9 => h9) rfl dX7_image_26 ?_
    refine g_callSv (As := [.ref (ad 6), .ref (ad 23)]) (rest := []) ⟨hx, hb, hml, hown, hts⟩ (k_X7_copy_6_23 l D cI ad hinj (sA S 22 f_8) hR ) (cwS 2 hts (gS hsub q_840 q_841 q_8 q_842) rfl rfl rfl hdX7_copy ⟨Nat.le_of_ble_eq_true rfl, Nat.le_of_ble_eq_true rfl⟩) (mEb D cI) (mEk D cI (mA ad)) hE hP hS rfl hl.1 rfl (Nat.le_of_ble_eq_true rfl) dX7_image_29 ⟨Nat.le_of_ble_eq_true rfl, Nat.le_of_ble_eq_true rfl⟩ (fun S_11 H locs hq_12 hP hR hS _ => ?_)
    obtain ⟨f_13, rfl, hcp_14⟩ := hq_12
    refine lv_aload_n hx hb dX7_image_32 rfl (lv_at hl 0 rfl) ?_
    refine va_get (D := D) (ci := 7) (v := .ref (ad 16)) (C := RX7) (T := TX7) (N := 26) hx hb hT inX7 hown hK hP 0 rfl rfl 16 (by decide) (hT _ q_688) (fun _ h9 => h9) rfl dX7_image_33 ?_
    refine lv_aload_n hx hb dX7_image_36 rfl (lv_at hl 0 rfl) ?_
    refine va_get (D := D) (ci := 7) (v := .ref (ad 24)) (C := RX7) (T := TX7) (N := 26) hx hb hT inX7 hown hK hP 0 rfl rfl 24 (by decide) (hT _ q_696) (fun _ h9 => h9) rfl dX7_image_37 ?_
    refine g_callSv (As := [.ref (ad 16), .ref (ad 24)]) (rest := []) ⟨hx, hb, hml, hown, hts⟩ (k_X7_copy_16_24 l D cI ad hinj (sA (sA S 22 f_8) 23 f_13) hR ) (cwS 2 hts (gS hsub q_840 q_841 q_8 q_842) rfl rfl rfl hdX7_copy ⟨Nat.le_of_ble_eq_true rfl, Nat.le_of_ble_eq_true rfl⟩) (mEb D cI) (mEk D cI (mA ad)) hE hP hS rfl hl.1 rfl (Nat.le_of_ble_eq_true rfl) dX7_image_40 ⟨Nat.le_of_ble_eq_true rfl, Nat.le_of_ble_eq_true rfl⟩ (fun S_16 H locs hq_17 hP hR hS _ => ?_)
    obtain ⟨f_18, rfl, hcp_19⟩ := hq_17
    refine lv_aload_n hx hb dX7_image_43 rfl (lv_at hl 0 rfl) ?_
    refine lv_aload_n hx hb dX7_image_44 rfl (lv_at hl 0 rfl) ?_
    have g_20 : -2147483648 ≤ S 3 0 ∧ S 3 0 < 2147483648 := hR 3 0 (by decide)
    refine va_get (D := D) (ci := 7) (v := .int (zI (S 3 0))) (C := RX7) (T := TX7) (N := 26) hx hb hT inX7 hown hK hP 0 rfl rfl 3 (by decide) (hT _ q_675) (fun _ h9 => h9) rfl dX7_image_45 ?_
    refine va_put (D := D) (ci := 7) (v := .int (zI (S 3 0))) (ty := .int) (C := RX7) (T := TX7) (N := 26) hx hb hT inX7 tyX7 tyX7_ok nmX7 hown hK hP (mD hinj cI _) hS 0 rfl rfl 20 (by decide) (hT _ q_692) (fun _ h9 => h9) rfl (by decide +kernel) rfl rfl (Nat.le_of_ble_eq_true rfl) dX7_image_48 (fun H locs hP _ hS => ?_)
    have hP : va_P D vwCl (mW cI ad (sA (sA (sA (sA S 22 f_8) 23 f_13) 24 f_18) 20 (fun _ => S 3 0))) H := hP
    have hR : RS (sA (sA (sA (sA S 22 f_8) 23 f_13) 24 f_18) 20 (fun _ => S 3 0)) := hR.one (by omega) (by omega)
    refine lv_aload_n hx hb dX7_image_51 rfl (lv_at hl 0 rfl) ?_
    refine lv_aload_n hx hb dX7_image_52 rfl (lv_at hl 0 rfl) ?_
    have g_21 : -2147483648 ≤ S 15 0 ∧ S 15 0 < 2147483648 := hR 15 0 (by decide)
    refine va_get (D := D) (ci := 7) (v := .int (zI (S 15 0))) (C := RX7) (T := TX7) (N := 26) hx hb hT inX7 hown hK hP 0 rfl rfl 15 (by decide) (hT _ q_687) (fun _ h9 => h9) rfl dX7_image_53 ?_
    refine va_put (D := D) (ci := 7) (v := .int (zI (S 15 0))) (ty := .int) (C := RX7) (T := TX7) (N := 26) hx hb hT inX7 tyX7 tyX7_ok nmX7 hown hK hP (mD hinj cI _) hS 0 rfl rfl 21 (by decide) (hT _ q_693) (fun _ h9 => h9) rfl (by decide +kernel) rfl rfl (Nat.le_of_ble_eq_true rfl) dX7_image_56 (fun H locs hP _ hS => ?_)
    have hP : va_P D vwCl (mW cI ad (sA (sA (sA (sA (sA S 22 f_8) 23 f_13) 24 f_18) 20 (fun _ => S 3 0)) 21 (fun _ => S 15 0))) H := hP
    have hR : RS (sA (sA (sA (sA (sA S 22 f_8) 23 f_13) 24 f_18) 20 (fun _ => S 3 0)) 21 (fun _ => S 15 0)) := hR.one (by omega) (by omega)
    refine lv_aload_n hx hb dX7_image_59 rfl (lv_at hl 0 rfl) ?_
    refine lv_aload_n hx hb dX7_image_60 rfl (lv_at hl 0 rfl) ?_
    have g_22 : -2147483648 ≤ S 4 0 ∧ S 4 0 < 2147483648 := hR 4 0 (by decide)
    refine va_get (D := D) (ci := 7) (v := .int (zI (S 4 0))) (C := RX7) (T := TX7) (N := 26) hx hb hT inX7 hown hK hP 0 rfl rfl 4 (by decide) (hT _ q_676) (fun _ h9 => h9) rfl dX7_image_61 ?_
    refine va_put (D := D) (ci := 7) (v := .int (zI (S 4 0))) (ty := .int) (C := RX7) (T := TX7) (N := 26) hx hb hT inX7 tyX7 tyX7_ok nmX7 hown hK hP (mD hinj cI _) hS 0 rfl rfl 19 (by decide) (hT _ q_691) (fun _ h9 => h9) rfl (by decide +kernel) rfl rfl (Nat.le_of_ble_eq_true rfl) dX7_image_64 (fun H locs hP _ hS => ?_)
    have hP : va_P D vwCl (mW cI ad (sA (sA (sA (sA (sA (sA S 22 f_8) 23 f_13) 24 f_18) 20 (fun _ => S 3 0)) 21 (fun _ => S 15 0)) 19 (fun _ => S 4 0))) H := hP
    have hR : RS (sA (sA (sA (sA (sA (sA S 22 f_8) 23 f_13) 24 f_18) 20 (fun _ => S 3 0)) 21 (fun _ => S 15 0)) 19 (fun _ => S 4 0)) := hR.one (by omega) (by omega)
    refine lv_aload_n hx hb dX7_image_67 rfl (lv_at hl 0 rfl) ?_
    refine va_get (D := D) (ci := 7) (v := .int (zI (S 3 0))) (C := RX7) (T := TX7) (N := 26) hx hb hT inX7 hown hK hP 0 rfl rfl 3 (by decide) (hT _ q_675) (fun _ h9 => h9) rfl dX7_image_68 ?_
    exact g_iret (S1 := sA (sA (sA (sA (sA (sA S 22 f_8) 23 f_13) 24 f_18) 20 (fun _ => S 3 0)) 21 (fun _ => S 15 0)) 19 (fun _ => S 4 0)) (v := zI (S 3 0)) hx hb hr hlocks hP hR hS (⟨_, _, _, _, _, _, rfl, Or.inr ⟨by omega, rfl, hcp_9, hcp_14, hcp_19, rfl, rfl, rfl⟩⟩) dX7_image_71
  · have h9 : True := trivial
    have c_4 : S 2 0 = 0 := of_decide_eq_true c_4
    refine z_bipush hx hb dX7_image_7 (by decide) ?_
    have hSe_23 : S = sA (sA (sA (sA (sA (sA S 22 (S 22)) 23 (S 23)) 24 (S 24)) 20 (S 20)) 21 (S 21)) 19 (S 19) := by
      funext k8
      by_cases e80 : k8 = 22
      · subst e80; first | rfl | (funext j8; rfl)
      by_cases e81 : k8 = 23
      · subst e81; first | rfl | (funext j8; rfl)
      by_cases e82 : k8 = 24
      · subst e82; first | rfl | (funext j8; rfl)
      by_cases e83 : k8 = 20
      · subst e83; first | rfl | (funext j8; rfl)
      by_cases e84 : k8 = 21
      · subst e84; first | rfl | (funext j8; rfl)
      by_cases e85 : k8 = 19
      · subst e85; first | rfl | (funext j8; rfl)
      simp [sA, e80, e81, e82, e83, e84, e85]
    rw [hSe_23] at hP hR
    exact g_iret (S1 := sA (sA (sA (sA (sA (sA S 22 (S 22)) 23 (S 23)) 24 (S 24)) 20 (S 20)) 21 (S 21)) 19 (S 19)) (v := zI (-103)) hx hb hr hlocks hP hR hS (⟨_, _, _, _, _, _, rfl, Or.inl ⟨by omega, rfl, by rw [sA_self, sA_self, sA_self, sA_self, sA_self, sA_self]⟩⟩) dX7_image_9
set_option maxHeartbeats 4000000 in
set_option maxRecDepth 100000 in
theorem k_X7_restore (l : Launch) (D : va_G) (cI : ClassId) (ad : Nat → Nat) (hinj : mInj ad) (S : St) (hR : RS S) (n : Nat) (hn : S 2 0 = ↑n) (hn7 : n ≤ 7) (N k0 : Nat) (hst : n ≠ 0 → STp n N k0 S) (h80 : 0 ≤ S 8 0) (hp : prm n (S 6)) : Met l yX7_restore (Cond.code yX7_restore cX7_restore 1 (some .int) :: lwT) ({ frames := 1, cells := 0, slots := 0, locals := 22 }) (gPc D (mW cI ad) (mE D cI) S [.ref (ad 26)]) (va_Qi (fun (r : Int32) (S' : St) => ∃ e5 e6 e16 e3 e15, S' = sA (sA (sA (sA (sA S 5 e5) 6 e6) 16 e16) 3 e3) 15 e15 ∧ ((S 19 0 ≠ S 4 0 ∧ r = zI (-103) ∧ S' = S) ∨ (S 19 0 = S 4 0 ∧ r = zI (S 20 0) ∧ (∀ j, j < 7 → e5 j = S 22 j) ∧ (∀ j, j < 7 → e6 j = S 23 j) ∧ (∀ j, j < 18 → e16 j = S 24 j) ∧ e3 0 = S 20 0 ∧ e15 0 = S 21 0))) (gB D (mW cI ad)) (mA ad)) 0 0 (mA ad) := by
  refine Met.ofW (cc := cX7_restore) (maxL := 1) (ret := (some .int)) (by decide) rfl ?_
  intro p e s m args below meth c s₁ B hml hv
  obtain ⟨rfl, hP, hE⟩ := hv
  have hx := B.exec
  have hb := B.bytes
  have hr := B.returns
  have hts := atoms_spec (ws := Cond.code yX7_restore cX7_restore 1 (some .int) :: lwT) B.pre
  have hT := fun w (h : w ∈ lwT) => hts w (List.mem_cons_of_mem _ h)
  have hsub : ∀ w ∈ lwT, w ∈ (Cond.code yX7_restore cX7_restore 1 (some .int) :: lwT) := fun w h => List.mem_cons_of_mem _ h
  have hown : s.vm.findClass RX7 = some m.cls := findClass_of_methodNamed B.named
  have hlocks := B.notSynchronized
  have hK : va_K D vwCl [(cI, .int)] s := hE
  have hS : va_S (mA ad) s.heap s.heap [] := va_S.rf
  have hl := lv_entry ([.ref (ad 26)]) (n := 1) (Nat.le_of_ble_eq_true rfl)
  rw [lg_entry_eq]
  generalize (lg_sl ([.ref (ad 26)]) ++ List.replicate (1 - (lg_sl ([.ref (ad 26)])).length) Slot.unset).toArray = ls at hl ⊢
  have hl : lv_has ls 1 [(0, .ref (ad 26))] := hl
  refine lv_aload_n hx hb dX7_restore_0 rfl (lv_at hl 0 rfl) ?_
  have g_1 : -2147483648 ≤ S 19 0 ∧ S 19 0 < 2147483648 := hR 19 0 (by decide)
  refine va_get (D := D) (ci := 7) (v := .int (zI (S 19 0))) (C := RX7) (T := TX7) (N := 26) hx hb hT inX7 hown hK hP 0 rfl rfl 19 (by decide) (hT _ q_691) (fun _ h9 => h9) rfl dX7_restore_1 ?_
  refine lv_aload_n hx hb dX7_restore_4 rfl (lv_at hl 0 rfl) ?_
  have g_2 : -2147483648 ≤ S 4 0 ∧ S 4 0 < 2147483648 := hR 4 0 (by decide)
  refine va_get (D := D) (ci := 7) (v := .int (zI (S 4 0))) (C := RX7) (T := TX7) (N := 26) hx hb hT inX7 hown hK hP 0 rfl rfl 4 (by decide) (hT _ q_676) (fun _ h9 => h9) rfl dX7_restore_5 ?_
  refine z_icmp_eq (tgt := 14) hx hb (by omega) (by omega) (by omega) (by omega) dX7_restore_8 (by decide) (fun c_3 => ?_) (fun c_3 => ?_)
  · have h9 : True := trivial
    refine lv_aload_n hx hb dX7_restore_14 rfl (lv_at hl 0 rfl) ?_
    refine va_get (D := D) (ci := 7) (v := .ref (ad 22)) (C := RX7) (T := TX7) (N := 26) hx hb hT inX7 hown hK hP 0 rfl rfl 22 (by decide) (hT _ q_694) (fun _ h9 => h9) rfl dX7_restore_15 ?_
    refine lv_aload_n hx hb dX7_restore_18 rfl (lv_at hl 0 rfl) ?_
    refine va_get (D := D) (ci := 7) (v := .ref (ad 5)) (C := RX7) (T := TX7) (N := 26) hx hb hT inX7 hown hK hP 0 rfl rfl 5 (by decide) (hT _ q_677) (fun _ h9 => h9) rfl dX7_restore_19 ?_
    refine g_callSv (As := [.ref (ad 22), .ref (ad 5)]) (rest := []) ⟨hx, hb, hml, hown, hts⟩ (k_X7_copy_22_5 l D cI ad hinj S hR ) (cwS 2 hts (gS hsub q_840 q_841 q_8 q_842) rfl rfl rfl hdX7_copy ⟨Nat.le_of_ble_eq_true rfl, Nat.le_of_ble_eq_true rfl⟩) (mEb D cI) (mEk D cI (mA ad)) hE hP hS rfl hl.1 rfl (Nat.le_of_ble_eq_true rfl) dX7_restore_22 ⟨Nat.le_of_ble_eq_true rfl, Nat.le_of_ble_eq_true rfl⟩ (fun S_5 H locs hq_6 hP hR hS _ => ?_)
    obtain ⟨f_7, rfl, hcp_8⟩ := hq_6
    refine lv_aload_n hx hb dX7_restore_25 rfl (lv_at hl 0 rfl) ?_
    refine va_get (D := D) (ci := 7) (v := .ref (ad 23)) (C := RX7) (T := TX7) (N := 26) hx hb hT inX7 hown hK hP 0 rfl rfl 23 (by decide) (hT _ q_695) (fun _ h9 => h9) rfl dX7_restore_26 ?_
    refine lv_aload_n hx hb dX7_restore_29 rfl (lv_at hl 0 rfl) ?_
    refine va_get (D := D) (ci := 7) (v := .ref (ad 6)) (C := RX7) (T := TX7) (N := 26) hx hb hT inX7 hown hK hP 0 rfl rfl 6 (by decide) (hT _ q_678) (fun _ h9 => h9) rfl dX7_restore_30 ?_
    refine g_callSv (As := [.ref (ad 23), .ref (ad 6)]) (rest := []) ⟨hx, hb, hml, hown, hts⟩ (k_X7_copy_23_6 l D cI ad hinj (sA S 5 f_7) hR ) (cwS 2 hts (gS hsub q_840 q_841 q_8 q_842) rfl rfl rfl hdX7_copy ⟨Nat.le_of_ble_eq_true rfl, Nat.le_of_ble_eq_true rfl⟩) (mEb D cI) (mEk D cI (mA ad)) hE hP hS rfl hl.1 rfl (Nat.le_of_ble_eq_true rfl) dX7_restore_33 ⟨Nat.le_of_ble_eq_true rfl, Nat.le_of_ble_eq_true rfl⟩ (fun S_10 H locs hq_11 hP hR hS _ => ?_)
    obtain ⟨f_12, rfl, hcp_13⟩ := hq_11
    refine lv_aload_n hx hb dX7_restore_36 rfl (lv_at hl 0 rfl) ?_
    refine va_get (D := D) (ci := 7) (v := .ref (ad 24)) (C := RX7) (T := TX7) (N := 26) hx hb hT inX7 hown hK hP 0 rfl rfl 24 (by decide) (hT _ q_696) (fun _ h9 => h9) rfl dX7_restore_37 ?_
    refine lv_aload_n hx hb dX7_restore_40 rfl (lv_at hl 0 rfl) ?_
    refine va_get (D := D) (ci := 7) (v := .ref (ad 16)) (C := RX7) (T := TX7) (N := 26) hx hb hT inX7 hown hK hP 0 rfl rfl 16 (by decide) (hT _ q_688) (fun _ h9 => h9) rfl dX7_restore_41 ?_
    refine g_callSv (As := [.ref (ad 24), .ref (ad 16)]) (rest := []) ⟨hx, hb, hml, hown, hts⟩ (k_X7_copy_24_16 l D cI ad hinj (sA (sA S 5 f_7) 6 f_12) hR ) (cwS 2 hts (gS hsub q_840 q_841 q_8 q_842) rfl rfl rfl hdX7_copy ⟨Nat.le_of_ble_eq_true rfl, Nat.le_of_ble_eq_true rfl⟩) (mEb D cI) (mEk D cI (mA ad)) hE hP hS rfl hl.1 rfl (Nat.le_of_ble_eq_true rfl) dX7_restore_44 ⟨Nat.le_of_ble_eq_true rfl, Nat.le_of_ble_eq_true rfl⟩ (fun S_15 H locs hq_16 hP hR hS _ => ?_)
    obtain ⟨f_17, rfl, hcp_18⟩ := hq_16
    refine lv_aload_n hx hb dX7_restore_47 rfl (lv_at hl 0 rfl) ?_
    refine lv_aload_n hx hb dX7_restore_48 rfl (lv_at hl 0 rfl) ?_
    have g_19 : -2147483648 ≤ S 20 0 ∧ S 20 0 < 2147483648 := hR 20 0 (by decide)
    refine va_get (D := D) (ci := 7) (v := .int (zI (S 20 0))) (C := RX7) (T := TX7) (N := 26) hx hb hT inX7 hown hK hP 0 rfl rfl 20 (by decide) (hT _ q_692) (fun _ h9 => h9) rfl dX7_restore_49 ?_
    refine va_put (D := D) (ci := 7) (v := .int (zI (S 20 0))) (ty := .int) (C := RX7) (T := TX7) (N := 26) hx hb hT inX7 tyX7 tyX7_ok nmX7 hown hK hP (mD hinj cI _) hS 0 rfl rfl 3 (by decide) (hT _ q_675) (fun _ h9 => h9) rfl (by decide +kernel) rfl rfl (Nat.le_of_ble_eq_true rfl) dX7_restore_52 (fun H locs hP _ hS => ?_)
    have hP : va_P D vwCl (mW cI ad (sA (sA (sA (sA S 5 f_7) 6 f_12) 16 f_17) 3 (fun _ => S 20 0))) H := hP
    have hR : RS (sA (sA (sA (sA S 5 f_7) 6 f_12) 16 f_17) 3 (fun _ => S 20 0)) := hR.one (by omega) (by omega)
    refine lv_aload_n hx hb dX7_restore_55 rfl (lv_at hl 0 rfl) ?_
    refine lv_aload_n hx hb dX7_restore_56 rfl (lv_at hl 0 rfl) ?_
    have g_20 : -2147483648 ≤ S 21 0 ∧ S 21 0 < 2147483648 := hR 21 0 (by decide)
    refine va_get (D := D) (ci := 7) (v := .int (zI (S 21 0))) (C := RX7) (T := TX7) (N := 26) hx hb hT inX7 hown hK hP 0 rfl rfl 21 (by decide) (hT _ q_693) (fun _ h9 => h9) rfl dX7_restore_57 ?_
    refine va_put (D := D) (ci := 7) (v := .int (zI (S 21 0))) (ty := .int) (C := RX7) (T := TX7) (N := 26) hx hb hT inX7 tyX7 tyX7_ok nmX7 hown hK hP (mD hinj cI _) hS 0 rfl rfl 15 (by decide) (hT _ q_687) (fun _ h9 => h9) rfl (by decide +kernel) rfl rfl (Nat.le_of_ble_eq_true rfl) dX7_restore_60 (fun H locs hP _ hS => ?_)
    have hP : va_P D vwCl (mW cI ad (sA (sA (sA (sA (sA S 5 f_7) 6 f_12) 16 f_17) 3 (fun _ => S 20 0)) 15 (fun _ => S 21 0))) H := hP
    have hR : RS (sA (sA (sA (sA (sA S 5 f_7) 6 f_12) 16 f_17) 3 (fun _ => S 20 0)) 15 (fun _ => S 21 0)) := hR.one (by omega) (by omega)
    refine lv_aload_n hx hb dX7_restore_63 rfl (lv_at hl 0 rfl) ?_
    refine va_get (D := D) (ci := 7) (v := .int (zI (S 20 0))) (C := RX7) (T := TX7) (N := 26) hx hb hT inX7 hown hK hP 0 rfl rfl 3 (by decide) (hT _ q_675) (fun _ h9 => h9) rfl dX7_restore_64 ?_
    exact g_iret (S1 := sA (sA (sA (sA (sA S 5 f_7) 6 f_12) 16 f_17) 3 (fun _ => S 20 0)) 15 (fun _ => S 21 0)) (v := zI (S 20 0)) hx hb hr hlocks hP hR hS (⟨_, _, _, _, _, rfl, Or.inr ⟨by omega, rfl, hcp_8, hcp_13, hcp_18, rfl, rfl⟩⟩) dX7_restore_67
  · have h9 : True := trivial
    refine z_bipush hx hb dX7_restore_11 (by decide) ?_
    have hSe_21 : S = sA (sA (sA (sA (sA S 5 (S 5)) 6 (S 6)) 16 (S 16)) 3 (S 3)) 15 (S 15) := by
      funext k8
      by_cases e80 : k8 = 5
      · subst e80; first | rfl | (funext j8; rfl)
      by_cases e81 : k8 = 6
      · subst e81; first | rfl | (funext j8; rfl)
      by_cases e82 : k8 = 16
      · subst e82; first | rfl | (funext j8; rfl)
      by_cases e83 : k8 = 3
      · subst e83; first | rfl | (funext j8; rfl)
      by_cases e84 : k8 = 15
      · subst e84; first | rfl | (funext j8; rfl)
      simp [sA, e80, e81, e82, e83, e84]
    rw [hSe_21] at hP hR
    exact g_iret (S1 := sA (sA (sA (sA (sA S 5 (S 5)) 6 (S 6)) 16 (S 16)) 3 (S 3)) 15 (S 15)) (v := zI (-103)) hx hb hr hlocks hP hR hS (⟨_, _, _, _, _, rfl, Or.inl ⟨by omega, rfl, by rw [sA_self, sA_self, sA_self, sA_self, sA_self]⟩⟩) dX7_restore_13
set_option maxHeartbeats 4000000 in
set_option maxRecDepth 100000 in
theorem k_X7_draw (l : Launch) (D : va_G) (cI : ClassId) (ad : Nat → Nat) (hinj : mInj ad) (S : St) (hR : RS S) (n : Nat) (hn0 : 0 < n) (hn7 : n ≤ 7) (s0 x : Int) (hs0 : S 17 0 = s0) (hs : 0 ≤ s0) (hxn : x = ↑n) : Met l yX7_draw (Cond.code yX7_draw cX7_draw 2 (some .int) :: lwT) ({ frames := 0, cells := 0, slots := 0, locals := 0 }) (gPc D (mW cI ad) (mE D cI) S [.ref (ad 26), .int (zI (x))]) (va_Qi (fun (r : Int32) (S' : St) => S' = sA S 17 (fun _ => sdF s0) ∧ r = zI (sdF s0 / 65536 % ↑n)) (gB D (mW cI ad)) (mA ad)) 0 0 (mA ad) := by
  refine Met.ofW (cc := cX7_draw) (maxL := 2) (ret := (some .int)) (by decide) rfl ?_
  intro p e s m args below meth c s₁ B hml hv
  obtain ⟨rfl, hP, hE⟩ := hv
  have hx := B.exec
  have hb := B.bytes
  have hr := B.returns
  have hts := atoms_spec (ws := Cond.code yX7_draw cX7_draw 2 (some .int) :: lwT) B.pre
  have hT := fun w (h : w ∈ lwT) => hts w (List.mem_cons_of_mem _ h)
  have hsub : ∀ w ∈ lwT, w ∈ (Cond.code yX7_draw cX7_draw 2 (some .int) :: lwT) := fun w h => List.mem_cons_of_mem _ h
  have hown : s.vm.findClass RX7 = some m.cls := findClass_of_methodNamed B.named
  have hlocks := B.notSynchronized
  have hK : va_K D vwCl [(cI, .int)] s := hE
  have hS : va_S (mA ad) s.heap s.heap [] := va_S.rf
  have hsr := hR 17 0 (by decide)
  have hsd := sdF_r s0
  have hl := lv_entry ([.ref (ad 26), .int (zI (x))]) (n := 2) (Nat.le_of_ble_eq_true rfl)
  rw [lg_entry_eq]
  generalize (lg_sl ([.ref (ad 26), .int (zI (x))]) ++ List.replicate (2 - (lg_sl ([.ref (ad 26), .int (zI (x))])).length) Slot.unset).toArray = ls at hl ⊢
  have hl : lv_has ls 2 [(0, .ref (ad 26)), (1, .int (zI (x)))] := hl
  refine lv_aload_n hx hb dX7_draw_0 rfl (lv_at hl 0 rfl) ?_
  refine lv_ldc2 (v := zL 1103515245) hx hb hown (hT _ q_1031) dX7_draw_1 ?_
  refine lv_aload_n hx hb dX7_draw_4 rfl (lv_at hl 0 rfl) ?_
  have g_1 : -2147483648 ≤ S 17 0 ∧ S 17 0 < 2147483648 := hR 17 0 (by decide)
  refine va_get (D := D) (ci := 7) (v := .int (zI (S 17 0))) (C := RX7) (T := TX7) (N := 26) hx hb hT inX7 hown hK hP 0 rfl rfl 17 (by decide) (hT _ q_689) (fun _ h9 => h9) rfl dX7_draw_5 ?_
  refine z_top (b := s0) (hs0) ?_
  refine z_i2l hx hb (by omega) (by omega) dX7_draw_8 ?_
  refine z_lmul hx hb dX7_draw_9 ?_
  refine lv_ldc2 (v := zL 12345) hx hb hown (hT _ q_1032) dX7_draw_10 ?_
  refine z_ladd hx hb dX7_draw_13 ?_
  refine lv_ldc2 (v := zL 2147483647) hx hb hown (hT _ q_1033) dX7_draw_14 ?_
  refine z_land31 hx hb (by omega) (by omega) dX7_draw_17 ?_
  refine z_l2i hx hb dX7_draw_18 ?_
  refine z_top (b := sdF s0) (rfl) ?_
  refine va_put (D := D) (ci := 7) (v := .int (zI (sdF s0))) (ty := .int) (C := RX7) (T := TX7) (N := 26) hx hb hT inX7 tyX7 tyX7_ok nmX7 hown hK hP (mD hinj cI _) hS 0 rfl rfl 17 (by decide) (hT _ q_689) (fun _ h9 => h9) rfl (by decide +kernel) rfl rfl (Nat.le_of_ble_eq_true rfl) dX7_draw_19 (fun H locs hP _ hS => ?_)
  have hP : va_P D vwCl (mW cI ad (sA S 17 (fun _ => sdF s0))) H := hP
  have hR : RS (sA S 17 (fun _ => sdF s0)) := hR.one (by omega) (by omega)
  refine lv_aload_n hx hb dX7_draw_22 rfl (lv_at hl 0 rfl) ?_
  refine va_get (D := D) (ci := 7) (v := .int (zI (sdF s0))) (C := RX7) (T := TX7) (N := 26) hx hb hT inX7 hown hK hP 0 rfl rfl 17 (by decide) (hT _ q_689) (fun _ h9 => h9) rfl dX7_draw_23 ?_
  refine lv_ldc (v := zI 65536) hx hb hown (hT _ q_1034) dX7_draw_26 ?_
  refine z_idiv hx hb (by omega) (by omega) (by omega) (by omega) dX7_draw_28 ?_
  refine z_top (b := sdF s0 / 65536) (rfl) ?_
  refine lv_iload_n hx hb dX7_draw_29 rfl (lv_at hl 1 rfl) ?_
  refine z_irem hx hb (by omega) (by omega) (by omega) (by omega) dX7_draw_30 ?_
  exact g_iret (S1 := sA S 17 (fun _ => sdF s0)) (v := zI ((sdF s0 / 65536) % x)) hx hb hr hlocks hP hR hS (⟨rfl, by rw [hxn]⟩) dX7_draw_31
set_option maxHeartbeats 4000000 in
set_option maxRecDepth 100000 in
theorem k_X7_shuffles (l : Launch) (D : va_G) (cI : ClassId) (ad : Nat → Nat) (hinj : mInj ad) (S : St) (hR : RS S) (n : Nat) (hn : S 2 0 = ↑n) (hn7 : n ≤ 7) (N k0 : Nat) (hst : n ≠ 0 → STp n N k0 S) (h80 : 0 ≤ S 8 0) (hp : prm n (S 6)) (x sd w : Int) (hx1 : -2147483648 ≤ x) (hx2 : x < 2147483648) (hsd1 : -2147483648 ≤ sd) (hsd2 : sd < 2147483648) (hw1 : -2147483648 ≤ w) (hw2 : w < 2147483648) : Met l yX7_shuffles (Cond.code yX7_shuffles cX7_shuffles 8 (some .int) :: lwT) ({ frames := 3, cells := 0, slots := 0, locals := 70 }) (gPc D (mW cI ad) (mE D cI) S [.ref (ad 26), .int (zI (x)), .int (zI (sd)), .int (zI (w))]) (va_Qi (fun (r : Int32) (S' : St) => ∃ e9 e11 e17 e18, S' = sA (sA (sA (sA S 9 e9) 11 e11) 17 e17) 18 e18 ∧ ∃ v, shufR n N (S 7) (S 6) x sd w v ∧ r = zI v) (gB D (mW cI ad)) (mA ad)) 0 0 (mA ad) := by
  refine Met.ofW (cc := cX7_shuffles) (maxL := 8) (ret := (some .int)) (by decide) rfl ?_
  intro p e s m args below meth c s₁ B hml hv
  obtain ⟨rfl, hP, hE⟩ := hv
  have hx := B.exec
  have hb := B.bytes
  have hr := B.returns
  have hts := atoms_spec (ws := Cond.code yX7_shuffles cX7_shuffles 8 (some .int) :: lwT) B.pre
  have hT := fun w (h : w ∈ lwT) => hts w (List.mem_cons_of_mem _ h)
  have hsub : ∀ w ∈ lwT, w ∈ (Cond.code yX7_shuffles cX7_shuffles 8 (some .int) :: lwT) := fun w h => List.mem_cons_of_mem _ h
  have hown : s.vm.findClass RX7 = some m.cls := findClass_of_methodNamed B.named
  have hlocks := B.notSynchronized
  have hK : va_K D vwCl [(cI, .int)] s := hE
  have hS : va_S (mA ad) s.heap s.heap [] := va_S.rf
  have hl := lv_entry ([.ref (ad 26), .int (zI (x)), .int (zI (sd)), .int (zI (w))]) (n := 8) (Nat.le_of_ble_eq_true rfl)
  rw [lg_entry_eq]
  generalize (lg_sl ([.ref (ad 26), .int (zI (x)), .int (zI (sd)), .int (zI (w))]) ++ List.replicate (8 - (lg_sl ([.ref (ad 26), .int (zI (x)), .int (zI (sd)), .int (zI (w))])).length) Slot.unset).toArray = ls at hl ⊢
  have hl : lv_has ls 8 [(0, .ref (ad 26)), (1, .int (zI (x))), (2, .int (zI (sd))), (3, .int (zI (w)))] := hl
  refine lv_iload_n hx hb dX7_shuffles_0 rfl (lv_at hl 1 rfl) ?_
  refine z_i2l hx hb (by omega) (by omega) dX7_shuffles_1 ?_
  refine lv_lconst (v := zL 1) hx hb dX7_shuffles_2 (by decide) ?_
  refine lv_ldc2 (v := zL 99) hx hb hown (hT _ q_1025) dX7_shuffles_3 ?_
  refine s_callSi (As := [.long (zL (x)), .long (zL (1)), .long (zL (99))]) (rest := []) ⟨hx, hb, hml, hown, hts⟩ (k_X7_in l x 1 99 (by omega) (by omega) (by omega) (by omega) (by omega) (by omega)) (cwS 3 hts (gS hsub q_756 q_757 q_8 q_758) rfl rfl rfl hdX7_in ⟨Nat.le_of_ble_eq_true rfl, Nat.le_of_ble_eq_true rfl⟩) rfl hl.1 rfl (Nat.le_of_ble_eq_true rfl) dX7_shuffles_6 ⟨Nat.le_of_ble_eq_true rfl, Nat.le_of_ble_eq_true rfl⟩ (fun r_1 hq_3 => ?_)
  rw [hq_3]
  refine z_ifeqB (tgt := 28) hx hb dX7_shuffles_9 (by decide) (fun c_4 => ?_) (fun c_4 => ?_)
  · have h9 : True := trivial
    have c_4 : ¬ (1 ≤ x ∧ x ≤ 99) := of_decide_eq_false c_4
    refine z_bipush hx hb dX7_shuffles_28 (by decide) ?_
    have hSe_5 : S = sA (sA (sA (sA S 9 (S 9)) 11 (S 11)) 17 (S 17)) 18 (S 18) := by
      funext k8
      by_cases e80 : k8 = 9
      · subst e80; first | rfl | (funext j8; rfl)
      by_cases e81 : k8 = 11
      · subst e81; first | rfl | (funext j8; rfl)
      by_cases e82 : k8 = 17
      · subst e82; first | rfl | (funext j8; rfl)
      by_cases e83 : k8 = 18
      · subst e83; first | rfl | (funext j8; rfl)
      simp [sA, e80, e81, e82, e83]
    rw [hSe_5] at hP hR
    exact g_iret (S1 := sA (sA (sA (sA S 9 (S 9)) 11 (S 11)) 17 (S 17)) 18 (S 18)) (v := zI (-102)) hx hb hr hlocks hP hR hS (⟨_, _, _, _, rfl, _, Or.inl ⟨by omega, rfl⟩, rfl⟩) dX7_shuffles_30
  · have h9 : True := trivial
    have c_4 : 1 ≤ x ∧ x ≤ 99 := of_decide_eq_true c_4
    refine lv_iload_n hx hb dX7_shuffles_12 rfl (lv_at hl 2 rfl) ?_
    refine z_if_lt (tgt := 28) hx hb (by omega) (by omega) dX7_shuffles_13 (by decide) (fun c_6 => ?_) (fun c_6 => ?_)
    · have h9 : True := trivial
      refine z_bipush hx hb dX7_shuffles_28 (by decide) ?_
      have hSe_7 : S = sA (sA (sA (sA S 9 (S 9)) 11 (S 11)) 17 (S 17)) 18 (S 18) := by
        funext k8
        by_cases e80 : k8 = 9
        · subst e80; first | rfl | (funext j8; rfl)
        by_cases e81 : k8 = 11
        · subst e81; first | rfl | (funext j8; rfl)
        by_cases e82 : k8 = 17
        · subst e82; first | rfl | (funext j8; rfl)
        by_cases e83 : k8 = 18
        · subst e83; first | rfl | (funext j8; rfl)
        simp [sA, e80, e81, e82, e83]
      rw [hSe_7] at hP hR
      exact g_iret (S1 := sA (sA (sA (sA S 9 (S 9)) 11 (S 11)) 17 (S 17)) 18 (S 18)) (v := zI (-102)) hx hb hr hlocks hP hR hS (⟨_, _, _, _, rfl, _, Or.inl ⟨by omega, rfl⟩, rfl⟩) dX7_shuffles_30
    · have h9 : True := trivial
      refine lv_iload_n hx hb dX7_shuffles_16 rfl (lv_at hl 3 rfl) ?_
      refine z_i2l hx hb (by omega) (by omega) dX7_shuffles_17 ?_
      refine lv_lconst (v := zL 0) hx hb dX7_shuffles_18 (by decide) ?_
      refine lv_ldc2 (v := zL 2) hx hb hown (hT _ q_1026) dX7_shuffles_19 ?_
      refine s_callSi (As := [.long (zL (w)), .long (zL (0)), .long (zL (2))]) (rest := []) ⟨hx, hb, hml, hown, hts⟩ (k_X7_in l w 0 2 (by omega) (by omega) (by omega) (by omega) (by omega) (by omega)) (cwS 3 hts (gS hsub q_756 q_757 q_8 q_758) rfl rfl rfl hdX7_in ⟨Nat.le_of_ble_eq_true rfl, Nat.le_of_ble_eq_true rfl⟩) rfl hl.1 rfl (Nat.le_of_ble_eq_true rfl) dX7_shuffles_22 ⟨Nat.le_of_ble_eq_true rfl, Nat.le_of_ble_eq_true rfl⟩ (fun r_8 hq_10 => ?_)
      rw [hq_10]
      refine z_ifneB (tgt := 31) hx hb dX7_shuffles_25 (by decide) (fun c_11 => ?_) (fun c_11 => ?_)
      · have h9 : True := trivial
        have c_11 : 0 ≤ w ∧ w ≤ 2 := of_decide_eq_true c_11
        refine lv_aload_n hx hb dX7_shuffles_31 rfl (lv_at hl 0 rfl) ?_
        refine g_callVi (As := []) (rest := []) ⟨hx, hb, hml, hown, hts⟩ (k_X7_lacks l D cI ad hinj S hR ) (cwV 0 hts (gV hsub q_812 q_814 q_sX7_lacks q_8 q_815) rfl rfl rfl hdX7_lacks ⟨Nat.le_of_ble_eq_true rfl, Nat.le_of_ble_eq_true rfl⟩) (mEb D cI) (mEk D cI (mA ad)) hE (va_recv (ci := 7) (q0 := 0) hK hP rfl rfl) hP hS rfl hl.1 rfl (Nat.le_of_ble_eq_true rfl) dX7_shuffles_32 ⟨Nat.le_of_ble_eq_true rfl, Nat.le_of_ble_eq_true rfl⟩ (fun r_12 S_13 H locs hq_14 hP hR hS _ => ?_)
        obtain ⟨hs9, rfl⟩ := hq_14
        obtain rfl := hs9.symm
        refine z_top (b := b2 (decide (S 2 0 = 0))) rfl ?_
        refine z_ifeqB (tgt := 41) hx hb dX7_shuffles_35 (by decide) (fun c_15 => ?_) (fun c_15 => ?_)
        · have h9 : True := trivial
          have c_15 : ¬ (S 2 0 = 0) := of_decide_eq_false c_15
          obtain ⟨hN, hO, hk0, hk⟩ := hst (by omega)
          have hO1 := hO.1
          have hO2 := hO.2.1
          have hnz : n ≠ 0 := by omega
          have hn0 : 0 < n := by omega
          refine lv_aload_n hx hb dX7_shuffles_41 rfl (lv_at hl 0 rfl) ?_
          refine lv_iload_n hx hb dX7_shuffles_42 rfl (lv_at hl 2 rfl) ?_
          refine va_put (D := D) (ci := 7) (v := .int (zI (sd))) (ty := .int) (C := RX7) (T := TX7) (N := 26) hx hb hT inX7 tyX7 tyX7_ok nmX7 hown hK hP (mD hinj cI _) hS 0 rfl rfl 17 (by decide) (hT _ q_689) (fun _ h9 => h9) rfl (by decide +kernel) rfl rfl (Nat.le_of_ble_eq_true rfl) dX7_shuffles_43 (fun H locs hP _ hS => ?_)
          have hP : va_P D vwCl (mW cI ad (sA S 17 (fun _ => sd))) H := hP
          have hR : RS (sA S 17 (fun _ => sd)) := hR.one (by omega) (by omega)
          refine lv_aload_n hx hb dX7_shuffles_46 rfl (lv_at hl 0 rfl) ?_
          refine va_get (D := D) (ci := 7) (v := .ref (ad 6)) (C := RX7) (T := TX7) (N := 26) hx hb hT inX7 hown hK hP 0 rfl rfl 6 (by decide) (hT _ q_678) (fun _ h9 => h9) rfl dX7_shuffles_47 ?_
          refine lv_aload_n hx hb dX7_shuffles_50 rfl (lv_at hl 0 rfl) ?_
          refine va_get (D := D) (ci := 7) (v := .ref (ad 18)) (C := RX7) (T := TX7) (N := 26) hx hb hT inX7 hown hK hP 0 rfl rfl 18 (by decide) (hT _ q_690) (fun _ h9 => h9) rfl dX7_shuffles_51 ?_
          refine g_callSv (As := [.ref (ad 6), .ref (ad 18)]) (rest := []) ⟨hx, hb, hml, hown, hts⟩ (k_X7_copy_6_18 l D cI ad hinj (sA S 17 (fun _ => sd)) hR ) (cwS 2 hts (gS hsub q_840 q_841 q_8 q_842) rfl rfl rfl hdX7_copy ⟨Nat.le_of_ble_eq_true rfl, Nat.le_of_ble_eq_true rfl⟩) (mEb D cI) (mEk D cI (mA ad)) hE hP hS rfl hl.1 rfl (Nat.le_of_ble_eq_true rfl) dX7_shuffles_54 ⟨Nat.le_of_ble_eq_true rfl, Nat.le_of_ble_eq_true rfl⟩ (fun S_17 H locs hq_18 hP hR hS _ => ?_)
          obtain ⟨f_19, rfl, hcp_20⟩ := hq_18
          refine z_iconst hx hb dX7_shuffles_57 ?_
          refine lv_istore (lv' := [(4, .int (zI (0))), (0, .ref (ad 26)), (1, .int (zI (x))), (2, .int (zI (sd))), (3, .int (zI (w)))]) hx hb dX7_shuffles_58 hl (by decide) rfl (fun ls hl => ?_)
          refine z_iconst hx hb dX7_shuffles_60 ?_
          refine lv_istore (lv' := [(5, .int (zI (0))), (4, .int (zI (0))), (0, .ref (ad 26)), (1, .int (zI (x))), (2, .int (zI (sd))), (3, .int (zI (w)))]) hx hb dX7_shuffles_61 hl (by decide) rfl (fun ls hl => ?_)
          have cut_63 : ∀ (k9 : Nat) (i : Nat) (y : Int) (xs : Int) (g9 : Nat → Int) (g11 : Nat → Int) (g18 : Nat → Int) (H : Heap) (locs : List Loc) (ls : Array Slot), (↑i ≤ x) → (∀ j, j < n → g18 j = (shI n (S 6) sd i).1 j) → (xs = (shI n (S 6) sd i).2.1) → (y = (shI n (S 6) sd i).2.2) → ((x - ↑i).toNat) < k9 → va_P D vwCl (mW cI ad (sA (sA (sA (sA S 9 g9) 11 g11) 17 (fun _ => xs)) 18 g18)) H → RS (sA (sA (sA (sA S 9 g9) 11 g11) 17 (fun _ => xs)) 18 g18) → va_S (mA ad) s.heap H locs → lv_has ls 8 [(0, .ref (ad 26)), (1, .int (zI (x))), (2, .int (zI (sd))), (3, .int (zI (w))), (4, .int (zI (y))), (5, .int (zI (↑i)))] → W p l e (headSpec (Cond.code yX7_shuffles cX7_shuffles 8 (some .int) :: lwT) ({ frames := 3, cells := 0, slots := 0, locals := 70 })).room s m ([.ref (ad 26), .int (zI (x)), .int (zI (sd)), .int (zI (w))] : List Value).toArray below meth c H locs 0 0 (MQ below (va_Qi (fun (r : Int32) (S' : St) => ∃ e9 e11 e17 e18, S' = sA (sA (sA (sA S 9 e9) 11 e11) 17 e17) 18 e18 ∧ ∃ v, shufR n N (S 7) (S 6) x sd w v ∧ r = zI v) (gB D (mW cI ad)) (mA ad)) ([.ref (ad 26), .int (zI (x)), .int (zI (sd)), .int (zI (w))] : List Value).toArray s 0 0 (mA ad)) (F0 m 63 ls []) := by
            intro k9
            induction k9 with
            | zero =>
              intro i y xs g9 g11 g18 H locs ls hi hrow hsd9 hdn9 hk9 hP hR hS hl
              exact absurd hk9 (Nat.not_lt_zero _)
            | succ k9 ih_63 =>
              intro i y xs g9 g11 g18 H locs ls hi hrow hsd9 hdn9 hk9 hP hR hS hl
              have hxr : 0 ≤ xs ∧ xs < 2147483648 := by rw [hsd9]; exact shI_r n (S 6) (by omega) i
              have hpi := shI_prm hn0 hp sd i
              have hpf := prm_c hrow hpi
              refine lv_iload hx hb dX7_shuffles_63 (lv_at hl 5 rfl) ?_
              refine lv_iload_n hx hb dX7_shuffles_65 rfl (lv_at hl 1 rfl) ?_
              refine z_icmp_ge (tgt := 125) hx hb (by omega) (by omega) (by omega) (by omega) dX7_shuffles_66 (by decide) (fun c_21 => ?_) (fun c_21 => ?_)
              · have h9 : True := trivial
                have hix : i = x.toNat := by omega
                rw [hix] at hrow hsd9 hdn9
                refine lv_iload_n hx hb dX7_shuffles_125 rfl (lv_at hl 3 rfl) ?_
                refine z_if_ne (tgt := 134) hx hb (by omega) (by omega) dX7_shuffles_126 (by decide) (fun c_22 => ?_) (fun c_22 => ?_)
                · have h9 : True := trivial
                  refine lv_iload_n hx hb dX7_shuffles_134 rfl (lv_at hl 3 rfl) ?_
                  refine z_iconst hx hb dX7_shuffles_135 ?_
                  refine z_icmp_ne (tgt := 157) hx hb (by omega) (by omega) (by omega) (by omega) dX7_shuffles_136 (by decide) (fun c_23 => ?_) (fun c_23 => ?_)
                  · have h9 : True := trivial
                    refine lv_aload_n hx hb dX7_shuffles_157 rfl (lv_at hl 0 rfl) ?_
                    refine va_get (D := D) (ci := 7) (v := .int (zI (xs))) (C := RX7) (T := TX7) (N := 26) hx hb hT inX7 hown hK hP 0 rfl rfl 17 (by decide) (hT _ q_689) (fun _ h9 => h9) rfl dX7_shuffles_158 ?_
                    exact g_iret (S1 := sA (sA (sA (sA S 9 g9) 11 g11) 17 (fun _ => xs)) 18 g18) (v := zI (xs)) hx hb hr hlocks hP hR hS (⟨_, _, _, _, rfl, _, Or.inr (Or.inr ⟨by omega, by omega, Or.inr (Or.inr ⟨by omega, hsd9⟩)⟩), rfl⟩) dX7_shuffles_161
                  · have h9 : True := trivial
                    obtain ⟨y0, hy0, hy1⟩ := shI_in hn0 hn7 hO hp hk0 hk sd x.toNat
                    refine lv_aload_n hx hb dX7_shuffles_139 rfl (lv_at hl 0 rfl) ?_
                    refine lv_aload_n hx hb dX7_shuffles_140 rfl (lv_at hl 0 rfl) ?_
                    refine va_get (D := D) (ci := 7) (v := .ref (ad 18)) (C := RX7) (T := TX7) (N := 26) hx hb hT inX7 hown hK hP 0 rfl rfl 18 (by decide) (hT _ q_690) (fun _ h9 => h9) rfl dX7_shuffles_141 ?_
                    refine lv_aload_n hx hb dX7_shuffles_144 rfl (lv_at hl 0 rfl) ?_
                    have g_24 : -2147483648 ≤ S 2 0 ∧ S 2 0 < 2147483648 := hR 2 0 (by decide)
                    refine va_get (D := D) (ci := 7) (v := .int (zI (S 2 0))) (C := RX7) (T := TX7) (N := 26) hx hb hT inX7 hown hK hP 0 rfl rfl 2 (by decide) (hT _ q_674) (fun _ h9 => h9) rfl dX7_shuffles_145 ?_
                    refine g_callSi (As := [.ref (ad 18), .int (zI (S 2 0))]) (rest := [.ref (ad 26)]) ⟨hx, hb, hml, hown, hts⟩ (k_X7_codeOf_18 l D cI ad hinj (sA (sA (sA (sA S 9 g9) 11 g11) 17 (fun _ => xs)) 18 g18) hR n (S 2 0) (by omega) (by omega)) (cwS 2 hts (gS hsub q_793 q_794 q_8 q_795) rfl rfl rfl hdX7_codeOf ⟨Nat.le_of_ble_eq_true rfl, Nat.le_of_ble_eq_true rfl⟩) (mEb D cI) (mEk D cI (mA ad)) hE hP hS rfl hl.1 rfl (Nat.le_of_ble_eq_true rfl) dX7_shuffles_148 ⟨Nat.le_of_ble_eq_true rfl, Nat.le_of_ble_eq_true rfl⟩ (fun r_25 S_26 H locs hq_27 hP hR hS _ => ?_)
                    obtain ⟨hs9, rfl⟩ := hq_27
                    obtain rfl := hs9.symm
                    refine z_top (b := cdF (g18) n) rfl ?_
                    refine g_callVi (As := [.int (zI (cdF (g18) n))]) (rest := []) ⟨hx, hb, hml, hown, hts⟩ (k_X7_orderOf l D cI ad hinj (sA (sA (sA (sA S 9 g9) 11 g11) 17 (fun _ => xs)) 18 g18) hR y0 (by omega) (cdF (g18) n) (hy1.trans (cdF_c hrow).symm) (fun j hj e => by have := hO.2.2.1 j y0 (by omega) hy0 (Eq.trans e (hy1.trans (cdF_c hrow).symm).symm); omega)) (cwV 1 hts (gV hsub q_828 q_830 q_sX7_orderOf q_8 q_831) rfl rfl rfl hdX7_orderOf ⟨Nat.le_of_ble_eq_true rfl, Nat.le_of_ble_eq_true rfl⟩) (mEb D cI) (mEk D cI (mA ad)) hE (va_recv (ci := 7) (q0 := 0) hK hP rfl rfl) hP hS rfl hl.1 rfl (Nat.le_of_ble_eq_true rfl) dX7_shuffles_151 ⟨Nat.le_of_ble_eq_true rfl, Nat.le_of_ble_eq_true rfl⟩ (fun r_28 S_29 H locs hq_30 hP hR hS _ => ?_)
                    obtain ⟨hs9, rfl⟩ := hq_30
                    obtain rfl := hs9.symm
                    refine z_top (b := ↑y0) rfl ?_
                    refine lv_goto (tgt := 161) hx hb dX7_shuffles_154 (by decide) ?_
                    exact g_iret (S1 := sA (sA (sA (sA S 9 g9) 11 g11) 17 (fun _ => xs)) 18 g18) (v := zI (↑y0)) hx hb hr hlocks hP hR hS (⟨_, _, _, _, rfl, _, Or.inr (Or.inr ⟨by omega, by omega, Or.inr (Or.inl ⟨by omega, y0, hy0, hy1, rfl⟩)⟩), rfl⟩) dX7_shuffles_161
                · have h9 : True := trivial
                  refine lv_iload hx hb dX7_shuffles_129 (lv_at hl 4 rfl) ?_
                  refine lv_goto (tgt := 161) hx hb dX7_shuffles_131 (by decide) ?_
                  exact g_iret (S1 := sA (sA (sA (sA S 9 g9) 11 g11) 17 (fun _ => xs)) 18 g18) (v := zI (y)) hx hb hr hlocks hP hR hS (⟨_, _, _, _, rfl, _, Or.inr (Or.inr ⟨by omega, by omega, Or.inl ⟨by omega, hdn9⟩⟩), rfl⟩) dX7_shuffles_161
              · have h9 : True := trivial
                have hd1 := dr_lt hn0 (sdF xs)
                have hd2 := dr_lt hn0 (sdF (sdF xs))
                have hsx := sdF_r xs
                have hdn1 := Int.emod_nonneg (sdF xs / 65536) (show (n : Int) ≠ 0 by omega)
                have hdn2 := Int.emod_nonneg (sdF (sdF xs) / 65536) (show (n : Int) ≠ 0 by omega)
                refine lv_aload_n hx hb dX7_shuffles_69 rfl (lv_at hl 0 rfl) ?_
                refine lv_aload_n hx hb dX7_shuffles_70 rfl (lv_at hl 0 rfl) ?_
                have g_31 : -2147483648 ≤ S 2 0 ∧ S 2 0 < 2147483648 := hR 2 0 (by decide)
                refine va_get (D := D) (ci := 7) (v := .int (zI (S 2 0))) (C := RX7) (T := TX7) (N := 26) hx hb hT inX7 hown hK hP 0 rfl rfl 2 (by decide) (hT _ q_674) (fun _ h9 => h9) rfl dX7_shuffles_71 ?_
                refine g_callVi (As := [.int (zI (S 2 0))]) (rest := []) ⟨hx, hb, hml, hown, hts⟩ (k_X7_draw l D cI ad hinj (sA (sA (sA (sA S 9 g9) 11 g11) 17 (fun _ => xs)) 18 g18) hR n hn0 hn7 xs (S 2 0) rfl (by omega) (by omega)) (cwV 1 hts (gV hsub q_1027 q_1029 q_sX7_draw q_8 q_1030) rfl rfl rfl hdX7_draw ⟨Nat.le_of_ble_eq_true rfl, Nat.le_of_ble_eq_true rfl⟩) (mEb D cI) (mEk D cI (mA ad)) hE (va_recv (ci := 7) (q0 := 0) hK hP rfl rfl) hP hS rfl hl.1 rfl (Nat.le_of_ble_eq_true rfl) dX7_shuffles_74 ⟨Nat.le_of_ble_eq_true rfl, Nat.le_of_ble_eq_true rfl⟩ (fun r_32 S_33 H locs hq_34 hP hR hS _ => ?_)
                obtain ⟨rfl, rfl⟩ := hq_34
                have hP : va_P D vwCl (mW cI ad (sA (sA (sA (sA (sA S 9 g9) 11 g11) 17 (fun _ => xs)) 18 g18) 17 (fun _ => sdF xs))) H := hP
                have hR : RS (sA (sA (sA (sA (sA S 9 g9) 11 g11) 17 (fun _ => xs)) 18 g18) 17 (fun _ => sdF xs)) := hR
                refine z_top (b := sdF xs / 65536 % ↑n) rfl ?_
                refine lv_istore (lv' := [(6, .int (zI (sdF xs / 65536 % ↑n))), (0, .ref (ad 26)), (1, .int (zI (x))), (2, .int (zI (sd))), (3, .int (zI (w))), (4, .int (zI (y))), (5, .int (zI (↑i)))]) hx hb dX7_shuffles_77 hl (by decide) rfl (fun ls hl => ?_)
                refine lv_aload_n hx hb dX7_shuffles_79 rfl (lv_at hl 1 rfl) ?_
                refine lv_aload_n hx hb dX7_shuffles_80 rfl (lv_at hl 1 rfl) ?_
                refine va_get (D := D) (ci := 7) (v := .int (zI (S 2 0))) (C := RX7) (T := TX7) (N := 26) hx hb hT inX7 hown hK hP 0 rfl rfl 2 (by decide) (hT _ q_674) (fun _ h9 => h9) rfl dX7_shuffles_81 ?_
                refine g_callVi (As := [.int (zI (S 2 0))]) (rest := []) ⟨hx, hb, hml, hown, hts⟩ (k_X7_draw l D cI ad hinj (sA (sA (sA (sA (sA S 9 g9) 11 g11) 17 (fun _ => xs)) 18 g18) 17 (fun _ => sdF xs)) hR n hn0 hn7 (sdF xs) (S 2 0) rfl (by omega) (by omega)) (cwV 1 hts (gV hsub q_1027 q_1029 q_sX7_draw q_8 q_1030) rfl rfl rfl hdX7_draw ⟨Nat.le_of_ble_eq_true rfl, Nat.le_of_ble_eq_true rfl⟩) (mEb D cI) (mEk D cI (mA ad)) hE (va_recv (ci := 7) (q0 := 0) hK hP rfl rfl) hP hS rfl hl.1 rfl (Nat.le_of_ble_eq_true rfl) dX7_shuffles_84 ⟨Nat.le_of_ble_eq_true rfl, Nat.le_of_ble_eq_true rfl⟩ (fun r_35 S_36 H locs hq_37 hP hR hS _ => ?_)
                obtain ⟨rfl, rfl⟩ := hq_37
                rw [sA_sA] at hP hR
                have hP : va_P D vwCl (mW cI ad (sA (sA (sA (sA (sA S 9 g9) 11 g11) 17 (fun _ => xs)) 18 g18) 17 (fun _ => sdF (sdF xs)))) H := hP
                have hR : RS (sA (sA (sA (sA (sA S 9 g9) 11 g11) 17 (fun _ => xs)) 18 g18) 17 (fun _ => sdF (sdF xs))) := hR
                refine z_top (b := sdF (sdF xs) / 65536 % ↑n) rfl ?_
                refine lv_istore (lv' := [(7, .int (zI (sdF (sdF xs) / 65536 % ↑n))), (6, .int (zI (sdF xs / 65536 % ↑n))), (0, .ref (ad 26)), (1, .int (zI (x))), (2, .int (zI (sd))), (3, .int (zI (w))), (4, .int (zI (y))), (5, .int (zI (↑i)))]) hx hb dX7_shuffles_87 hl (by decide) rfl (fun ls hl => ?_)
                refine lv_aload_n hx hb dX7_shuffles_89 rfl (lv_at hl 2 rfl) ?_
                refine lv_aload_n hx hb dX7_shuffles_90 rfl (lv_at hl 2 rfl) ?_
                refine va_get (D := D) (ci := 7) (v := .ref (ad 18)) (C := RX7) (T := TX7) (N := 26) hx hb hT inX7 hown hK hP 0 rfl rfl 18 (by decide) (hT _ q_690) (fun _ h9 => h9) rfl dX7_shuffles_91 ?_
                refine lv_iload hx hb dX7_shuffles_94 (lv_at hl 1 rfl) ?_
                refine lv_iload hx hb dX7_shuffles_96 (lv_at hl 0 rfl) ?_
                refine g_callVi (As := [.ref (ad 18), .int (zI (sdF xs / 65536 % ↑n)), .int (zI (sdF (sdF xs) / 65536 % ↑n))]) (rest := []) ⟨hx, hb, hml, hown, hts⟩ (k_X7_codeBy_18 l D cI ad hinj (sA (sA (sA (sA (sA S 9 g9) 11 g11) 17 (fun _ => xs)) 18 g18) 17 (fun _ => sdF (sdF xs))) hR n hn hn7 hpf (sdF xs / 65536 % ↑n).toNat (sdF (sdF xs) / 65536 % ↑n).toNat (sdF xs / 65536 % ↑n) (sdF (sdF xs) / 65536 % ↑n) (by omega) (by omega) hd1 hd2) (cwV 3 hts (gV hsub q_836 q_838 q_sX7_codeBy q_8 q_839) rfl rfl rfl hdX7_codeBy ⟨Nat.le_of_ble_eq_true rfl, Nat.le_of_ble_eq_true rfl⟩) (mEb D cI) (mEk D cI (mA ad)) hE (va_recv (ci := 7) (q0 := 0) hK hP rfl rfl) hP hS rfl hl.1 rfl (Nat.le_of_ble_eq_true rfl) dX7_shuffles_98 ⟨Nat.le_of_ble_eq_true rfl, Nat.le_of_ble_eq_true rfl⟩ (fun r_38 S_39 H locs hq_40 hP hR hS _ => ?_)
                obtain ⟨f_41, g_42, rfl, rfl⟩ := hq_40
                refine z_top (b := cbF n g18 ((sdF xs / 65536 % ↑n).toNat) ((sdF (sdF xs) / 65536 % ↑n).toNat)) rfl ?_
                have hcr := cbF_r hn7 hpf hd1 hd2
                refine z_iconst hx hb dX7_shuffles_101 ?_
                refine z_icmp_eq (tgt := 119) hx hb (by omega) (by omega) (by omega) (by omega) dX7_shuffles_102 (by decide) (fun c_43 => ?_) (fun c_43 => ?_)
                · have h9 : True := trivial
                  refine z_iinc (lv' := [(5, .int (zI (↑i + 1))), (7, .int (zI (sdF (sdF xs) / 65536 % ↑n))), (6, .int (zI (sdF xs / 65536 % ↑n))), (0, .ref (ad 26)), (1, .int (zI (x))), (2, .int (zI (sd))), (3, .int (zI (w))), (4, .int (zI (y)))]) hx hb dX7_shuffles_119 hl (k := 7) rfl (by decide) rfl (fun ls hl => ?_)
                  refine lv_goto (tgt := 63) hx hb dX7_shuffles_122 (by decide) ?_
                  have hSe_44 : sA (sA (sA (sA (sA (sA (sA S 9 g9) 11 g11) 17 (fun _ => xs)) 18 g18) 17 (fun _ => sdF (sdF xs))) 11 f_41) 9 g_42 = sA (sA (sA (sA S 9 g_42) 11 f_41) 17 (fun _ => sdF (sdF xs))) 18 g18 := by
                    funext k8
                    by_cases e80 : k8 = 9
                    · subst e80; first | rfl | (funext j8; rfl)
                    by_cases e81 : k8 = 11
                    · subst e81; first | rfl | (funext j8; rfl)
                    by_cases e82 : k8 = 17
                    · subst e82; funext j8; first | rfl | exact hsc_17 j8
                    by_cases e83 : k8 = 18
                    · subst e83; first | rfl | (funext j8; rfl)
                    simp [sA, e80, e81, e82, e83]
                  rw [hSe_44] at hP hR
                  exact ih_63 (i + 1) y (sdF (sdF xs)) g_42 f_41 g18 _ _ _ (by omega) (by rw [shI, ← hsd9, if_neg (by rw [← cbF_c hrow (pl_lt hpi hd1) hd2]; omega)]; exact hrow) (by rw [shI, ← hsd9, if_neg (by rw [← cbF_c hrow (pl_lt hpi hd1) hd2]; omega)]) (by rw [shI, ← hsd9, if_neg (by rw [← cbF_c hrow (pl_lt hpi hd1) hd2]; omega)]; exact hdn9) (by omega) hP hR hS (lv_sub hl [3, 4, 5, 6, 7, 0] rfl)
                · have h9 : True := trivial
                  refine lv_aload_n hx hb dX7_shuffles_105 rfl (lv_at hl 2 rfl) ?_
                  refine va_get (D := D) (ci := 7) (v := .ref (ad 18)) (C := RX7) (T := TX7) (N := 26) hx hb hT inX7 hown hK hP 0 rfl rfl 18 (by decide) (hT _ q_690) (fun _ h9 => h9) rfl dX7_shuffles_106 ?_
                  refine lv_iload hx hb dX7_shuffles_109 (lv_at hl 1 rfl) ?_
                  refine lv_iload hx hb dX7_shuffles_111 (lv_at hl 0 rfl) ?_
                  refine g_callSv (As := [.ref (ad 18), .int (zI (sdF xs / 65536 % ↑n)), .int (zI (sdF (sdF xs) / 65536 % ↑n))]) (rest := []) ⟨hx, hb, hml, hown, hts⟩ (k_X7_shift_18 l D cI ad hinj (sA (sA (sA (sA (sA (sA (sA S 9 g9) 11 g11) 17 (fun _ => xs)) 18 g18) 17 (fun _ => sdF (sdF xs))) 11 f_41) 9 g_42) hR n hn7 hpf (sdF xs / 65536 % ↑n).toNat (sdF (sdF xs) / 65536 % ↑n).toNat (sdF xs / 65536 % ↑n) (sdF (sdF xs) / 65536 % ↑n) (by omega) (by omega) hd1 hd2) (cwS 3 hts (gS hsub q_846 q_847 q_8 q_848) rfl rfl rfl hdX7_shift ⟨Nat.le_of_ble_eq_true rfl, Nat.le_of_ble_eq_true rfl⟩) (mEb D cI) (mEk D cI (mA ad)) hE hP hS rfl hl.1 rfl (Nat.le_of_ble_eq_true rfl) dX7_shuffles_113 ⟨Nat.le_of_ble_eq_true rfl, Nat.le_of_ble_eq_true rfl⟩ (fun S_46 H locs hq_47 hP hR hS _ => ?_)
                  obtain rfl := hq_47
                  have hP : va_P D vwCl (mW cI ad (sA (sA (sA (sA (sA (sA (sA (sA S 9 g9) 11 g11) 17 (fun _ => xs)) 18 g18) 17 (fun _ => sdF (sdF xs))) 11 f_41) 9 g_42) 18 (shF g18 (pl n g18 ((sdF xs / 65536 % ↑n).toNat)) ((sdF (sdF xs) / 65536 % ↑n).toNat)))) H := hP
                  have hR : RS (sA (sA (sA (sA (sA (sA (sA (sA S 9 g9) 11 g11) 17 (fun _ => xs)) 18 g18) 17 (fun _ => sdF (sdF xs))) 11 f_41) 9 g_42) 18 (shF g18 (pl n g18 ((sdF xs / 65536 % ↑n).toNat)) ((sdF (sdF xs) / 65536 % ↑n).toNat))) := hR
                  refine z_iinc (lv' := [(4, .int (zI (y + 1))), (7, .int (zI (sdF (sdF xs) / 65536 % ↑n))), (6, .int (zI (sdF xs / 65536 % ↑n))), (0, .ref (ad 26)), (1, .int (zI (x))), (2, .int (zI (sd))), (3, .int (zI (w))), (5, .int (zI (↑i)))]) hx hb dX7_shuffles_116 hl (k := 6) rfl (by decide) rfl (fun ls hl => ?_)
                  refine z_iinc (lv' := [(5, .int (zI (↑i + 1))), (4, .int (zI (y + 1))), (7, .int (zI (sdF (sdF xs) / 65536 % ↑n))), (6, .int (zI (sdF xs / 65536 % ↑n))), (0, .ref (ad 26)), (1, .int (zI (x))), (2, .int (zI (sd))), (3, .int (zI (w)))]) hx hb dX7_shuffles_119 hl (k := 7) rfl (by decide) rfl (fun ls hl => ?_)
                  refine lv_goto (tgt := 63) hx hb dX7_shuffles_122 (by decide) ?_
                  have hSe_48 : sA (sA (sA (sA (sA (sA (sA (sA S 9 g9) 11 g11) 17 (fun _ => xs)) 18 g18) 17 (fun _ => sdF (sdF xs))) 11 f_41) 9 g_42) 18 (shF g18 (pl n g18 ((sdF xs / 65536 % ↑n).toNat)) ((sdF (sdF xs) / 65536 % ↑n).toNat)) = sA (sA (sA (sA S 9 g_42) 11 f_41) 17 (fun _ => sdF (sdF xs))) 18 (shF g18 (pl n g18 ((sdF xs / 65536 % ↑n).toNat)) ((sdF (sdF xs) / 65536 % ↑n).toNat)) := by
                    funext k8
                    by_cases e80 : k8 = 9
                    · subst e80; first | rfl | (funext j8; rfl)
                    by_cases e81 : k8 = 11
                    · subst e81; first | rfl | (funext j8; rfl)
                    by_cases e82 : k8 = 17
                    · subst e82; funext j8; first | rfl | exact hsc_17 j8
                    by_cases e83 : k8 = 18
                    · subst e83; first | rfl | (funext j8; rfl)
                    simp [sA, e80, e81, e82, e83]
                  rw [hSe_48] at hP hR
                  exact ih_63 (i + 1) (y + 1) (sdF (sdF xs)) g_42 f_41 (shF g18 (pl n g18 ((sdF xs / 65536 % ↑n).toNat)) ((sdF (sdF xs) / 65536 % ↑n).toNat)) _ _ _ (by omega) (by rw [shI, ← hsd9, if_pos (by rw [← cbF_c hrow (pl_lt hpi hd1) hd2]; omega)]; intro j hj; rw [pl_c hrow]; exact shF_c hrow (pl_lt hpi hd1) hd2 j hj) (by rw [shI, ← hsd9, if_pos (by rw [← cbF_c hrow (pl_lt hpi hd1) hd2]; omega)]) (by rw [shI, ← hsd9, if_pos (by rw [← cbF_c hrow (pl_lt hpi hd1) hd2]; omega), hdn9]) (by omega) hP hR hS (lv_sub hl [4, 5, 6, 7, 1, 0] rfl)
          have hSe_49 : sA (sA S 17 (fun _ => sd)) 18 f_19 = sA (sA (sA (sA S 9 (S 9)) 11 (S 11)) 17 (fun _ => sd)) 18 f_19 := by
            funext k8
            by_cases e80 : k8 = 9
            · subst e80; first | rfl | (funext j8; rfl)
            by_cases e81 : k8 = 11
            · subst e81; first | rfl | (funext j8; rfl)
            by_cases e82 : k8 = 17
            · subst e82; funext j8; first | rfl | exact hsc_17 j8
            by_cases e83 : k8 = 18
            · subst e83; first | rfl | (funext j8; rfl)
            simp [sA, e80, e81, e82, e83]
          rw [hSe_49] at hP hR
          exact cut_63 _ 0 0 sd (S 9) (S 11) f_19 _ _ _ (by omega) (fun j hj => hcp_20 j (by omega)) (rfl) (rfl) (Nat.lt_succ_self _) hP hR hS (lv_sub hl [2, 3, 4, 5, 1, 0] rfl)
        · have h9 : True := trivial
          have c_15 : S 2 0 = 0 := of_decide_eq_true c_15
          refine z_bipush hx hb dX7_shuffles_38 (by decide) ?_
          have hSe_50 : S = sA (sA (sA (sA S 9 (S 9)) 11 (S 11)) 17 (S 17)) 18 (S 18) := by
            funext k8
            by_cases e80 : k8 = 9
            · subst e80; first | rfl | (funext j8; rfl)
            by_cases e81 : k8 = 11
            · subst e81; first | rfl | (funext j8; rfl)
            by_cases e82 : k8 = 17
            · subst e82; first | rfl | (funext j8; rfl)
            by_cases e83 : k8 = 18
            · subst e83; first | rfl | (funext j8; rfl)
            simp [sA, e80, e81, e82, e83]
          rw [hSe_50] at hP hR
          exact g_iret (S1 := sA (sA (sA (sA S 9 (S 9)) 11 (S 11)) 17 (S 17)) 18 (S 18)) (v := zI (-103)) hx hb hr hlocks hP hR hS (⟨_, _, _, _, rfl, _, Or.inr (Or.inl ⟨by omega, by omega, rfl⟩), rfl⟩) dX7_shuffles_40
      · have h9 : True := trivial
        have c_11 : ¬ (0 ≤ w ∧ w ≤ 2) := of_decide_eq_false c_11
        refine z_bipush hx hb dX7_shuffles_28 (by decide) ?_
        have hSe_51 : S = sA (sA (sA (sA S 9 (S 9)) 11 (S 11)) 17 (S 17)) 18 (S 18) := by
          funext k8
          by_cases e80 : k8 = 9
          · subst e80; first | rfl | (funext j8; rfl)
          by_cases e81 : k8 = 11
          · subst e81; first | rfl | (funext j8; rfl)
          by_cases e82 : k8 = 17
          · subst e82; first | rfl | (funext j8; rfl)
          by_cases e83 : k8 = 18
          · subst e83; first | rfl | (funext j8; rfl)
          simp [sA, e80, e81, e82, e83]
        rw [hSe_51] at hP hR
        exact g_iret (S1 := sA (sA (sA (sA S 9 (S 9)) 11 (S 11)) 17 (S 17)) 18 (S 18)) (v := zI (-102)) hx hb hr hlocks hP hR hS (⟨_, _, _, _, rfl, _, Or.inl ⟨by omega, rfl⟩, rfl⟩) dX7_shuffles_30
