set_option maxHeartbeats 4000000 in
set_option maxRecDepth 100000 in
theorem k_X7_near (l : Launch) (D : va_G) (cI : ClassId) (ad : Nat → Nat) (hinj : mInj ad) (S : St) (hR : RS S) (n : Nat) (hn : S 2 0 = ↑n) (hn7 : n ≤ 7) (N k0 : Nat) (hst : n ≠ 0 → STp n N k0 S) (h80 : 0 ≤ S 8 0) (hp : prm n (S 6)) (x : Int) (hx1 : -2147483648 ≤ x) (hx2 : x < 2147483648) : Met l yX7_near (Cond.code yX7_near cX7_near 2 (some .int) :: lwT) ({ frames := 5, cells := 0, slots := 0, locals := 116 }) (gPc D (mW cI ad) (mE D cI) S [.ref (ad 26), .int (zI (x))]) (va_Qi (fun (r : Int32) (S' : St) => ∃ e9 e10 e11 e12 e13 e14, S' = sA (sA (sA (sA (sA (sA S 9 e9) 10 e10) 11 e11) 12 e12) 13 e13) 14 e14 ∧ ∃ v, nearR n N (S 7) k0 x v ∧ r = zI v) (gB D (mW cI ad)) (mA ad)) 0 0 (mA ad) := by
  refine Met.ofW (cc := cX7_near) (maxL := 2) (ret := (some .int)) (by decide) rfl ?_
  intro p e s m args below meth c s₁ B hml hv
  obtain ⟨rfl, hP, hE⟩ := hv
  have hx := B.exec
  have hb := B.bytes
  have hr := B.returns
  have hts := atoms_spec (ws := Cond.code yX7_near cX7_near 2 (some .int) :: lwT) B.pre
  have hT := fun w (h : w ∈ lwT) => hts w (List.mem_cons_of_mem _ h)
  have hsub : ∀ w ∈ lwT, w ∈ (Cond.code yX7_near cX7_near 2 (some .int) :: lwT) := fun w h => List.mem_cons_of_mem _ h
  have hown : s.vm.findClass RX7 = some m.cls := findClass_of_methodNamed B.named
  have hlocks := B.notSynchronized
  have hK : va_K D vwCl [(cI, .int)] s := hE
  have hS : va_S (mA ad) s.heap s.heap [] := va_S.rf
  have hl := lv_entry ([.ref (ad 26), .int (zI (x))]) (n := 2) (Nat.le_of_ble_eq_true rfl)
  rw [lg_entry_eq]
  generalize (lg_sl ([.ref (ad 26), .int (zI (x))]) ++ List.replicate (2 - (lg_sl ([.ref (ad 26), .int (zI (x))])).length) Slot.unset).toArray = ls at hl ⊢
  have hl : lv_has ls 2 [(0, .ref (ad 26)), (1, .int (zI (x)))] := hl
  refine lv_aload_n hx hb dX7_near_0 rfl (lv_at hl 0 rfl) ?_
  refine lv_iload_n hx hb dX7_near_1 rfl (lv_at hl 1 rfl) ?_
  refine g_callVi (As := [.int (zI (x))]) (rest := []) ⟨hx, hb, hml, hown, hts⟩ (k_X7_isOrder l D cI ad hinj S hR x (by omega) (by omega) (by omega)) (cwV 1 hts (gV hsub q_808 q_810 q_sX7_isOrder q_8 q_811) rfl rfl rfl hdX7_isOrder ⟨Nat.le_of_ble_eq_true rfl, Nat.le_of_ble_eq_true rfl⟩) (mEb D cI) (mEk D cI (mA ad)) hE (va_recv (ci := 7) (q0 := 0) hK hP rfl rfl) hP hS rfl hl.1 rfl (Nat.le_of_ble_eq_true rfl) dX7_near_2 ⟨Nat.le_of_ble_eq_true rfl, Nat.le_of_ble_eq_true rfl⟩ (fun r_1 S_2 H locs hq_3 hP hR hS _ => ?_)
  obtain ⟨hs9, rfl⟩ := hq_3
  obtain rfl := hs9.symm
  refine z_top (b := b2 (decide (S 2 0 ≠ 0 ∧ 0 ≤ x ∧ x ≤ S 8 0 - 1))) rfl ?_
  refine z_ifeqB (tgt := 16) hx hb dX7_near_5 (by decide) (fun c_4 => ?_) (fun c_4 => ?_)
  · have h9 : True := trivial
    have c_4 : ¬ (S 2 0 ≠ 0 ∧ 0 ≤ x ∧ x ≤ S 8 0 - 1) := of_decide_eq_false c_4
    have hbad : ¬ (n ≠ 0 ∧ 0 ≤ x ∧ x ≤ (N : Int) - 1) := fun h => by have := (hst h.1).1; omega
    refine z_bipush hx hb dX7_near_16 (by decide) ?_
    have hSe_5 : S = sA (sA (sA (sA (sA (sA S 9 (S 9)) 10 (S 10)) 11 (S 11)) 12 (S 12)) 13 (S 13)) 14 (S 14) := by
      funext k8
      by_cases e80 : k8 = 9
      · subst e80; first | rfl | (funext j8; rfl)
      by_cases e81 : k8 = 10
      · subst e81; first | rfl | (funext j8; rfl)
      by_cases e82 : k8 = 11
      · subst e82; first | rfl | (funext j8; rfl)
      by_cases e83 : k8 = 12
      · subst e83; first | rfl | (funext j8; rfl)
      by_cases e84 : k8 = 13
      · subst e84; first | rfl | (funext j8; rfl)
      by_cases e85 : k8 = 14
      · subst e85; first | rfl | (funext j8; rfl)
      simp [sA, e80, e81, e82, e83, e84, e85]
    rw [hSe_5] at hP hR
    exact g_iret (S1 := sA (sA (sA (sA (sA (sA S 9 (S 9)) 10 (S 10)) 11 (S 11)) 12 (S 12)) 13 (S 13)) 14 (S 14)) (v := zI (-101)) hx hb hr hlocks hP hR hS (⟨_, _, _, _, _, _, rfl, _, Or.inr ⟨hbad, rfl⟩, rfl⟩) dX7_near_18
  · have h9 : True := trivial
    have c_4 : S 2 0 ≠ 0 ∧ 0 ≤ x ∧ x ≤ S 8 0 - 1 := of_decide_eq_true c_4
    obtain ⟨hN, hO, hk0, hk⟩ := hst (by omega)
    have hO1 := hO.1
    have hO2 := hO.2.1
    have hnz : n ≠ 0 := by omega
    refine lv_aload_n hx hb dX7_near_8 rfl (lv_at hl 0 rfl) ?_
    refine lv_iload_n hx hb dX7_near_9 rfl (lv_at hl 1 rfl) ?_
    refine g_callVi (As := [.int (zI (x))]) (rest := []) ⟨hx, hb, hml, hown, hts⟩ (k_X7_nearOf l D cI ad hinj S hR n hn hn7 N hN hO (k0) (hk0) (hk) (x.toNat) x (by omega) (by omega)) (cwV 1 hts (gV hsub q_816 q_818 q_sX7_nearOf q_8 q_819) rfl rfl rfl hdX7_nearOf ⟨Nat.le_of_ble_eq_true rfl, Nat.le_of_ble_eq_true rfl⟩) (mEb D cI) (mEk D cI (mA ad)) hE (va_recv (ci := 7) (q0 := 0) hK hP rfl rfl) hP hS rfl hl.1 rfl (Nat.le_of_ble_eq_true rfl) dX7_near_10 ⟨Nat.le_of_ble_eq_true rfl, Nat.le_of_ble_eq_true rfl⟩ (fun r_6 S_7 H locs hq_8 hP hR hS _ => ?_)
    obtain ⟨e_9, e_10, e_11, e_12, e_13, e_14, rfl, d_15, hD_16, rfl⟩ := hq_8
    refine z_top (b := d_15 (x).toNat) rfl ?_
    refine lv_goto (tgt := 18) hx hb dX7_near_13 (by decide) ?_
    exact g_iret (S1 := sA (sA (sA (sA (sA (sA S 9 e_9) 10 e_10) 11 e_11) 12 e_12) 13 e_13) 14 e_14) (v := zI (d_15 (x).toNat)) hx hb hr hlocks hP hR hS (⟨_, _, _, _, _, _, rfl, _, Or.inl ⟨hnz, by omega, by omega, _, hD_16, rfl⟩, rfl⟩) dX7_near_18
set_option maxHeartbeats 4000000 in
set_option maxRecDepth 100000 in
theorem k_X7_far (l : Launch) (D : va_G) (cI : ClassId) (ad : Nat → Nat) (hinj : mInj ad) (S : St) (hR : RS S) (n : Nat) (hn : S 2 0 = ↑n) (hn7 : n ≤ 7) (N k0 : Nat) (hst : n ≠ 0 → STp n N k0 S) (h80 : 0 ≤ S 8 0) (hp : prm n (S 6)) (w : Int) (hw1 : -2147483648 ≤ w) (hw2 : w < 2147483648) : Met l yX7_far (Cond.code yX7_far cX7_far 2 (some .int) :: lwT) ({ frames := 6, cells := 0, slots := 0, locals := 134 }) (gPc D (mW cI ad) (mE D cI) S [.ref (ad 26), .int (zI (w))]) (va_Qi (fun (r : Int32) (S' : St) => ∃ e9 e10 e11 e12 e13 e14, S' = sA (sA (sA (sA (sA (sA S 9 e9) 10 e10) 11 e11) 12 e12) 13 e13) 14 e14 ∧ ∃ v, farR n N (S 5) (S 7) k0 w v ∧ r = zI v) (gB D (mW cI ad)) (mA ad)) 0 0 (mA ad) := by
  refine Met.ofW (cc := cX7_far) (maxL := 2) (ret := (some .int)) (by decide) rfl ?_
  intro p e s m args below meth c s₁ B hml hv
  obtain ⟨rfl, hP, hE⟩ := hv
  have hx := B.exec
  have hb := B.bytes
  have hr := B.returns
  have hts := atoms_spec (ws := Cond.code yX7_far cX7_far 2 (some .int) :: lwT) B.pre
  have hT := fun w (h : w ∈ lwT) => hts w (List.mem_cons_of_mem _ h)
  have hsub : ∀ w ∈ lwT, w ∈ (Cond.code yX7_far cX7_far 2 (some .int) :: lwT) := fun w h => List.mem_cons_of_mem _ h
  have hown : s.vm.findClass RX7 = some m.cls := findClass_of_methodNamed B.named
  have hlocks := B.notSynchronized
  have hK : va_K D vwCl [(cI, .int)] s := hE
  have hS : va_S (mA ad) s.heap s.heap [] := va_S.rf
  have hl := lv_entry ([.ref (ad 26), .int (zI (w))]) (n := 2) (Nat.le_of_ble_eq_true rfl)
  rw [lg_entry_eq]
  generalize (lg_sl ([.ref (ad 26), .int (zI (w))]) ++ List.replicate (2 - (lg_sl ([.ref (ad 26), .int (zI (w))])).length) Slot.unset).toArray = ls at hl ⊢
  have hl : lv_has ls 2 [(0, .ref (ad 26)), (1, .int (zI (w)))] := hl
  refine lv_iload_n hx hb dX7_far_0 rfl (lv_at hl 1 rfl) ?_
  refine z_i2l hx hb (by omega) (by omega) dX7_far_1 ?_
  refine lv_lconst (v := zL 0) hx hb dX7_far_2 (by decide) ?_
  refine lv_ldc2 (v := zL 3) hx hb hown (hT _ q_853) dX7_far_3 ?_
  refine s_callSi (As := [.long (zL (w)), .long (zL (0)), .long (zL (3))]) (rest := []) ⟨hx, hb, hml, hown, hts⟩ (k_X7_in l w 0 3 (by omega) (by omega) (by omega) (by omega) (by omega) (by omega)) (cwS 3 hts (gS hsub q_756 q_757 q_8 q_758) rfl rfl rfl hdX7_in ⟨Nat.le_of_ble_eq_true rfl, Nat.le_of_ble_eq_true rfl⟩) rfl hl.1 rfl (Nat.le_of_ble_eq_true rfl) dX7_far_6 ⟨Nat.le_of_ble_eq_true rfl, Nat.le_of_ble_eq_true rfl⟩ (fun r_1 hq_3 => ?_)
  rw [hq_3]
  refine z_ifneB (tgt := 15) hx hb dX7_far_9 (by decide) (fun c_4 => ?_) (fun c_4 => ?_)
  · have h9 : True := trivial
    have c_4 : 0 ≤ w ∧ w ≤ 3 := of_decide_eq_true c_4
    refine lv_aload_n hx hb dX7_far_15 rfl (lv_at hl 0 rfl) ?_
    refine g_callVi (As := []) (rest := []) ⟨hx, hb, hml, hown, hts⟩ (k_X7_lacks l D cI ad hinj S hR ) (cwV 0 hts (gV hsub q_812 q_814 q_sX7_lacks q_8 q_815) rfl rfl rfl hdX7_lacks ⟨Nat.le_of_ble_eq_true rfl, Nat.le_of_ble_eq_true rfl⟩) (mEb D cI) (mEk D cI (mA ad)) hE (va_recv (ci := 7) (q0 := 0) hK hP rfl rfl) hP hS rfl hl.1 rfl (Nat.le_of_ble_eq_true rfl) dX7_far_16 ⟨Nat.le_of_ble_eq_true rfl, Nat.le_of_ble_eq_true rfl⟩ (fun r_5 S_6 H locs hq_7 hP hR hS _ => ?_)
    obtain ⟨hs9, rfl⟩ := hq_7
    obtain rfl := hs9.symm
    refine z_top (b := b2 (decide (S 2 0 = 0))) rfl ?_
    refine z_ifeqB (tgt := 27) hx hb dX7_far_19 (by decide) (fun c_8 => ?_) (fun c_8 => ?_)
    · have h9 : True := trivial
      have c_8 : ¬ (S 2 0 = 0) := of_decide_eq_false c_8
      obtain ⟨hN, hO, hk0, hk⟩ := hst (by omega)
      have hO1 := hO.1
      have hO2 := hO.2.1
      have hnz : n ≠ 0 := by omega
      refine lv_iload_n hx hb dX7_far_27 rfl (lv_at hl 1 rfl) ?_
      refine z_iconst hx hb dX7_far_28 ?_
      refine z_icmp_ge (tgt := 40) hx hb (by omega) (by omega) (by omega) (by omega) dX7_far_29 (by decide) (fun c_9 => ?_) (fun c_9 => ?_)
      · have h9 : True := trivial
        refine lv_aload_n hx hb dX7_far_40 rfl (lv_at hl 0 rfl) ?_
        refine lv_iload_n hx hb dX7_far_41 rfl (lv_at hl 1 rfl) ?_
        refine g_callVi (As := [.int (zI (w))]) (rest := []) ⟨hx, hb, hml, hown, hts⟩ (k_X7_homeOf l D cI ad hinj S hR n hn hn7 N hN hO (k0) (hk0) (hk) w (by omega) (by omega)) (cwV 1 hts (gV hsub q_858 q_860 q_sX7_homeOf q_8 q_861) rfl rfl rfl hdX7_homeOf ⟨Nat.le_of_ble_eq_true rfl, Nat.le_of_ble_eq_true rfl⟩) (mEb D cI) (mEk D cI (mA ad)) hE (va_recv (ci := 7) (q0 := 0) hK hP rfl rfl) hP hS rfl hl.1 rfl (Nat.le_of_ble_eq_true rfl) dX7_far_42 ⟨Nat.le_of_ble_eq_true rfl, Nat.le_of_ble_eq_true rfl⟩ (fun r_10 S_11 H locs hq_12 hP hR hS _ => ?_)
        obtain ⟨e_13, e_14, e_15, e_16, e_17, e_18, rfl, d_19, x_20, hD_21, hA_22, rfl⟩ := hq_12
        refine z_top (b := if x_20 = -1 ∨ w = 3 then x_20 else d_19 x_20.toNat) rfl ?_
        exact g_iret (S1 := sA (sA (sA (sA (sA (sA S 9 e_13) 10 e_14) 11 e_15) 12 e_16) 13 e_17) 14 e_18) (v := zI (if x_20 = -1 ∨ w = 3 then x_20 else d_19 x_20.toNat)) hx hb hr hlocks hP hR hS (⟨_, _, _, _, _, _, rfl, _, Or.inr (Or.inr ⟨by omega, hnz, _, hD_21, Or.inr ⟨by omega, _, hA_22, rfl⟩⟩), rfl⟩) dX7_far_45
      · have h9 : True := trivial
        refine lv_aload_n hx hb dX7_far_32 rfl (lv_at hl 0 rfl) ?_
        refine lv_iload_n hx hb dX7_far_33 rfl (lv_at hl 1 rfl) ?_
        refine g_callVi (As := [.int (zI (w))]) (rest := []) ⟨hx, hb, hml, hown, hts⟩ (k_X7_farthestOf l D cI ad hinj S hR n hn hn7 N hN hO (k0) (hk0) (hk) w (by omega) (by omega)) (cwV 1 hts (gV hsub q_854 q_856 q_sX7_farthestOf q_8 q_857) rfl rfl rfl hdX7_farthestOf ⟨Nat.le_of_ble_eq_true rfl, Nat.le_of_ble_eq_true rfl⟩) (mEb D cI) (mEk D cI (mA ad)) hE (va_recv (ci := 7) (q0 := 0) hK hP rfl rfl) hP hS rfl hl.1 rfl (Nat.le_of_ble_eq_true rfl) dX7_far_34 ⟨Nat.le_of_ble_eq_true rfl, Nat.le_of_ble_eq_true rfl⟩ (fun r_23 S_24 H locs hq_25 hP hR hS _ => ?_)
        obtain ⟨e_26, e_27, e_28, e_29, e_30, e_31, rfl, d_32, b_33, hD_34, hA_35, rfl⟩ := hq_25
        refine z_top (b := if w = 0 then d_32 b_33 else ↑b_33) rfl ?_
        refine lv_goto (tgt := 45) hx hb dX7_far_37 (by decide) ?_
        exact g_iret (S1 := sA (sA (sA (sA (sA (sA S 9 e_26) 10 e_27) 11 e_28) 12 e_29) 13 e_30) 14 e_31) (v := zI (if w = 0 then d_32 b_33 else ↑b_33)) hx hb hr hlocks hP hR hS (⟨_, _, _, _, _, _, rfl, _, Or.inr (Or.inr ⟨by omega, hnz, _, hD_34, Or.inl ⟨by omega, _, hA_35, rfl⟩⟩), rfl⟩) dX7_far_45
    · have h9 : True := trivial
      have c_8 : S 2 0 = 0 := of_decide_eq_true c_8
      refine z_bipush hx hb dX7_far_22 (by decide) ?_
      refine lv_goto (tgt := 45) hx hb dX7_far_24 (by decide) ?_
      have hSe_36 : S = sA (sA (sA (sA (sA (sA S 9 (S 9)) 10 (S 10)) 11 (S 11)) 12 (S 12)) 13 (S 13)) 14 (S 14) := by
        funext k8
        by_cases e80 : k8 = 9
        · subst e80; first | rfl | (funext j8; rfl)
        by_cases e81 : k8 = 10
        · subst e81; first | rfl | (funext j8; rfl)
        by_cases e82 : k8 = 11
        · subst e82; first | rfl | (funext j8; rfl)
        by_cases e83 : k8 = 12
        · subst e83; first | rfl | (funext j8; rfl)
        by_cases e84 : k8 = 13
        · subst e84; first | rfl | (funext j8; rfl)
        by_cases e85 : k8 = 14
        · subst e85; first | rfl | (funext j8; rfl)
        simp [sA, e80, e81, e82, e83, e84, e85]
      rw [hSe_36] at hP hR
      exact g_iret (S1 := sA (sA (sA (sA (sA (sA S 9 (S 9)) 10 (S 10)) 11 (S 11)) 12 (S 12)) 13 (S 13)) 14 (S 14)) (v := zI (-103)) hx hb hr hlocks hP hR hS (⟨_, _, _, _, _, _, rfl, _, Or.inr (Or.inl ⟨by omega, by omega, rfl⟩), rfl⟩) dX7_far_45
  · have h9 : True := trivial
    have c_4 : ¬ (0 ≤ w ∧ w ≤ 3) := of_decide_eq_false c_4
    refine z_bipush hx hb dX7_far_12 (by decide) ?_
    have hSe_37 : S = sA (sA (sA (sA (sA (sA S 9 (S 9)) 10 (S 10)) 11 (S 11)) 12 (S 12)) 13 (S 13)) 14 (S 14) := by
      funext k8
      by_cases e80 : k8 = 9
      · subst e80; first | rfl | (funext j8; rfl)
      by_cases e81 : k8 = 10
      · subst e81; first | rfl | (funext j8; rfl)
      by_cases e82 : k8 = 11
      · subst e82; first | rfl | (funext j8; rfl)
      by_cases e83 : k8 = 12
      · subst e83; first | rfl | (funext j8; rfl)
      by_cases e84 : k8 = 13
      · subst e84; first | rfl | (funext j8; rfl)
      by_cases e85 : k8 = 14
      · subst e85; first | rfl | (funext j8; rfl)
      simp [sA, e80, e81, e82, e83, e84, e85]
    rw [hSe_37] at hP hR
    exact g_iret (S1 := sA (sA (sA (sA (sA (sA S 9 (S 9)) 10 (S 10)) 11 (S 11)) 12 (S 12)) 13 (S 13)) 14 (S 14)) (v := zI (-102)) hx hb hr hlocks hP hR hS (⟨_, _, _, _, _, _, rfl, _, Or.inl ⟨by omega, rfl⟩, rfl⟩) dX7_far_14
set_option maxHeartbeats 4000000 in
set_option maxRecDepth 100000 in
theorem k_X7_trim (l : Launch) (D : va_G) (cI : ClassId) (ad : Nat → Nat) (hinj : mInj ad) (S : St) (hR : RS S) (n : Nat) (hn : S 2 0 = ↑n) (hn7 : n ≤ 7) (N k0 : Nat) (hst : n ≠ 0 → STp n N k0 S) (h80 : 0 ≤ S 8 0) (hp : prm n (S 6)) (w : Int) (hw1 : -2147483648 ≤ w) (hw2 : w < 2147483648) : Met l yX7_trim (Cond.code yX7_trim cX7_trim 2 (some .int) :: lwT) ({ frames := 6, cells := 0, slots := 0, locals := 135 }) (gPc D (mW cI ad) (mE D cI) S [.ref (ad 26), .int (zI (w))]) (va_Qi (fun (r : Int32) (S' : St) => ∃ e9 e10, S' = sA (sA S 9 e9) 10 e10 ∧ ∃ v, trimR n N (S 5) (S 7) w v ∧ r = zI v) (gB D (mW cI ad)) (mA ad)) 0 0 (mA ad) := by
  refine Met.ofW (cc := cX7_trim) (maxL := 2) (ret := (some .int)) (by decide) rfl ?_
  intro p e s m args below meth c s₁ B hml hv
  obtain ⟨rfl, hP, hE⟩ := hv
  have hx := B.exec
  have hb := B.bytes
  have hr := B.returns
  have hts := atoms_spec (ws := Cond.code yX7_trim cX7_trim 2 (some .int) :: lwT) B.pre
  have hT := fun w (h : w ∈ lwT) => hts w (List.mem_cons_of_mem _ h)
  have hsub : ∀ w ∈ lwT, w ∈ (Cond.code yX7_trim cX7_trim 2 (some .int) :: lwT) := fun w h => List.mem_cons_of_mem _ h
  have hown : s.vm.findClass RX7 = some m.cls := findClass_of_methodNamed B.named
  have hlocks := B.notSynchronized
  have hK : va_K D vwCl [(cI, .int)] s := hE
  have hS : va_S (mA ad) s.heap s.heap [] := va_S.rf
  have hl := lv_entry ([.ref (ad 26), .int (zI (w))]) (n := 2) (Nat.le_of_ble_eq_true rfl)
  rw [lg_entry_eq]
  generalize (lg_sl ([.ref (ad 26), .int (zI (w))]) ++ List.replicate (2 - (lg_sl ([.ref (ad 26), .int (zI (w))])).length) Slot.unset).toArray = ls at hl ⊢
  have hl : lv_has ls 2 [(0, .ref (ad 26)), (1, .int (zI (w)))] := hl
  refine lv_iload_n hx hb dX7_trim_0 rfl (lv_at hl 1 rfl) ?_
  refine z_i2l hx hb (by omega) (by omega) dX7_trim_1 ?_
  refine lv_lconst (v := zL 0) hx hb dX7_trim_2 (by decide) ?_
  refine lv_lconst (v := zL 1) hx hb dX7_trim_3 (by decide) ?_
  refine s_callSi (As := [.long (zL (w)), .long (zL (0)), .long (zL (1))]) (rest := []) ⟨hx, hb, hml, hown, hts⟩ (k_X7_in l w 0 1 (by omega) (by omega) (by omega) (by omega) (by omega) (by omega)) (cwS 3 hts (gS hsub q_756 q_757 q_8 q_758) rfl rfl rfl hdX7_in ⟨Nat.le_of_ble_eq_true rfl, Nat.le_of_ble_eq_true rfl⟩) rfl hl.1 rfl (Nat.le_of_ble_eq_true rfl) dX7_trim_4 ⟨Nat.le_of_ble_eq_true rfl, Nat.le_of_ble_eq_true rfl⟩ (fun r_1 hq_3 => ?_)
  rw [hq_3]
  refine z_ifneB (tgt := 13) hx hb dX7_trim_7 (by decide) (fun c_4 => ?_) (fun c_4 => ?_)
  · have h9 : True := trivial
    have c_4 : 0 ≤ w ∧ w ≤ 1 := of_decide_eq_true c_4
    refine lv_aload_n hx hb dX7_trim_13 rfl (lv_at hl 0 rfl) ?_
    refine g_callVi (As := []) (rest := []) ⟨hx, hb, hml, hown, hts⟩ (k_X7_lacks l D cI ad hinj S hR ) (cwV 0 hts (gV hsub q_812 q_814 q_sX7_lacks q_8 q_815) rfl rfl rfl hdX7_lacks ⟨Nat.le_of_ble_eq_true rfl, Nat.le_of_ble_eq_true rfl⟩) (mEb D cI) (mEk D cI (mA ad)) hE (va_recv (ci := 7) (q0 := 0) hK hP rfl rfl) hP hS rfl hl.1 rfl (Nat.le_of_ble_eq_true rfl) dX7_trim_14 ⟨Nat.le_of_ble_eq_true rfl, Nat.le_of_ble_eq_true rfl⟩ (fun r_5 S_6 H locs hq_7 hP hR hS _ => ?_)
    obtain ⟨hs9, rfl⟩ := hq_7
    obtain rfl := hs9.symm
    refine z_top (b := b2 (decide (S 2 0 = 0))) rfl ?_
    refine z_ifeqB (tgt := 25) hx hb dX7_trim_17 (by decide) (fun c_8 => ?_) (fun c_8 => ?_)
    · have h9 : True := trivial
      have c_8 : ¬ (S 2 0 = 0) := of_decide_eq_false c_8
      obtain ⟨hN, hO, hk0, hk⟩ := hst (by omega)
      have hO1 := hO.1
      have hO2 := hO.2.1
      have hnz : n ≠ 0 := by omega
      refine lv_aload_n hx hb dX7_trim_25 rfl (lv_at hl 0 rfl) ?_
      refine lv_iload_n hx hb dX7_trim_26 rfl (lv_at hl 1 rfl) ?_
      refine g_callVi (As := [.int (zI (w))]) (rest := []) ⟨hx, hb, hml, hown, hts⟩ (k_X7_trimOf l D cI ad hinj S hR n hn hn7 N hN hO w (by omega) (by omega)) (cwV 1 hts (gV hsub q_886 q_888 q_sX7_trimOf q_8 q_889) rfl rfl rfl hdX7_trimOf ⟨Nat.le_of_ble_eq_true rfl, Nat.le_of_ble_eq_true rfl⟩) (mEb D cI) (mEk D cI (mA ad)) hE (va_recv (ci := 7) (q0 := 0) hK hP rfl rfl) hP hS rfl hl.1 rfl (Nat.le_of_ble_eq_true rfl) dX7_trim_27 ⟨Nat.le_of_ble_eq_true rfl, Nat.le_of_ble_eq_true rfl⟩ (fun r_9 S_10 H locs hq_11 hP hR hS _ => ?_)
      obtain ⟨e_12, e_13, rfl, x_14, hA_15, rfl⟩ := hq_11
      refine z_top (b := if x_14 = -1 ∨ w = 0 then x_14 else wmF n (S 5) (dgF n (S 7 x_14.toNat))) rfl ?_
      exact g_iret (S1 := sA (sA S 9 e_12) 10 e_13) (v := zI (if x_14 = -1 ∨ w = 0 then x_14 else wmF n (S 5) (dgF n (S 7 x_14.toNat)))) hx hb hr hlocks hP hR hS (⟨_, _, rfl, _, Or.inr (Or.inr ⟨by omega, hnz, _, hA_15, rfl⟩), rfl⟩) dX7_trim_30
    · have h9 : True := trivial
      have c_8 : S 2 0 = 0 := of_decide_eq_true c_8
      refine z_bipush hx hb dX7_trim_20 (by decide) ?_
      refine lv_goto (tgt := 30) hx hb dX7_trim_22 (by decide) ?_
      have hSe_16 : S = sA (sA S 9 (S 9)) 10 (S 10) := by
        funext k8
        by_cases e80 : k8 = 9
        · subst e80; first | rfl | (funext j8; rfl)
        by_cases e81 : k8 = 10
        · subst e81; first | rfl | (funext j8; rfl)
        simp [sA, e80, e81]
      rw [hSe_16] at hP hR
      exact g_iret (S1 := sA (sA S 9 (S 9)) 10 (S 10)) (v := zI (-103)) hx hb hr hlocks hP hR hS (⟨_, _, rfl, _, Or.inr (Or.inl ⟨by omega, by omega, rfl⟩), rfl⟩) dX7_trim_30
  · have h9 : True := trivial
    have c_4 : ¬ (0 ≤ w ∧ w ≤ 1) := of_decide_eq_false c_4
    refine z_bipush hx hb dX7_trim_10 (by decide) ?_
    have hSe_17 : S = sA (sA S 9 (S 9)) 10 (S 10) := by
      funext k8
      by_cases e80 : k8 = 9
      · subst e80; first | rfl | (funext j8; rfl)
      by_cases e81 : k8 = 10
      · subst e81; first | rfl | (funext j8; rfl)
      simp [sA, e80, e81]
    rw [hSe_17] at hP hR
    exact g_iret (S1 := sA (sA S 9 (S 9)) 10 (S 10)) (v := zI (-102)) hx hb hr hlocks hP hR hS (⟨_, _, rfl, _, Or.inl ⟨by omega, rfl⟩, rfl⟩) dX7_trim_12
set_option maxHeartbeats 4000000 in
set_option maxRecDepth 100000 in
theorem k_X7_could (l : Launch) (D : va_G) (cI : ClassId) (ad : Nat → Nat) (hinj : mInj ad) (S : St) (hR : RS S) (n : Nat) (hn : S 2 0 = ↑n) (hn7 : n ≤ 7) (N k0 : Nat) (hst : n ≠ 0 → STp n N k0 S) (h80 : 0 ≤ S 8 0) (hp : prm n (S 6)) (m9 : Nat) (hm9 : S 15 0 = ↑m9) (hsg : sgOK n (S 16) m9) : Met l yX7_could (Cond.code yX7_could cX7_could 1 (some .int) :: lwT) ({ frames := 3, cells := 0, slots := 0, locals := 70 }) (gPc D (mW cI ad) (mE D cI) S [.ref (ad 26)]) (va_Qi (fun (r : Int32) (S' : St) => ∃ e10, S' = sA S 10 e10 ∧ r = zI (coF n N (S 7) (S 16) m9)) (gB D (mW cI ad)) (mA ad)) 0 0 (mA ad) := by
  refine Met.ofW (cc := cX7_could) (maxL := 1) (ret := (some .int)) (by decide) rfl ?_
  intro p e s m args below meth c s₁ B hml hv
  obtain ⟨rfl, hP, hE⟩ := hv
  have hx := B.exec
  have hb := B.bytes
  have hr := B.returns
  have hts := atoms_spec (ws := Cond.code yX7_could cX7_could 1 (some .int) :: lwT) B.pre
  have hT := fun w (h : w ∈ lwT) => hts w (List.mem_cons_of_mem _ h)
  have hsub : ∀ w ∈ lwT, w ∈ (Cond.code yX7_could cX7_could 1 (some .int) :: lwT) := fun w h => List.mem_cons_of_mem _ h
  have hown : s.vm.findClass RX7 = some m.cls := findClass_of_methodNamed B.named
  have hlocks := B.notSynchronized
  have hK : va_K D vwCl [(cI, .int)] s := hE
  have hS : va_S (mA ad) s.heap s.heap [] := va_S.rf
  have hl := lv_entry ([.ref (ad 26)]) (n := 1) (Nat.le_of_ble_eq_true rfl)
  rw [lg_entry_eq]
  generalize (lg_sl ([.ref (ad 26)]) ++ List.replicate (1 - (lg_sl ([.ref (ad 26)])).length) Slot.unset).toArray = ls at hl ⊢
  have hl : lv_has ls 1 [(0, .ref (ad 26))] := hl
  refine lv_aload_n hx hb dX7_could_0 rfl (lv_at hl 0 rfl) ?_
  refine g_callVi (As := []) (rest := []) ⟨hx, hb, hml, hown, hts⟩ (k_X7_lacks l D cI ad hinj S hR ) (cwV 0 hts (gV hsub q_812 q_814 q_sX7_lacks q_8 q_815) rfl rfl rfl hdX7_lacks ⟨Nat.le_of_ble_eq_true rfl, Nat.le_of_ble_eq_true rfl⟩) (mEb D cI) (mEk D cI (mA ad)) hE (va_recv (ci := 7) (q0 := 0) hK hP rfl rfl) hP hS rfl hl.1 rfl (Nat.le_of_ble_eq_true rfl) dX7_could_1 ⟨Nat.le_of_ble_eq_true rfl, Nat.le_of_ble_eq_true rfl⟩ (fun r_1 S_2 H locs hq_3 hP hR hS _ => ?_)
  obtain ⟨hs9, rfl⟩ := hq_3
  obtain rfl := hs9.symm
  refine z_top (b := b2 (decide (S 2 0 = 0))) rfl ?_
  refine z_ifeqB (tgt := 12) hx hb dX7_could_4 (by decide) (fun c_4 => ?_) (fun c_4 => ?_)
  · have h9 : True := trivial
    have c_4 : ¬ (S 2 0 = 0) := of_decide_eq_false c_4
    obtain ⟨hN, hO, hk0, hk⟩ := hst (by omega)
    have hO1 := hO.1
    have hO2 := hO.2.1
    have hnz : n ≠ 0 := by omega
    refine lv_aload_n hx hb dX7_could_12 rfl (lv_at hl 0 rfl) ?_
    refine g_callVi (As := []) (rest := []) ⟨hx, hb, hml, hown, hts⟩ (k_X7_couldOf l D cI ad hinj S hR n hn hn7 N hN hO m9 hm9 hsg) (cwV 0 hts (gV hsub q_1001 q_1003 q_sX7_couldOf q_8 q_1004) rfl rfl rfl hdX7_couldOf ⟨Nat.le_of_ble_eq_true rfl, Nat.le_of_ble_eq_true rfl⟩) (mEb D cI) (mEk D cI (mA ad)) hE (va_recv (ci := 7) (q0 := 0) hK hP rfl rfl) hP hS rfl hl.1 rfl (Nat.le_of_ble_eq_true rfl) dX7_could_13 ⟨Nat.le_of_ble_eq_true rfl, Nat.le_of_ble_eq_true rfl⟩ (fun r_5 S_6 H locs hq_7 hP hR hS _ => ?_)
    obtain ⟨e_8, rfl, rfl⟩ := hq_7
    refine z_top (b := cnt (fun k => pB (lkP n (dgF n (S 7 k)) (S 16) m9)) N) rfl ?_
    exact g_iret (S1 := sA S 10 e_8) (v := zI (cnt (fun k => pB (lkP n (dgF n (S 7 k)) (S 16) m9)) N)) hx hb hr hlocks hP hR hS (⟨_, rfl, by unfold coF; rw [if_neg (by omega)]⟩) dX7_could_16
  · have h9 : True := trivial
    have c_4 : S 2 0 = 0 := of_decide_eq_true c_4
    refine z_bipush hx hb dX7_could_7 (by decide) ?_
    refine lv_goto (tgt := 16) hx hb dX7_could_9 (by decide) ?_
    have hSe_9 : S = sA S 10 (S 10) := by
      funext k8
      by_cases e80 : k8 = 10
      · subst e80; first | rfl | (funext j8; rfl)
      simp [sA, e80]
    rw [hSe_9] at hP hR
    exact g_iret (S1 := sA S 10 (S 10)) (v := zI (-103)) hx hb hr hlocks hP hR hS (⟨_, rfl, by unfold coF; rw [if_pos (by omega)]⟩) dX7_could_16
set_option maxHeartbeats 4000000 in
set_option maxRecDepth 100000 in
theorem k_X7_trial (l : Launch) (D : va_G) (cI : ClassId) (ad : Nat → Nat) (hinj : mInj ad) (S : St) (hR : RS S) (n : Nat) (hn : S 2 0 = ↑n) (hn7 : n ≤ 7) (N k0 : Nat) (hst : n ≠ 0 → STp n N k0 S) (h80 : 0 ≤ S 8 0) (hp : prm n (S 6)) (m9 : Nat) (hm9 : S 15 0 = ↑m9) (hsg : sgOK n (S 16) m9) : Met l yX7_trial (Cond.code yX7_trial cX7_trial 1 (some .int) :: lwT) ({ frames := 4, cells := 0, slots := 0, locals := 98 }) (gPc D (mW cI ad) (mE D cI) S [.ref (ad 26)]) (va_Qi (fun (r : Int32) (S' : St) => ∃ e10, S' = sA S 10 e10 ∧ ∃ v, trialR n N (S 7) (S 16) m9 v ∧ r = zI v) (gB D (mW cI ad)) (mA ad)) 0 0 (mA ad) := by
  refine Met.ofW (cc := cX7_trial) (maxL := 1) (ret := (some .int)) (by decide) rfl ?_
  intro p e s m args below meth c s₁ B hml hv
  obtain ⟨rfl, hP, hE⟩ := hv
  have hx := B.exec
  have hb := B.bytes
  have hr := B.returns
  have hts := atoms_spec (ws := Cond.code yX7_trial cX7_trial 1 (some .int) :: lwT) B.pre
  have hT := fun w (h : w ∈ lwT) => hts w (List.mem_cons_of_mem _ h)
  have hsub : ∀ w ∈ lwT, w ∈ (Cond.code yX7_trial cX7_trial 1 (some .int) :: lwT) := fun w h => List.mem_cons_of_mem _ h
  have hown : s.vm.findClass RX7 = some m.cls := findClass_of_methodNamed B.named
  have hlocks := B.notSynchronized
  have hK : va_K D vwCl [(cI, .int)] s := hE
  have hS : va_S (mA ad) s.heap s.heap [] := va_S.rf
  have hl := lv_entry ([.ref (ad 26)]) (n := 1) (Nat.le_of_ble_eq_true rfl)
  rw [lg_entry_eq]
  generalize (lg_sl ([.ref (ad 26)]) ++ List.replicate (1 - (lg_sl ([.ref (ad 26)])).length) Slot.unset).toArray = ls at hl ⊢
  have hl : lv_has ls 1 [(0, .ref (ad 26))] := hl
  refine lv_aload_n hx hb dX7_trial_0 rfl (lv_at hl 0 rfl) ?_
  refine g_callVi (As := []) (rest := []) ⟨hx, hb, hml, hown, hts⟩ (k_X7_lacks l D cI ad hinj S hR ) (cwV 0 hts (gV hsub q_812 q_814 q_sX7_lacks q_8 q_815) rfl rfl rfl hdX7_lacks ⟨Nat.le_of_ble_eq_true rfl, Nat.le_of_ble_eq_true rfl⟩) (mEb D cI) (mEk D cI (mA ad)) hE (va_recv (ci := 7) (q0 := 0) hK hP rfl rfl) hP hS rfl hl.1 rfl (Nat.le_of_ble_eq_true rfl) dX7_trial_1 ⟨Nat.le_of_ble_eq_true rfl, Nat.le_of_ble_eq_true rfl⟩ (fun r_1 S_2 H locs hq_3 hP hR hS _ => ?_)
  obtain ⟨hs9, rfl⟩ := hq_3
  obtain rfl := hs9.symm
  refine z_top (b := b2 (decide (S 2 0 = 0))) rfl ?_
  refine z_ifeqB (tgt := 12) hx hb dX7_trial_4 (by decide) (fun c_4 => ?_) (fun c_4 => ?_)
  · have h9 : True := trivial
    have c_4 : ¬ (S 2 0 = 0) := of_decide_eq_false c_4
    obtain ⟨hN, hO, hk0, hk⟩ := hst (by omega)
    have hO1 := hO.1
    have hO2 := hO.2.1
    have hnz : n ≠ 0 := by omega
    refine lv_aload_n hx hb dX7_trial_12 rfl (lv_at hl 0 rfl) ?_
    refine g_callVi (As := []) (rest := []) ⟨hx, hb, hml, hown, hts⟩ (k_X7_trialOf l D cI ad hinj S hR n hn hn7 N hN hO m9 hm9 hsg) (cwV 0 hts (gV hsub q_1013 q_1015 q_sX7_trialOf q_8 q_1016) rfl rfl rfl hdX7_trialOf ⟨Nat.le_of_ble_eq_true rfl, Nat.le_of_ble_eq_true rfl⟩) (mEb D cI) (mEk D cI (mA ad)) hE (va_recv (ci := 7) (q0 := 0) hK hP rfl rfl) hP hS rfl hl.1 rfl (Nat.le_of_ble_eq_true rfl) dX7_trial_13 ⟨Nat.le_of_ble_eq_true rfl, Nat.le_of_ble_eq_true rfl⟩ (fun r_5 S_6 H locs hq_7 hP hR hS _ => ?_)
    obtain ⟨e_8, rfl, x_9, hA_10, rfl⟩ := hq_7
    refine z_top (b := trF n x_9) rfl ?_
    exact g_iret (S1 := sA S 10 e_8) (v := zI (trF n x_9)) hx hb hr hlocks hP hR hS (⟨_, rfl, _, Or.inr ⟨hnz, _, hA_10, rfl⟩, rfl⟩) dX7_trial_16
  · have h9 : True := trivial
    have c_4 : S 2 0 = 0 := of_decide_eq_true c_4
    refine z_bipush hx hb dX7_trial_7 (by decide) ?_
    refine lv_goto (tgt := 16) hx hb dX7_trial_9 (by decide) ?_
    have hSe_11 : S = sA S 10 (S 10) := by
      funext k8
      by_cases e80 : k8 = 10
      · subst e80; first | rfl | (funext j8; rfl)
      simp [sA, e80]
    rw [hSe_11] at hP hR
    exact g_iret (S1 := sA S 10 (S 10)) (v := zI (-103)) hx hb hr hlocks hP hR hS (⟨_, rfl, _, Or.inl ⟨by omega, rfl⟩, rfl⟩) dX7_trial_16
set_option maxHeartbeats 4000000 in
set_option maxRecDepth 100000 in
theorem k_X7_count (l : Launch) (D : va_G) (cI : ClassId) (ad : Nat → Nat) (hinj : mInj ad) (S : St) (hR : RS S) (n : Nat) (hn : S 2 0 = ↑n) (hn7 : n ≤ 7) (N k0 : Nat) (hst : n ≠ 0 → STp n N k0 S) (h80 : 0 ≤ S 8 0) (hp : prm n (S 6)) (w : Int) (hw1 : -2147483648 ≤ w) (hw2 : w < 2147483648) : Met l yX7_count (Cond.code yX7_count cX7_count 2 (some .int) :: lwT) ({ frames := 5, cells := 0, slots := 0, locals := 113 }) (gPc D (mW cI ad) (mE D cI) S [.ref (ad 26), .int (zI (w))]) (va_Qi (fun (r : Int32) (S' : St) => ∃ e9 e11, S' = sA (sA S 9 e9) 11 e11 ∧ r = zI (ctF n (S 5) (S 6) (S 3 0) (S 15 0) (S 1 0) (S 4 0) w)) (gB D (mW cI ad)) (mA ad)) 0 0 (mA ad) := by
  refine Met.ofW (cc := cX7_count) (maxL := 2) (ret := (some .int)) (by decide) rfl ?_
  intro p e s m args below meth c s₁ B hml hv
  obtain ⟨rfl, hP, hE⟩ := hv
  have hx := B.exec
  have hb := B.bytes
  have hr := B.returns
  have hts := atoms_spec (ws := Cond.code yX7_count cX7_count 2 (some .int) :: lwT) B.pre
  have hT := fun w (h : w ∈ lwT) => hts w (List.mem_cons_of_mem _ h)
  have hsub : ∀ w ∈ lwT, w ∈ (Cond.code yX7_count cX7_count 2 (some .int) :: lwT) := fun w h => List.mem_cons_of_mem _ h
  have hown : s.vm.findClass RX7 = some m.cls := findClass_of_methodNamed B.named
  have hlocks := B.notSynchronized
  have hK : va_K D vwCl [(cI, .int)] s := hE
  have hS : va_S (mA ad) s.heap s.heap [] := va_S.rf
  have hl := lv_entry ([.ref (ad 26), .int (zI (w))]) (n := 2) (Nat.le_of_ble_eq_true rfl)
  rw [lg_entry_eq]
  generalize (lg_sl ([.ref (ad 26), .int (zI (w))]) ++ List.replicate (2 - (lg_sl ([.ref (ad 26), .int (zI (w))])).length) Slot.unset).toArray = ls at hl ⊢
  have hl : lv_has ls 2 [(0, .ref (ad 26)), (1, .int (zI (w)))] := hl
  refine lv_aload_n hx hb dX7_count_0 rfl (lv_at hl 0 rfl) ?_
  refine lv_iload_n hx hb dX7_count_1 rfl (lv_at hl 1 rfl) ?_
  refine g_callVi (As := [.int (zI (w))]) (rest := []) ⟨hx, hb, hml, hown, hts⟩ (k_X7_countOf l D cI ad hinj S hR n hn hn7 (hp) w (by omega) (by omega)) (cwV 1 hts (gV hsub q_1047 q_1049 q_sX7_countOf q_8 q_1050) rfl rfl rfl hdX7_countOf ⟨Nat.le_of_ble_eq_true rfl, Nat.le_of_ble_eq_true rfl⟩) (mEb D cI) (mEk D cI (mA ad)) hE (va_recv (ci := 7) (q0 := 0) hK hP rfl rfl) hP hS rfl hl.1 rfl (Nat.le_of_ble_eq_true rfl) dX7_count_2 ⟨Nat.le_of_ble_eq_true rfl, Nat.le_of_ble_eq_true rfl⟩ (fun r_1 S_2 H locs hq_3 hP hR hS _ => ?_)
  obtain ⟨e_4, e_5, rfl, rfl⟩ := hq_3
  refine z_top (b := ctF n (S 5) (S 6) (S 3 0) (S 15 0) (S 1 0) (S 4 0) w) rfl ?_
  exact g_iret (S1 := sA (sA S 9 e_4) 11 e_5) (v := zI (ctF n (S 5) (S 6) (S 3 0) (S 15 0) (S 1 0) (S 4 0) w)) hx hb hr hlocks hP hR hS (⟨_, _, rfl, rfl⟩) dX7_count_5
set_option maxHeartbeats 4000000 in
set_option maxRecDepth 100000 in
theorem k_X7_forget (l : Launch) (D : va_G) (cI : ClassId) (ad : Nat → Nat) (hinj : mInj ad) (S : St) (hR : RS S)  : Met l yX7_forget (Cond.code yX7_forget cX7_forget 2 (some .int) :: lwT) ({ frames := 0, cells := 0, slots := 0, locals := 0 }) (gPc D (mW cI ad) (mE D cI) S [.ref (ad 26)]) (va_Qi (fun (r : Int32) (S' : St) => S' = sA S 15 (fun _ => 0) ∧ r = zI (S 15 0)) (gB D (mW cI ad)) (mA ad)) 0 0 (mA ad) := by
  refine Met.ofW (cc := cX7_forget) (maxL := 2) (ret := (some .int)) (by decide) rfl ?_
  intro p e s m args below meth c s₁ B hml hv
  obtain ⟨rfl, hP, hE⟩ := hv
  have hx := B.exec
  have hb := B.bytes
  have hr := B.returns
  have hts := atoms_spec (ws := Cond.code yX7_forget cX7_forget 2 (some .int) :: lwT) B.pre
  have hT := fun w (h : w ∈ lwT) => hts w (List.mem_cons_of_mem _ h)
  have hsub : ∀ w ∈ lwT, w ∈ (Cond.code yX7_forget cX7_forget 2 (some .int) :: lwT) := fun w h => List.mem_cons_of_mem _ h
  have hown : s.vm.findClass RX7 = some m.cls := findClass_of_methodNamed B.named
  have hlocks := B.notSynchronized
  have hK : va_K D vwCl [(cI, .int)] s := hE
  have hS : va_S (mA ad) s.heap s.heap [] := va_S.rf
  have hl := lv_entry ([.ref (ad 26)]) (n := 2) (Nat.le_of_ble_eq_true rfl)
  rw [lg_entry_eq]
  generalize (lg_sl ([.ref (ad 26)]) ++ List.replicate (2 - (lg_sl ([.ref (ad 26)])).length) Slot.unset).toArray = ls at hl ⊢
  have hl : lv_has ls 2 [(0, .ref (ad 26))] := hl
  refine lv_aload_n hx hb dX7_forget_0 rfl (lv_at hl 0 rfl) ?_
  have g_1 : -2147483648 ≤ S 15 0 ∧ S 15 0 < 2147483648 := hR 15 0 (by decide)
  refine va_get (D := D) (ci := 7) (v := .int (zI (S 15 0))) (C := RX7) (T := TX7) (N := 26) hx hb hT inX7 hown hK hP 0 rfl rfl 15 (by decide) (hT _ q_687) (fun _ h9 => h9) rfl dX7_forget_1 ?_
  refine lv_istore_n (lv' := [(1, .int (zI (S 15 0))), (0, .ref (ad 26))]) hx hb dX7_forget_4 rfl hl (by decide) rfl (fun ls hl => ?_)
  refine lv_aload_n hx hb dX7_forget_5 rfl (lv_at hl 1 rfl) ?_
  refine z_iconst hx hb dX7_forget_6 ?_
  refine va_put (D := D) (ci := 7) (v := .int (zI (0))) (ty := .int) (C := RX7) (T := TX7) (N := 26) hx hb hT inX7 tyX7 tyX7_ok nmX7 hown hK hP (mD hinj cI _) hS 0 rfl rfl 15 (by decide) (hT _ q_687) (fun _ h9 => h9) rfl (by decide +kernel) rfl rfl (Nat.le_of_ble_eq_true rfl) dX7_forget_7 (fun H locs hP _ hS => ?_)
  have hP : va_P D vwCl (mW cI ad (sA S 15 (fun _ => 0))) H := hP
  have hR : RS (sA S 15 (fun _ => 0)) := hR.one (by omega) (by omega)
  refine lv_iload_n hx hb dX7_forget_10 rfl (lv_at hl 0 rfl) ?_
  exact g_iret (S1 := sA S 15 (fun _ => 0)) (v := zI (S 15 0)) hx hb hr hlocks hP hR hS (⟨rfl, rfl⟩) dX7_forget_11
set_option maxHeartbeats 4000000 in
set_option maxRecDepth 100000 in
theorem k_X7_move (l : Launch) (D : va_G) (cI : ClassId) (ad : Nat → Nat) (hinj : mInj ad) (S : St) (hR : RS S) (n : Nat) (hn : S 2 0 = ↑n) (hn7 : n ≤ 7) (N k0 : Nat) (hst : n ≠ 0 → STp n N k0 S) (h80 : 0 ≤ S 8 0) (hp : prm n (S 6)) (hmv : 0 ≤ S 3 0 ∧ S 3 0 ≤ 999) (x y : Int) (hx1 : -2147483648 ≤ x) (hx2 : x < 2147483648) (hy1 : -2147483648 ≤ y) (hy2 : y < 2147483648) : Met l yX7_move (Cond.code yX7_move cX7_move 3 (some .int) :: lwT) ({ frames := 3, cells := 0, slots := 0, locals := 70 }) (gPc D (mW cI ad) (mE D cI) S [.ref (ad 26), .int (zI (x)), .int (zI (y))]) (va_Qi (fun (r : Int32) (S' : St) => ∃ e9 e11 e6 e3, S' = sA (sA (sA (sA S 9 e9) 11 e11) 6 e6) 3 e3 ∧ ∃ v, moveR n (S 5) (S 6) (S 3 0) x y v e6 (e3 0) ∧ r = zI v) (gB D (mW cI ad)) (mA ad)) 0 0 (mA ad) := by
  refine Met.ofW (cc := cX7_move) (maxL := 3) (ret := (some .int)) (by decide) rfl ?_
  intro p e s m args below meth c s₁ B hml hv
  obtain ⟨rfl, hP, hE⟩ := hv
  have hx := B.exec
  have hb := B.bytes
  have hr := B.returns
  have hts := atoms_spec (ws := Cond.code yX7_move cX7_move 3 (some .int) :: lwT) B.pre
  have hT := fun w (h : w ∈ lwT) => hts w (List.mem_cons_of_mem _ h)
  have hsub : ∀ w ∈ lwT, w ∈ (Cond.code yX7_move cX7_move 3 (some .int) :: lwT) := fun w h => List.mem_cons_of_mem _ h
  have hown : s.vm.findClass RX7 = some m.cls := findClass_of_methodNamed B.named
  have hlocks := B.notSynchronized
  have hK : va_K D vwCl [(cI, .int)] s := hE
  have hS : va_S (mA ad) s.heap s.heap [] := va_S.rf
  have hl := lv_entry ([.ref (ad 26), .int (zI (x)), .int (zI (y))]) (n := 3) (Nat.le_of_ble_eq_true rfl)
  rw [lg_entry_eq]
  generalize (lg_sl ([.ref (ad 26), .int (zI (x)), .int (zI (y))]) ++ List.replicate (3 - (lg_sl ([.ref (ad 26), .int (zI (x)), .int (zI (y))])).length) Slot.unset).toArray = ls at hl ⊢
  have hl : lv_has ls 3 [(0, .ref (ad 26)), (1, .int (zI (x))), (2, .int (zI (y)))] := hl
  refine lv_aload_n hx hb dX7_move_0 rfl (lv_at hl 0 rfl) ?_
  refine lv_iload_n hx hb dX7_move_1 rfl (lv_at hl 1 rfl) ?_
  refine g_callVi (As := [.int (zI (x))]) (rest := []) ⟨hx, hb, hml, hown, hts⟩ (k_X7_isLeaf l D cI ad hinj S hR x (by omega) (by omega) (by omega)) (cwV 1 hts (gV hsub q_906 q_908 q_sX7_isLeaf q_8 q_909) rfl rfl rfl hdX7_isLeaf ⟨Nat.le_of_ble_eq_true rfl, Nat.le_of_ble_eq_true rfl⟩) (mEb D cI) (mEk D cI (mA ad)) hE (va_recv (ci := 7) (q0 := 0) hK hP rfl rfl) hP hS rfl hl.1 rfl (Nat.le_of_ble_eq_true rfl) dX7_move_2 ⟨Nat.le_of_ble_eq_true rfl, Nat.le_of_ble_eq_true rfl⟩ (fun r_1 S_2 H locs hq_3 hP hR hS _ => ?_)
  obtain ⟨hs9, rfl⟩ := hq_3
  obtain rfl := hs9.symm
  refine z_top (b := b2 (decide (0 ≤ x ∧ x ≤ S 2 0 - 1))) rfl ?_
  refine z_ifeqB (tgt := 16) hx hb dX7_move_5 (by decide) (fun c_4 => ?_) (fun c_4 => ?_)
  · have h9 : True := trivial
    have c_4 : ¬ (0 ≤ x ∧ x ≤ S 2 0 - 1) := of_decide_eq_false c_4
    refine z_bipush hx hb dX7_move_16 (by decide) ?_
    have hSe_5 : S = sA (sA (sA (sA S 9 (S 9)) 11 (S 11)) 6 (S 6)) 3 (S 3) := by
      funext k8
      by_cases e80 : k8 = 9
      · subst e80; first | rfl | (funext j8; rfl)
      by_cases e81 : k8 = 11
      · subst e81; first | rfl | (funext j8; rfl)
      by_cases e82 : k8 = 6
      · subst e82; first | rfl | (funext j8; rfl)
      by_cases e83 : k8 = 3
      · subst e83; first | rfl | (funext j8; rfl)
      simp [sA, e80, e81, e82, e83]
    rw [hSe_5] at hP hR
    exact g_iret (S1 := sA (sA (sA (sA S 9 (S 9)) 11 (S 11)) 6 (S 6)) 3 (S 3)) (v := zI (-101)) hx hb hr hlocks hP hR hS (⟨_, _, _, _, rfl, _, Or.inl ⟨by unfold isL; omega, rfl, rfl, rfl⟩, rfl⟩) dX7_move_18
  · have h9 : True := trivial
    have c_4 : 0 ≤ x ∧ x ≤ S 2 0 - 1 := of_decide_eq_true c_4
    refine lv_aload_n hx hb dX7_move_8 rfl (lv_at hl 0 rfl) ?_
    refine lv_iload_n hx hb dX7_move_9 rfl (lv_at hl 2 rfl) ?_
    refine g_callVi (As := [.int (zI (y))]) (rest := []) ⟨hx, hb, hml, hown, hts⟩ (k_X7_isLeaf l D cI ad hinj S hR y (by omega) (by omega) (by omega)) (cwV 1 hts (gV hsub q_906 q_908 q_sX7_isLeaf q_8 q_909) rfl rfl rfl hdX7_isLeaf ⟨Nat.le_of_ble_eq_true rfl, Nat.le_of_ble_eq_true rfl⟩) (mEb D cI) (mEk D cI (mA ad)) hE (va_recv (ci := 7) (q0 := 0) hK hP rfl rfl) hP hS rfl hl.1 rfl (Nat.le_of_ble_eq_true rfl) dX7_move_10 ⟨Nat.le_of_ble_eq_true rfl, Nat.le_of_ble_eq_true rfl⟩ (fun r_6 S_7 H locs hq_8 hP hR hS _ => ?_)
    obtain ⟨hs9, rfl⟩ := hq_8
    obtain rfl := hs9.symm
    refine z_top (b := b2 (decide (0 ≤ y ∧ y ≤ S 2 0 - 1))) rfl ?_
    refine z_ifneB (tgt := 19) hx hb dX7_move_13 (by decide) (fun c_9 => ?_) (fun c_9 => ?_)
    · have h9 : True := trivial
      have c_9 : 0 ≤ y ∧ y ≤ S 2 0 - 1 := of_decide_eq_true c_9
      refine lv_aload_n hx hb dX7_move_19 rfl (lv_at hl 0 rfl) ?_
      refine lv_aload_n hx hb dX7_move_20 rfl (lv_at hl 0 rfl) ?_
      refine va_get (D := D) (ci := 7) (v := .ref (ad 6)) (C := RX7) (T := TX7) (N := 26) hx hb hT inX7 hown hK hP 0 rfl rfl 6 (by decide) (hT _ q_678) (fun _ h9 => h9) rfl dX7_move_21 ?_
      refine lv_iload_n hx hb dX7_move_24 rfl (lv_at hl 1 rfl) ?_
      refine lv_iload_n hx hb dX7_move_25 rfl (lv_at hl 2 rfl) ?_
      refine g_callVi (As := [.ref (ad 6), .int (zI (x)), .int (zI (y))]) (rest := []) ⟨hx, hb, hml, hown, hts⟩ (k_X7_codeBy_6 l D cI ad hinj S hR n hn hn7 hp x.toNat y.toNat x y (by omega) (by omega) (by omega) (by omega)) (cwV 3 hts (gV hsub q_836 q_838 q_sX7_codeBy q_8 q_839) rfl rfl rfl hdX7_codeBy ⟨Nat.le_of_ble_eq_true rfl, Nat.le_of_ble_eq_true rfl⟩) (mEb D cI) (mEk D cI (mA ad)) hE (va_recv (ci := 7) (q0 := 0) hK hP rfl rfl) hP hS rfl hl.1 rfl (Nat.le_of_ble_eq_true rfl) dX7_move_26 ⟨Nat.le_of_ble_eq_true rfl, Nat.le_of_ble_eq_true rfl⟩ (fun r_10 S_11 H locs hq_12 hP hR hS _ => ?_)
      obtain ⟨f_13, g_14, rfl, rfl⟩ := hq_12
      refine z_top (b := cbF n (S 6) x.toNat y.toNat) rfl ?_
      have hcr := cbF_r hn7 hp (v := x.toNat) (q := y.toNat) (by omega) (by omega)
      refine z_iconst hx hb dX7_move_29 ?_
      refine z_icmp_ne (tgt := 36) hx hb (by omega) (by omega) (by omega) (by omega) dX7_move_30 (by decide) (fun c_15 => ?_) (fun c_15 => ?_)
      · have h9 : True := trivial
        refine lv_aload_n hx hb dX7_move_36 rfl (lv_at hl 0 rfl) ?_
        have g_16 : -2147483648 ≤ S 3 0 ∧ S 3 0 < 2147483648 := hR 3 0 (by decide)
        refine va_get (D := D) (ci := 7) (v := .int (zI (S 3 0))) (C := RX7) (T := TX7) (N := 26) hx hb hT inX7 hown hK hP 0 rfl rfl 3 (by decide) (hT _ q_675) (fun _ h9 => h9) rfl dX7_move_37 ?_
        refine z_sipush hx hb dX7_move_40 (by decide) ?_
        refine z_icmp_ne (tgt := 49) hx hb (by omega) (by omega) (by omega) (by omega) dX7_move_43 (by decide) (fun c_17 => ?_) (fun c_17 => ?_)
        · have h9 : True := trivial
          refine lv_aload_n hx hb dX7_move_49 rfl (lv_at hl 0 rfl) ?_
          refine va_get (D := D) (ci := 7) (v := .ref (ad 6)) (C := RX7) (T := TX7) (N := 26) hx hb hT inX7 hown hK hP 0 rfl rfl 6 (by decide) (hT _ q_678) (fun _ h9 => h9) rfl dX7_move_50 ?_
          refine lv_iload_n hx hb dX7_move_53 rfl (lv_at hl 1 rfl) ?_
          refine lv_iload_n hx hb dX7_move_54 rfl (lv_at hl 2 rfl) ?_
          refine g_callSv (As := [.ref (ad 6), .int (zI (x)), .int (zI (y))]) (rest := []) ⟨hx, hb, hml, hown, hts⟩ (k_X7_shift_6 l D cI ad hinj (sA (sA S 11 f_13) 9 g_14) hR n hn7 hp x.toNat y.toNat x y (by omega) (by omega) (by omega) (by omega)) (cwS 3 hts (gS hsub q_846 q_847 q_8 q_848) rfl rfl rfl hdX7_shift ⟨Nat.le_of_ble_eq_true rfl, Nat.le_of_ble_eq_true rfl⟩) (mEb D cI) (mEk D cI (mA ad)) hE hP hS rfl hl.1 rfl (Nat.le_of_ble_eq_true rfl) dX7_move_55 ⟨Nat.le_of_ble_eq_true rfl, Nat.le_of_ble_eq_true rfl⟩ (fun S_19 H locs hq_20 hP hR hS _ => ?_)
          obtain rfl := hq_20
          have hP : va_P D vwCl (mW cI ad (sA (sA (sA S 11 f_13) 9 g_14) 6 (shF (S 6) (pl n (S 6) x.toNat) y.toNat))) H := hP
          have hR : RS (sA (sA (sA S 11 f_13) 9 g_14) 6 (shF (S 6) (pl n (S 6) x.toNat) y.toNat)) := hR
          have hps := shF_prm hp (pl_lt hp (v := x.toNat) (by omega)) (q := y.toNat) (by omega)
          refine lv_aload_n hx hb dX7_move_58 rfl (lv_at hl 0 rfl) ?_
          refine lv_dup hx hb dX7_move_59 rfl ?_
          refine va_get (D := D) (ci := 7) (v := .int (zI (S 3 0))) (C := RX7) (T := TX7) (N := 26) hx hb hT inX7 hown hK hP 0 rfl rfl 3 (by decide) (hT _ q_675) (fun _ h9 => h9) rfl dX7_move_60 ?_
          refine z_iconst hx hb dX7_move_63 ?_
          refine z_iadd hx hb dX7_move_64 ?_
          refine va_put (D := D) (ci := 7) (v := .int (zI ((S 3 0) + 1))) (ty := .int) (C := RX7) (T := TX7) (N := 26) hx hb hT inX7 tyX7 tyX7_ok nmX7 hown hK hP (mD hinj cI _) hS 0 rfl rfl 3 (by decide) (hT _ q_675) (fun _ h9 => h9) rfl (by decide +kernel) rfl rfl (Nat.le_of_ble_eq_true rfl) dX7_move_65 (fun H locs hP _ hS => ?_)
          have hP : va_P D vwCl (mW cI ad (sA (sA (sA (sA S 11 f_13) 9 g_14) 6 (shF (S 6) (pl n (S 6) x.toNat) y.toNat)) 3 (fun _ => (S 3 0) + 1))) H := hP
          have hR : RS (sA (sA (sA (sA S 11 f_13) 9 g_14) 6 (shF (S 6) (pl n (S 6) x.toNat) y.toNat)) 3 (fun _ => (S 3 0) + 1)) := hR.one (by omega) (by omega)
          refine lv_aload_n hx hb dX7_move_68 rfl (lv_at hl 0 rfl) ?_
          refine lv_aload_n hx hb dX7_move_69 rfl (lv_at hl 0 rfl) ?_
          refine va_get (D := D) (ci := 7) (v := .ref (ad 6)) (C := RX7) (T := TX7) (N := 26) hx hb hT inX7 hown hK hP 0 rfl rfl 6 (by decide) (hT _ q_678) (fun _ h9 => h9) rfl dX7_move_70 ?_
          refine g_callVi (As := [.ref (ad 6)]) (rest := []) ⟨hx, hb, hml, hown, hts⟩ (k_X7_widerMany_6 l D cI ad hinj (sA (sA (sA (sA S 11 f_13) 9 g_14) 6 (shF (S 6) (pl n (S 6) x.toNat) y.toNat)) 3 (fun _ => (S 3 0) + 1)) hR n hn hn7 hps) (cwV 1 hts (gV hsub q_973 q_975 q_sX7_widerMany q_8 q_976) rfl rfl rfl hdX7_widerMany ⟨Nat.le_of_ble_eq_true rfl, Nat.le_of_ble_eq_true rfl⟩) (mEb D cI) (mEk D cI (mA ad)) hE (va_recv (ci := 7) (q0 := 0) hK hP rfl rfl) hP hS rfl hl.1 rfl (Nat.le_of_ble_eq_true rfl) dX7_move_73 ⟨Nat.le_of_ble_eq_true rfl, Nat.le_of_ble_eq_true rfl⟩ (fun r_21 S_22 H locs hq_23 hP hR hS _ => ?_)
          obtain ⟨f_24, rfl, rfl⟩ := hq_23
          refine z_top (b := cnt (fun q => pB (0 < wdF n (S 5) (shF (S 6) (pl n (S 6) x.toNat) y.toNat) q)) (n - 1)) rfl ?_
          have hSe_25 : sA (sA (sA (sA (sA S 11 f_13) 9 g_14) 6 (shF (S 6) (pl n (S 6) x.toNat) y.toNat)) 3 (fun _ => (S 3 0) + 1)) 9 f_24 = sA (sA (sA (sA S 9 f_24) 11 f_13) 6 (shF (S 6) (pl n (S 6) x.toNat) y.toNat)) 3 (fun _ => (S 3 0) + 1) := by
            funext k8
            by_cases e80 : k8 = 9
            · subst e80; first | rfl | (funext j8; rfl)
            by_cases e81 : k8 = 11
            · subst e81; first | rfl | (funext j8; rfl)
            by_cases e82 : k8 = 6
            · subst e82; first | rfl | (funext j8; rfl)
            by_cases e83 : k8 = 3
            · subst e83; first | rfl | (funext j8; rfl)
            simp [sA, e80, e81, e82, e83]
          rw [hSe_25] at hP hR
          exact g_iret (S1 := sA (sA (sA (sA S 9 f_24) 11 f_13) 6 (shF (S 6) (pl n (S 6) x.toNat) y.toNat)) 3 (fun _ => (S 3 0) + 1)) (v := zI (cnt (fun q => pB (0 < wdF n (S 5) (shF (S 6) (pl n (S 6) x.toNat) y.toNat) q)) (n - 1))) hx hb hr hlocks hP hR hS (⟨_, _, _, _, rfl, _, Or.inr (Or.inr (Or.inr ⟨(by unfold isL; omega), by omega, by omega, rfl, rfl, rfl⟩)), rfl⟩) dX7_move_76
        · have h9 : True := trivial
          refine z_bipush hx hb dX7_move_46 (by decide) ?_
          have hSe_26 : sA (sA S 11 f_13) 9 g_14 = sA (sA (sA (sA S 9 g_14) 11 f_13) 6 (S 6)) 3 (S 3) := by
            funext k8
            by_cases e80 : k8 = 9
            · subst e80; first | rfl | (funext j8; rfl)
            by_cases e81 : k8 = 11
            · subst e81; first | rfl | (funext j8; rfl)
            by_cases e82 : k8 = 6
            · subst e82; first | rfl | (funext j8; rfl)
            by_cases e83 : k8 = 3
            · subst e83; first | rfl | (funext j8; rfl)
            simp [sA, e80, e81, e82, e83]
          rw [hSe_26] at hP hR
          exact g_iret (S1 := sA (sA (sA (sA S 9 g_14) 11 f_13) 6 (S 6)) 3 (S 3)) (v := zI (-104)) hx hb hr hlocks hP hR hS (⟨_, _, _, _, rfl, _, Or.inr (Or.inr (Or.inl ⟨(by unfold isL; omega), by omega, by omega, rfl, rfl, rfl⟩)), rfl⟩) dX7_move_48
      · have h9 : True := trivial
        refine z_bipush hx hb dX7_move_33 (by decide) ?_
        have hSe_27 : sA (sA S 11 f_13) 9 g_14 = sA (sA (sA (sA S 9 g_14) 11 f_13) 6 (S 6)) 3 (S 3) := by
          funext k8
          by_cases e80 : k8 = 9
          · subst e80; first | rfl | (funext j8; rfl)
          by_cases e81 : k8 = 11
          · subst e81; first | rfl | (funext j8; rfl)
          by_cases e82 : k8 = 6
          · subst e82; first | rfl | (funext j8; rfl)
          by_cases e83 : k8 = 3
          · subst e83; first | rfl | (funext j8; rfl)
          simp [sA, e80, e81, e82, e83]
        rw [hSe_27] at hP hR
        exact g_iret (S1 := sA (sA (sA (sA S 9 g_14) 11 f_13) 6 (S 6)) 3 (S 3)) (v := zI (-103)) hx hb hr hlocks hP hR hS (⟨_, _, _, _, rfl, _, Or.inr (Or.inl ⟨(by unfold isL; omega), by omega, rfl, rfl, rfl⟩), rfl⟩) dX7_move_35
    · have h9 : True := trivial
      have c_9 : ¬ (0 ≤ y ∧ y ≤ S 2 0 - 1) := of_decide_eq_false c_9
      refine z_bipush hx hb dX7_move_16 (by decide) ?_
      have hSe_28 : S = sA (sA (sA (sA S 9 (S 9)) 11 (S 11)) 6 (S 6)) 3 (S 3) := by
        funext k8
        by_cases e80 : k8 = 9
        · subst e80; first | rfl | (funext j8; rfl)
        by_cases e81 : k8 = 11
        · subst e81; first | rfl | (funext j8; rfl)
        by_cases e82 : k8 = 6
        · subst e82; first | rfl | (funext j8; rfl)
        by_cases e83 : k8 = 3
        · subst e83; first | rfl | (funext j8; rfl)
        simp [sA, e80, e81, e82, e83]
      rw [hSe_28] at hP hR
      exact g_iret (S1 := sA (sA (sA (sA S 9 (S 9)) 11 (S 11)) 6 (S 6)) 3 (S 3)) (v := zI (-101)) hx hb hr hlocks hP hR hS (⟨_, _, _, _, rfl, _, Or.inl ⟨by unfold isL; omega, rfl, rfl, rfl⟩, rfl⟩) dX7_move_18
set_option maxHeartbeats 4000000 in
set_option maxRecDepth 100000 in
theorem k_X7_turn (l : Launch) (D : va_G) (cI : ClassId) (ad : Nat → Nat) (hinj : mInj ad) (S : St) (hR : RS S) (n : Nat) (hn : S 2 0 = ↑n) (hn7 : n ≤ 7) (N k0 : Nat) (hst : n ≠ 0 → STp n N k0 S) (h80 : 0 ≤ S 8 0) (hp : prm n (S 6)) : Met l yX7_turn (Cond.code yX7_turn cX7_turn 2 (some .int) :: lwT) ({ frames := 1, cells := 0, slots := 0, locals := 22 }) (gPc D (mW cI ad) (mE D cI) S [.ref (ad 26)]) (va_Qi (fun (r : Int32) (S' : St) => ∃ e11 e6, S' = sA (sA S 11 e11) 6 e6 ∧ ∃ v, turnR n (S 6) v e6 ∧ r = zI v) (gB D (mW cI ad)) (mA ad)) 0 0 (mA ad) := by
  refine Met.ofW (cc := cX7_turn) (maxL := 2) (ret := (some .int)) (by decide) rfl ?_
  intro p e s m args below meth c s₁ B hml hv
  obtain ⟨rfl, hP, hE⟩ := hv
  have hx := B.exec
  have hb := B.bytes
  have hr := B.returns
  have hts := atoms_spec (ws := Cond.code yX7_turn cX7_turn 2 (some .int) :: lwT) B.pre
  have hT := fun w (h : w ∈ lwT) => hts w (List.mem_cons_of_mem _ h)
  have hsub : ∀ w ∈ lwT, w ∈ (Cond.code yX7_turn cX7_turn 2 (some .int) :: lwT) := fun w h => List.mem_cons_of_mem _ h
  have hown : s.vm.findClass RX7 = some m.cls := findClass_of_methodNamed B.named
  have hlocks := B.notSynchronized
  have hK : va_K D vwCl [(cI, .int)] s := hE
  have hS : va_S (mA ad) s.heap s.heap [] := va_S.rf
  have hl := lv_entry ([.ref (ad 26)]) (n := 2) (Nat.le_of_ble_eq_true rfl)
  rw [lg_entry_eq]
  generalize (lg_sl ([.ref (ad 26)]) ++ List.replicate (2 - (lg_sl ([.ref (ad 26)])).length) Slot.unset).toArray = ls at hl ⊢
  have hl : lv_has ls 2 [(0, .ref (ad 26))] := hl
  refine lv_aload_n hx hb dX7_turn_0 rfl (lv_at hl 0 rfl) ?_
  refine g_callVi (As := []) (rest := []) ⟨hx, hb, hml, hown, hts⟩ (k_X7_lacks l D cI ad hinj S hR ) (cwV 0 hts (gV hsub q_812 q_814 q_sX7_lacks q_8 q_815) rfl rfl rfl hdX7_lacks ⟨Nat.le_of_ble_eq_true rfl, Nat.le_of_ble_eq_true rfl⟩) (mEb D cI) (mEk D cI (mA ad)) hE (va_recv (ci := 7) (q0 := 0) hK hP rfl rfl) hP hS rfl hl.1 rfl (Nat.le_of_ble_eq_true rfl) dX7_turn_1 ⟨Nat.le_of_ble_eq_true rfl, Nat.le_of_ble_eq_true rfl⟩ (fun r_1 S_2 H locs hq_3 hP hR hS _ => ?_)
  obtain ⟨hs9, rfl⟩ := hq_3
  obtain rfl := hs9.symm
  refine z_top (b := b2 (decide (S 2 0 = 0))) rfl ?_
  refine z_ifeqB (tgt := 10) hx hb dX7_turn_4 (by decide) (fun c_4 => ?_) (fun c_4 => ?_)
  · have h9 : True := trivial
    have c_4 : ¬ (S 2 0 = 0) := of_decide_eq_false c_4
    refine lv_aload_n hx hb dX7_turn_10 rfl (lv_at hl 0 rfl) ?_
    refine va_get (D := D) (ci := 7) (v := .ref (ad 6)) (C := RX7) (T := TX7) (N := 26) hx hb hT inX7 hown hK hP 0 rfl rfl 6 (by decide) (hT _ q_678) (fun _ h9 => h9) rfl dX7_turn_11 ?_
    refine lv_aload_n hx hb dX7_turn_14 rfl (lv_at hl 0 rfl) ?_
    refine va_get (D := D) (ci := 7) (v := .ref (ad 11)) (C := RX7) (T := TX7) (N := 26) hx hb hT inX7 hown hK hP 0 rfl rfl 11 (by decide) (hT _ q_683) (fun _ h9 => h9) rfl dX7_turn_15 ?_
    refine g_callSv (As := [.ref (ad 6), .ref (ad 11)]) (rest := []) ⟨hx, hb, hml, hown, hts⟩ (k_X7_copy_6_11 l D cI ad hinj S hR ) (cwS 2 hts (gS hsub q_840 q_841 q_8 q_842) rfl rfl rfl hdX7_copy ⟨Nat.le_of_ble_eq_true rfl, Nat.le_of_ble_eq_true rfl⟩) (mEb D cI) (mEk D cI (mA ad)) hE hP hS rfl hl.1 rfl (Nat.le_of_ble_eq_true rfl) dX7_turn_18 ⟨Nat.le_of_ble_eq_true rfl, Nat.le_of_ble_eq_true rfl⟩ (fun S_6 H locs hq_7 hP hR hS _ => ?_)
    obtain ⟨f_8, rfl, hcp_9⟩ := hq_7
    refine z_iconst hx hb dX7_turn_21 ?_
    refine lv_istore_n (lv' := [(1, .int (zI (0))), (0, .ref (ad 26))]) hx hb dX7_turn_22 rfl hl (by decide) rfl (fun ls hl => ?_)
    have cut_23 : ∀ (k9 : Nat) (i : Nat) (g : Nat → Int) (H : Heap) (locs : List Loc) (ls : Array Slot), (i ≤ n) → (∀ j, j < i → g j = S 6 (n - 1 - j)) → (n - i) < k9 → va_P D vwCl (mW cI ad (sA (sA S 11 f_8) 6 g)) H → RS (sA (sA S 11 f_8) 6 g) → va_S (mA ad) s.heap H locs → lv_has ls 2 [(0, .ref (ad 26)), (1, .int (zI (↑i)))] → W p l e (headSpec (Cond.code yX7_turn cX7_turn 2 (some .int) :: lwT) ({ frames := 1, cells := 0, slots := 0, locals := 22 })).room s m ([.ref (ad 26)] : List Value).toArray below meth c H locs 0 0 (MQ below (va_Qi (fun (r : Int32) (S' : St) => ∃ e11 e6, S' = sA (sA S 11 e11) 6 e6 ∧ ∃ v, turnR n (S 6) v e6 ∧ r = zI v) (gB D (mW cI ad)) (mA ad)) ([.ref (ad 26)] : List Value).toArray s 0 0 (mA ad)) (F0 m 23 ls []) := by
      intro k9
      induction k9 with
      | zero =>
        intro i g H locs ls hi hg hk9 hP hR hS hl
        exact absurd hk9 (Nat.not_lt_zero _)
      | succ k9 ih_23 =>
        intro i g H locs ls hi hg hk9 hP hR hS hl
        refine lv_iload_n hx hb dX7_turn_23 rfl (lv_at hl 1 rfl) ?_
        refine lv_aload_n hx hb dX7_turn_24 rfl (lv_at hl 0 rfl) ?_
        have g_10 : -2147483648 ≤ S 2 0 ∧ S 2 0 < 2147483648 := hR 2 0 (by decide)
        refine va_get (D := D) (ci := 7) (v := .int (zI (S 2 0))) (C := RX7) (T := TX7) (N := 26) hx hb hT inX7 hown hK hP 0 rfl rfl 2 (by decide) (hT _ q_674) (fun _ h9 => h9) rfl dX7_turn_25 ?_
        refine z_icmp_ge (tgt := 56) hx hb (by omega) (by omega) (by omega) (by omega) dX7_turn_28 (by decide) (fun c_11 => ?_) (fun c_11 => ?_)
        · have h9 : True := trivial
          refine lv_aload_n hx hb dX7_turn_56 rfl (lv_at hl 0 rfl) ?_
          refine va_get (D := D) (ci := 7) (v := .ref (ad 6)) (C := RX7) (T := TX7) (N := 26) hx hb hT inX7 hown hK hP 0 rfl rfl 6 (by decide) (hT _ q_678) (fun _ h9 => h9) rfl dX7_turn_57 ?_
          refine z_iconst hx hb dX7_turn_60 ?_
          have g_12 : -2147483648 ≤ g 0 ∧ g 0 < 2147483648 := hR 6 0 (by decide)
          refine z_ald (f := g) hx hb hK hP 3 0 rfl rfl (by omega) (by omega) (by decide) (j := 0) rfl dX7_turn_61 ?_
          refine z_top (b := S 6 (n - 1)) (hg 0 (by omega)) ?_
          exact g_iret (S1 := sA (sA S 11 f_8) 6 g) (v := zI (S 6 (n - 1))) hx hb hr hlocks hP hR hS (⟨_, _, rfl, _, Or.inr ⟨by omega, rfl, fun j hj => hg j (by omega)⟩, rfl⟩) dX7_turn_62
        · have h9 : True := trivial
          refine lv_aload_n hx hb dX7_turn_31 rfl (lv_at hl 0 rfl) ?_
          refine va_get (D := D) (ci := 7) (v := .ref (ad 6)) (C := RX7) (T := TX7) (N := 26) hx hb hT inX7 hown hK hP 0 rfl rfl 6 (by decide) (hT _ q_678) (fun _ h9 => h9) rfl dX7_turn_32 ?_
          refine lv_iload_n hx hb dX7_turn_35 rfl (lv_at hl 1 rfl) ?_
          refine lv_aload_n hx hb dX7_turn_36 rfl (lv_at hl 0 rfl) ?_
          refine va_get (D := D) (ci := 7) (v := .ref (ad 11)) (C := RX7) (T := TX7) (N := 26) hx hb hT inX7 hown hK hP 0 rfl rfl 11 (by decide) (hT _ q_683) (fun _ h9 => h9) rfl dX7_turn_37 ?_
          refine lv_aload_n hx hb dX7_turn_40 rfl (lv_at hl 0 rfl) ?_
          refine va_get (D := D) (ci := 7) (v := .int (zI (S 2 0))) (C := RX7) (T := TX7) (N := 26) hx hb hT inX7 hown hK hP 0 rfl rfl 2 (by decide) (hT _ q_674) (fun _ h9 => h9) rfl dX7_turn_41 ?_
          refine z_iconst hx hb dX7_turn_44 ?_
          refine z_isub hx hb dX7_turn_45 ?_
          refine lv_iload_n hx hb dX7_turn_46 rfl (lv_at hl 1 rfl) ?_
          refine z_isub hx hb dX7_turn_47 ?_
          have g_13 : -2147483648 ≤ f_8 (((S 2 0) - 1) - ↑i).toNat ∧ f_8 (((S 2 0) - 1) - ↑i).toNat < 2147483648 := hR 11 _ (by decide)
          refine z_ald (f := f_8) hx hb hK hP 7 0 rfl rfl (by omega) (by omega) (by decide) (j := (((S 2 0) - 1) - ↑i).toNat) rfl dX7_turn_48 ?_
          have h7 : -2147483648 ≤ f_8 (S 2 0 - 1 - ↑i).toNat ∧ f_8 (S 2 0 - 1 - ↑i).toNat < 2147483648 := hR 11 _ (by decide)
          rw [show (S 2 0 - 1 - ↑i).toNat = n - 1 - i by omega, hcp_9 _ (by omega)] at h7
          refine z_top (b := S 6 (n - 1 - i)) (by rw [show (S 2 0 - 1 - ↑i).toNat = n - 1 - i by omega]; exact hcp_9 _ (by omega)) ?_
          refine z_ast (f := (sA (sA S 11 f_8) 6 g) 6) (i := ↑i) (v := S 6 (n - 1 - i)) hx hb hK hP (mD hinj cI _) hS 3 0 rfl rfl (by omega) (by omega) (by decide) dX7_turn_49 (fun H locs hP hS => ?_)
          have hP : va_P D vwCl (mW cI ad (sA (sA S 11 f_8) 6 (uZ g i (S 6 (n - 1 - i))))) H := hP
          have hR : RS (sA (sA S 11 f_8) 6 (uZ g i (S 6 (n - 1 - i)))) := hR.put' (by omega) (by omega)
          refine z_iinc (lv' := [(1, .int (zI (↑i + 1))), (0, .ref (ad 26))]) hx hb dX7_turn_50 hl (k := 1) rfl (by decide) rfl (fun ls hl => ?_)
          refine lv_goto (tgt := 23) hx hb dX7_turn_53 (by decide) ?_
          exact ih_23 (i + 1) (uZ g i (S 6 (n - 1 - i))) _ _ _ (by omega) (fun j hj => by unfold uZ; split <;> first | (rename_i e9; rw [e9]) | exact hg j (by omega)) (by omega) hP hR hS (lv_sub hl [1, 0] rfl)
    have hSe_14 : sA S 11 f_8 = sA (sA S 11 f_8) 6 (S 6) := by
      funext k8
      by_cases e80 : k8 = 11
      · subst e80; first | rfl | (funext j8; rfl)
      by_cases e81 : k8 = 6
      · subst e81; first | rfl | (funext j8; rfl)
      simp [sA, e80, e81]
    rw [hSe_14] at hP hR
    exact cut_23 _ 0 (S 6) _ _ _ (by omega) (fun j h => absurd h (Nat.not_lt_zero j)) (Nat.lt_succ_self _) hP hR hS (lv_sub hl [1, 0] rfl)
  · have h9 : True := trivial
    have c_4 : S 2 0 = 0 := of_decide_eq_true c_4
    refine z_bipush hx hb dX7_turn_7 (by decide) ?_
    have hSe_15 : S = sA (sA S 11 (S 11)) 6 (S 6) := by
      funext k8
      by_cases e80 : k8 = 11
      · subst e80; first | rfl | (funext j8; rfl)
      by_cases e81 : k8 = 6
      · subst e81; first | rfl | (funext j8; rfl)
      simp [sA, e80, e81]
    rw [hSe_15] at hP hR
    exact g_iret (S1 := sA (sA S 11 (S 11)) 6 (S 6)) (v := zI (-103)) hx hb hr hlocks hP hR hS (⟨_, _, rfl, _, Or.inl ⟨by omega, rfl, rfl⟩, rfl⟩) dX7_turn_9
set_option maxHeartbeats 4000000 in
set_option maxRecDepth 100000 in
theorem k_X7_lay (l : Launch) (D : va_G) (cI : ClassId) (ad : Nat → Nat) (hinj : mInj ad) (S : St) (hR : RS S) (n : Nat) (hn : S 2 0 = ↑n) (hn7 : n ≤ 7) (N k0 : Nat) (hst : n ≠ 0 → STp n N k0 S) (h80 : 0 ≤ S 8 0) (hp : prm n (S 6)) (x : Int) (hx1 : -2147483648 ≤ x) (hx2 : x < 2147483648) : Met l yX7_lay (Cond.code yX7_lay cX7_lay 3 (some .int) :: lwT) ({ frames := 2, cells := 0, slots := 0, locals := 46 }) (gPc D (mW cI ad) (mE D cI) S [.ref (ad 26), .int (zI (x))]) (va_Qi (fun (r : Int32) (S' : St) => ∃ e6, S' = sA S 6 e6 ∧ ∃ v, layR n N (S 7) (S 6) k0 x v e6 ∧ r = zI v) (gB D (mW cI ad)) (mA ad)) 0 0 (mA ad) := by
  refine Met.ofW (cc := cX7_lay) (maxL := 3) (ret := (some .int)) (by decide) rfl ?_
  intro p e s m args below meth c s₁ B hml hv
  obtain ⟨rfl, hP, hE⟩ := hv
  have hx := B.exec
  have hb := B.bytes
  have hr := B.returns
  have hts := atoms_spec (ws := Cond.code yX7_lay cX7_lay 3 (some .int) :: lwT) B.pre
  have hT := fun w (h : w ∈ lwT) => hts w (List.mem_cons_of_mem _ h)
  have hsub : ∀ w ∈ lwT, w ∈ (Cond.code yX7_lay cX7_lay 3 (some .int) :: lwT) := fun w h => List.mem_cons_of_mem _ h
  have hown : s.vm.findClass RX7 = some m.cls := findClass_of_methodNamed B.named
  have hlocks := B.notSynchronized
  have hK : va_K D vwCl [(cI, .int)] s := hE
  have hS : va_S (mA ad) s.heap s.heap [] := va_S.rf
  have hl := lv_entry ([.ref (ad 26), .int (zI (x))]) (n := 3) (Nat.le_of_ble_eq_true rfl)
  rw [lg_entry_eq]
  generalize (lg_sl ([.ref (ad 26), .int (zI (x))]) ++ List.replicate (3 - (lg_sl ([.ref (ad 26), .int (zI (x))])).length) Slot.unset).toArray = ls at hl ⊢
  have hl : lv_has ls 3 [(0, .ref (ad 26)), (1, .int (zI (x)))] := hl
  refine lv_aload_n hx hb dX7_lay_0 rfl (lv_at hl 0 rfl) ?_
  refine lv_iload_n hx hb dX7_lay_1 rfl (lv_at hl 1 rfl) ?_
  refine g_callVi (As := [.int (zI (x))]) (rest := []) ⟨hx, hb, hml, hown, hts⟩ (k_X7_isOrder l D cI ad hinj S hR x (by omega) (by omega) (by omega)) (cwV 1 hts (gV hsub q_808 q_810 q_sX7_isOrder q_8 q_811) rfl rfl rfl hdX7_isOrder ⟨Nat.le_of_ble_eq_true rfl, Nat.le_of_ble_eq_true rfl⟩) (mEb D cI) (mEk D cI (mA ad)) hE (va_recv (ci := 7) (q0 := 0) hK hP rfl rfl) hP hS rfl hl.1 rfl (Nat.le_of_ble_eq_true rfl) dX7_lay_2 ⟨Nat.le_of_ble_eq_true rfl, Nat.le_of_ble_eq_true rfl⟩ (fun r_1 S_2 H locs hq_3 hP hR hS _ => ?_)
  obtain ⟨hs9, rfl⟩ := hq_3
  obtain rfl := hs9.symm
  refine z_top (b := b2 (decide (S 2 0 ≠ 0 ∧ 0 ≤ x ∧ x ≤ S 8 0 - 1))) rfl ?_
  refine z_ifneB (tgt := 11) hx hb dX7_lay_5 (by decide) (fun c_4 => ?_) (fun c_4 => ?_)
  · have h9 : True := trivial
    have c_4 : S 2 0 ≠ 0 ∧ 0 ≤ x ∧ x ≤ S 8 0 - 1 := of_decide_eq_true c_4
    obtain ⟨hN, hO, hk0, hk⟩ := hst (by omega)
    have hO1 := hO.1
    have hO2 := hO.2.1
    have hnz : n ≠ 0 := by omega
    have hmin : ∀ j, j < k0 → S 7 j ≠ cdF (S 6) n := fun j hj e => by have := hO.2.2.1 j k0 (by omega) hk0 (by rw [e, hk]); omega
    refine lv_aload_n hx hb dX7_lay_11 rfl (lv_at hl 0 rfl) ?_
    refine g_callVi (As := []) (rest := []) ⟨hx, hb, hml, hown, hts⟩ (k_X7_orderNow l D cI ad hinj S hR n hn hn7 (k0) ((by omega)) (hk) (hmin)) (cwV 0 hts (gV hsub q_824 q_826 q_sX7_orderNow q_8 q_827) rfl rfl rfl hdX7_orderNow ⟨Nat.le_of_ble_eq_true rfl, Nat.le_of_ble_eq_true rfl⟩) (mEb D cI) (mEk D cI (mA ad)) hE (va_recv (ci := 7) (q0 := 0) hK hP rfl rfl) hP hS rfl hl.1 rfl (Nat.le_of_ble_eq_true rfl) dX7_lay_12 ⟨Nat.le_of_ble_eq_true rfl, Nat.le_of_ble_eq_true rfl⟩ (fun r_5 S_6 H locs hq_7 hP hR hS _ => ?_)
    obtain ⟨hs9, rfl⟩ := hq_7
    obtain rfl := hs9.symm
    refine z_top (b := ↑k0) rfl ?_
    refine lv_istore_n (lv' := [(2, .int (zI (↑k0))), (0, .ref (ad 26)), (1, .int (zI (x)))]) hx hb dX7_lay_15 rfl hl (by decide) rfl (fun ls hl => ?_)
    refine lv_aload_n hx hb dX7_lay_16 rfl (lv_at hl 1 rfl) ?_
    refine lv_aload_n hx hb dX7_lay_17 rfl (lv_at hl 1 rfl) ?_
    refine va_get (D := D) (ci := 7) (v := .ref (ad 7)) (C := RX7) (T := TX7) (N := 26) hx hb hT inX7 hown hK hP 0 rfl rfl 7 (by decide) (hT _ q_679) (fun _ h9 => h9) rfl dX7_lay_18 ?_
    refine lv_iload_n hx hb dX7_lay_21 rfl (lv_at hl 2 rfl) ?_
    have g_8 : -2147483648 ≤ S 7 (x).toNat ∧ S 7 (x).toNat < 2147483648 := hR 7 ((x).toNat) (by decide)
    refine z_ald (f := S 7) hx hb hK hP 4 0 rfl rfl (by omega) (by omega) (by decide) (j := (x).toNat) rfl dX7_lay_22 ?_
    refine lv_aload_n hx hb dX7_lay_23 rfl (lv_at hl 1 rfl) ?_
    refine va_get (D := D) (ci := 7) (v := .ref (ad 6)) (C := RX7) (T := TX7) (N := 26) hx hb hT inX7 hown hK hP 0 rfl rfl 6 (by decide) (hT _ q_678) (fun _ h9 => h9) rfl dX7_lay_24 ?_
    refine g_callVv (As := [.int (zI (S 7 (x).toNat)), .ref (ad 6)]) (rest := []) ⟨hx, hb, hml, hown, hts⟩ (k_X7_layRow_6 l D cI ad hinj S hR n hn hn7 (S 7 (x).toNat) ((hO2 x.toNat (by omega)).1) (by omega)) (cwV 2 hts (gV hsub q_832 q_834 q_sX7_layRow q_8 q_835) rfl rfl rfl hdX7_layRow ⟨Nat.le_of_ble_eq_true rfl, Nat.le_of_ble_eq_true rfl⟩) (mEb D cI) (mEk D cI (mA ad)) hE (va_recv (ci := 7) (q0 := 0) hK hP rfl rfl) hP hS rfl hl.1 rfl (Nat.le_of_ble_eq_true rfl) dX7_lay_27 ⟨Nat.le_of_ble_eq_true rfl, Nat.le_of_ble_eq_true rfl⟩ (fun S_10 H locs hq_11 hP hR hS _ => ?_)
    obtain ⟨f_12, rfl, hlr_13⟩ := hq_11
    refine lv_iload_n hx hb dX7_lay_30 rfl (lv_at hl 0 rfl) ?_
    exact g_iret (S1 := sA S 6 f_12) (v := zI (↑k0)) hx hb hr hlocks hP hR hS (⟨_, rfl, _, Or.inr ⟨by omega, rfl, hlr_13⟩, rfl⟩) dX7_lay_31
  · have h9 : True := trivial
    have c_4 : ¬ (S 2 0 ≠ 0 ∧ 0 ≤ x ∧ x ≤ S 8 0 - 1) := of_decide_eq_false c_4
    have hbad : ¬ (n ≠ 0 ∧ 0 ≤ x ∧ x ≤ (N : Int) - 1) := fun h => by have := (hst h.1).1; omega
    refine z_bipush hx hb dX7_lay_8 (by decide) ?_
    have hSe_14 : S = sA S 6 (S 6) := by
      funext k8
      by_cases e80 : k8 = 6
      · subst e80; first | rfl | (funext j8; rfl)
      simp [sA, e80]
    rw [hSe_14] at hP hR
    exact g_iret (S1 := sA S 6 (S 6)) (v := zI (-101)) hx hb hr hlocks hP hR hS (⟨_, rfl, _, Or.inl ⟨hbad, rfl, rfl⟩, rfl⟩) dX7_lay_10
set_option maxHeartbeats 4000000 in
set_option maxRecDepth 100000 in
theorem k_X7_change (l : Launch) (D : va_G) (cI : ClassId) (ad : Nat → Nat) (hinj : mInj ad) (S : St) (hR : RS S) (n : Nat) (hn : S 2 0 = ↑n) (hn7 : n ≤ 7) (N k0 : Nat) (hst : n ≠ 0 → STp n N k0 S) (h80 : 0 ≤ S 8 0) (hp : prm n (S 6)) (x w : Int) (hx1 : -2147483648 ≤ x) (hx2 : x < 2147483648) (hw1 : -2147483648 ≤ w) (hw2 : w < 2147483648) : Met l yX7_change (Cond.code yX7_change cX7_change 4 (some .int) :: lwT) ({ frames := 2, cells := 0, slots := 0, locals := 46 }) (gPc D (mW cI ad) (mE D cI) S [.ref (ad 26), .int (zI (x)), .int (zI (w))]) (va_Qi (fun (r : Int32) (S' : St) => ∃ e5, S' = sA S 5 e5 ∧ ∃ v, changeR n (S 5) x w v e5 ∧ r = zI v) (gB D (mW cI ad)) (mA ad)) 0 0 (mA ad) := by
  refine Met.ofW (cc := cX7_change) (maxL := 4) (ret := (some .int)) (by decide) rfl ?_
  intro p e s m args below meth c s₁ B hml hv
  obtain ⟨rfl, hP, hE⟩ := hv
  have hx := B.exec
  have hb := B.bytes
  have hr := B.returns
  have hts := atoms_spec (ws := Cond.code yX7_change cX7_change 4 (some .int) :: lwT) B.pre
  have hT := fun w (h : w ∈ lwT) => hts w (List.mem_cons_of_mem _ h)
  have hsub : ∀ w ∈ lwT, w ∈ (Cond.code yX7_change cX7_change 4 (some .int) :: lwT) := fun w h => List.mem_cons_of_mem _ h
  have hown : s.vm.findClass RX7 = some m.cls := findClass_of_methodNamed B.named
  have hlocks := B.notSynchronized
  have hK : va_K D vwCl [(cI, .int)] s := hE
  have hS : va_S (mA ad) s.heap s.heap [] := va_S.rf
  have hl := lv_entry ([.ref (ad 26), .int (zI (x)), .int (zI (w))]) (n := 4) (Nat.le_of_ble_eq_true rfl)
  rw [lg_entry_eq]
  generalize (lg_sl ([.ref (ad 26), .int (zI (x)), .int (zI (w))]) ++ List.replicate (4 - (lg_sl ([.ref (ad 26), .int (zI (x)), .int (zI (w))])).length) Slot.unset).toArray = ls at hl ⊢
  have hl : lv_has ls 4 [(0, .ref (ad 26)), (1, .int (zI (x))), (2, .int (zI (w)))] := hl
  refine lv_aload_n hx hb dX7_change_0 rfl (lv_at hl 0 rfl) ?_
  refine lv_iload_n hx hb dX7_change_1 rfl (lv_at hl 1 rfl) ?_
  refine g_callVi (As := [.int (zI (x))]) (rest := []) ⟨hx, hb, hml, hown, hts⟩ (k_X7_isLeaf l D cI ad hinj S hR x (by omega) (by omega) (by omega)) (cwV 1 hts (gV hsub q_906 q_908 q_sX7_isLeaf q_8 q_909) rfl rfl rfl hdX7_isLeaf ⟨Nat.le_of_ble_eq_true rfl, Nat.le_of_ble_eq_true rfl⟩) (mEb D cI) (mEk D cI (mA ad)) hE (va_recv (ci := 7) (q0 := 0) hK hP rfl rfl) hP hS rfl hl.1 rfl (Nat.le_of_ble_eq_true rfl) dX7_change_2 ⟨Nat.le_of_ble_eq_true rfl, Nat.le_of_ble_eq_true rfl⟩ (fun r_1 S_2 H locs hq_3 hP hR hS _ => ?_)
  obtain ⟨hs9, rfl⟩ := hq_3
  obtain rfl := hs9.symm
  refine z_top (b := b2 (decide (0 ≤ x ∧ x ≤ S 2 0 - 1))) rfl ?_
  refine z_ifneB (tgt := 11) hx hb dX7_change_5 (by decide) (fun c_4 => ?_) (fun c_4 => ?_)
  · have h9 : True := trivial
    have c_4 : 0 ≤ x ∧ x ≤ S 2 0 - 1 := of_decide_eq_true c_4
    refine lv_iload_n hx hb dX7_change_11 rfl (lv_at hl 2 rfl) ?_
    refine z_i2l hx hb (by omega) (by omega) dX7_change_12 ?_
    refine lv_lconst (v := zL 0) hx hb dX7_change_13 (by decide) ?_
    refine lv_ldc2 (v := zL 4) hx hb hown (hT _ q_926) dX7_change_14 ?_
    refine s_callSi (As := [.long (zL (w)), .long (zL (0)), .long (zL (4))]) (rest := []) ⟨hx, hb, hml, hown, hts⟩ (k_X7_in l w 0 4 (by omega) (by omega) (by omega) (by omega) (by omega) (by omega)) (cwS 3 hts (gS hsub q_756 q_757 q_8 q_758) rfl rfl rfl hdX7_in ⟨Nat.le_of_ble_eq_true rfl, Nat.le_of_ble_eq_true rfl⟩) rfl hl.1 rfl (Nat.le_of_ble_eq_true rfl) dX7_change_17 ⟨Nat.le_of_ble_eq_true rfl, Nat.le_of_ble_eq_true rfl⟩ (fun r_5 hq_7 => ?_)
    rw [hq_7]
    refine z_ifneB (tgt := 26) hx hb dX7_change_20 (by decide) (fun c_8 => ?_) (fun c_8 => ?_)
    · have h9 : True := trivial
      have c_8 : 0 ≤ w ∧ w ≤ 4 := of_decide_eq_true c_8
      refine lv_aload_n hx hb dX7_change_26 rfl (lv_at hl 0 rfl) ?_
      refine va_get (D := D) (ci := 7) (v := .ref (ad 5)) (C := RX7) (T := TX7) (N := 26) hx hb hT inX7 hown hK hP 0 rfl rfl 5 (by decide) (hT _ q_677) (fun _ h9 => h9) rfl dX7_change_27 ?_
      refine lv_iload_n hx hb dX7_change_30 rfl (lv_at hl 1 rfl) ?_
      have g_9 : -2147483648 ≤ S 5 (x).toNat ∧ S 5 (x).toNat < 2147483648 := hR 5 ((x).toNat) (by decide)
      refine z_ald (f := S 5) hx hb hK hP 2 0 rfl rfl (by omega) (by omega) (by decide) (j := (x).toNat) rfl dX7_change_31 ?_
      refine lv_istore_n (lv' := [(3, .int (zI (S 5 (x).toNat))), (0, .ref (ad 26)), (1, .int (zI (x))), (2, .int (zI (w)))]) hx hb dX7_change_32 rfl hl (by decide) rfl (fun ls hl => ?_)
      refine lv_aload_n hx hb dX7_change_33 rfl (lv_at hl 1 rfl) ?_
      refine va_get (D := D) (ci := 7) (v := .ref (ad 5)) (C := RX7) (T := TX7) (N := 26) hx hb hT inX7 hown hK hP 0 rfl rfl 5 (by decide) (hT _ q_677) (fun _ h9 => h9) rfl dX7_change_34 ?_
      refine lv_iload_n hx hb dX7_change_37 rfl (lv_at hl 2 rfl) ?_
      refine lv_iload_n hx hb dX7_change_38 rfl (lv_at hl 3 rfl) ?_
      refine z_ast (f := S 5) (i := x) (v := w) hx hb hK hP (mD hinj cI _) hS 2 0 rfl rfl (by omega) (by omega) (by decide) dX7_change_39 (fun H locs hP hS => ?_)
      have hP : va_P D vwCl (mW cI ad (sA S 5 (uZ (S 5) (x).toNat w))) H := hP
      have hR : RS (sA S 5 (uZ (S 5) (x).toNat w)) := hR.put (by omega) (by omega)
      refine lv_iload_n hx hb dX7_change_40 rfl (lv_at hl 0 rfl) ?_
      exact g_iret (S1 := sA S 5 (uZ (S 5) (x).toNat w)) (v := zI (S 5 (x).toNat)) hx hb hr hlocks hP hR hS (⟨_, rfl, _, Or.inr (Or.inr ⟨(by unfold isL; omega), by omega, rfl, rfl⟩), rfl⟩) dX7_change_41
    · have h9 : True := trivial
      have c_8 : ¬ (0 ≤ w ∧ w ≤ 4) := of_decide_eq_false c_8
      refine z_bipush hx hb dX7_change_23 (by decide) ?_
      have hSe_10 : S = sA S 5 (S 5) := by
        funext k8
        by_cases e80 : k8 = 5
        · subst e80; first | rfl | (funext j8; rfl)
        simp [sA, e80]
      rw [hSe_10] at hP hR
      exact g_iret (S1 := sA S 5 (S 5)) (v := zI (-102)) hx hb hr hlocks hP hR hS (⟨_, rfl, _, Or.inr (Or.inl ⟨(by unfold isL; omega), by omega, rfl, rfl⟩), rfl⟩) dX7_change_25
  · have h9 : True := trivial
    have c_4 : ¬ (0 ≤ x ∧ x ≤ S 2 0 - 1) := of_decide_eq_false c_4
    refine z_bipush hx hb dX7_change_8 (by decide) ?_
    have hSe_11 : S = sA S 5 (S 5) := by
      funext k8
      by_cases e80 : k8 = 5
      · subst e80; first | rfl | (funext j8; rfl)
      simp [sA, e80]
    rw [hSe_11] at hP hR
    exact g_iret (S1 := sA S 5 (S 5)) (v := zI (-101)) hx hb hr hlocks hP hR hS (⟨_, rfl, _, Or.inl ⟨by unfold isL; omega, rfl, rfl⟩, rfl⟩) dX7_change_10
set_option maxHeartbeats 4000000 in
set_option maxRecDepth 100000 in
theorem k_X7_see (l : Launch) (D : va_G) (cI : ClassId) (ad : Nat → Nat) (hinj : mInj ad) (S : St) (hR : RS S) (n : Nat) (hn : S 2 0 = ↑n) (hn7 : n ≤ 7) (N k0 : Nat) (hst : n ≠ 0 → STp n N k0 S) (h80 : 0 ≤ S 8 0) (hp : prm n (S 6)) (m9 : Nat) (hm9 : S 15 0 = ↑m9) (hsg : sgOK n (S 16) m9) (x y z : Int) (hx1 : -2147483648 ≤ x) (hx2 : x < 2147483648) (hy1 : -2147483648 ≤ y) (hy2 : y < 2147483648) (hz : z = 0 ∨ z = 1) : Met l yX7_see (Cond.code yX7_see cX7_see 4 (some .int) :: lwT) ({ frames := 2, cells := 0, slots := 0, locals := 46 }) (gPc D (mW cI ad) (mE D cI) S [.ref (ad 26), .int (zI (x)), .int (zI (y)), .int (zI (z))]) (va_Qi (fun (r : Int32) (S' : St) => ∃ e16 e15, S' = sA (sA S 16 e16) 15 e15 ∧ ∃ v, seeR n m9 (S 16) x y z v e16 (e15 0) ∧ r = zI v) (gB D (mW cI ad)) (mA ad)) 0 0 (mA ad) := by
  refine Met.ofW (cc := cX7_see) (maxL := 4) (ret := (some .int)) (by decide) rfl ?_
  intro p e s m args below meth c s₁ B hml hv
  obtain ⟨rfl, hP, hE⟩ := hv
  have hx := B.exec
  have hb := B.bytes
  have hr := B.returns
  have hts := atoms_spec (ws := Cond.code yX7_see cX7_see 4 (some .int) :: lwT) B.pre
  have hT := fun w (h : w ∈ lwT) => hts w (List.mem_cons_of_mem _ h)
  have hsub : ∀ w ∈ lwT, w ∈ (Cond.code yX7_see cX7_see 4 (some .int) :: lwT) := fun w h => List.mem_cons_of_mem _ h
  have hown : s.vm.findClass RX7 = some m.cls := findClass_of_methodNamed B.named
  have hlocks := B.notSynchronized
  have hK : va_K D vwCl [(cI, .int)] s := hE
  have hS : va_S (mA ad) s.heap s.heap [] := va_S.rf
  have hs6 := hsg.1
  have hl := lv_entry ([.ref (ad 26), .int (zI (x)), .int (zI (y)), .int (zI (z))]) (n := 4) (Nat.le_of_ble_eq_true rfl)
  rw [lg_entry_eq]
  generalize (lg_sl ([.ref (ad 26), .int (zI (x)), .int (zI (y)), .int (zI (z))]) ++ List.replicate (4 - (lg_sl ([.ref (ad 26), .int (zI (x)), .int (zI (y)), .int (zI (z))])).length) Slot.unset).toArray = ls at hl ⊢
  have hl : lv_has ls 4 [(0, .ref (ad 26)), (1, .int (zI (x))), (2, .int (zI (y))), (3, .int (zI (z)))] := hl
  refine lv_aload_n hx hb dX7_see_0 rfl (lv_at hl 0 rfl) ?_
  refine lv_iload_n hx hb dX7_see_1 rfl (lv_at hl 1 rfl) ?_
  refine g_callVi (As := [.int (zI (x))]) (rest := []) ⟨hx, hb, hml, hown, hts⟩ (k_X7_isLeaf l D cI ad hinj S hR x (by omega) (by omega) (by omega)) (cwV 1 hts (gV hsub q_906 q_908 q_sX7_isLeaf q_8 q_909) rfl rfl rfl hdX7_isLeaf ⟨Nat.le_of_ble_eq_true rfl, Nat.le_of_ble_eq_true rfl⟩) (mEb D cI) (mEk D cI (mA ad)) hE (va_recv (ci := 7) (q0 := 0) hK hP rfl rfl) hP hS rfl hl.1 rfl (Nat.le_of_ble_eq_true rfl) dX7_see_2 ⟨Nat.le_of_ble_eq_true rfl, Nat.le_of_ble_eq_true rfl⟩ (fun r_1 S_2 H locs hq_3 hP hR hS _ => ?_)
  obtain ⟨hs9, rfl⟩ := hq_3
  obtain rfl := hs9.symm
  refine z_top (b := b2 (decide (0 ≤ x ∧ x ≤ S 2 0 - 1))) rfl ?_
  refine z_ifneB (tgt := 11) hx hb dX7_see_5 (by decide) (fun c_4 => ?_) (fun c_4 => ?_)
  · have h9 : True := trivial
    have c_4 : 0 ≤ x ∧ x ≤ S 2 0 - 1 := of_decide_eq_true c_4
    refine lv_iload_n hx hb dX7_see_11 rfl (lv_at hl 2 rfl) ?_
    refine z_i2l hx hb (by omega) (by omega) dX7_see_12 ?_
    refine lv_lconst (v := zL 1) hx hb dX7_see_13 (by decide) ?_
    refine lv_aload_n hx hb dX7_see_14 rfl (lv_at hl 0 rfl) ?_
    have g_5 : -2147483648 ≤ S 2 0 ∧ S 2 0 < 2147483648 := hR 2 0 (by decide)
    refine va_get (D := D) (ci := 7) (v := .int (zI (S 2 0))) (C := RX7) (T := TX7) (N := 26) hx hb hT inX7 hown hK hP 0 rfl rfl 2 (by decide) (hT _ q_674) (fun _ h9 => h9) rfl dX7_see_15 ?_
    refine z_i2l hx hb (by omega) (by omega) dX7_see_18 ?_
    refine s_callSi (As := [.long (zL (y)), .long (zL (1)), .long (zL (S 2 0))]) (rest := []) ⟨hx, hb, hml, hown, hts⟩ (k_X7_in l y 1 (S 2 0) (by omega) (by omega) (by omega) (by omega) (by omega) (by omega)) (cwS 3 hts (gS hsub q_756 q_757 q_8 q_758) rfl rfl rfl hdX7_in ⟨Nat.le_of_ble_eq_true rfl, Nat.le_of_ble_eq_true rfl⟩) rfl hl.1 rfl (Nat.le_of_ble_eq_true rfl) dX7_see_19 ⟨Nat.le_of_ble_eq_true rfl, Nat.le_of_ble_eq_true rfl⟩ (fun r_6 hq_8 => ?_)
    rw [hq_8]
    refine z_ifneB (tgt := 28) hx hb dX7_see_22 (by decide) (fun c_9 => ?_) (fun c_9 => ?_)
    · have h9 : True := trivial
      have c_9 : 1 ≤ y ∧ y ≤ (S 2 0) := of_decide_eq_true c_9
      refine lv_aload_n hx hb dX7_see_28 rfl (lv_at hl 0 rfl) ?_
      have g_10 : -2147483648 ≤ S 15 0 ∧ S 15 0 < 2147483648 := hR 15 0 (by decide)
      refine va_get (D := D) (ci := 7) (v := .int (zI (S 15 0))) (C := RX7) (T := TX7) (N := 26) hx hb hT inX7 hown hK hP 0 rfl rfl 15 (by decide) (hT _ q_687) (fun _ h9 => h9) rfl dX7_see_29 ?_
      refine z_bipush hx hb dX7_see_32 (by decide) ?_
      refine z_icmp_ne (tgt := 40) hx hb (by omega) (by omega) (by omega) (by omega) dX7_see_34 (by decide) (fun c_11 => ?_) (fun c_11 => ?_)
      · have h9 : True := trivial
        refine lv_aload_n hx hb dX7_see_40 rfl (lv_at hl 0 rfl) ?_
        refine va_get (D := D) (ci := 7) (v := .ref (ad 16)) (C := RX7) (T := TX7) (N := 26) hx hb hT inX7 hown hK hP 0 rfl rfl 16 (by decide) (hT _ q_688) (fun _ h9 => h9) rfl dX7_see_41 ?_
        refine z_iconst hx hb dX7_see_44 ?_
        refine lv_aload_n hx hb dX7_see_45 rfl (lv_at hl 0 rfl) ?_
        refine va_get (D := D) (ci := 7) (v := .int (zI (S 15 0))) (C := RX7) (T := TX7) (N := 26) hx hb hT inX7 hown hK hP 0 rfl rfl 15 (by decide) (hT _ q_687) (fun _ h9 => h9) rfl dX7_see_46 ?_
        refine z_imul hx hb dX7_see_49 ?_
        refine lv_iload_n hx hb dX7_see_50 rfl (lv_at hl 1 rfl) ?_
        refine z_ast (f := S 16) (i := 3 * (S 15 0)) (v := x) hx hb hK hP (mD hinj cI _) hS 10 0 rfl rfl (by omega) (by omega) (by decide) dX7_see_51 (fun H locs hP hS => ?_)
        have hP : va_P D vwCl (mW cI ad (sA S 16 (uZ (S 16) (3 * (S 15 0)).toNat x))) H := hP
        have hR : RS (sA S 16 (uZ (S 16) (3 * (S 15 0)).toNat x)) := hR.put (by omega) (by omega)
        refine lv_aload_n hx hb dX7_see_52 rfl (lv_at hl 0 rfl) ?_
        refine va_get (D := D) (ci := 7) (v := .ref (ad 16)) (C := RX7) (T := TX7) (N := 26) hx hb hT inX7 hown hK hP 0 rfl rfl 16 (by decide) (hT _ q_688) (fun _ h9 => h9) rfl dX7_see_53 ?_
        refine z_iconst hx hb dX7_see_56 ?_
        refine lv_aload_n hx hb dX7_see_57 rfl (lv_at hl 0 rfl) ?_
        refine va_get (D := D) (ci := 7) (v := .int (zI (S 15 0))) (C := RX7) (T := TX7) (N := 26) hx hb hT inX7 hown hK hP 0 rfl rfl 15 (by decide) (hT _ q_687) (fun _ h9 => h9) rfl dX7_see_58 ?_
        refine z_imul hx hb dX7_see_61 ?_
        refine z_iconst hx hb dX7_see_62 ?_
        refine z_iadd hx hb dX7_see_63 ?_
        refine lv_iload_n hx hb dX7_see_64 rfl (lv_at hl 2 rfl) ?_
        refine z_ast (f := (sA S 16 (uZ (S 16) (3 * (S 15 0)).toNat x)) 16) (i := (3 * (S 15 0)) + 1) (v := y) hx hb hK hP (mD hinj cI _) hS 10 0 rfl rfl (by omega) (by omega) (by decide) dX7_see_65 (fun H locs hP hS => ?_)
        have hP : va_P D vwCl (mW cI ad (sA S 16 (uZ (uZ (S 16) (3 * (S 15 0)).toNat x) ((3 * (S 15 0)) + 1).toNat y))) H := hP
        have hR : RS (sA S 16 (uZ (uZ (S 16) (3 * (S 15 0)).toNat x) ((3 * (S 15 0)) + 1).toNat y)) := hR.put' (by omega) (by omega)
        refine lv_aload_n hx hb dX7_see_66 rfl (lv_at hl 0 rfl) ?_
        refine va_get (D := D) (ci := 7) (v := .ref (ad 16)) (C := RX7) (T := TX7) (N := 26) hx hb hT inX7 hown hK hP 0 rfl rfl 16 (by decide) (hT _ q_688) (fun _ h9 => h9) rfl dX7_see_67 ?_
        refine z_iconst hx hb dX7_see_70 ?_
        refine lv_aload_n hx hb dX7_see_71 rfl (lv_at hl 0 rfl) ?_
        refine va_get (D := D) (ci := 7) (v := .int (zI (S 15 0))) (C := RX7) (T := TX7) (N := 26) hx hb hT inX7 hown hK hP 0 rfl rfl 15 (by decide) (hT _ q_687) (fun _ h9 => h9) rfl dX7_see_72 ?_
        refine z_imul hx hb dX7_see_75 ?_
        refine z_iconst hx hb dX7_see_76 ?_
        refine z_iadd hx hb dX7_see_77 ?_
        refine lv_iload_n hx hb dX7_see_78 rfl (lv_at hl 3 rfl) ?_
        refine z_if_eq (tgt := 86) hx hb (by omega) (by omega) dX7_see_79 (by decide) (fun c_12 => ?_) (fun c_12 => ?_)
        · have h9 : True := trivial
          refine z_iconst hx hb dX7_see_86 ?_
          refine z_ast (f := (sA S 16 (uZ (uZ (S 16) (3 * (S 15 0)).toNat x) ((3 * (S 15 0)) + 1).toNat y)) 16) (i := (3 * (S 15 0)) + 2) (v := 0) hx hb hK hP (mD hinj cI _) hS 10 0 rfl rfl (by omega) (by omega) (by decide) dX7_see_87 (fun H locs hP hS => ?_)
          have hP : va_P D vwCl (mW cI ad (sA S 16 (uZ (uZ (uZ (S 16) (3 * (S 15 0)).toNat x) ((3 * (S 15 0)) + 1).toNat y) ((3 * (S 15 0)) + 2).toNat 0))) H := hP
          have hR : RS (sA S 16 (uZ (uZ (uZ (S 16) (3 * (S 15 0)).toNat x) ((3 * (S 15 0)) + 1).toNat y) ((3 * (S 15 0)) + 2).toNat 0)) := hR.put' (by omega) (by omega)
          refine lv_aload_n hx hb dX7_see_88 rfl (lv_at hl 0 rfl) ?_
          refine lv_dup hx hb dX7_see_89 rfl ?_
          refine va_get (D := D) (ci := 7) (v := .int (zI (S 15 0))) (C := RX7) (T := TX7) (N := 26) hx hb hT inX7 hown hK hP 0 rfl rfl 15 (by decide) (hT _ q_687) (fun _ h9 => h9) rfl dX7_see_90 ?_
          refine z_iconst hx hb dX7_see_93 ?_
          refine z_iadd hx hb dX7_see_94 ?_
          refine va_put (D := D) (ci := 7) (v := .int (zI ((S 15 0) + 1))) (ty := .int) (C := RX7) (T := TX7) (N := 26) hx hb hT inX7 tyX7 tyX7_ok nmX7 hown hK hP (mD hinj cI _) hS 0 rfl rfl 15 (by decide) (hT _ q_687) (fun _ h9 => h9) rfl (by decide +kernel) rfl rfl (Nat.le_of_ble_eq_true rfl) dX7_see_95 (fun H locs hP _ hS => ?_)
          have hP : va_P D vwCl (mW cI ad (sA (sA S 16 (uZ (uZ (uZ (S 16) (3 * (S 15 0)).toNat x) ((3 * (S 15 0)) + 1).toNat y) ((3 * (S 15 0)) + 2).toNat 0)) 15 (fun _ => (S 15 0) + 1))) H := hP
          have hR : RS (sA (sA S 16 (uZ (uZ (uZ (S 16) (3 * (S 15 0)).toNat x) ((3 * (S 15 0)) + 1).toNat y) ((3 * (S 15 0)) + 2).toNat 0)) 15 (fun _ => (S 15 0) + 1)) := hR.one (by omega) (by omega)
          refine lv_aload_n hx hb dX7_see_98 rfl (lv_at hl 0 rfl) ?_
          refine va_get (D := D) (ci := 7) (v := .int (zI ((S 15 0) + 1))) (C := RX7) (T := TX7) (N := 26) hx hb hT inX7 hown hK hP 0 rfl rfl 15 (by decide) (hT _ q_687) (fun _ h9 => h9) rfl dX7_see_99 ?_
          exact g_iret (S1 := sA (sA S 16 (uZ (uZ (uZ (S 16) (3 * (S 15 0)).toNat x) ((3 * (S 15 0)) + 1).toNat y) ((3 * (S 15 0)) + 2).toNat 0)) 15 (fun _ => (S 15 0) + 1)) (v := zI ((S 15 0) + 1)) hx hb hr hlocks hP hR hS (⟨_, _, rfl, _, Or.inr (Or.inr (Or.inr ⟨(by unfold isL; omega), by omega, by omega, by omega, by rw [show z = 0 by omega, show (3 * S 15 0).toNat = 3 * m9 by omega, show (3 * S 15 0 + 1).toNat = 3 * m9 + 1 by omega, show (3 * S 15 0 + 2).toNat = 3 * m9 + 2 by omega], by omega⟩)), rfl⟩) dX7_see_102
        · have h9 : True := trivial
          refine z_iconst hx hb dX7_see_82 ?_
          refine lv_goto (tgt := 87) hx hb dX7_see_83 (by decide) ?_
          refine z_ast (f := (sA S 16 (uZ (uZ (S 16) (3 * (S 15 0)).toNat x) ((3 * (S 15 0)) + 1).toNat y)) 16) (i := (3 * (S 15 0)) + 2) (v := 1) hx hb hK hP (mD hinj cI _) hS 10 0 rfl rfl (by omega) (by omega) (by decide) dX7_see_87 (fun H locs hP hS => ?_)
          have hP : va_P D vwCl (mW cI ad (sA S 16 (uZ (uZ (uZ (S 16) (3 * (S 15 0)).toNat x) ((3 * (S 15 0)) + 1).toNat y) ((3 * (S 15 0)) + 2).toNat 1))) H := hP
          have hR : RS (sA S 16 (uZ (uZ (uZ (S 16) (3 * (S 15 0)).toNat x) ((3 * (S 15 0)) + 1).toNat y) ((3 * (S 15 0)) + 2).toNat 1)) := hR.put' (by omega) (by omega)
          refine lv_aload_n hx hb dX7_see_88 rfl (lv_at hl 0 rfl) ?_
          refine lv_dup hx hb dX7_see_89 rfl ?_
          refine va_get (D := D) (ci := 7) (v := .int (zI (S 15 0))) (C := RX7) (T := TX7) (N := 26) hx hb hT inX7 hown hK hP 0 rfl rfl 15 (by decide) (hT _ q_687) (fun _ h9 => h9) rfl dX7_see_90 ?_
          refine z_iconst hx hb dX7_see_93 ?_
          refine z_iadd hx hb dX7_see_94 ?_
          refine va_put (D := D) (ci := 7) (v := .int (zI ((S 15 0) + 1))) (ty := .int) (C := RX7) (T := TX7) (N := 26) hx hb hT inX7 tyX7 tyX7_ok nmX7 hown hK hP (mD hinj cI _) hS 0 rfl rfl 15 (by decide) (hT _ q_687) (fun _ h9 => h9) rfl (by decide +kernel) rfl rfl (Nat.le_of_ble_eq_true rfl) dX7_see_95 (fun H locs hP _ hS => ?_)
          have hP : va_P D vwCl (mW cI ad (sA (sA S 16 (uZ (uZ (uZ (S 16) (3 * (S 15 0)).toNat x) ((3 * (S 15 0)) + 1).toNat y) ((3 * (S 15 0)) + 2).toNat 1)) 15 (fun _ => (S 15 0) + 1))) H := hP
          have hR : RS (sA (sA S 16 (uZ (uZ (uZ (S 16) (3 * (S 15 0)).toNat x) ((3 * (S 15 0)) + 1).toNat y) ((3 * (S 15 0)) + 2).toNat 1)) 15 (fun _ => (S 15 0) + 1)) := hR.one (by omega) (by omega)
          refine lv_aload_n hx hb dX7_see_98 rfl (lv_at hl 0 rfl) ?_
          refine va_get (D := D) (ci := 7) (v := .int (zI ((S 15 0) + 1))) (C := RX7) (T := TX7) (N := 26) hx hb hT inX7 hown hK hP 0 rfl rfl 15 (by decide) (hT _ q_687) (fun _ h9 => h9) rfl dX7_see_99 ?_
          exact g_iret (S1 := sA (sA S 16 (uZ (uZ (uZ (S 16) (3 * (S 15 0)).toNat x) ((3 * (S 15 0)) + 1).toNat y) ((3 * (S 15 0)) + 2).toNat 1)) 15 (fun _ => (S 15 0) + 1)) (v := zI ((S 15 0) + 1)) hx hb hr hlocks hP hR hS (⟨_, _, rfl, _, Or.inr (Or.inr (Or.inr ⟨(by unfold isL; omega), by omega, by omega, by omega, by rw [show z = 1 by omega, show (3 * S 15 0).toNat = 3 * m9 by omega, show (3 * S 15 0 + 1).toNat = 3 * m9 + 1 by omega, show (3 * S 15 0 + 2).toNat = 3 * m9 + 2 by omega], by omega⟩)), rfl⟩) dX7_see_102
      · have h9 : True := trivial
        refine z_bipush hx hb dX7_see_37 (by decide) ?_
        have hSe_13 : S = sA (sA S 16 (S 16)) 15 (S 15) := by
          funext k8
          by_cases e80 : k8 = 16
          · subst e80; first | rfl | (funext j8; rfl)
          by_cases e81 : k8 = 15
          · subst e81; first | rfl | (funext j8; rfl)
          simp [sA, e80, e81]
        rw [hSe_13] at hP hR
        exact g_iret (S1 := sA (sA S 16 (S 16)) 15 (S 15)) (v := zI (-104)) hx hb hr hlocks hP hR hS (⟨_, _, rfl, _, Or.inr (Or.inr (Or.inl ⟨(by unfold isL; omega), by omega, by omega, rfl, rfl, hm9⟩)), rfl⟩) dX7_see_39
    · have h9 : True := trivial
      have c_9 : ¬ (1 ≤ y ∧ y ≤ (S 2 0)) := of_decide_eq_false c_9
      refine z_bipush hx hb dX7_see_25 (by decide) ?_
      have hSe_14 : S = sA (sA S 16 (S 16)) 15 (S 15) := by
        funext k8
        by_cases e80 : k8 = 16
        · subst e80; first | rfl | (funext j8; rfl)
        by_cases e81 : k8 = 15
        · subst e81; first | rfl | (funext j8; rfl)
        simp [sA, e80, e81]
      rw [hSe_14] at hP hR
      exact g_iret (S1 := sA (sA S 16 (S 16)) 15 (S 15)) (v := zI (-102)) hx hb hr hlocks hP hR hS (⟨_, _, rfl, _, Or.inr (Or.inl ⟨(by unfold isL; omega), by omega, rfl, rfl, hm9⟩), rfl⟩) dX7_see_27
  · have h9 : True := trivial
    have c_4 : ¬ (0 ≤ x ∧ x ≤ S 2 0 - 1) := of_decide_eq_false c_4
    refine z_bipush hx hb dX7_see_8 (by decide) ?_
    have hSe_15 : S = sA (sA S 16 (S 16)) 15 (S 15) := by
      funext k8
      by_cases e80 : k8 = 16
      · subst e80; first | rfl | (funext j8; rfl)
      by_cases e81 : k8 = 15
      · subst e81; first | rfl | (funext j8; rfl)
      simp [sA, e80, e81]
    rw [hSe_15] at hP hR
    exact g_iret (S1 := sA (sA S 16 (S 16)) 15 (S 15)) (v := zI (-101)) hx hb hr hlocks hP hR hS (⟨_, _, rfl, _, Or.inl ⟨by unfold isL; omega, rfl, rfl, hm9⟩, rfl⟩) dX7_see_10
