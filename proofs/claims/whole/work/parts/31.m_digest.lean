set_option maxHeartbeats 4000000 in
set_option maxRecDepth 100000 in
theorem k_X7_say (l : Launch) (D : va_G) (cI : ClassId) (ad : Nat → Nat) (hinj : mInj ad) (S : St) (hR : RS S) (xv : Int) : Met l yX7_say (Cond.code yX7_say cX7_say 3 none :: lwT) ({ frames := 0, cells := 0, slots := 0, locals := 0 }) (gPc D (mW cI ad) (mE D cI) S [.ref (ad 26), .long (zL (xv))]) (va_Qv (fun (S' : St) => S' = sA S 99 (fun _ => hx9 (S 99 0) xv)) (gB D (mW cI ad)) (mA ad)) 0 0 (mA ad) := by
  refine Met.ofW (cc := cX7_say) (maxL := 3) (ret := none) (by decide) rfl ?_
  intro p e s m args below meth c s₁ B hml hv
  obtain ⟨rfl, hP, hE⟩ := hv
  have hx := B.exec
  have hb := B.bytes
  have hr := B.returns
  have hts := atoms_spec (ws := Cond.code yX7_say cX7_say 3 none :: lwT) B.pre
  have hT := fun w (h : w ∈ lwT) => hts w (List.mem_cons_of_mem _ h)
  have hsub : ∀ w ∈ lwT, w ∈ (Cond.code yX7_say cX7_say 3 none :: lwT) := fun w h => List.mem_cons_of_mem _ h
  have hown : s.vm.findClass RX7 = some m.cls := findClass_of_methodNamed B.named
  have hlocks := B.notSynchronized
  have hK : va_K D vwCl [(cI, .int)] s := hE
  have hS : va_S (mA ad) s.heap s.heap [] := va_S.rf
  have hl := lv_entry ([.ref (ad 26), .long (zL (xv))]) (n := 3) (Nat.le_of_ble_eq_true rfl)
  rw [lg_entry_eq]
  generalize (lg_sl ([.ref (ad 26), .long (zL (xv))]) ++ List.replicate (3 - (lg_sl ([.ref (ad 26), .long (zL (xv))])).length) Slot.unset).toArray = ls at hl ⊢
  have hl : lv_has ls 3 [(0, .ref (ad 26)), (1, .long (zL (xv)))] := hl
  refine lv_aload_n hx hb dX7_say_0 rfl (lv_at hl 0 rfl) ?_
  refine lv_ldc2 (v := zL 31) hx hb hown (hT _ q_1068) dX7_say_1 ?_
  refine lv_aload_n hx hb dX7_say_4 rfl (lv_at hl 0 rfl) ?_
  refine va_get (D := D) (ci := 7) (v := .long (zL (S 99 0))) (C := RX7) (T := TX7) (N := 26) hx hb hT inX7 hown hK hP 0 rfl rfl 25 (by decide) (hT _ q_697) (fun _ h9 => h9) rfl dX7_say_5 ?_
  refine z_lmul hx hb dX7_say_8 ?_
  refine lv_lload_n hx hb dX7_say_9 rfl (lv_at hl 1 rfl) ?_
  refine z_ladd hx hb dX7_say_10 ?_
  refine va_put (D := D) (ci := 7) (v := .long (zL ((31 * (S 99 0)) + xv))) (ty := .long) (C := RX7) (T := TX7) (N := 26) hx hb hT inX7 tyX7 tyX7_ok nmX7 hown hK hP (mD hinj cI _) hS 0 rfl rfl 25 (by decide) (hT _ q_697) (fun _ h9 => h9) rfl (by decide +kernel) rfl rfl (Nat.le_of_ble_eq_true rfl) dX7_say_11 (fun H locs hP _ hS => ?_)
  have hP : va_P D vwCl (mW cI ad (sA S 99 (fun _ => (31 * (S 99 0)) + xv))) H := hP
  have hR : RS (sA S 99 (fun _ => (31 * (S 99 0)) + xv)) := hR.hash _
  exact g_vret (S1 := sA S 99 (fun _ => (31 * (S 99 0)) + xv)) hx hb hr hlocks hP hR hS (rfl) dX7_say_14
set_option maxHeartbeats 4000000 in
set_option maxRecDepth 100000 in
theorem k_X7_sayStrip (l : Launch) (D : va_G) (cI : ClassId) (ad : Nat → Nat) (hinj : mInj ad) (S : St) (hR : RS S) (n : Nat) (hn : S 2 0 = ↑n) (hn7 : n ≤ 7) (N : Nat) (hN : S 8 0 = ↑N) (hO : OT n N (S 7)) (k0 : Nat) (hk0 : k0 < N) (hk : S 7 k0 = cdF (S 6) n) (hp : prm n (S 6)) (m9 : Nat) (hm9 : S 15 0 = ↑m9) (hsg : sgOK n (S 16) m9) (hn2 : 2 ≤ n) : Met l yX7_sayStrip (Cond.code yX7_sayStrip cX7_sayStrip 2 none :: lwT) ({ frames := 7, cells := 0, slots := 0, locals := 153 }) (gPc D (mW cI ad) (mE D cI) S [.ref (ad 26)]) (va_Qv (fun (S' : St) => ∃ e9 e10 e99, S' = sA (sA (sA S 9 e9) 10 e10) 99 e99 ∧ ∃ x, argm (ftP n (S 5) (S 7)) (fun k => wmF n (S 5) (dgF n (S 7 k))) N x ∧ e99 0 = H3 n N (S 5) (S 6) (S 7) (S 16) k0 m9 x (S 99 0)) (gB D (mW cI ad)) (mA ad)) 0 0 (mA ad) := by
  refine Met.ofW (cc := cX7_sayStrip) (maxL := 2) (ret := none) (by decide) rfl ?_
  intro p e s m args below meth c s₁ B hml hv
  obtain ⟨rfl, hP, hE⟩ := hv
  have hx := B.exec
  have hb := B.bytes
  have hr := B.returns
  have hts := atoms_spec (ws := Cond.code yX7_sayStrip cX7_sayStrip 2 none :: lwT) B.pre
  have hT := fun w (h : w ∈ lwT) => hts w (List.mem_cons_of_mem _ h)
  have hsub : ∀ w ∈ lwT, w ∈ (Cond.code yX7_sayStrip cX7_sayStrip 2 none :: lwT) := fun w h => List.mem_cons_of_mem _ h
  have hown : s.vm.findClass RX7 = some m.cls := findClass_of_methodNamed B.named
  have hlocks := B.notSynchronized
  have hK : va_K D vwCl [(cI, .int)] s := hE
  have hS : va_S (mA ad) s.heap s.heap [] := va_S.rf
  have hO1 := hO.1
  have hO2 := hO.2.1
  have hl := lv_entry ([.ref (ad 26)]) (n := 2) (Nat.le_of_ble_eq_true rfl)
  rw [lg_entry_eq]
  generalize (lg_sl ([.ref (ad 26)]) ++ List.replicate (2 - (lg_sl ([.ref (ad 26)])).length) Slot.unset).toArray = ls at hl ⊢
  have hl : lv_has ls 2 [(0, .ref (ad 26))] := hl
  refine z_iconst hx hb dX7_sayStrip_0 ?_
  refine lv_istore_n (lv' := [(1, .int (zI (0))), (0, .ref (ad 26))]) hx hb dX7_sayStrip_1 rfl hl (by decide) rfl (fun ls hl => ?_)
  have cut_2 : ∀ (k9 : Nat) (i : Nat) (hh : Int) (g10 : Nat → Int) (H : Heap) (locs : List Loc) (ls : Array Slot), (i ≤ 4) → (hh = itF (fun w h => hx9 h (orsF n N (S 5) (S 6) (S 7) k0 ↑w)) (S 99 0) i) → (4 - i) < k9 → va_P D vwCl (mW cI ad (sA (sA S 10 g10) 99 (fun _ => hh))) H → RS (sA (sA S 10 g10) 99 (fun _ => hh)) → va_S (mA ad) s.heap H locs → lv_has ls 2 [(0, .ref (ad 26)), (1, .int (zI (↑i)))] → W p l e (headSpec (Cond.code yX7_sayStrip cX7_sayStrip 2 none :: lwT) ({ frames := 7, cells := 0, slots := 0, locals := 153 })).room s m ([.ref (ad 26)] : List Value).toArray below meth c H locs 0 0 (MQ below (va_Qv (fun (S' : St) => ∃ e9 e10 e99, S' = sA (sA (sA S 9 e9) 10 e10) 99 e99 ∧ ∃ x, argm (ftP n (S 5) (S 7)) (fun k => wmF n (S 5) (dgF n (S 7 k))) N x ∧ e99 0 = H3 n N (S 5) (S 6) (S 7) (S 16) k0 m9 x (S 99 0)) (gB D (mW cI ad)) (mA ad)) ([.ref (ad 26)] : List Value).toArray s 0 0 (mA ad)) (F0 m 2 ls []) := by
    intro k9
    induction k9 with
    | zero =>
      intro i hh g10 H locs ls hi hhh hk9 hP hR hS hl
      exact absurd hk9 (Nat.not_lt_zero _)
    | succ k9 ih_2 =>
      intro i hh g10 H locs ls hi hhh hk9 hP hR hS hl
      refine lv_iload_n hx hb dX7_sayStrip_2 rfl (lv_at hl 1 rfl) ?_
      refine z_iconst hx hb dX7_sayStrip_3 ?_
      refine z_icmp_ge (tgt := 23) hx hb (by omega) (by omega) (by omega) (by omega) dX7_sayStrip_4 (by decide) (fun c_1 => ?_) (fun c_1 => ?_)
      · have h9 : True := trivial
        have hi4 : i = 4 := by omega
        rw [hi4] at hhh
        refine lv_aload_n hx hb dX7_sayStrip_23 rfl (lv_at hl 0 rfl) ?_
        refine lv_aload_n hx hb dX7_sayStrip_24 rfl (lv_at hl 0 rfl) ?_
        refine z_iconst hx hb dX7_sayStrip_25 ?_
        refine g_callVi (As := [.int (zI (0))]) (rest := [.ref (ad 26)]) ⟨hx, hb, hml, hown, hts⟩ (k_X7_trimOf l D cI ad hinj (sA (sA S 10 g10) 99 (fun _ => hh)) hR n hn hn7 N hN hO 0 (by omega) (by omega)) (cwV 1 hts (gV hsub q_886 q_888 q_sX7_trimOf q_8 q_889) rfl rfl rfl hdX7_trimOf ⟨Nat.le_of_ble_eq_true rfl, Nat.le_of_ble_eq_true rfl⟩) (mEb D cI) (mEk D cI (mA ad)) hE (va_recv (ci := 7) (q0 := 0) hK hP rfl rfl) hP hS rfl hl.1 rfl (Nat.le_of_ble_eq_true rfl) dX7_sayStrip_26 ⟨Nat.le_of_ble_eq_true rfl, Nat.le_of_ble_eq_true rfl⟩ (fun r_2 S_3 H locs hq_4 hP hR hS _ => ?_)
        obtain ⟨e_5, e_6, rfl, x_7, hA_8, rfl⟩ := hq_4
        refine z_top (b := if x_7 = -1 ∨ 0 = 0 then x_7 else wmF n (S 5) (dgF n (S 7 x_7.toNat))) rfl ?_
        have htr : -1 ≤ tmV n (S 5) (S 7) x_7 0 ∧ tmV n (S 5) (S 7) x_7 0 ≤ 462 := tmV_r (w := 0) hn7 hO1 hA_8
        refine z_top (b := tmV n (S 5) (S 7) x_7 0) (rfl) ?_
        refine z_i2l hx hb (by omega) (by omega) dX7_sayStrip_29 ?_
        refine g_callVv (As := [.long (zL (tmV n (S 5) (S 7) x_7 0))]) (rest := []) ⟨hx, hb, hml, hown, hts⟩ (k_X7_say l D cI ad hinj (sA (sA (sA (sA S 10 g10) 99 (fun _ => hh)) 9 e_5) 10 e_6) hR (tmV n (S 5) (S 7) x_7 0)) (cwV 1 hts (gV hsub q_1064 q_1066 q_sX7_say q_8 q_1067) rfl rfl rfl hdX7_say ⟨Nat.le_of_ble_eq_true rfl, Nat.le_of_ble_eq_true rfl⟩) (mEb D cI) (mEk D cI (mA ad)) hE (va_recv (ci := 7) (q0 := 0) hK hP rfl rfl) hP hS rfl hl.1 rfl (Nat.le_of_ble_eq_true rfl) dX7_sayStrip_30 ⟨Nat.le_of_ble_eq_true rfl, Nat.le_of_ble_eq_true rfl⟩ (fun S_10 H locs hq_11 hP hR hS _ => ?_)
        obtain rfl := hq_11
        have hP : va_P D vwCl (mW cI ad (sA (sA (sA (sA (sA S 10 g10) 99 (fun _ => hh)) 9 e_5) 10 e_6) 99 (fun _ => hx9 hh (tmV n (S 5) (S 7) x_7 0)))) H := hP
        have hR : RS (sA (sA (sA (sA (sA S 10 g10) 99 (fun _ => hh)) 9 e_5) 10 e_6) 99 (fun _ => hx9 hh (tmV n (S 5) (S 7) x_7 0))) := hR
        refine lv_aload_n hx hb dX7_sayStrip_33 rfl (lv_at hl 0 rfl) ?_
        refine lv_aload_n hx hb dX7_sayStrip_34 rfl (lv_at hl 0 rfl) ?_
        refine z_iconst hx hb dX7_sayStrip_35 ?_
        refine g_callVi (As := [.int (zI (1))]) (rest := [.ref (ad 26)]) ⟨hx, hb, hml, hown, hts⟩ (k_X7_trimOf l D cI ad hinj (sA (sA (sA (sA (sA S 10 g10) 99 (fun _ => hh)) 9 e_5) 10 e_6) 99 (fun _ => hx9 hh (tmV n (S 5) (S 7) x_7 0))) hR n hn hn7 N hN hO 1 (by omega) (by omega)) (cwV 1 hts (gV hsub q_886 q_888 q_sX7_trimOf q_8 q_889) rfl rfl rfl hdX7_trimOf ⟨Nat.le_of_ble_eq_true rfl, Nat.le_of_ble_eq_true rfl⟩) (mEb D cI) (mEk D cI (mA ad)) hE (va_recv (ci := 7) (q0 := 0) hK hP rfl rfl) hP hS rfl hl.1 rfl (Nat.le_of_ble_eq_true rfl) dX7_sayStrip_36 ⟨Nat.le_of_ble_eq_true rfl, Nat.le_of_ble_eq_true rfl⟩ (fun r_12 S_13 H locs hq_14 hP hR hS _ => ?_)
        obtain ⟨e_15, e_16, rfl, x_17, hA_18, rfl⟩ := hq_14
        refine z_top (b := if x_17 = -1 ∨ 1 = 0 then x_17 else wmF n (S 5) (dgF n (S 7 x_17.toNat))) rfl ?_
        have hxe := argm_u hA_18 hA_8
        have htr1 : -1 ≤ tmV n (S 5) (S 7) x_7 1 ∧ tmV n (S 5) (S 7) x_7 1 ≤ 462 := tmV_r (w := 1) hn7 hO1 hA_8
        refine z_top (b := tmV n (S 5) (S 7) x_7 1) (by rw [hxe]; rfl) ?_
        refine z_i2l hx hb (by omega) (by omega) dX7_sayStrip_39 ?_
        refine g_callVv (As := [.long (zL (tmV n (S 5) (S 7) x_7 1))]) (rest := []) ⟨hx, hb, hml, hown, hts⟩ (k_X7_say l D cI ad hinj (sA (sA (sA (sA (sA (sA (sA S 10 g10) 99 (fun _ => hh)) 9 e_5) 10 e_6) 99 (fun _ => hx9 hh (tmV n (S 5) (S 7) x_7 0))) 9 e_15) 10 e_16) hR (tmV n (S 5) (S 7) x_7 1)) (cwV 1 hts (gV hsub q_1064 q_1066 q_sX7_say q_8 q_1067) rfl rfl rfl hdX7_say ⟨Nat.le_of_ble_eq_true rfl, Nat.le_of_ble_eq_true rfl⟩) (mEb D cI) (mEk D cI (mA ad)) hE (va_recv (ci := 7) (q0 := 0) hK hP rfl rfl) hP hS rfl hl.1 rfl (Nat.le_of_ble_eq_true rfl) dX7_sayStrip_40 ⟨Nat.le_of_ble_eq_true rfl, Nat.le_of_ble_eq_true rfl⟩ (fun S_20 H locs hq_21 hP hR hS _ => ?_)
        obtain rfl := hq_21
        have hP : va_P D vwCl (mW cI ad (sA (sA (sA (sA (sA (sA (sA (sA S 10 g10) 99 (fun _ => hh)) 9 e_5) 10 e_6) 99 (fun _ => hx9 hh (tmV n (S 5) (S 7) x_7 0))) 9 e_15) 10 e_16) 99 (fun _ => hx9 (hx9 hh (tmV n (S 5) (S 7) x_7 0)) (tmV n (S 5) (S 7) x_7 1)))) H := hP
        have hR : RS (sA (sA (sA (sA (sA (sA (sA (sA S 10 g10) 99 (fun _ => hh)) 9 e_5) 10 e_6) 99 (fun _ => hx9 hh (tmV n (S 5) (S 7) x_7 0))) 9 e_15) 10 e_16) 99 (fun _ => hx9 (hx9 hh (tmV n (S 5) (S 7) x_7 0)) (tmV n (S 5) (S 7) x_7 1))) := hR
        refine lv_aload_n hx hb dX7_sayStrip_43 rfl (lv_at hl 0 rfl) ?_
        refine lv_aload_n hx hb dX7_sayStrip_44 rfl (lv_at hl 0 rfl) ?_
        refine z_iconst hx hb dX7_sayStrip_45 ?_
        refine z_iconst hx hb dX7_sayStrip_46 ?_
        refine z_iconst hx hb dX7_sayStrip_47 ?_
        refine g_callVi (As := [.int (zI (0)), .int (zI (1)), .int (zI (0))]) (rest := [.ref (ad 26)]) ⟨hx, hb, hml, hown, hts⟩ (k_X7_oddsOf l D cI ad hinj (sA (sA (sA (sA (sA (sA (sA (sA S 10 g10) 99 (fun _ => hh)) 9 e_5) 10 e_6) 99 (fun _ => hx9 hh (tmV n (S 5) (S 7) x_7 0))) 9 e_15) 10 e_16) 99 (fun _ => hx9 (hx9 hh (tmV n (S 5) (S 7) x_7 0)) (tmV n (S 5) (S 7) x_7 1))) hR n hn hn7 N hN hO (0) (1) 0 1 0 (by omega) (by omega) (by omega) (by omega) (by omega) (by omega)) (cwV 3 hts (gV hsub q_910 q_912 q_sX7_oddsOf q_8 q_913) rfl rfl rfl hdX7_oddsOf ⟨Nat.le_of_ble_eq_true rfl, Nat.le_of_ble_eq_true rfl⟩) (mEb D cI) (mEk D cI (mA ad)) hE (va_recv (ci := 7) (q0 := 0) hK hP rfl rfl) hP hS rfl hl.1 rfl (Nat.le_of_ble_eq_true rfl) dX7_sayStrip_48 ⟨Nat.le_of_ble_eq_true rfl, Nat.le_of_ble_eq_true rfl⟩ (fun r_22 S_23 H locs hq_24 hP hR hS _ => ?_)
        obtain ⟨e_25, rfl, rfl⟩ := hq_24
        refine z_top (b := odF (cnt (fun k => pB (ftP n (S 5) (S 7) k)) N) (cnt (fun k => pB (ftP n (S 5) (S 7) k ∧ pl n (dgF n (S 7 k)) 0 < pl n (dgF n (S 7 k)) 1)) N) 0) rfl ?_
        have hor0 := odV_r (n := n) (kd := S 5) (t := S 7) (w := 0) hO1 (by omega)
        refine z_top (b := odV n N (S 5) (S 7) 0) (rfl) ?_
        refine z_i2l hx hb (by omega) (by omega) dX7_sayStrip_51 ?_
        refine g_callVv (As := [.long (zL (odV n N (S 5) (S 7) 0))]) (rest := []) ⟨hx, hb, hml, hown, hts⟩ (k_X7_say l D cI ad hinj (sA (sA (sA (sA (sA (sA (sA (sA (sA S 10 g10) 99 (fun _ => hh)) 9 e_5) 10 e_6) 99 (fun _ => hx9 hh (tmV n (S 5) (S 7) x_7 0))) 9 e_15) 10 e_16) 99 (fun _ => hx9 (hx9 hh (tmV n (S 5) (S 7) x_7 0)) (tmV n (S 5) (S 7) x_7 1))) 10 e_25) hR (odV n N (S 5) (S 7) 0)) (cwV 1 hts (gV hsub q_1064 q_1066 q_sX7_say q_8 q_1067) rfl rfl rfl hdX7_say ⟨Nat.le_of_ble_eq_true rfl, Nat.le_of_ble_eq_true rfl⟩) (mEb D cI) (mEk D cI (mA ad)) hE (va_recv (ci := 7) (q0 := 0) hK hP rfl rfl) hP hS rfl hl.1 rfl (Nat.le_of_ble_eq_true rfl) dX7_sayStrip_52 ⟨Nat.le_of_ble_eq_true rfl, Nat.le_of_ble_eq_true rfl⟩ (fun S_27 H locs hq_28 hP hR hS _ => ?_)
        obtain rfl := hq_28
        have hP : va_P D vwCl (mW cI ad (sA (sA (sA (sA (sA (sA (sA (sA (sA (sA S 10 g10) 99 (fun _ => hh)) 9 e_5) 10 e_6) 99 (fun _ => hx9 hh (tmV n (S 5) (S 7) x_7 0))) 9 e_15) 10 e_16) 99 (fun _ => hx9 (hx9 hh (tmV n (S 5) (S 7) x_7 0)) (tmV n (S 5) (S 7) x_7 1))) 10 e_25) 99 (fun _ => hx9 (hx9 (hx9 hh (tmV n (S 5) (S 7) x_7 0)) (tmV n (S 5) (S 7) x_7 1)) (odV n N (S 5) (S 7) 0)))) H := hP
        have hR : RS (sA (sA (sA (sA (sA (sA (sA (sA (sA (sA S 10 g10) 99 (fun _ => hh)) 9 e_5) 10 e_6) 99 (fun _ => hx9 hh (tmV n (S 5) (S 7) x_7 0))) 9 e_15) 10 e_16) 99 (fun _ => hx9 (hx9 hh (tmV n (S 5) (S 7) x_7 0)) (tmV n (S 5) (S 7) x_7 1))) 10 e_25) 99 (fun _ => hx9 (hx9 (hx9 hh (tmV n (S 5) (S 7) x_7 0)) (tmV n (S 5) (S 7) x_7 1)) (odV n N (S 5) (S 7) 0))) := hR
        refine lv_aload_n hx hb dX7_sayStrip_55 rfl (lv_at hl 0 rfl) ?_
        refine lv_aload_n hx hb dX7_sayStrip_56 rfl (lv_at hl 0 rfl) ?_
        refine z_iconst hx hb dX7_sayStrip_57 ?_
        refine z_iconst hx hb dX7_sayStrip_58 ?_
        refine z_iconst hx hb dX7_sayStrip_59 ?_
        refine g_callVi (As := [.int (zI (0)), .int (zI (1)), .int (zI (1))]) (rest := [.ref (ad 26)]) ⟨hx, hb, hml, hown, hts⟩ (k_X7_oddsOf l D cI ad hinj (sA (sA (sA (sA (sA (sA (sA (sA (sA (sA S 10 g10) 99 (fun _ => hh)) 9 e_5) 10 e_6) 99 (fun _ => hx9 hh (tmV n (S 5) (S 7) x_7 0))) 9 e_15) 10 e_16) 99 (fun _ => hx9 (hx9 hh (tmV n (S 5) (S 7) x_7 0)) (tmV n (S 5) (S 7) x_7 1))) 10 e_25) 99 (fun _ => hx9 (hx9 (hx9 hh (tmV n (S 5) (S 7) x_7 0)) (tmV n (S 5) (S 7) x_7 1)) (odV n N (S 5) (S 7) 0))) hR n hn hn7 N hN hO (0) (1) 0 1 1 (by omega) (by omega) (by omega) (by omega) (by omega) (by omega)) (cwV 3 hts (gV hsub q_910 q_912 q_sX7_oddsOf q_8 q_913) rfl rfl rfl hdX7_oddsOf ⟨Nat.le_of_ble_eq_true rfl, Nat.le_of_ble_eq_true rfl⟩) (mEb D cI) (mEk D cI (mA ad)) hE (va_recv (ci := 7) (q0 := 0) hK hP rfl rfl) hP hS rfl hl.1 rfl (Nat.le_of_ble_eq_true rfl) dX7_sayStrip_60 ⟨Nat.le_of_ble_eq_true rfl, Nat.le_of_ble_eq_true rfl⟩ (fun r_29 S_30 H locs hq_31 hP hR hS _ => ?_)
        obtain ⟨e_32, rfl, rfl⟩ := hq_31
        refine z_top (b := odF (cnt (fun k => pB (ftP n (S 5) (S 7) k)) N) (cnt (fun k => pB (ftP n (S 5) (S 7) k ∧ pl n (dgF n (S 7 k)) 0 < pl n (dgF n (S 7 k)) 1)) N) 1) rfl ?_
        have hor1 := odV_r (n := n) (kd := S 5) (t := S 7) (w := 1) hO1 (by omega)
        refine z_top (b := odV n N (S 5) (S 7) 1) (rfl) ?_
        refine z_i2l hx hb (by omega) (by omega) dX7_sayStrip_63 ?_
        refine g_callVv (As := [.long (zL (odV n N (S 5) (S 7) 1))]) (rest := []) ⟨hx, hb, hml, hown, hts⟩ (k_X7_say l D cI ad hinj (sA (sA (sA (sA (sA (sA (sA (sA (sA (sA (sA S 10 g10) 99 (fun _ => hh)) 9 e_5) 10 e_6) 99 (fun _ => hx9 hh (tmV n (S 5) (S 7) x_7 0))) 9 e_15) 10 e_16) 99 (fun _ => hx9 (hx9 hh (tmV n (S 5) (S 7) x_7 0)) (tmV n (S 5) (S 7) x_7 1))) 10 e_25) 99 (fun _ => hx9 (hx9 (hx9 hh (tmV n (S 5) (S 7) x_7 0)) (tmV n (S 5) (S 7) x_7 1)) (odV n N (S 5) (S 7) 0))) 10 e_32) hR (odV n N (S 5) (S 7) 1)) (cwV 1 hts (gV hsub q_1064 q_1066 q_sX7_say q_8 q_1067) rfl rfl rfl hdX7_say ⟨Nat.le_of_ble_eq_true rfl, Nat.le_of_ble_eq_true rfl⟩) (mEb D cI) (mEk D cI (mA ad)) hE (va_recv (ci := 7) (q0 := 0) hK hP rfl rfl) hP hS rfl hl.1 rfl (Nat.le_of_ble_eq_true rfl) dX7_sayStrip_64 ⟨Nat.le_of_ble_eq_true rfl, Nat.le_of_ble_eq_true rfl⟩ (fun S_34 H locs hq_35 hP hR hS _ => ?_)
        obtain rfl := hq_35
        have hP : va_P D vwCl (mW cI ad (sA (sA (sA (sA (sA (sA (sA (sA (sA (sA (sA (sA S 10 g10) 99 (fun _ => hh)) 9 e_5) 10 e_6) 99 (fun _ => hx9 hh (tmV n (S 5) (S 7) x_7 0))) 9 e_15) 10 e_16) 99 (fun _ => hx9 (hx9 hh (tmV n (S 5) (S 7) x_7 0)) (tmV n (S 5) (S 7) x_7 1))) 10 e_25) 99 (fun _ => hx9 (hx9 (hx9 hh (tmV n (S 5) (S 7) x_7 0)) (tmV n (S 5) (S 7) x_7 1)) (odV n N (S 5) (S 7) 0))) 10 e_32) 99 (fun _ => hx9 (hx9 (hx9 (hx9 hh (tmV n (S 5) (S 7) x_7 0)) (tmV n (S 5) (S 7) x_7 1)) (odV n N (S 5) (S 7) 0)) (odV n N (S 5) (S 7) 1)))) H := hP
        have hR : RS (sA (sA (sA (sA (sA (sA (sA (sA (sA (sA (sA (sA S 10 g10) 99 (fun _ => hh)) 9 e_5) 10 e_6) 99 (fun _ => hx9 hh (tmV n (S 5) (S 7) x_7 0))) 9 e_15) 10 e_16) 99 (fun _ => hx9 (hx9 hh (tmV n (S 5) (S 7) x_7 0)) (tmV n (S 5) (S 7) x_7 1))) 10 e_25) 99 (fun _ => hx9 (hx9 (hx9 hh (tmV n (S 5) (S 7) x_7 0)) (tmV n (S 5) (S 7) x_7 1)) (odV n N (S 5) (S 7) 0))) 10 e_32) 99 (fun _ => hx9 (hx9 (hx9 (hx9 hh (tmV n (S 5) (S 7) x_7 0)) (tmV n (S 5) (S 7) x_7 1)) (odV n N (S 5) (S 7) 0)) (odV n N (S 5) (S 7) 1))) := hR
        refine lv_aload_n hx hb dX7_sayStrip_67 rfl (lv_at hl 0 rfl) ?_
        refine lv_aload_n hx hb dX7_sayStrip_68 rfl (lv_at hl 0 rfl) ?_
        refine g_callVi (As := []) (rest := [.ref (ad 26)]) ⟨hx, hb, hml, hown, hts⟩ (k_X7_couldOf l D cI ad hinj (sA (sA (sA (sA (sA (sA (sA (sA (sA (sA (sA (sA S 10 g10) 99 (fun _ => hh)) 9 e_5) 10 e_6) 99 (fun _ => hx9 hh (tmV n (S 5) (S 7) x_7 0))) 9 e_15) 10 e_16) 99 (fun _ => hx9 (hx9 hh (tmV n (S 5) (S 7) x_7 0)) (tmV n (S 5) (S 7) x_7 1))) 10 e_25) 99 (fun _ => hx9 (hx9 (hx9 hh (tmV n (S 5) (S 7) x_7 0)) (tmV n (S 5) (S 7) x_7 1)) (odV n N (S 5) (S 7) 0))) 10 e_32) 99 (fun _ => hx9 (hx9 (hx9 (hx9 hh (tmV n (S 5) (S 7) x_7 0)) (tmV n (S 5) (S 7) x_7 1)) (odV n N (S 5) (S 7) 0)) (odV n N (S 5) (S 7) 1))) hR n hn hn7 N hN hO m9 hm9 hsg) (cwV 0 hts (gV hsub q_1001 q_1003 q_sX7_couldOf q_8 q_1004) rfl rfl rfl hdX7_couldOf ⟨Nat.le_of_ble_eq_true rfl, Nat.le_of_ble_eq_true rfl⟩) (mEb D cI) (mEk D cI (mA ad)) hE (va_recv (ci := 7) (q0 := 0) hK hP rfl rfl) hP hS rfl hl.1 rfl (Nat.le_of_ble_eq_true rfl) dX7_sayStrip_69 ⟨Nat.le_of_ble_eq_true rfl, Nat.le_of_ble_eq_true rfl⟩ (fun r_36 S_37 H locs hq_38 hP hR hS _ => ?_)
        obtain ⟨e_39, rfl, rfl⟩ := hq_38
        refine z_top (b := cnt (fun k => pB (lkP n (dgF n (S 7 k)) (S 16) m9)) N) rfl ?_
        have hcl := cnt_r (fun k => pB (lkP n (dgF n (S 7 k)) (S 16) m9)) N
        refine z_i2l hx hb (by omega) (by omega) dX7_sayStrip_72 ?_
        refine g_callVv (As := [.long (zL (cnt (fun k => pB (lkP n (dgF n (S 7 k)) (S 16) m9)) N))]) (rest := []) ⟨hx, hb, hml, hown, hts⟩ (k_X7_say l D cI ad hinj (sA (sA (sA (sA (sA (sA (sA (sA (sA (sA (sA (sA (sA S 10 g10) 99 (fun _ => hh)) 9 e_5) 10 e_6) 99 (fun _ => hx9 hh (tmV n (S 5) (S 7) x_7 0))) 9 e_15) 10 e_16) 99 (fun _ => hx9 (hx9 hh (tmV n (S 5) (S 7) x_7 0)) (tmV n (S 5) (S 7) x_7 1))) 10 e_25) 99 (fun _ => hx9 (hx9 (hx9 hh (tmV n (S 5) (S 7) x_7 0)) (tmV n (S 5) (S 7) x_7 1)) (odV n N (S 5) (S 7) 0))) 10 e_32) 99 (fun _ => hx9 (hx9 (hx9 (hx9 hh (tmV n (S 5) (S 7) x_7 0)) (tmV n (S 5) (S 7) x_7 1)) (odV n N (S 5) (S 7) 0)) (odV n N (S 5) (S 7) 1))) 10 e_39) hR (cnt (fun k => pB (lkP n (dgF n (S 7 k)) (S 16) m9)) N)) (cwV 1 hts (gV hsub q_1064 q_1066 q_sX7_say q_8 q_1067) rfl rfl rfl hdX7_say ⟨Nat.le_of_ble_eq_true rfl, Nat.le_of_ble_eq_true rfl⟩) (mEb D cI) (mEk D cI (mA ad)) hE (va_recv (ci := 7) (q0 := 0) hK hP rfl rfl) hP hS rfl hl.1 rfl (Nat.le_of_ble_eq_true rfl) dX7_sayStrip_73 ⟨Nat.le_of_ble_eq_true rfl, Nat.le_of_ble_eq_true rfl⟩ (fun S_41 H locs hq_42 hP hR hS _ => ?_)
        obtain rfl := hq_42
        have hP : va_P D vwCl (mW cI ad (sA (sA (sA (sA (sA (sA (sA (sA (sA (sA (sA (sA (sA (sA S 10 g10) 99 (fun _ => hh)) 9 e_5) 10 e_6) 99 (fun _ => hx9 hh (tmV n (S 5) (S 7) x_7 0))) 9 e_15) 10 e_16) 99 (fun _ => hx9 (hx9 hh (tmV n (S 5) (S 7) x_7 0)) (tmV n (S 5) (S 7) x_7 1))) 10 e_25) 99 (fun _ => hx9 (hx9 (hx9 hh (tmV n (S 5) (S 7) x_7 0)) (tmV n (S 5) (S 7) x_7 1)) (odV n N (S 5) (S 7) 0))) 10 e_32) 99 (fun _ => hx9 (hx9 (hx9 (hx9 hh (tmV n (S 5) (S 7) x_7 0)) (tmV n (S 5) (S 7) x_7 1)) (odV n N (S 5) (S 7) 0)) (odV n N (S 5) (S 7) 1))) 10 e_39) 99 (fun _ => hx9 (hx9 (hx9 (hx9 (hx9 hh (tmV n (S 5) (S 7) x_7 0)) (tmV n (S 5) (S 7) x_7 1)) (odV n N (S 5) (S 7) 0)) (odV n N (S 5) (S 7) 1)) (cnt (fun k => pB (lkP n (dgF n (S 7 k)) (S 16) m9)) N)))) H := hP
        have hR : RS (sA (sA (sA (sA (sA (sA (sA (sA (sA (sA (sA (sA (sA (sA S 10 g10) 99 (fun _ => hh)) 9 e_5) 10 e_6) 99 (fun _ => hx9 hh (tmV n (S 5) (S 7) x_7 0))) 9 e_15) 10 e_16) 99 (fun _ => hx9 (hx9 hh (tmV n (S 5) (S 7) x_7 0)) (tmV n (S 5) (S 7) x_7 1))) 10 e_25) 99 (fun _ => hx9 (hx9 (hx9 hh (tmV n (S 5) (S 7) x_7 0)) (tmV n (S 5) (S 7) x_7 1)) (odV n N (S 5) (S 7) 0))) 10 e_32) 99 (fun _ => hx9 (hx9 (hx9 (hx9 hh (tmV n (S 5) (S 7) x_7 0)) (tmV n (S 5) (S 7) x_7 1)) (odV n N (S 5) (S 7) 0)) (odV n N (S 5) (S 7) 1))) 10 e_39) 99 (fun _ => hx9 (hx9 (hx9 (hx9 (hx9 hh (tmV n (S 5) (S 7) x_7 0)) (tmV n (S 5) (S 7) x_7 1)) (odV n N (S 5) (S 7) 0)) (odV n N (S 5) (S 7) 1)) (cnt (fun k => pB (lkP n (dgF n (S 7 k)) (S 16) m9)) N))) := hR
        have hSe_43 : sA (sA (sA (sA (sA (sA (sA (sA (sA (sA (sA (sA (sA (sA S 10 g10) 99 (fun _ => hh)) 9 e_5) 10 e_6) 99 (fun _ => hx9 hh (tmV n (S 5) (S 7) x_7 0))) 9 e_15) 10 e_16) 99 (fun _ => hx9 (hx9 hh (tmV n (S 5) (S 7) x_7 0)) (tmV n (S 5) (S 7) x_7 1))) 10 e_25) 99 (fun _ => hx9 (hx9 (hx9 hh (tmV n (S 5) (S 7) x_7 0)) (tmV n (S 5) (S 7) x_7 1)) (odV n N (S 5) (S 7) 0))) 10 e_32) 99 (fun _ => hx9 (hx9 (hx9 (hx9 hh (tmV n (S 5) (S 7) x_7 0)) (tmV n (S 5) (S 7) x_7 1)) (odV n N (S 5) (S 7) 0)) (odV n N (S 5) (S 7) 1))) 10 e_39) 99 (fun _ => hx9 (hx9 (hx9 (hx9 (hx9 hh (tmV n (S 5) (S 7) x_7 0)) (tmV n (S 5) (S 7) x_7 1)) (odV n N (S 5) (S 7) 0)) (odV n N (S 5) (S 7) 1)) (cnt (fun k => pB (lkP n (dgF n (S 7 k)) (S 16) m9)) N)) = sA (sA (sA S 9 e_15) 10 e_39) 99 (fun _ => hx9 (hx9 (hx9 (hx9 (hx9 hh (tmV n (S 5) (S 7) x_7 0)) (tmV n (S 5) (S 7) x_7 1)) (odV n N (S 5) (S 7) 0)) (odV n N (S 5) (S 7) 1)) (cnt (fun k => pB (lkP n (dgF n (S 7 k)) (S 16) m9)) N)) := by
          funext k8
          by_cases e80 : k8 = 9
          · subst e80; first | rfl | (funext j8; rfl)
          by_cases e81 : k8 = 10
          · subst e81; first | rfl | (funext j8; rfl)
          by_cases e82 : k8 = 99
          · subst e82; first | rfl | (funext j8; rfl)
          simp [sA, e80, e81, e82]
        rw [hSe_43] at hP hR
        exact g_vret (S1 := sA (sA (sA S 9 e_15) 10 e_39) 99 (fun _ => hx9 (hx9 (hx9 (hx9 (hx9 hh (tmV n (S 5) (S 7) x_7 0)) (tmV n (S 5) (S 7) x_7 1)) (odV n N (S 5) (S 7) 0)) (odV n N (S 5) (S 7) 1)) (cnt (fun k => pB (lkP n (dgF n (S 7 k)) (S 16) m9)) N))) hx hb hr hlocks hP hR hS (⟨_, _, _, rfl, _, hA_8, by rw [hhh]; rfl⟩) dX7_sayStrip_76
      · have h9 : True := trivial
        refine lv_aload_n hx hb dX7_sayStrip_7 rfl (lv_at hl 0 rfl) ?_
        refine lv_aload_n hx hb dX7_sayStrip_8 rfl (lv_at hl 0 rfl) ?_
        refine lv_iload_n hx hb dX7_sayStrip_9 rfl (lv_at hl 1 rfl) ?_
        refine g_callVi (As := [.int (zI (↑i))]) (rest := [.ref (ad 26)]) ⟨hx, hb, hml, hown, hts⟩ (k_X7_ordersOf l D cI ad hinj (sA (sA S 10 g10) 99 (fun _ => hh)) hR n hn hn7 N hN hO (k0) (hk0) (hk) (hp) ↑i (by omega) (by omega) (by omega)) (cwV 1 hts (gV hsub q_943 q_945 q_sX7_ordersOf q_8 q_946) rfl rfl rfl hdX7_ordersOf ⟨Nat.le_of_ble_eq_true rfl, Nat.le_of_ble_eq_true rfl⟩) (mEb D cI) (mEk D cI (mA ad)) hE (va_recv (ci := 7) (q0 := 0) hK hP rfl rfl) hP hS rfl hl.1 rfl (Nat.le_of_ble_eq_true rfl) dX7_sayStrip_10 ⟨Nat.le_of_ble_eq_true rfl, Nat.le_of_ble_eq_true rfl⟩ (fun r_44 S_45 H locs hq_46 hP hR hS _ => ?_)
        obtain ⟨e_47, rfl, rfl⟩ := hq_46
        refine z_top (b := orsF n N (S 5) (S 6) (S 7) k0 ↑i) rfl ?_
        have hor := orsF_r (n := n) (kd := S 5) (f := S 6) (t := S 7) (w := ↑i) hO1 hk0
        refine z_i2l hx hb (by omega) (by omega) dX7_sayStrip_13 ?_
        refine g_callVv (As := [.long (zL (orsF n N (S 5) (S 6) (S 7) k0 ↑i))]) (rest := []) ⟨hx, hb, hml, hown, hts⟩ (k_X7_say l D cI ad hinj (sA (sA (sA S 10 g10) 99 (fun _ => hh)) 10 e_47) hR (orsF n N (S 5) (S 6) (S 7) k0 ↑i)) (cwV 1 hts (gV hsub q_1064 q_1066 q_sX7_say q_8 q_1067) rfl rfl rfl hdX7_say ⟨Nat.le_of_ble_eq_true rfl, Nat.le_of_ble_eq_true rfl⟩) (mEb D cI) (mEk D cI (mA ad)) hE (va_recv (ci := 7) (q0 := 0) hK hP rfl rfl) hP hS rfl hl.1 rfl (Nat.le_of_ble_eq_true rfl) dX7_sayStrip_14 ⟨Nat.le_of_ble_eq_true rfl, Nat.le_of_ble_eq_true rfl⟩ (fun S_49 H locs hq_50 hP hR hS _ => ?_)
        obtain rfl := hq_50
        have hP : va_P D vwCl (mW cI ad (sA (sA (sA (sA S 10 g10) 99 (fun _ => hh)) 10 e_47) 99 (fun _ => hx9 hh (orsF n N (S 5) (S 6) (S 7) k0 ↑i)))) H := hP
        have hR : RS (sA (sA (sA (sA S 10 g10) 99 (fun _ => hh)) 10 e_47) 99 (fun _ => hx9 hh (orsF n N (S 5) (S 6) (S 7) k0 ↑i))) := hR
        refine z_iinc (lv' := [(1, .int (zI (↑i + 1))), (0, .ref (ad 26))]) hx hb dX7_sayStrip_17 hl (k := 1) rfl (by decide) rfl (fun ls hl => ?_)
        refine lv_goto (tgt := 2) hx hb dX7_sayStrip_20 (by decide) ?_
        have hSe_51 : sA (sA (sA (sA S 10 g10) 99 (fun _ => hh)) 10 e_47) 99 (fun _ => hx9 hh (orsF n N (S 5) (S 6) (S 7) k0 ↑i)) = sA (sA S 10 e_47) 99 (fun _ => hx9 hh (orsF n N (S 5) (S 6) (S 7) k0 ↑i)) := by
          funext k8
          by_cases e80 : k8 = 10
          · subst e80; first | rfl | (funext j8; rfl)
          by_cases e81 : k8 = 99
          · subst e81; funext j8; first | rfl | exact hsc_99 j8
          simp [sA, e80, e81]
        rw [hSe_51] at hP hR
        exact ih_2 (i + 1) (hx9 hh (orsF n N (S 5) (S 6) (S 7) k0 ↑i)) e_47 _ _ _ (by omega) (by rw [itF, ← hhh]) (by omega) hP hR hS (lv_sub hl [1, 0] rfl)
  have hP : va_P D vwCl (mW cI ad (sA S 99 (fun _ => S 99 0))) _ := hP
  have hR : RS (sA S 99 (fun _ => S 99 0)) := hR.hash _
  have hSe_52 : sA S 99 (fun _ => S 99 0) = sA (sA S 10 (S 10)) 99 (fun _ => S 99 0) := by
    funext k8
    by_cases e80 : k8 = 10
    · subst e80; first | rfl | (funext j8; rfl)
    by_cases e81 : k8 = 99
    · subst e81; funext j8; first | rfl | exact hsc_99 j8
    simp [sA, e80, e81]
  rw [hSe_52] at hP hR
  exact cut_2 _ 0 (S 99 0) (S 10) _ _ _ (by omega) (rfl) (Nat.lt_succ_self _) hP hR hS (lv_sub hl [1, 0] rfl)
set_option maxHeartbeats 4000000 in
set_option maxRecDepth 100000 in
theorem k_X7_digest (l : Launch) (D : va_G) (cI : ClassId) (ad : Nat → Nat) (hinj : mInj ad) (S : St) (hR : RS S) (n : Nat) (hn : S 2 0 = ↑n) (hn7 : n ≤ 7) (N k0 : Nat) (hst : n ≠ 0 → STp n N k0 S) (h80 : 0 ≤ S 8 0) (hp : prm n (S 6)) (m9 : Nat) (hm9 : S 15 0 = ↑m9) (hsg : sgOK n (S 16) m9) (sz : Nat) (hsz : S 1 0 = ↑sz) (hsz9 : sz ≤ 9) (hn2 : n ≠ 0 → 2 ≤ n) : Met l yX7_digest (Cond.code yX7_digest cX7_digest 3 (some .long) :: lwT) ({ frames := 8, cells := 0, slots := 0, locals := 174 }) (gPc D (mW cI ad) (mE D cI) S [.ref (ad 26)]) (va_Ql (fun (r : Int64) (S' : St) => ∃ e9 e10 e11 e99, S' = sA (sA (sA (sA S 9 e9) 10 e10) 11 e11) 99 e99 ∧ ∃ v, digR n N (S 5) (S 6) (S 7) (S 16) (S 0) k0 m9 (S 3 0) (S 15 0) (S 1 0) (S 4 0) v ∧ r = zL v) (gB D (mW cI ad)) (mA ad)) 0 0 (mA ad) := by
  refine Met.ofW (cc := cX7_digest) (maxL := 3) (ret := (some .long)) (by decide) rfl ?_
  intro p e s m args below meth c s₁ B hml hv
  obtain ⟨rfl, hP, hE⟩ := hv
  have hx := B.exec
  have hb := B.bytes
  have hr := B.returns
  have hts := atoms_spec (ws := Cond.code yX7_digest cX7_digest 3 (some .long) :: lwT) B.pre
  have hT := fun w (h : w ∈ lwT) => hts w (List.mem_cons_of_mem _ h)
  have hsub : ∀ w ∈ lwT, w ∈ (Cond.code yX7_digest cX7_digest 3 (some .long) :: lwT) := fun w h => List.mem_cons_of_mem _ h
  have hown : s.vm.findClass RX7 = some m.cls := findClass_of_methodNamed B.named
  have hlocks := B.notSynchronized
  have hK : va_K D vwCl [(cI, .int)] s := hE
  have hS : va_S (mA ad) s.heap s.heap [] := va_S.rf
  have hR0 := hR
  have hl := lv_entry ([.ref (ad 26)]) (n := 3) (Nat.le_of_ble_eq_true rfl)
  rw [lg_entry_eq]
  generalize (lg_sl ([.ref (ad 26)]) ++ List.replicate (3 - (lg_sl ([.ref (ad 26)])).length) Slot.unset).toArray = ls at hl ⊢
  have hl : lv_has ls 3 [(0, .ref (ad 26))] := hl
  refine lv_aload_n hx hb dX7_digest_0 rfl (lv_at hl 0 rfl) ?_
  refine lv_ldc2 (v := zL 1319) hx hb hown (hT _ q_1063) dX7_digest_1 ?_
  refine va_put (D := D) (ci := 7) (v := .long (zL (1319))) (ty := .long) (C := RX7) (T := TX7) (N := 26) hx hb hT inX7 tyX7 tyX7_ok nmX7 hown hK hP (mD hinj cI _) hS 0 rfl rfl 25 (by decide) (hT _ q_697) (fun _ h9 => h9) rfl (by decide +kernel) rfl rfl (Nat.le_of_ble_eq_true rfl) dX7_digest_4 (fun H locs hP _ hS => ?_)
  have hP : va_P D vwCl (mW cI ad (sA S 99 (fun _ => 1319))) H := hP
  have hR : RS (sA S 99 (fun _ => 1319)) := hR.hash _
  refine z_iconst hx hb dX7_digest_7 ?_
  refine lv_istore_n (lv' := [(1, .int (zI (0))), (0, .ref (ad 26))]) hx hb dX7_digest_8 rfl hl (by decide) rfl (fun ls hl => ?_)
  have cut_9 : ∀ (k9 : Nat) (i : Nat) (hh : Int) (g9 : Nat → Int) (g10 : Nat → Int) (g11 : Nat → Int) (H : Heap) (locs : List Loc) (ls : Array Slot), (i ≤ n) → (hh = H1 n N (S 5) (S 6) (S 7) i) → (n - i) < k9 → va_P D vwCl (mW cI ad (sA (sA (sA (sA S 9 g9) 10 g10) 11 g11) 99 (fun _ => hh))) H → RS (sA (sA (sA (sA S 9 g9) 10 g10) 11 g11) 99 (fun _ => hh)) → va_S (mA ad) s.heap H locs → lv_has ls 3 [(0, .ref (ad 26)), (1, .int (zI (↑i)))] → W p l e (headSpec (Cond.code yX7_digest cX7_digest 3 (some .long) :: lwT) ({ frames := 8, cells := 0, slots := 0, locals := 174 })).room s m ([.ref (ad 26)] : List Value).toArray below meth c H locs 0 0 (MQ below (va_Ql (fun (r : Int64) (S' : St) => ∃ e9 e10 e11 e99, S' = sA (sA (sA (sA S 9 e9) 10 e10) 11 e11) 99 e99 ∧ ∃ v, digR n N (S 5) (S 6) (S 7) (S 16) (S 0) k0 m9 (S 3 0) (S 15 0) (S 1 0) (S 4 0) v ∧ r = zL v) (gB D (mW cI ad)) (mA ad)) ([.ref (ad 26)] : List Value).toArray s 0 0 (mA ad)) (F0 m 9 ls []) := by
    intro k9
    induction k9 with
    | zero =>
      intro i hh g9 g10 g11 H locs ls hi hhh hk9 hP hR hS hl
      exact absurd hk9 (Nat.not_lt_zero _)
    | succ k9 ih_9 =>
      intro i hh g9 g10 g11 H locs ls hi hhh hk9 hP hR hS hl
      refine lv_iload_n hx hb dX7_digest_9 rfl (lv_at hl 1 rfl) ?_
      refine lv_aload_n hx hb dX7_digest_10 rfl (lv_at hl 0 rfl) ?_
      have g_1 : -2147483648 ≤ S 2 0 ∧ S 2 0 < 2147483648 := hR 2 0 (by decide)
      refine va_get (D := D) (ci := 7) (v := .int (zI (S 2 0))) (C := RX7) (T := TX7) (N := 26) hx hb hT inX7 hown hK hP 0 rfl rfl 2 (by decide) (hT _ q_674) (fun _ h9 => h9) rfl dX7_digest_11 ?_
      refine z_icmp_ge (tgt := 69) hx hb (by omega) (by omega) (by omega) (by omega) dX7_digest_14 (by decide) (fun c_2 => ?_) (fun c_2 => ?_)
      · have h9 : True := trivial
        have hin : i = n := by omega
        rw [hin] at hhh
        refine z_iconst hx hb dX7_digest_69 ?_
        refine lv_istore_n (lv' := [(1, .int (zI (0))), (0, .ref (ad 26))]) hx hb dX7_digest_70 rfl hl (by decide) rfl (fun ls hl => ?_)
        have cut_71 : ∀ (k9 : Nat) (j : Nat) (h2 : Int) (g9 : Nat → Int) (g10 : Nat → Int) (g11 : Nat → Int) (H : Heap) (locs : List Loc) (ls : Array Slot), (j ≤ n - 1) → (h2 = H2 n N (S 5) (S 6) (S 7) j) → (n - j) < k9 → va_P D vwCl (mW cI ad (sA (sA (sA (sA S 9 g9) 10 g10) 11 g11) 99 (fun _ => h2))) H → RS (sA (sA (sA (sA S 9 g9) 10 g10) 11 g11) 99 (fun _ => h2)) → va_S (mA ad) s.heap H locs → lv_has ls 3 [(0, .ref (ad 26)), (1, .int (zI (↑j)))] → W p l e (headSpec (Cond.code yX7_digest cX7_digest 3 (some .long) :: lwT) ({ frames := 8, cells := 0, slots := 0, locals := 174 })).room s m ([.ref (ad 26)] : List Value).toArray below meth c H locs 0 0 (MQ below (va_Ql (fun (r : Int64) (S' : St) => ∃ e9 e10 e11 e99, S' = sA (sA (sA (sA S 9 e9) 10 e10) 11 e11) 99 e99 ∧ ∃ v, digR n N (S 5) (S 6) (S 7) (S 16) (S 0) k0 m9 (S 3 0) (S 15 0) (S 1 0) (S 4 0) v ∧ r = zL v) (gB D (mW cI ad)) (mA ad)) ([.ref (ad 26)] : List Value).toArray s 0 0 (mA ad)) (F0 m 71 ls []) := by
          intro k9
          induction k9 with
          | zero =>
            intro j h2 g9 g10 g11 H locs ls hj hh2 hk9 hP hR hS hl
            exact absurd hk9 (Nat.not_lt_zero _)
          | succ k9 ih_71 =>
            intro j h2 g9 g10 g11 H locs ls hj hh2 hk9 hP hR hS hl
            refine lv_iload_n hx hb dX7_digest_71 rfl (lv_at hl 1 rfl) ?_
            refine z_iconst hx hb dX7_digest_72 ?_
            refine z_iadd hx hb dX7_digest_73 ?_
            refine lv_aload_n hx hb dX7_digest_74 rfl (lv_at hl 0 rfl) ?_
            have g_3 : -2147483648 ≤ S 2 0 ∧ S 2 0 < 2147483648 := hR 2 0 (by decide)
            refine va_get (D := D) (ci := 7) (v := .int (zI (S 2 0))) (C := RX7) (T := TX7) (N := 26) hx hb hT inX7 hown hK hP 0 rfl rfl 2 (by decide) (hT _ q_674) (fun _ h9 => h9) rfl dX7_digest_75 ?_
            refine z_icmp_ge (tgt := 109) hx hb (by omega) (by omega) (by omega) (by omega) dX7_digest_78 (by decide) (fun c_4 => ?_) (fun c_4 => ?_)
            · have h9 : True := trivial
              have hjn : j = n - 1 := by omega
              rw [hjn] at hh2
              have cut_120 : ∀ (xt : Int) (h3 : Int) (g9 : Nat → Int) (g10 : Nat → Int) (g11 : Nat → Int) (H : Heap) (locs : List Loc) (ls : Array Slot), (n ≠ 0 → argm (ftP n (S 5) (S 7)) (fun k => wmF n (S 5) (dgF n (S 7 k))) N xt) → (h3 = (if n = 0 then H2 n N (S 5) (S 6) (S 7) (n - 1) else H3 n N (S 5) (S 6) (S 7) (S 16) k0 m9 xt (H2 n N (S 5) (S 6) (S 7) (n - 1)))) → va_P D vwCl (mW cI ad (sA (sA (sA (sA S 9 g9) 10 g10) 11 g11) 99 (fun _ => h3))) H → RS (sA (sA (sA (sA S 9 g9) 10 g10) 11 g11) 99 (fun _ => h3)) → va_S (mA ad) s.heap H locs → lv_has ls 3 [(0, .ref (ad 26))] → W p l e (headSpec (Cond.code yX7_digest cX7_digest 3 (some .long) :: lwT) ({ frames := 8, cells := 0, slots := 0, locals := 174 })).room s m ([.ref (ad 26)] : List Value).toArray below meth c H locs 0 0 (MQ below (va_Ql (fun (r : Int64) (S' : St) => ∃ e9 e10 e11 e99, S' = sA (sA (sA (sA S 9 e9) 10 e10) 11 e11) 99 e99 ∧ ∃ v, digR n N (S 5) (S 6) (S 7) (S 16) (S 0) k0 m9 (S 3 0) (S 15 0) (S 1 0) (S 4 0) v ∧ r = zL v) (gB D (mW cI ad)) (mA ad)) ([.ref (ad 26)] : List Value).toArray s 0 0 (mA ad)) (F0 m 120 ls []) := by
                intro xt h3 g9 g10 g11 H locs ls hxt hh3 hP hR hS hl
                refine z_iconst hx hb dX7_digest_120 ?_
                refine lv_istore_n (lv' := [(1, .int (zI (0))), (0, .ref (ad 26))]) hx hb dX7_digest_121 rfl hl (by decide) rfl (fun ls hl => ?_)
                have cut_122 : ∀ (k9 : Nat) (i2 : Nat) (h2 : Int) (g9 : Nat → Int) (g10 : Nat → Int) (g11 : Nat → Int) (H : Heap) (locs : List Loc) (ls : Array Slot), (i2 ≤ sz) → (h2 = itF (fun k h => hx9 h (S 0 k)) h3 i2) → (sz - i2) < k9 → va_P D vwCl (mW cI ad (sA (sA (sA (sA S 9 g9) 10 g10) 11 g11) 99 (fun _ => h2))) H → RS (sA (sA (sA (sA S 9 g9) 10 g10) 11 g11) 99 (fun _ => h2)) → va_S (mA ad) s.heap H locs → lv_has ls 3 [(0, .ref (ad 26)), (1, .int (zI (↑i2)))] → W p l e (headSpec (Cond.code yX7_digest cX7_digest 3 (some .long) :: lwT) ({ frames := 8, cells := 0, slots := 0, locals := 174 })).room s m ([.ref (ad 26)] : List Value).toArray below meth c H locs 0 0 (MQ below (va_Ql (fun (r : Int64) (S' : St) => ∃ e9 e10 e11 e99, S' = sA (sA (sA (sA S 9 e9) 10 e10) 11 e11) 99 e99 ∧ ∃ v, digR n N (S 5) (S 6) (S 7) (S 16) (S 0) k0 m9 (S 3 0) (S 15 0) (S 1 0) (S 4 0) v ∧ r = zL v) (gB D (mW cI ad)) (mA ad)) ([.ref (ad 26)] : List Value).toArray s 0 0 (mA ad)) (F0 m 122 ls []) := by
                  intro k9
                  induction k9 with
                  | zero =>
                    intro i2 h2 g9 g10 g11 H locs ls hi2 hh2 hk9 hP hR hS hl
                    exact absurd hk9 (Nat.not_lt_zero _)
                  | succ k9 ih_122 =>
                    intro i2 h2 g9 g10 g11 H locs ls hi2 hh2 hk9 hP hR hS hl
                    refine lv_iload_n hx hb dX7_digest_122 rfl (lv_at hl 1 rfl) ?_
                    refine lv_aload_n hx hb dX7_digest_123 rfl (lv_at hl 0 rfl) ?_
                    have g_5 : -2147483648 ≤ S 1 0 ∧ S 1 0 < 2147483648 := hR 1 0 (by decide)
                    refine va_get (D := D) (ci := 7) (v := .int (zI (S 1 0))) (C := RX7) (T := TX7) (N := 26) hx hb hT inX7 hown hK hP 0 rfl rfl 1 (by decide) (hT _ q_673) (fun _ h9 => h9) rfl dX7_digest_124 ?_
                    refine z_icmp_ge (tgt := 147) hx hb (by omega) (by omega) (by omega) (by omega) dX7_digest_127 (by decide) (fun c_6 => ?_) (fun c_6 => ?_)
                    · have h9 : True := trivial
                      refine z_iconst hx hb dX7_digest_147 ?_
                      refine lv_istore_n (lv' := [(1, .int (zI (0))), (0, .ref (ad 26))]) hx hb dX7_digest_148 rfl hl (by decide) rfl (fun ls hl => ?_)
                      have cut_149 : ∀ (k9 : Nat) (i3 : Nat) (h4 : Int) (g9 : Nat → Int) (g10 : Nat → Int) (g11 : Nat → Int) (H : Heap) (locs : List Loc) (ls : Array Slot), (i3 ≤ 10) → (h4 = itF (fun w h => hx9 h (ctF n (S 5) (S 6) (S 3 0) (S 15 0) (S 1 0) (S 4 0) ↑w)) h2 i3) → (10 - i3) < k9 → va_P D vwCl (mW cI ad (sA (sA (sA (sA S 9 g9) 10 g10) 11 g11) 99 (fun _ => h4))) H → RS (sA (sA (sA (sA S 9 g9) 10 g10) 11 g11) 99 (fun _ => h4)) → va_S (mA ad) s.heap H locs → lv_has ls 3 [(0, .ref (ad 26)), (1, .int (zI (↑i3)))] → W p l e (headSpec (Cond.code yX7_digest cX7_digest 3 (some .long) :: lwT) ({ frames := 8, cells := 0, slots := 0, locals := 174 })).room s m ([.ref (ad 26)] : List Value).toArray below meth c H locs 0 0 (MQ below (va_Ql (fun (r : Int64) (S' : St) => ∃ e9 e10 e11 e99, S' = sA (sA (sA (sA S 9 e9) 10 e10) 11 e11) 99 e99 ∧ ∃ v, digR n N (S 5) (S 6) (S 7) (S 16) (S 0) k0 m9 (S 3 0) (S 15 0) (S 1 0) (S 4 0) v ∧ r = zL v) (gB D (mW cI ad)) (mA ad)) ([.ref (ad 26)] : List Value).toArray s 0 0 (mA ad)) (F0 m 149 ls []) := by
                        intro k9
                        induction k9 with
                        | zero =>
                          intro i3 h4 g9 g10 g11 H locs ls hi3 hh4 hk9 hP hR hS hl
                          exact absurd hk9 (Nat.not_lt_zero _)
                        | succ k9 ih_149 =>
                          intro i3 h4 g9 g10 g11 H locs ls hi3 hh4 hk9 hP hR hS hl
                          refine lv_iload_n hx hb dX7_digest_149 rfl (lv_at hl 1 rfl) ?_
                          refine z_bipush hx hb dX7_digest_150 (by decide) ?_
                          refine z_icmp_ge (tgt := 171) hx hb (by omega) (by omega) (by omega) (by omega) dX7_digest_152 (by decide) (fun c_7 => ?_) (fun c_7 => ?_)
                          · have h9 : True := trivial
                            refine lv_aload_n hx hb dX7_digest_171 rfl (lv_at hl 0 rfl) ?_
                            refine va_get (D := D) (ci := 7) (v := .long (zL (h4))) (C := RX7) (T := TX7) (N := 26) hx hb hT inX7 hown hK hP 0 rfl rfl 25 (by decide) (hT _ q_697) (fun _ h9 => h9) rfl dX7_digest_172 ?_
                            exact g_lret (S1 := sA (sA (sA (sA S 9 g9) 10 g10) 11 g11) 99 (fun _ => h4)) (v := zL (h4)) hx hb hr hlocks hP hR hS (⟨_, _, _, _, rfl, _, dig_end hxt (by rw [hh4, hh2, hh3, show i3 = 10 by omega, show i2 = sz by omega, hsz]; rfl), rfl⟩) dX7_digest_175
                          · have h9 : True := trivial
                            refine lv_aload_n hx hb dX7_digest_155 rfl (lv_at hl 0 rfl) ?_
                            refine lv_aload_n hx hb dX7_digest_156 rfl (lv_at hl 0 rfl) ?_
                            refine lv_iload_n hx hb dX7_digest_157 rfl (lv_at hl 1 rfl) ?_
                            have hct := ctF_r (kd := S 5) (f := S 6) (w := ↑i3) hn7 (hR0 3 0 (by decide)) (hR0 15 0 (by decide)) (hR0 1 0 (by decide)) (hR0 4 0 (by decide))
                            refine g_callVi (As := [.int (zI (↑i3))]) (rest := [.ref (ad 26)]) ⟨hx, hb, hml, hown, hts⟩ (k_X7_countOf l D cI ad hinj (sA (sA (sA (sA S 9 g9) 10 g10) 11 g11) 99 (fun _ => h4)) hR n hn hn7 (hp) ↑i3 (by omega) (by omega)) (cwV 1 hts (gV hsub q_1047 q_1049 q_sX7_countOf q_8 q_1050) rfl rfl rfl hdX7_countOf ⟨Nat.le_of_ble_eq_true rfl, Nat.le_of_ble_eq_true rfl⟩) (mEb D cI) (mEk D cI (mA ad)) hE (va_recv (ci := 7) (q0 := 0) hK hP rfl rfl) hP hS rfl hl.1 rfl (Nat.le_of_ble_eq_true rfl) dX7_digest_158 ⟨Nat.le_of_ble_eq_true rfl, Nat.le_of_ble_eq_true rfl⟩ (fun r_8 S_9 H locs hq_10 hP hR hS _ => ?_)
                            obtain ⟨e_11, e_12, rfl, rfl⟩ := hq_10
                            refine z_top (b := ctF n (S 5) (S 6) (S 3 0) (S 15 0) (S 1 0) (S 4 0) ↑i3) rfl ?_
                            refine z_i2l hx hb (by omega) (by omega) dX7_digest_161 ?_
                            refine g_callVv (As := [.long (zL (ctF n (S 5) (S 6) (S 3 0) (S 15 0) (S 1 0) (S 4 0) ↑i3))]) (rest := []) ⟨hx, hb, hml, hown, hts⟩ (k_X7_say l D cI ad hinj (sA (sA (sA (sA (sA (sA S 9 g9) 10 g10) 11 g11) 99 (fun _ => h4)) 9 e_11) 11 e_12) hR (ctF n (S 5) (S 6) (S 3 0) (S 15 0) (S 1 0) (S 4 0) ↑i3)) (cwV 1 hts (gV hsub q_1064 q_1066 q_sX7_say q_8 q_1067) rfl rfl rfl hdX7_say ⟨Nat.le_of_ble_eq_true rfl, Nat.le_of_ble_eq_true rfl⟩) (mEb D cI) (mEk D cI (mA ad)) hE (va_recv (ci := 7) (q0 := 0) hK hP rfl rfl) hP hS rfl hl.1 rfl (Nat.le_of_ble_eq_true rfl) dX7_digest_162 ⟨Nat.le_of_ble_eq_true rfl, Nat.le_of_ble_eq_true rfl⟩ (fun S_14 H locs hq_15 hP hR hS _ => ?_)
                            obtain rfl := hq_15
                            have hP : va_P D vwCl (mW cI ad (sA (sA (sA (sA (sA (sA (sA S 9 g9) 10 g10) 11 g11) 99 (fun _ => h4)) 9 e_11) 11 e_12) 99 (fun _ => hx9 h4 (ctF n (S 5) (S 6) (S 3 0) (S 15 0) (S 1 0) (S 4 0) ↑i3)))) H := hP
                            have hR : RS (sA (sA (sA (sA (sA (sA (sA S 9 g9) 10 g10) 11 g11) 99 (fun _ => h4)) 9 e_11) 11 e_12) 99 (fun _ => hx9 h4 (ctF n (S 5) (S 6) (S 3 0) (S 15 0) (S 1 0) (S 4 0) ↑i3))) := hR
                            refine z_iinc (lv' := [(1, .int (zI (↑i3 + 1))), (0, .ref (ad 26))]) hx hb dX7_digest_165 hl (k := 1) rfl (by decide) rfl (fun ls hl => ?_)
                            refine lv_goto (tgt := 149) hx hb dX7_digest_168 (by decide) ?_
                            have hSe_16 : sA (sA (sA (sA (sA (sA (sA S 9 g9) 10 g10) 11 g11) 99 (fun _ => h4)) 9 e_11) 11 e_12) 99 (fun _ => hx9 h4 (ctF n (S 5) (S 6) (S 3 0) (S 15 0) (S 1 0) (S 4 0) ↑i3)) = sA (sA (sA (sA S 9 e_11) 10 g10) 11 e_12) 99 (fun _ => hx9 h4 (ctF n (S 5) (S 6) (S 3 0) (S 15 0) (S 1 0) (S 4 0) ↑i3)) := by
                              funext k8
                              by_cases e80 : k8 = 9
                              · subst e80; first | rfl | (funext j8; rfl)
                              by_cases e81 : k8 = 10
                              · subst e81; first | rfl | (funext j8; rfl)
                              by_cases e82 : k8 = 11
                              · subst e82; first | rfl | (funext j8; rfl)
                              by_cases e83 : k8 = 99
                              · subst e83; funext j8; first | rfl | exact hsc_99 j8
                              simp [sA, e80, e81, e82, e83]
                            rw [hSe_16] at hP hR
                            exact ih_149 (i3 + 1) (hx9 h4 (ctF n (S 5) (S 6) (S 3 0) (S 15 0) (S 1 0) (S 4 0) ↑i3)) e_11 g10 e_12 _ _ _ (by omega) (by rw [itF, ← hh4]) (by omega) hP hR hS (lv_sub hl [1, 0] rfl)
                      exact cut_149 _ 0 h2 g9 g10 g11 _ _ _ (by omega) (rfl) (Nat.lt_succ_self _) hP hR hS (lv_sub hl [1, 0] rfl)
                    · have h9 : True := trivial
                      refine lv_aload_n hx hb dX7_digest_130 rfl (lv_at hl 0 rfl) ?_
                      refine lv_aload_n hx hb dX7_digest_131 rfl (lv_at hl 0 rfl) ?_
                      refine va_get (D := D) (ci := 7) (v := .ref (ad 0)) (C := RX7) (T := TX7) (N := 26) hx hb hT inX7 hown hK hP 0 rfl rfl 0 (by decide) (hT _ q_672) (fun _ h9 => h9) rfl dX7_digest_132 ?_
                      refine lv_iload_n hx hb dX7_digest_135 rfl (lv_at hl 1 rfl) ?_
                      have g_17 : -2147483648 ≤ S 0 i2 ∧ S 0 i2 < 2147483648 := hR 0 i2 (by decide)
                      refine z_ald (f := S 0) hx hb hK hP 1 0 rfl rfl (by omega) (by omega) (by decide) (j := i2) rfl dX7_digest_136 ?_
                      refine z_i2l hx hb (by omega) (by omega) dX7_digest_137 ?_
                      refine g_callVv (As := [.long (zL (S 0 i2))]) (rest := []) ⟨hx, hb, hml, hown, hts⟩ (k_X7_say l D cI ad hinj (sA (sA (sA (sA S 9 g9) 10 g10) 11 g11) 99 (fun _ => h2)) hR (S 0 i2)) (cwV 1 hts (gV hsub q_1064 q_1066 q_sX7_say q_8 q_1067) rfl rfl rfl hdX7_say ⟨Nat.le_of_ble_eq_true rfl, Nat.le_of_ble_eq_true rfl⟩) (mEb D cI) (mEk D cI (mA ad)) hE (va_recv (ci := 7) (q0 := 0) hK hP rfl rfl) hP hS rfl hl.1 rfl (Nat.le_of_ble_eq_true rfl) dX7_digest_138 ⟨Nat.le_of_ble_eq_true rfl, Nat.le_of_ble_eq_true rfl⟩ (fun S_19 H locs hq_20 hP hR hS _ => ?_)
                      obtain rfl := hq_20
                      rw [sA_sA] at hP hR
                      have hP : va_P D vwCl (mW cI ad (sA (sA (sA (sA S 9 g9) 10 g10) 11 g11) 99 (fun _ => hx9 h2 (S 0 i2)))) H := hP
                      have hR : RS (sA (sA (sA (sA S 9 g9) 10 g10) 11 g11) 99 (fun _ => hx9 h2 (S 0 i2))) := hR
                      refine z_iinc (lv' := [(1, .int (zI (↑i2 + 1))), (0, .ref (ad 26))]) hx hb dX7_digest_141 hl (k := 1) rfl (by decide) rfl (fun ls hl => ?_)
                      refine lv_goto (tgt := 122) hx hb dX7_digest_144 (by decide) ?_
                      exact ih_122 (i2 + 1) (hx9 h2 (S 0 i2)) g9 g10 g11 _ _ _ (by omega) (by rw [itF, ← hh2]) (by omega) hP hR hS (lv_sub hl [1, 0] rfl)
                exact cut_122 _ 0 h3 g9 g10 g11 _ _ _ (by omega) (rfl) (Nat.lt_succ_self _) hP hR hS (lv_sub hl [1, 0] rfl)
              refine lv_aload_n hx hb dX7_digest_109 rfl (lv_at hl 0 rfl) ?_
              refine g_callVi (As := []) (rest := []) ⟨hx, hb, hml, hown, hts⟩ (k_X7_lacks l D cI ad hinj (sA (sA (sA (sA S 9 g9) 10 g10) 11 g11) 99 (fun _ => h2)) hR ) (cwV 0 hts (gV hsub q_812 q_814 q_sX7_lacks q_8 q_815) rfl rfl rfl hdX7_lacks ⟨Nat.le_of_ble_eq_true rfl, Nat.le_of_ble_eq_true rfl⟩) (mEb D cI) (mEk D cI (mA ad)) hE (va_recv (ci := 7) (q0 := 0) hK hP rfl rfl) hP hS rfl hl.1 rfl (Nat.le_of_ble_eq_true rfl) dX7_digest_110 ⟨Nat.le_of_ble_eq_true rfl, Nat.le_of_ble_eq_true rfl⟩ (fun r_21 S_22 H locs hq_23 hP hR hS _ => ?_)
              obtain ⟨hs9, rfl⟩ := hq_23
              obtain rfl := hs9.symm
              refine z_top (b := b2 (decide (S 2 0 = 0))) rfl ?_
              refine z_ifneB (tgt := 120) hx hb dX7_digest_113 (by decide) (fun c_24 => ?_) (fun c_24 => ?_)
              · have h9 : True := trivial
                have c_24 : S 2 0 = 0 := of_decide_eq_true c_24
                exact cut_120 0 h2 g9 g10 g11 _ _ _ (fun h => absurd (by omega) h) (by rw [if_pos (by omega)]; exact hh2) hP hR hS (lv_sub hl [0] rfl)
              · have h9 : True := trivial
                have c_24 : ¬ (S 2 0 = 0) := of_decide_eq_false c_24
                obtain ⟨hN, hO, hk0, hk⟩ := hst (by omega)
                have hO1 := hO.1
                have hO2 := hO.2.1
                have hnz : n ≠ 0 := by omega
                refine lv_aload_n hx hb dX7_digest_116 rfl (lv_at hl 0 rfl) ?_
                refine g_callVv (As := []) (rest := []) ⟨hx, hb, hml, hown, hts⟩ (k_X7_sayStrip l D cI ad hinj (sA (sA (sA (sA S 9 g9) 10 g10) 11 g11) 99 (fun _ => h2)) hR n hn hn7 N hN hO k0 hk0 hk hp m9 hm9 hsg (hn2 hnz)) (cwV 0 hts (gV hsub q_1069 q_1071 q_sX7_sayStrip q_8 q_1072) rfl rfl rfl hdX7_sayStrip ⟨Nat.le_of_ble_eq_true rfl, Nat.le_of_ble_eq_true rfl⟩) (mEb D cI) (mEk D cI (mA ad)) hE (va_recv (ci := 7) (q0 := 0) hK hP rfl rfl) hP hS rfl hl.1 rfl (Nat.le_of_ble_eq_true rfl) dX7_digest_117 ⟨Nat.le_of_ble_eq_true rfl, Nat.le_of_ble_eq_true rfl⟩ (fun S_26 H locs hq_27 hP hR hS _ => ?_)
                obtain ⟨e_28, e_29, e_30, rfl, x_31, hA_32, hh_33⟩ := hq_27
                have hP : va_P D vwCl (mW cI ad (sA (sA (sA (sA (sA (sA (sA (sA S 9 g9) 10 g10) 11 g11) 99 (fun _ => h2)) 9 e_28) 10 e_29) 99 e_30) 99 (fun _ => e_30 0))) _ := hP
                have hR : RS (sA (sA (sA (sA (sA (sA (sA (sA S 9 g9) 10 g10) 11 g11) 99 (fun _ => h2)) 9 e_28) 10 e_29) 99 e_30) 99 (fun _ => e_30 0)) := hR.hash _
                have hSe_34 : sA (sA (sA (sA (sA (sA (sA (sA S 9 g9) 10 g10) 11 g11) 99 (fun _ => h2)) 9 e_28) 10 e_29) 99 e_30) 99 (fun _ => e_30 0) = sA (sA (sA (sA S 9 e_28) 10 e_29) 11 g11) 99 (fun _ => e_30 0) := by
                  funext k8
                  by_cases e80 : k8 = 9
                  · subst e80; first | rfl | (funext j8; rfl)
                  by_cases e81 : k8 = 10
                  · subst e81; first | rfl | (funext j8; rfl)
                  by_cases e82 : k8 = 11
                  · subst e82; first | rfl | (funext j8; rfl)
                  by_cases e83 : k8 = 99
                  · subst e83; funext j8; first | rfl | exact hsc_99 j8
                  simp [sA, e80, e81, e82, e83]
                rw [hSe_34] at hP hR
                exact cut_120 x_31 (e_30 0) e_28 e_29 g11 _ _ _ (fun _ => hA_32) (by rw [if_neg (by omega), ← hh2]; exact hh_33) hP hR hS (lv_sub hl [0] rfl)
            · have h9 : True := trivial
              have hwr := wdF_r n (S 5) (S 6) j
              have hmd := Int.emod_nonneg (j : Int) (show (2 : Int) ≠ 0 by decide)
              refine lv_aload_n hx hb dX7_digest_81 rfl (lv_at hl 0 rfl) ?_
              refine lv_iload_n hx hb dX7_digest_82 rfl (lv_at hl 1 rfl) ?_
              refine z_iconst hx hb dX7_digest_83 ?_
              refine z_irem hx hb (by omega) (by omega) (by omega) (by omega) dX7_digest_84 ?_
              refine z_i2l hx hb (by omega) (by omega) dX7_digest_85 ?_
              refine g_callVv (As := [.long (zL (↑j % 2))]) (rest := []) ⟨hx, hb, hml, hown, hts⟩ (k_X7_say l D cI ad hinj (sA (sA (sA (sA S 9 g9) 10 g10) 11 g11) 99 (fun _ => h2)) hR (↑j % 2)) (cwV 1 hts (gV hsub q_1064 q_1066 q_sX7_say q_8 q_1067) rfl rfl rfl hdX7_say ⟨Nat.le_of_ble_eq_true rfl, Nat.le_of_ble_eq_true rfl⟩) (mEb D cI) (mEk D cI (mA ad)) hE (va_recv (ci := 7) (q0 := 0) hK hP rfl rfl) hP hS rfl hl.1 rfl (Nat.le_of_ble_eq_true rfl) dX7_digest_86 ⟨Nat.le_of_ble_eq_true rfl, Nat.le_of_ble_eq_true rfl⟩ (fun S_36 H locs hq_37 hP hR hS _ => ?_)
              obtain rfl := hq_37
              rw [sA_sA] at hP hR
              have hP : va_P D vwCl (mW cI ad (sA (sA (sA (sA S 9 g9) 10 g10) 11 g11) 99 (fun _ => hx9 h2 (↑j % 2)))) H := hP
              have hR : RS (sA (sA (sA (sA S 9 g9) 10 g10) 11 g11) 99 (fun _ => hx9 h2 (↑j % 2))) := hR
              refine lv_aload_n hx hb dX7_digest_89 rfl (lv_at hl 0 rfl) ?_
              refine lv_aload_n hx hb dX7_digest_90 rfl (lv_at hl 0 rfl) ?_
              refine lv_aload_n hx hb dX7_digest_91 rfl (lv_at hl 0 rfl) ?_
              refine va_get (D := D) (ci := 7) (v := .ref (ad 6)) (C := RX7) (T := TX7) (N := 26) hx hb hT inX7 hown hK hP 0 rfl rfl 6 (by decide) (hT _ q_678) (fun _ h9 => h9) rfl dX7_digest_92 ?_
              refine lv_iload_n hx hb dX7_digest_95 rfl (lv_at hl 1 rfl) ?_
              refine g_callVi (As := [.ref (ad 6), .int (zI (↑j))]) (rest := [.ref (ad 26)]) ⟨hx, hb, hml, hown, hts⟩ (k_X7_wideOf_6 l D cI ad hinj (sA (sA (sA (sA S 9 g9) 10 g10) 11 g11) 99 (fun _ => hx9 h2 (↑j % 2))) hR n hn hn7 (hp) (j) ↑j (by omega) (by omega)) (cwV 2 hts (gV hsub q_894 q_896 q_sX7_wideOf q_8 q_897) rfl rfl rfl hdX7_wideOf ⟨Nat.le_of_ble_eq_true rfl, Nat.le_of_ble_eq_true rfl⟩) (mEb D cI) (mEk D cI (mA ad)) hE (va_recv (ci := 7) (q0 := 0) hK hP rfl rfl) hP hS rfl hl.1 rfl (Nat.le_of_ble_eq_true rfl) dX7_digest_96 ⟨Nat.le_of_ble_eq_true rfl, Nat.le_of_ble_eq_true rfl⟩ (fun r_38 S_39 H locs hq_40 hP hR hS _ => ?_)
              obtain ⟨f_41, rfl, rfl⟩ := hq_40
              refine z_top (b := wdF n (S 5) (S 6) j) rfl ?_
              refine z_i2l hx hb (by omega) (by omega) dX7_digest_99 ?_
              refine g_callVv (As := [.long (zL (wdF n (S 5) (S 6) j))]) (rest := []) ⟨hx, hb, hml, hown, hts⟩ (k_X7_say l D cI ad hinj (sA (sA (sA (sA (sA S 9 g9) 10 g10) 11 g11) 99 (fun _ => hx9 h2 (↑j % 2))) 9 f_41) hR (wdF n (S 5) (S 6) j)) (cwV 1 hts (gV hsub q_1064 q_1066 q_sX7_say q_8 q_1067) rfl rfl rfl hdX7_say ⟨Nat.le_of_ble_eq_true rfl, Nat.le_of_ble_eq_true rfl⟩) (mEb D cI) (mEk D cI (mA ad)) hE (va_recv (ci := 7) (q0 := 0) hK hP rfl rfl) hP hS rfl hl.1 rfl (Nat.le_of_ble_eq_true rfl) dX7_digest_100 ⟨Nat.le_of_ble_eq_true rfl, Nat.le_of_ble_eq_true rfl⟩ (fun S_43 H locs hq_44 hP hR hS _ => ?_)
              obtain rfl := hq_44
              have hP : va_P D vwCl (mW cI ad (sA (sA (sA (sA (sA (sA S 9 g9) 10 g10) 11 g11) 99 (fun _ => hx9 h2 (↑j % 2))) 9 f_41) 99 (fun _ => hx9 (hx9 h2 (↑j % 2)) (wdF n (S 5) (S 6) j)))) H := hP
              have hR : RS (sA (sA (sA (sA (sA (sA S 9 g9) 10 g10) 11 g11) 99 (fun _ => hx9 h2 (↑j % 2))) 9 f_41) 99 (fun _ => hx9 (hx9 h2 (↑j % 2)) (wdF n (S 5) (S 6) j))) := hR
              refine z_iinc (lv' := [(1, .int (zI (↑j + 1))), (0, .ref (ad 26))]) hx hb dX7_digest_103 hl (k := 1) rfl (by decide) rfl (fun ls hl => ?_)
              refine lv_goto (tgt := 71) hx hb dX7_digest_106 (by decide) ?_
              have hSe_45 : sA (sA (sA (sA (sA (sA S 9 g9) 10 g10) 11 g11) 99 (fun _ => hx9 h2 (↑j % 2))) 9 f_41) 99 (fun _ => hx9 (hx9 h2 (↑j % 2)) (wdF n (S 5) (S 6) j)) = sA (sA (sA (sA S 9 f_41) 10 g10) 11 g11) 99 (fun _ => hx9 (hx9 h2 (↑j % 2)) (wdF n (S 5) (S 6) j)) := by
                funext k8
                by_cases e80 : k8 = 9
                · subst e80; first | rfl | (funext j8; rfl)
                by_cases e81 : k8 = 10
                · subst e81; first | rfl | (funext j8; rfl)
                by_cases e82 : k8 = 11
                · subst e82; first | rfl | (funext j8; rfl)
                by_cases e83 : k8 = 99
                · subst e83; funext j8; first | rfl | exact hsc_99 j8
                simp [sA, e80, e81, e82, e83]
              rw [hSe_45] at hP hR
              exact ih_71 (j + 1) (hx9 (hx9 h2 (↑j % 2)) (wdF n (S 5) (S 6) j)) f_41 g10 g11 _ _ _ (by omega) (by rw [hh2]; rfl) (by omega) hP hR hS (lv_sub hl [1, 0] rfl)
        exact cut_71 _ 0 hh g9 g10 g11 _ _ _ (by omega) (hhh) (Nat.lt_succ_self _) hP hR hS (lv_sub hl [1, 0] rfl)
      · have h9 : True := trivial
        obtain ⟨hN, hO, hk0, hk⟩ := hst (by omega)
        have hO1 := hO.1
        have hO2 := hO.2.1
        have hnz : n ≠ 0 := by omega
        refine z_iconst hx hb dX7_digest_17 ?_
        refine lv_istore_n (lv' := [(2, .int (zI (0))), (0, .ref (ad 26)), (1, .int (zI (↑i)))]) hx hb dX7_digest_18 rfl hl (by decide) rfl (fun ls hl => ?_)
        have cut_19 : ∀ (k9 : Nat) (j : Nat) (h2 : Int) (g9 : Nat → Int) (g10 : Nat → Int) (g11 : Nat → Int) (H : Heap) (locs : List Loc) (ls : Array Slot), (j ≤ 4) → (h2 = itF (fun w h => hx9 h (tlF n (S 5) (S 6) i ↑w)) hh j) → (4 - j) < k9 → va_P D vwCl (mW cI ad (sA (sA (sA (sA S 9 g9) 10 g10) 11 g11) 99 (fun _ => h2))) H → RS (sA (sA (sA (sA S 9 g9) 10 g10) 11 g11) 99 (fun _ => h2)) → va_S (mA ad) s.heap H locs → lv_has ls 3 [(0, .ref (ad 26)), (1, .int (zI (↑i))), (2, .int (zI (↑j)))] → W p l e (headSpec (Cond.code yX7_digest cX7_digest 3 (some .long) :: lwT) ({ frames := 8, cells := 0, slots := 0, locals := 174 })).room s m ([.ref (ad 26)] : List Value).toArray below meth c H locs 0 0 (MQ below (va_Ql (fun (r : Int64) (S' : St) => ∃ e9 e10 e11 e99, S' = sA (sA (sA (sA S 9 e9) 10 e10) 11 e11) 99 e99 ∧ ∃ v, digR n N (S 5) (S 6) (S 7) (S 16) (S 0) k0 m9 (S 3 0) (S 15 0) (S 1 0) (S 4 0) v ∧ r = zL v) (gB D (mW cI ad)) (mA ad)) ([.ref (ad 26)] : List Value).toArray s 0 0 (mA ad)) (F0 m 19 ls []) := by
          intro k9
          induction k9 with
          | zero =>
            intro j h2 g9 g10 g11 H locs ls hj hh2 hk9 hP hR hS hl
            exact absurd hk9 (Nat.not_lt_zero _)
          | succ k9 ih_19 =>
            intro j h2 g9 g10 g11 H locs ls hj hh2 hk9 hP hR hS hl
            refine lv_iload_n hx hb dX7_digest_19 rfl (lv_at hl 2 rfl) ?_
            refine z_iconst hx hb dX7_digest_20 ?_
            refine z_icmp_ge (tgt := 41) hx hb (by omega) (by omega) (by omega) (by omega) dX7_digest_21 (by decide) (fun c_46 => ?_) (fun c_46 => ?_)
            · have h9 : True := trivial
              have hj4 : j = 4 := by omega
              rw [hj4] at hh2
              have ht0 := topA_r (n := n) (kd := S 5) (t := S 7) (x := ↑i) (w := 0) hO1
              have ht1 := topA_r (n := n) (kd := S 5) (t := S 7) (x := ↑i) (w := 1) hO1
              refine lv_aload_n hx hb dX7_digest_41 rfl (lv_at hl 0 rfl) ?_
              refine lv_aload_n hx hb dX7_digest_42 rfl (lv_at hl 0 rfl) ?_
              refine lv_iload_n hx hb dX7_digest_43 rfl (lv_at hl 1 rfl) ?_
              refine z_iconst hx hb dX7_digest_44 ?_
              refine g_callVi (As := [.int (zI (↑i)), .int (zI (0))]) (rest := [.ref (ad 26)]) ⟨hx, hb, hml, hown, hts⟩ (k_X7_topsOf l D cI ad hinj (sA (sA (sA (sA S 9 g9) 10 g10) 11 g11) 99 (fun _ => h2)) hR n hn hn7 N hN hO (by omega) ↑i 0 (by omega) (by omega) (by omega) (by omega)) (cwV 2 hts (gV hsub q_965 q_967 q_sX7_topsOf q_8 q_968) rfl rfl rfl hdX7_topsOf ⟨Nat.le_of_ble_eq_true rfl, Nat.le_of_ble_eq_true rfl⟩) (mEb D cI) (mEk D cI (mA ad)) hE (va_recv (ci := 7) (q0 := 0) hK hP rfl rfl) hP hS rfl hl.1 rfl (Nat.le_of_ble_eq_true rfl) dX7_digest_45 ⟨Nat.le_of_ble_eq_true rfl, Nat.le_of_ble_eq_true rfl⟩ (fun r_47 S_48 H locs hq_49 hP hR hS _ => ?_)
              obtain ⟨e_50, rfl, rfl⟩ := hq_49
              refine z_top (b := cnt (fun k => pB ((0 = 0 ∨ ftP n (S 5) (S 7) k) ∧ dgF n (S 7 k) 0 = ↑i)) N) rfl ?_
              refine z_top (b := topA n N (S 5) (S 7) ↑i 0) (rfl) ?_
              refine z_i2l hx hb (by omega) (by omega) dX7_digest_48 ?_
              refine g_callVv (As := [.long (zL (topA n N (S 5) (S 7) ↑i 0))]) (rest := []) ⟨hx, hb, hml, hown, hts⟩ (k_X7_say l D cI ad hinj (sA (sA (sA (sA (sA S 9 g9) 10 g10) 11 g11) 99 (fun _ => h2)) 10 e_50) hR (topA n N (S 5) (S 7) ↑i 0)) (cwV 1 hts (gV hsub q_1064 q_1066 q_sX7_say q_8 q_1067) rfl rfl rfl hdX7_say ⟨Nat.le_of_ble_eq_true rfl, Nat.le_of_ble_eq_true rfl⟩) (mEb D cI) (mEk D cI (mA ad)) hE (va_recv (ci := 7) (q0 := 0) hK hP rfl rfl) hP hS rfl hl.1 rfl (Nat.le_of_ble_eq_true rfl) dX7_digest_49 ⟨Nat.le_of_ble_eq_true rfl, Nat.le_of_ble_eq_true rfl⟩ (fun S_52 H locs hq_53 hP hR hS _ => ?_)
              obtain rfl := hq_53
              have hP : va_P D vwCl (mW cI ad (sA (sA (sA (sA (sA (sA S 9 g9) 10 g10) 11 g11) 99 (fun _ => h2)) 10 e_50) 99 (fun _ => hx9 h2 (topA n N (S 5) (S 7) ↑i 0)))) H := hP
              have hR : RS (sA (sA (sA (sA (sA (sA S 9 g9) 10 g10) 11 g11) 99 (fun _ => h2)) 10 e_50) 99 (fun _ => hx9 h2 (topA n N (S 5) (S 7) ↑i 0))) := hR
              refine lv_aload_n hx hb dX7_digest_52 rfl (lv_at hl 0 rfl) ?_
              refine lv_aload_n hx hb dX7_digest_53 rfl (lv_at hl 0 rfl) ?_
              refine lv_iload_n hx hb dX7_digest_54 rfl (lv_at hl 1 rfl) ?_
              refine z_iconst hx hb dX7_digest_55 ?_
              refine g_callVi (As := [.int (zI (↑i)), .int (zI (1))]) (rest := [.ref (ad 26)]) ⟨hx, hb, hml, hown, hts⟩ (k_X7_topsOf l D cI ad hinj (sA (sA (sA (sA (sA (sA S 9 g9) 10 g10) 11 g11) 99 (fun _ => h2)) 10 e_50) 99 (fun _ => hx9 h2 (topA n N (S 5) (S 7) ↑i 0))) hR n hn hn7 N hN hO (by omega) ↑i 1 (by omega) (by omega) (by omega) (by omega)) (cwV 2 hts (gV hsub q_965 q_967 q_sX7_topsOf q_8 q_968) rfl rfl rfl hdX7_topsOf ⟨Nat.le_of_ble_eq_true rfl, Nat.le_of_ble_eq_true rfl⟩) (mEb D cI) (mEk D cI (mA ad)) hE (va_recv (ci := 7) (q0 := 0) hK hP rfl rfl) hP hS rfl hl.1 rfl (Nat.le_of_ble_eq_true rfl) dX7_digest_56 ⟨Nat.le_of_ble_eq_true rfl, Nat.le_of_ble_eq_true rfl⟩ (fun r_54 S_55 H locs hq_56 hP hR hS _ => ?_)
              obtain ⟨e_57, rfl, rfl⟩ := hq_56
              refine z_top (b := cnt (fun k => pB ((1 = 0 ∨ ftP n (S 5) (S 7) k) ∧ dgF n (S 7 k) 0 = ↑i)) N) rfl ?_
              refine z_top (b := topA n N (S 5) (S 7) ↑i 1) (rfl) ?_
              refine z_i2l hx hb (by omega) (by omega) dX7_digest_59 ?_
              refine g_callVv (As := [.long (zL (topA n N (S 5) (S 7) ↑i 1))]) (rest := []) ⟨hx, hb, hml, hown, hts⟩ (k_X7_say l D cI ad hinj (sA (sA (sA (sA (sA (sA (sA S 9 g9) 10 g10) 11 g11) 99 (fun _ => h2)) 10 e_50) 99 (fun _ => hx9 h2 (topA n N (S 5) (S 7) ↑i 0))) 10 e_57) hR (topA n N (S 5) (S 7) ↑i 1)) (cwV 1 hts (gV hsub q_1064 q_1066 q_sX7_say q_8 q_1067) rfl rfl rfl hdX7_say ⟨Nat.le_of_ble_eq_true rfl, Nat.le_of_ble_eq_true rfl⟩) (mEb D cI) (mEk D cI (mA ad)) hE (va_recv (ci := 7) (q0 := 0) hK hP rfl rfl) hP hS rfl hl.1 rfl (Nat.le_of_ble_eq_true rfl) dX7_digest_60 ⟨Nat.le_of_ble_eq_true rfl, Nat.le_of_ble_eq_true rfl⟩ (fun S_59 H locs hq_60 hP hR hS _ => ?_)
              obtain rfl := hq_60
              have hP : va_P D vwCl (mW cI ad (sA (sA (sA (sA (sA (sA (sA (sA S 9 g9) 10 g10) 11 g11) 99 (fun _ => h2)) 10 e_50) 99 (fun _ => hx9 h2 (topA n N (S 5) (S 7) ↑i 0))) 10 e_57) 99 (fun _ => hx9 (hx9 h2 (topA n N (S 5) (S 7) ↑i 0)) (topA n N (S 5) (S 7) ↑i 1)))) H := hP
              have hR : RS (sA (sA (sA (sA (sA (sA (sA (sA S 9 g9) 10 g10) 11 g11) 99 (fun _ => h2)) 10 e_50) 99 (fun _ => hx9 h2 (topA n N (S 5) (S 7) ↑i 0))) 10 e_57) 99 (fun _ => hx9 (hx9 h2 (topA n N (S 5) (S 7) ↑i 0)) (topA n N (S 5) (S 7) ↑i 1))) := hR
              refine z_iinc (lv' := [(1, .int (zI (↑i + 1))), (0, .ref (ad 26)), (2, .int (zI (↑j)))]) hx hb dX7_digest_63 hl (k := 1) rfl (by decide) rfl (fun ls hl => ?_)
              refine lv_goto (tgt := 9) hx hb dX7_digest_66 (by decide) ?_
              have hSe_61 : sA (sA (sA (sA (sA (sA (sA (sA S 9 g9) 10 g10) 11 g11) 99 (fun _ => h2)) 10 e_50) 99 (fun _ => hx9 h2 (topA n N (S 5) (S 7) ↑i 0))) 10 e_57) 99 (fun _ => hx9 (hx9 h2 (topA n N (S 5) (S 7) ↑i 0)) (topA n N (S 5) (S 7) ↑i 1)) = sA (sA (sA (sA S 9 g9) 10 e_57) 11 g11) 99 (fun _ => hx9 (hx9 h2 (topA n N (S 5) (S 7) ↑i 0)) (topA n N (S 5) (S 7) ↑i 1)) := by
                funext k8
                by_cases e80 : k8 = 9
                · subst e80; first | rfl | (funext j8; rfl)
                by_cases e81 : k8 = 10
                · subst e81; first | rfl | (funext j8; rfl)
                by_cases e82 : k8 = 11
                · subst e82; first | rfl | (funext j8; rfl)
                by_cases e83 : k8 = 99
                · subst e83; funext j8; first | rfl | exact hsc_99 j8
                simp [sA, e80, e81, e82, e83]
              rw [hSe_61] at hP hR
              exact ih_9 (i + 1) (hx9 (hx9 h2 (topA n N (S 5) (S 7) ↑i 0)) (topA n N (S 5) (S 7) ↑i 1)) g9 e_57 g11 _ _ _ (by omega) (by rw [hh2, hhh]; rfl) (by omega) hP hR hS (lv_sub hl [1, 0] rfl)
            · have h9 : True := trivial
              refine lv_aload_n hx hb dX7_digest_24 rfl (lv_at hl 0 rfl) ?_
              refine lv_aload_n hx hb dX7_digest_25 rfl (lv_at hl 0 rfl) ?_
              refine lv_iload_n hx hb dX7_digest_26 rfl (lv_at hl 1 rfl) ?_
              refine lv_iload_n hx hb dX7_digest_27 rfl (lv_at hl 2 rfl) ?_
              have htl := tlF_r (w := ↑j) (v := i) hn7 hp (by omega) (hR0 5 i (by decide))
              refine g_callVi (As := [.int (zI (↑i)), .int (zI (↑j))]) (rest := [.ref (ad 26)]) ⟨hx, hb, hml, hown, hts⟩ (k_X7_tellLeaf l D cI ad hinj (sA (sA (sA (sA S 9 g9) 10 g10) 11 g11) 99 (fun _ => h2)) hR n hn hn7 (hp) (i) ↑i ↑j (by omega) (by omega) (by omega) (by omega)) (cwV 2 hts (gV hsub q_918 q_920 q_sX7_tellLeaf q_8 q_921) rfl rfl rfl hdX7_tellLeaf ⟨Nat.le_of_ble_eq_true rfl, Nat.le_of_ble_eq_true rfl⟩) (mEb D cI) (mEk D cI (mA ad)) hE (va_recv (ci := 7) (q0 := 0) hK hP rfl rfl) hP hS rfl hl.1 rfl (Nat.le_of_ble_eq_true rfl) dX7_digest_28 ⟨Nat.le_of_ble_eq_true rfl, Nat.le_of_ble_eq_true rfl⟩ (fun r_62 S_63 H locs hq_64 hP hR hS _ => ?_)
              obtain ⟨hs9, rfl⟩ := hq_64
              obtain rfl := hs9.symm
              refine z_top (b := tlF n (S 5) (S 6) i ↑j) rfl ?_
              refine z_i2l hx hb (by omega) (by omega) dX7_digest_31 ?_
              refine g_callVv (As := [.long (zL (tlF n (S 5) (S 6) i ↑j))]) (rest := []) ⟨hx, hb, hml, hown, hts⟩ (k_X7_say l D cI ad hinj (sA (sA (sA (sA S 9 g9) 10 g10) 11 g11) 99 (fun _ => h2)) hR (tlF n (S 5) (S 6) i ↑j)) (cwV 1 hts (gV hsub q_1064 q_1066 q_sX7_say q_8 q_1067) rfl rfl rfl hdX7_say ⟨Nat.le_of_ble_eq_true rfl, Nat.le_of_ble_eq_true rfl⟩) (mEb D cI) (mEk D cI (mA ad)) hE (va_recv (ci := 7) (q0 := 0) hK hP rfl rfl) hP hS rfl hl.1 rfl (Nat.le_of_ble_eq_true rfl) dX7_digest_32 ⟨Nat.le_of_ble_eq_true rfl, Nat.le_of_ble_eq_true rfl⟩ (fun S_66 H locs hq_67 hP hR hS _ => ?_)
              obtain rfl := hq_67
              rw [sA_sA] at hP hR
              have hP : va_P D vwCl (mW cI ad (sA (sA (sA (sA S 9 g9) 10 g10) 11 g11) 99 (fun _ => hx9 h2 (tlF n (S 5) (S 6) i ↑j)))) H := hP
              have hR : RS (sA (sA (sA (sA S 9 g9) 10 g10) 11 g11) 99 (fun _ => hx9 h2 (tlF n (S 5) (S 6) i ↑j))) := hR
              refine z_iinc (lv' := [(2, .int (zI (↑j + 1))), (0, .ref (ad 26)), (1, .int (zI (↑i)))]) hx hb dX7_digest_35 hl (k := 2) rfl (by decide) rfl (fun ls hl => ?_)
              refine lv_goto (tgt := 19) hx hb dX7_digest_38 (by decide) ?_
              exact ih_19 (j + 1) (hx9 h2 (tlF n (S 5) (S 6) i ↑j)) g9 g10 g11 _ _ _ (by omega) (by rw [itF, ← hh2]) (by omega) hP hR hS (lv_sub hl [1, 2, 0] rfl)
        exact cut_19 _ 0 hh g9 g10 g11 _ _ _ (by omega) (rfl) (Nat.lt_succ_self _) hP hR hS (lv_sub hl [1, 2, 0] rfl)
  have hSe_68 : sA S 99 (fun _ => 1319) = sA (sA (sA (sA S 9 (S 9)) 10 (S 10)) 11 (S 11)) 99 (fun _ => 1319) := by
    funext k8
    by_cases e80 : k8 = 9
    · subst e80; first | rfl | (funext j8; rfl)
    by_cases e81 : k8 = 10
    · subst e81; first | rfl | (funext j8; rfl)
    by_cases e82 : k8 = 11
    · subst e82; first | rfl | (funext j8; rfl)
    by_cases e83 : k8 = 99
    · subst e83; funext j8; first | rfl | exact hsc_99 j8
    simp [sA, e80, e81, e82, e83]
  rw [hSe_68] at hP hR
  exact cut_9 _ 0 1319 (S 9) (S 10) (S 11) _ _ _ (by omega) (rfl) (Nat.lt_succ_self _) hP hR hS (lv_sub hl [1, 0] rfl)
