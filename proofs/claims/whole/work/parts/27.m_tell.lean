set_option maxHeartbeats 4000000 in
set_option maxRecDepth 100000 in
theorem k_X7_tellLeaf (l : Launch) (D : va_G) (cI : ClassId) (ad : Nat → Nat) (hinj : mInj ad) (S : St) (hR : RS S) (n : Nat) (hn : S 2 0 = ↑n) (hn7 : n ≤ 7) (hp : prm n (S 6)) (v : Nat) (x xw : Int) (hxv : x = ↑v) (hv : v < n) (hxw1 : -2147483648 ≤ xw) (hxw2 : xw < 2147483648) : Met l yX7_tellLeaf (Cond.code yX7_tellLeaf cX7_tellLeaf 3 (some .int) :: lwT) ({ frames := 2, cells := 0, slots := 0, locals := 45 }) (gPc D (mW cI ad) (mE D cI) S [.ref (ad 26), .int (zI (x)), .int (zI (xw))]) (va_Qi (fun (r : Int32) (S' : St) => S' = S ∧ r = zI (tlF n (S 5) (S 6) v xw)) (gB D (mW cI ad)) (mA ad)) 0 0 (mA ad) := by
  refine Met.ofW (cc := cX7_tellLeaf) (maxL := 3) (ret := (some .int)) (by decide) rfl ?_
  intro p e s m args below meth c s₁ B hml hv
  obtain ⟨rfl, hP, hE⟩ := hv
  have hx := B.exec
  have hb := B.bytes
  have hr := B.returns
  have hts := atoms_spec (ws := Cond.code yX7_tellLeaf cX7_tellLeaf 3 (some .int) :: lwT) B.pre
  have hT := fun w (h : w ∈ lwT) => hts w (List.mem_cons_of_mem _ h)
  have hsub : ∀ w ∈ lwT, w ∈ (Cond.code yX7_tellLeaf cX7_tellLeaf 3 (some .int) :: lwT) := fun w h => List.mem_cons_of_mem _ h
  have hown : s.vm.findClass RX7 = some m.cls := findClass_of_methodNamed B.named
  have hlocks := B.notSynchronized
  have hK : va_K D vwCl [(cI, .int)] s := hE
  have hS : va_S (mA ad) s.heap s.heap [] := va_S.rf
  have hpl := pl_at hp hv
  have hl := lv_entry ([.ref (ad 26), .int (zI (x)), .int (zI (xw))]) (n := 3) (Nat.le_of_ble_eq_true rfl)
  rw [lg_entry_eq]
  generalize (lg_sl ([.ref (ad 26), .int (zI (x)), .int (zI (xw))]) ++ List.replicate (3 - (lg_sl ([.ref (ad 26), .int (zI (x)), .int (zI (xw))])).length) Slot.unset).toArray = ls at hl ⊢
  have hl : lv_has ls 3 [(0, .ref (ad 26)), (1, .int (zI (x))), (2, .int (zI (xw)))] := hl
  refine lv_iload_n hx hb dX7_tellLeaf_0 rfl (lv_at hl 2 rfl) ?_
  rcases (show (xw < 0 ∨ 3 < xw) ∨ xw = 0 ∨ xw = 1 ∨ xw = 2 ∨ xw = 3 by omega) with c_1 | c_1 | c_1 | c_1 | c_1
  · refine z_tabOut hx hb (by omega) (by omega) dX7_tellLeaf_1 c_1 (tgt := 79) (by decide) ?_
    refine z_bipush hx hb dX7_tellLeaf_79 (by decide) ?_
    exact g_iret (S1 := S) (v := zI (-102)) hx hb hr hlocks hP hR hS (⟨rfl, by unfold tlF; rw [if_neg (by omega), if_neg (by omega), if_neg (by omega), if_neg (by omega)]⟩) dX7_tellLeaf_81
  · refine z_tabIn hx hb c_1 (by decide) (by decide) dX7_tellLeaf_1 (by decide) (by decide) (off := 31) (by decide) (tgt := 32) (by decide) ?_
    refine lv_aload_n hx hb dX7_tellLeaf_32 rfl (lv_at hl 0 rfl) ?_
    refine va_get (D := D) (ci := 7) (v := .ref (ad 5)) (C := RX7) (T := TX7) (N := 26) hx hb hT inX7 hown hK hP 0 rfl rfl 5 (by decide) (hT _ q_677) (fun _ h9 => h9) rfl dX7_tellLeaf_33 ?_
    refine lv_iload_n hx hb dX7_tellLeaf_36 rfl (lv_at hl 1 rfl) ?_
    have g_2 : -2147483648 ≤ S 5 (x).toNat ∧ S 5 (x).toNat < 2147483648 := hR 5 ((x).toNat) (by decide)
    refine z_ald (f := S 5) hx hb hK hP 2 0 rfl rfl (by omega) (by omega) (by decide) (j := (x).toNat) rfl dX7_tellLeaf_37 ?_
    refine z_top (b := S 5 v) (by rw [show x.toNat = v by omega]) ?_
    exact g_iret (S1 := S) (v := zI (S 5 v)) hx hb hr hlocks hP hR hS (⟨rfl, by unfold tlF; rw [if_pos (by omega)]⟩) dX7_tellLeaf_38
  · refine z_tabIn hx hb c_1 (by decide) (by decide) dX7_tellLeaf_1 (by decide) (by decide) (off := 38) (by decide) (tgt := 39) (by decide) ?_
    refine lv_aload_n hx hb dX7_tellLeaf_39 rfl (lv_at hl 0 rfl) ?_
    refine lv_iload_n hx hb dX7_tellLeaf_40 rfl (lv_at hl 1 rfl) ?_
    refine g_callVi (As := [.int (zI (x))]) (rest := []) ⟨hx, hb, hml, hown, hts⟩ (k_X7_thick l D cI ad hinj S hR x (by omega) (by omega)) (cwV 1 hts (gV hsub q_898 q_900 q_sX7_thick q_8 q_901) rfl rfl rfl hdX7_thick ⟨Nat.le_of_ble_eq_true rfl, Nat.le_of_ble_eq_true rfl⟩) (mEb D cI) (mEk D cI (mA ad)) hE (va_recv (ci := 7) (q0 := 0) hK hP rfl rfl) hP hS rfl hl.1 rfl (Nat.le_of_ble_eq_true rfl) dX7_tellLeaf_41 ⟨Nat.le_of_ble_eq_true rfl, Nat.le_of_ble_eq_true rfl⟩ (fun r_3 S_4 H locs hq_5 hP hR hS _ => ?_)
    obtain ⟨hs9, rfl⟩ := hq_5
    obtain rfl := hs9.symm
    refine z_top (b := thk (S 5 (x).toNat)) rfl ?_
    refine z_top (b := thk (S 5 v)) (by rw [show x.toNat = v by omega]) ?_
    exact g_iret (S1 := S) (v := zI (thk (S 5 v))) hx hb hr hlocks hP hR hS (⟨rfl, by unfold tlF; rw [if_neg (by omega), if_pos (by omega)]⟩) dX7_tellLeaf_44
  · refine z_tabIn hx hb c_1 (by decide) (by decide) dX7_tellLeaf_1 (by decide) (by decide) (off := 44) (by decide) (tgt := 45) (by decide) ?_
    refine lv_aload_n hx hb dX7_tellLeaf_45 rfl (lv_at hl 0 rfl) ?_
    refine va_get (D := D) (ci := 7) (v := .ref (ad 6)) (C := RX7) (T := TX7) (N := 26) hx hb hT inX7 hown hK hP 0 rfl rfl 6 (by decide) (hT _ q_678) (fun _ h9 => h9) rfl dX7_tellLeaf_46 ?_
    refine lv_iload_n hx hb dX7_tellLeaf_49 rfl (lv_at hl 1 rfl) ?_
    refine g_callSi (As := [.ref (ad 6), .int (zI (x))]) (rest := []) ⟨hx, hb, hml, hown, hts⟩ (k_X7_placeOf_6 l D cI ad hinj S hR n hn7 v x (by omega) (by omega) hp) (cwS 2 hts (gS hsub q_843 q_844 q_8 q_845) rfl rfl rfl hdX7_placeOf ⟨Nat.le_of_ble_eq_true rfl, Nat.le_of_ble_eq_true rfl⟩) (mEb D cI) (mEk D cI (mA ad)) hE hP hS rfl hl.1 rfl (Nat.le_of_ble_eq_true rfl) dX7_tellLeaf_50 ⟨Nat.le_of_ble_eq_true rfl, Nat.le_of_ble_eq_true rfl⟩ (fun r_6 S_7 H locs hq_8 hP hR hS _ => ?_)
    obtain ⟨hs9, rfl⟩ := hq_8
    obtain rfl := hs9.symm
    have g_9 := pl_lt (v := v) (hp) (by omega)
    refine z_top (b := ↑(pl n (S 6) v)) rfl ?_
    exact g_iret (S1 := S) (v := zI (↑(pl n (S 6) v))) hx hb hr hlocks hP hR hS (⟨rfl, by unfold tlF; rw [if_neg (by omega), if_neg (by omega), if_pos (by omega)]⟩) dX7_tellLeaf_53
  · refine z_tabIn hx hb c_1 (by decide) (by decide) dX7_tellLeaf_1 (by decide) (by decide) (off := 53) (by decide) (tgt := 54) (by decide) ?_
    refine lv_aload_n hx hb dX7_tellLeaf_54 rfl (lv_at hl 0 rfl) ?_
    refine lv_aload_n hx hb dX7_tellLeaf_55 rfl (lv_at hl 0 rfl) ?_
    refine va_get (D := D) (ci := 7) (v := .ref (ad 6)) (C := RX7) (T := TX7) (N := 26) hx hb hT inX7 hown hK hP 0 rfl rfl 6 (by decide) (hT _ q_678) (fun _ h9 => h9) rfl dX7_tellLeaf_56 ?_
    refine lv_aload_n hx hb dX7_tellLeaf_59 rfl (lv_at hl 0 rfl) ?_
    refine va_get (D := D) (ci := 7) (v := .ref (ad 6)) (C := RX7) (T := TX7) (N := 26) hx hb hT inX7 hown hK hP 0 rfl rfl 6 (by decide) (hT _ q_678) (fun _ h9 => h9) rfl dX7_tellLeaf_60 ?_
    refine lv_iload_n hx hb dX7_tellLeaf_63 rfl (lv_at hl 1 rfl) ?_
    refine g_callSi (As := [.ref (ad 6), .int (zI (x))]) (rest := [.ref (ad 6), .ref (ad 26)]) ⟨hx, hb, hml, hown, hts⟩ (k_X7_placeOf_6 l D cI ad hinj S hR n hn7 v x (by omega) (by omega) hp) (cwS 2 hts (gS hsub q_843 q_844 q_8 q_845) rfl rfl rfl hdX7_placeOf ⟨Nat.le_of_ble_eq_true rfl, Nat.le_of_ble_eq_true rfl⟩) (mEb D cI) (mEk D cI (mA ad)) hE hP hS rfl hl.1 rfl (Nat.le_of_ble_eq_true rfl) dX7_tellLeaf_64 ⟨Nat.le_of_ble_eq_true rfl, Nat.le_of_ble_eq_true rfl⟩ (fun r_10 S_11 H locs hq_12 hP hR hS _ => ?_)
    obtain ⟨hs9, rfl⟩ := hq_12
    obtain rfl := hs9.symm
    have g_13 := pl_lt (v := v) (hp) (by omega)
    refine z_top (b := ↑(pl n (S 6) v)) rfl ?_
    refine g_callVi (As := [.ref (ad 6), .int (zI (↑(pl n (S 6) v)))]) (rest := []) ⟨hx, hb, hml, hown, hts⟩ (k_X7_isRight_6 l D cI ad hinj S hR n hn hn7 hp (pl n (S 6) v) (↑(pl n (S 6) v)) rfl hpl.1) (cwV 2 hts (gV hsub q_874 q_876 q_sX7_isRight q_8 q_877) rfl rfl rfl hdX7_isRight ⟨Nat.le_of_ble_eq_true rfl, Nat.le_of_ble_eq_true rfl⟩) (mEb D cI) (mEk D cI (mA ad)) hE (va_recv (ci := 7) (q0 := 0) hK hP rfl rfl) hP hS rfl hl.1 rfl (Nat.le_of_ble_eq_true rfl) dX7_tellLeaf_67 ⟨Nat.le_of_ble_eq_true rfl, Nat.le_of_ble_eq_true rfl⟩ (fun r_14 S_15 H locs hq_16 hP hR hS _ => ?_)
    obtain ⟨hs9, rfl⟩ := hq_16
    obtain rfl := hs9.symm
    refine z_top (b := b2 (pB (rgP n (S 5) (S 6) (pl n (S 6) v)))) rfl ?_
    refine z_ifeqB (tgt := 77) hx hb dX7_tellLeaf_70 (by decide) (fun c_17 => ?_) (fun c_17 => ?_)
    · have h9 : True := trivial
      refine z_iconst hx hb dX7_tellLeaf_77 ?_
      exact g_iret (S1 := S) (v := zI (0)) hx hb hr hlocks hP hR hS (⟨rfl, by unfold tlF; rw [if_neg (by omega), if_neg (by omega), if_neg (by omega), if_pos (by omega), c_17]; rfl⟩) dX7_tellLeaf_78
    · have h9 : True := trivial
      refine z_iconst hx hb dX7_tellLeaf_73 ?_
      refine lv_goto (tgt := 78) hx hb dX7_tellLeaf_74 (by decide) ?_
      exact g_iret (S1 := S) (v := zI (1)) hx hb hr hlocks hP hR hS (⟨rfl, by unfold tlF; rw [if_neg (by omega), if_neg (by omega), if_neg (by omega), if_pos (by omega), c_17]; rfl⟩) dX7_tellLeaf_78
set_option maxHeartbeats 4000000 in
set_option maxRecDepth 100000 in
theorem k_X7_ordersOf (l : Launch) (D : va_G) (cI : ClassId) (ad : Nat → Nat) (hinj : mInj ad) (S : St) (hR : RS S) (n : Nat) (hn : S 2 0 = ↑n) (hn7 : n ≤ 7) (N : Nat) (hN : S 8 0 = ↑N) (hO : OT n N (S 7)) (k0 : Nat) (hk0 : k0 < N) (hk : S 7 k0 = cdF (S 6) n) (hp : prm n (S 6)) (xw : Int) (hxw1 : -2147483648 ≤ xw) (hxw2 : xw < 2147483648) (hw0 : 0 ≤ xw) : Met l yX7_ordersOf (Cond.code yX7_ordersOf cX7_ordersOf 2 (some .int) :: lwT) ({ frames := 6, cells := 0, slots := 0, locals := 132 }) (gPc D (mW cI ad) (mE D cI) S [.ref (ad 26), .int (zI (xw))]) (va_Qi (fun (r : Int32) (S' : St) => ∃ e10, S' = sA S 10 e10 ∧ r = zI (orsF n N (S 5) (S 6) (S 7) k0 xw)) (gB D (mW cI ad)) (mA ad)) 0 0 (mA ad) := by
  refine Met.ofW (cc := cX7_ordersOf) (maxL := 2) (ret := (some .int)) (by decide) rfl ?_
  intro p e s m args below meth c s₁ B hml hv
  obtain ⟨rfl, hP, hE⟩ := hv
  have hx := B.exec
  have hb := B.bytes
  have hr := B.returns
  have hts := atoms_spec (ws := Cond.code yX7_ordersOf cX7_ordersOf 2 (some .int) :: lwT) B.pre
  have hT := fun w (h : w ∈ lwT) => hts w (List.mem_cons_of_mem _ h)
  have hsub : ∀ w ∈ lwT, w ∈ (Cond.code yX7_ordersOf cX7_ordersOf 2 (some .int) :: lwT) := fun w h => List.mem_cons_of_mem _ h
  have hown : s.vm.findClass RX7 = some m.cls := findClass_of_methodNamed B.named
  have hlocks := B.notSynchronized
  have hK : va_K D vwCl [(cI, .int)] s := hE
  have hS : va_S (mA ad) s.heap s.heap [] := va_S.rf
  have hO1 := hO.1
  have hO2 := hO.2.1
  have hmin : ∀ j, j < k0 → S 7 j ≠ cdF (S 6) n := fun j hj e => by have := hO.2.2.1 j k0 (by omega) hk0 (by rw [e, hk]); omega
  have hl := lv_entry ([.ref (ad 26), .int (zI (xw))]) (n := 2) (Nat.le_of_ble_eq_true rfl)
  rw [lg_entry_eq]
  generalize (lg_sl ([.ref (ad 26), .int (zI (xw))]) ++ List.replicate (2 - (lg_sl ([.ref (ad 26), .int (zI (xw))])).length) Slot.unset).toArray = ls at hl ⊢
  have hl : lv_has ls 2 [(0, .ref (ad 26)), (1, .int (zI (xw)))] := hl
  refine lv_iload_n hx hb dX7_ordersOf_0 rfl (lv_at hl 1 rfl) ?_
  rcases (show (xw < 0 ∨ 2 < xw) ∨ xw = 0 ∨ xw = 1 ∨ xw = 2 by omega) with c_1 | c_1 | c_1 | c_1
  · refine z_tabOut hx hb (by omega) (by omega) dX7_ordersOf_1 c_1 (tgt := 43) (by decide) ?_
    refine lv_aload_n hx hb dX7_ordersOf_43 rfl (lv_at hl 0 rfl) ?_
    refine lv_aload_n hx hb dX7_ordersOf_44 rfl (lv_at hl 0 rfl) ?_
    refine va_get (D := D) (ci := 7) (v := .ref (ad 6)) (C := RX7) (T := TX7) (N := 26) hx hb hT inX7 hown hK hP 0 rfl rfl 6 (by decide) (hT _ q_678) (fun _ h9 => h9) rfl dX7_ordersOf_45 ?_
    refine g_callVi (As := [.ref (ad 6)]) (rest := []) ⟨hx, hb, hml, hown, hts⟩ (k_X7_isFit_6 l D cI ad hinj S hR n hn hn7 hp) (cwV 1 hts (gV hsub q_866 q_868 q_sX7_isFit q_8 q_869) rfl rfl rfl hdX7_isFit ⟨Nat.le_of_ble_eq_true rfl, Nat.le_of_ble_eq_true rfl⟩) (mEb D cI) (mEk D cI (mA ad)) hE (va_recv (ci := 7) (q0 := 0) hK hP rfl rfl) hP hS rfl hl.1 rfl (Nat.le_of_ble_eq_true rfl) dX7_ordersOf_48 ⟨Nat.le_of_ble_eq_true rfl, Nat.le_of_ble_eq_true rfl⟩ (fun r_2 S_3 H locs hq_4 hP hR hS _ => ?_)
    obtain ⟨hs9, rfl⟩ := hq_4
    obtain rfl := hs9.symm
    refine z_top (b := b2 (pB (fitP n (S 5) (S 6)))) rfl ?_
    refine z_ifeqB (tgt := 58) hx hb dX7_ordersOf_51 (by decide) (fun c_5 => ?_) (fun c_5 => ?_)
    · have h9 : True := trivial
      refine z_iconst hx hb dX7_ordersOf_58 ?_
      exact g_iret (S1 := S) (v := zI (0)) hx hb hr hlocks hP hR hS (⟨S 10, (sA_self S 10).symm, by unfold orsF; rw [if_neg (by omega), if_neg (by omega), if_neg (by omega), c_5]; rfl⟩) dX7_ordersOf_59
    · have h9 : True := trivial
      refine z_iconst hx hb dX7_ordersOf_54 ?_
      refine lv_goto (tgt := 59) hx hb dX7_ordersOf_55 (by decide) ?_
      exact g_iret (S1 := S) (v := zI (1)) hx hb hr hlocks hP hR hS (⟨S 10, (sA_self S 10).symm, by unfold orsF; rw [if_neg (by omega), if_neg (by omega), if_neg (by omega), c_5]; rfl⟩) dX7_ordersOf_59
  · refine z_tabIn hx hb c_1 (by decide) (by decide) dX7_ordersOf_1 (by decide) (by decide) (off := 27) (by decide) (tgt := 28) (by decide) ?_
    refine lv_aload_n hx hb dX7_ordersOf_28 rfl (lv_at hl 0 rfl) ?_
    have g_6 : -2147483648 ≤ S 8 0 ∧ S 8 0 < 2147483648 := hR 8 0 (by decide)
    refine va_get (D := D) (ci := 7) (v := .int (zI (S 8 0))) (C := RX7) (T := TX7) (N := 26) hx hb hT inX7 hown hK hP 0 rfl rfl 8 (by decide) (hT _ q_680) (fun _ h9 => h9) rfl dX7_ordersOf_29 ?_
    exact g_iret (S1 := S) (v := zI (S 8 0)) hx hb hr hlocks hP hR hS (⟨S 10, (sA_self S 10).symm, by unfold orsF; rw [if_pos (by omega), hN]⟩) dX7_ordersOf_32
  · refine z_tabIn hx hb c_1 (by decide) (by decide) dX7_ordersOf_1 (by decide) (by decide) (off := 32) (by decide) (tgt := 33) (by decide) ?_
    refine lv_aload_n hx hb dX7_ordersOf_33 rfl (lv_at hl 0 rfl) ?_
    refine g_callVi (As := []) (rest := []) ⟨hx, hb, hml, hown, hts⟩ (k_X7_fitMany l D cI ad hinj S hR n hn hn7 N hN hO) (cwV 0 hts (gV hsub q_947 q_949 q_sX7_fitMany q_8 q_950) rfl rfl rfl hdX7_fitMany ⟨Nat.le_of_ble_eq_true rfl, Nat.le_of_ble_eq_true rfl⟩) (mEb D cI) (mEk D cI (mA ad)) hE (va_recv (ci := 7) (q0 := 0) hK hP rfl rfl) hP hS rfl hl.1 rfl (Nat.le_of_ble_eq_true rfl) dX7_ordersOf_34 ⟨Nat.le_of_ble_eq_true rfl, Nat.le_of_ble_eq_true rfl⟩ (fun r_7 S_8 H locs hq_9 hP hR hS _ => ?_)
    obtain ⟨e_10, rfl, rfl⟩ := hq_9
    refine z_top (b := cnt (fun k => pB (ftP n (S 5) (S 7) k)) N) rfl ?_
    exact g_iret (S1 := sA S 10 e_10) (v := zI (cnt (fun k => pB (ftP n (S 5) (S 7) k)) N)) hx hb hr hlocks hP hR hS (⟨_, rfl, by unfold orsF; rw [if_neg (by omega), if_pos (by omega)]⟩) dX7_ordersOf_37
  · refine z_tabIn hx hb c_1 (by decide) (by decide) dX7_ordersOf_1 (by decide) (by decide) (off := 37) (by decide) (tgt := 38) (by decide) ?_
    refine lv_aload_n hx hb dX7_ordersOf_38 rfl (lv_at hl 0 rfl) ?_
    refine g_callVi (As := []) (rest := []) ⟨hx, hb, hml, hown, hts⟩ (k_X7_orderNow l D cI ad hinj S hR n hn hn7 (k0) ((by omega)) (hk) (hmin)) (cwV 0 hts (gV hsub q_824 q_826 q_sX7_orderNow q_8 q_827) rfl rfl rfl hdX7_orderNow ⟨Nat.le_of_ble_eq_true rfl, Nat.le_of_ble_eq_true rfl⟩) (mEb D cI) (mEk D cI (mA ad)) hE (va_recv (ci := 7) (q0 := 0) hK hP rfl rfl) hP hS rfl hl.1 rfl (Nat.le_of_ble_eq_true rfl) dX7_ordersOf_39 ⟨Nat.le_of_ble_eq_true rfl, Nat.le_of_ble_eq_true rfl⟩ (fun r_11 S_12 H locs hq_13 hP hR hS _ => ?_)
    obtain ⟨hs9, rfl⟩ := hq_13
    obtain rfl := hs9.symm
    refine z_top (b := ↑k0) rfl ?_
    exact g_iret (S1 := S) (v := zI (↑k0)) hx hb hr hlocks hP hR hS (⟨S 10, (sA_self S 10).symm, by unfold orsF; rw [if_neg (by omega), if_neg (by omega), if_pos (by omega)]⟩) dX7_ordersOf_42
set_option maxHeartbeats 4000000 in
set_option maxRecDepth 100000 in
theorem k_X7_tellOrder (l : Launch) (D : va_G) (cI : ClassId) (ad : Nat → Nat) (hinj : mInj ad) (S : St) (hR : RS S) (n : Nat) (hn : S 2 0 = ↑n) (hn7 : n ≤ 7) (N : Nat) (hN : S 8 0 = ↑N) (hO : OT n N (S 7)) (y : Nat) (x xw : Int) (hxy : x = ↑y) (hy : y < N) (hxw : (0 ≤ xw ∧ xw ≤ 1) ∨ (10 ≤ xw ∧ xw ≤ 16)) : Met l yX7_tellOrder (Cond.code yX7_tellOrder cX7_tellOrder 3 (some .int) :: lwT) ({ frames := 4, cells := 0, slots := 0, locals := 89 }) (gPc D (mW cI ad) (mE D cI) S [.ref (ad 26), .int (zI (x)), .int (zI (xw))]) (va_Qi (fun (r : Int32) (S' : St) => ∃ e9 e10, S' = sA (sA S 9 e9) 10 e10 ∧ r = zI (toF n (S 5) (dgF n (S 7 y)) xw)) (gB D (mW cI ad)) (mA ad)) 0 0 (mA ad) := by
  refine Met.ofW (cc := cX7_tellOrder) (maxL := 3) (ret := (some .int)) (by decide) rfl ?_
  intro p e s m args below meth c s₁ B hml hv
  obtain ⟨rfl, hP, hE⟩ := hv
  have hx := B.exec
  have hb := B.bytes
  have hr := B.returns
  have hts := atoms_spec (ws := Cond.code yX7_tellOrder cX7_tellOrder 3 (some .int) :: lwT) B.pre
  have hT := fun w (h : w ∈ lwT) => hts w (List.mem_cons_of_mem _ h)
  have hsub : ∀ w ∈ lwT, w ∈ (Cond.code yX7_tellOrder cX7_tellOrder 3 (some .int) :: lwT) := fun w h => List.mem_cons_of_mem _ h
  have hown : s.vm.findClass RX7 = some m.cls := findClass_of_methodNamed B.named
  have hlocks := B.notSynchronized
  have hK : va_K D vwCl [(cI, .int)] s := hE
  have hS : va_S (mA ad) s.heap s.heap [] := va_S.rf
  have hO1 := hO.1
  have hO2 := hO.2.1
  have hl := lv_entry ([.ref (ad 26), .int (zI (x)), .int (zI (xw))]) (n := 3) (Nat.le_of_ble_eq_true rfl)
  rw [lg_entry_eq]
  generalize (lg_sl ([.ref (ad 26), .int (zI (x)), .int (zI (xw))]) ++ List.replicate (3 - (lg_sl ([.ref (ad 26), .int (zI (x)), .int (zI (xw))])).length) Slot.unset).toArray = ls at hl ⊢
  have hl : lv_has ls 3 [(0, .ref (ad 26)), (1, .int (zI (x))), (2, .int (zI (xw)))] := hl
  refine lv_aload_n hx hb dX7_tellOrder_0 rfl (lv_at hl 0 rfl) ?_
  refine lv_aload_n hx hb dX7_tellOrder_1 rfl (lv_at hl 0 rfl) ?_
  refine va_get (D := D) (ci := 7) (v := .ref (ad 7)) (C := RX7) (T := TX7) (N := 26) hx hb hT inX7 hown hK hP 0 rfl rfl 7 (by decide) (hT _ q_679) (fun _ h9 => h9) rfl dX7_tellOrder_2 ?_
  refine lv_iload_n hx hb dX7_tellOrder_5 rfl (lv_at hl 1 rfl) ?_
  have g_1 : -2147483648 ≤ S 7 (x).toNat ∧ S 7 (x).toNat < 2147483648 := hR 7 ((x).toNat) (by decide)
  refine z_ald (f := S 7) hx hb hK hP 4 0 rfl rfl (by omega) (by omega) (by decide) (j := (x).toNat) rfl dX7_tellOrder_6 ?_
  have h8 : -2147483648 ≤ S 7 y ∧ S 7 y < 2147483648 := hR 7 y (by decide)
  refine z_top (b := S 7 y) (by rw [show x.toNat = y by omega]) ?_
  refine lv_aload_n hx hb dX7_tellOrder_7 rfl (lv_at hl 0 rfl) ?_
  refine va_get (D := D) (ci := 7) (v := .ref (ad 10)) (C := RX7) (T := TX7) (N := 26) hx hb hT inX7 hown hK hP 0 rfl rfl 10 (by decide) (hT _ q_682) (fun _ h9 => h9) rfl dX7_tellOrder_8 ?_
  refine g_callVv (As := [.int (zI (S 7 y)), .ref (ad 10)]) (rest := []) ⟨hx, hb, hml, hown, hts⟩ (k_X7_layRow_10 l D cI ad hinj S hR n hn hn7 (S 7 y) ((hO2 y hy).1) (by omega)) (cwV 2 hts (gV hsub q_832 q_834 q_sX7_layRow q_8 q_835) rfl rfl rfl hdX7_layRow ⟨Nat.le_of_ble_eq_true rfl, Nat.le_of_ble_eq_true rfl⟩) (mEb D cI) (mEk D cI (mA ad)) hE (va_recv (ci := 7) (q0 := 0) hK hP rfl rfl) hP hS rfl hl.1 rfl (Nat.le_of_ble_eq_true rfl) dX7_tellOrder_11 ⟨Nat.le_of_ble_eq_true rfl, Nat.le_of_ble_eq_true rfl⟩ (fun S_3 H locs hq_4 hP hR hS _ => ?_)
  obtain ⟨f_5, rfl, hlr_6⟩ := hq_4
  have hpf := prm_c hlr_6 (hO2 y hy).2.1
  refine lv_iload_n hx hb dX7_tellOrder_14 rfl (lv_at hl 2 rfl) ?_
  refine z_iconst hx hb dX7_tellOrder_15 ?_
  refine z_icmp_ge (tgt := 52) hx hb (by omega) (by omega) (by omega) (by omega) dX7_tellOrder_16 (by decide) (fun c_7 => ?_) (fun c_7 => ?_)
  · have h9 : True := trivial
    refine lv_iload_n hx hb dX7_tellOrder_52 rfl (lv_at hl 2 rfl) ?_
    refine z_bipush hx hb dX7_tellOrder_53 (by decide) ?_
    refine z_isub hx hb dX7_tellOrder_55 ?_
    refine lv_aload_n hx hb dX7_tellOrder_56 rfl (lv_at hl 0 rfl) ?_
    have g_8 : -2147483648 ≤ S 2 0 ∧ S 2 0 < 2147483648 := hR 2 0 (by decide)
    refine va_get (D := D) (ci := 7) (v := .int (zI (S 2 0))) (C := RX7) (T := TX7) (N := 26) hx hb hT inX7 hown hK hP 0 rfl rfl 2 (by decide) (hT _ q_674) (fun _ h9 => h9) rfl dX7_tellOrder_57 ?_
    refine z_icmp_ge (tgt := 75) hx hb (by omega) (by omega) (by omega) (by omega) dX7_tellOrder_60 (by decide) (fun c_9 => ?_) (fun c_9 => ?_)
    · have h9 : True := trivial
      refine z_iconst hx hb dX7_tellOrder_75 ?_
      exact g_iret (S1 := sA S 10 f_5) (v := zI (-1)) hx hb hr hlocks hP hR hS (⟨S 9, f_5, by rw [sA_self], by unfold toF; rw [if_neg (by omega), if_neg (by omega)]⟩) dX7_tellOrder_76
    · have h9 : True := trivial
      refine lv_aload_n hx hb dX7_tellOrder_63 rfl (lv_at hl 0 rfl) ?_
      refine va_get (D := D) (ci := 7) (v := .ref (ad 10)) (C := RX7) (T := TX7) (N := 26) hx hb hT inX7 hown hK hP 0 rfl rfl 10 (by decide) (hT _ q_682) (fun _ h9 => h9) rfl dX7_tellOrder_64 ?_
      refine lv_iload_n hx hb dX7_tellOrder_67 rfl (lv_at hl 2 rfl) ?_
      refine z_bipush hx hb dX7_tellOrder_68 (by decide) ?_
      refine z_isub hx hb dX7_tellOrder_70 ?_
      have g_10 : -2147483648 ≤ f_5 (xw - 10).toNat ∧ f_5 (xw - 10).toNat < 2147483648 := hR 10 ((xw - 10).toNat) (by decide)
      refine z_ald (f := f_5) hx hb hK hP 6 0 rfl rfl (by omega) (by omega) (by decide) (j := (xw - 10).toNat) rfl dX7_tellOrder_71 ?_
      refine lv_goto (tgt := 76) hx hb dX7_tellOrder_72 (by decide) ?_
      exact g_iret (S1 := sA S 10 f_5) (v := zI (f_5 (xw - 10).toNat)) hx hb hr hlocks hP hR hS (⟨S 9, f_5, by rw [sA_self], by unfold toF; rw [if_neg (by omega), if_pos (by omega)]; exact congrArg zI (hlr_6 _ (by omega))⟩) dX7_tellOrder_76
  · have h9 : True := trivial
    refine lv_iload_n hx hb dX7_tellOrder_19 rfl (lv_at hl 2 rfl) ?_
    refine z_iconst hx hb dX7_tellOrder_20 ?_
    refine z_icmp_ne (tgt := 35) hx hb (by omega) (by omega) (by omega) (by omega) dX7_tellOrder_21 (by decide) (fun c_11 => ?_) (fun c_11 => ?_)
    · have h9 : True := trivial
      refine lv_aload_n hx hb dX7_tellOrder_35 rfl (lv_at hl 0 rfl) ?_
      refine lv_aload_n hx hb dX7_tellOrder_36 rfl (lv_at hl 0 rfl) ?_
      refine va_get (D := D) (ci := 7) (v := .ref (ad 10)) (C := RX7) (T := TX7) (N := 26) hx hb hT inX7 hown hK hP 0 rfl rfl 10 (by decide) (hT _ q_682) (fun _ h9 => h9) rfl dX7_tellOrder_37 ?_
      refine g_callVi (As := [.ref (ad 10)]) (rest := []) ⟨hx, hb, hml, hown, hts⟩ (k_X7_isFit_10 l D cI ad hinj (sA S 10 f_5) hR n hn hn7 hpf) (cwV 1 hts (gV hsub q_866 q_868 q_sX7_isFit q_8 q_869) rfl rfl rfl hdX7_isFit ⟨Nat.le_of_ble_eq_true rfl, Nat.le_of_ble_eq_true rfl⟩) (mEb D cI) (mEk D cI (mA ad)) hE (va_recv (ci := 7) (q0 := 0) hK hP rfl rfl) hP hS rfl hl.1 rfl (Nat.le_of_ble_eq_true rfl) dX7_tellOrder_40 ⟨Nat.le_of_ble_eq_true rfl, Nat.le_of_ble_eq_true rfl⟩ (fun r_12 S_13 H locs hq_14 hP hR hS _ => ?_)
      obtain ⟨hs9, rfl⟩ := hq_14
      obtain rfl := hs9.symm
      refine z_top (b := b2 (pB (fitP n (S 5) f_5))) rfl ?_
      refine z_ifeqB (tgt := 50) hx hb dX7_tellOrder_43 (by decide) (fun c_15 => ?_) (fun c_15 => ?_)
      · have h9 : True := trivial
        refine z_iconst hx hb dX7_tellOrder_50 ?_
        exact g_iret (S1 := sA S 10 f_5) (v := zI (0)) hx hb hr hlocks hP hR hS (⟨S 9, f_5, by rw [sA_self], by unfold toF; rw [if_pos (by omega), if_neg (by omega), ← pB_c (fitP_c hlr_6), c_15]; rfl⟩) dX7_tellOrder_51
      · have h9 : True := trivial
        refine z_iconst hx hb dX7_tellOrder_46 ?_
        refine lv_goto (tgt := 51) hx hb dX7_tellOrder_47 (by decide) ?_
        exact g_iret (S1 := sA S 10 f_5) (v := zI (1)) hx hb hr hlocks hP hR hS (⟨S 9, f_5, by rw [sA_self], by unfold toF; rw [if_pos (by omega), if_neg (by omega), ← pB_c (fitP_c hlr_6), c_15]; rfl⟩) dX7_tellOrder_51
    · have h9 : True := trivial
      refine lv_aload_n hx hb dX7_tellOrder_24 rfl (lv_at hl 0 rfl) ?_
      refine lv_aload_n hx hb dX7_tellOrder_25 rfl (lv_at hl 0 rfl) ?_
      refine va_get (D := D) (ci := 7) (v := .ref (ad 10)) (C := RX7) (T := TX7) (N := 26) hx hb hT inX7 hown hK hP 0 rfl rfl 10 (by decide) (hT _ q_682) (fun _ h9 => h9) rfl dX7_tellOrder_26 ?_
      refine g_callVi (As := [.ref (ad 10)]) (rest := []) ⟨hx, hb, hml, hown, hts⟩ (k_X7_widest_10 l D cI ad hinj (sA S 10 f_5) hR n hn hn7 hpf) (cwV 1 hts (gV hsub q_890 q_892 q_sX7_widest q_8 q_893) rfl rfl rfl hdX7_widest ⟨Nat.le_of_ble_eq_true rfl, Nat.le_of_ble_eq_true rfl⟩) (mEb D cI) (mEk D cI (mA ad)) hE (va_recv (ci := 7) (q0 := 0) hK hP rfl rfl) hP hS rfl hl.1 rfl (Nat.le_of_ble_eq_true rfl) dX7_tellOrder_29 ⟨Nat.le_of_ble_eq_true rfl, Nat.le_of_ble_eq_true rfl⟩ (fun r_16 S_17 H locs hq_18 hP hR hS _ => ?_)
      obtain ⟨f_19, rfl, rfl⟩ := hq_18
      refine z_top (b := mxF (wdF n (S 5) f_5) (n - 1)) rfl ?_
      refine lv_goto (tgt := 51) hx hb dX7_tellOrder_32 (by decide) ?_
      exact g_iret (S1 := sA (sA S 10 f_5) 9 f_19) (v := zI (mxF (wdF n (S 5) f_5) (n - 1))) hx hb hr hlocks hP hR hS (⟨_, _, sA_cm _ _ _ (by decide), by unfold toF; rw [if_pos (by omega), if_pos (by omega)]; exact congrArg zI (wmF_c hlr_6)⟩) dX7_tellOrder_51
set_option maxHeartbeats 4000000 in
set_option maxRecDepth 100000 in
theorem k_X7_thickAll (l : Launch) (D : va_G) (cI : ClassId) (ad : Nat → Nat) (hinj : mInj ad) (S : St) (hR : RS S) (n : Nat) (hn : S 2 0 = ↑n) (hn7 : n ≤ 7) : Met l yX7_thickAll (Cond.code yX7_thickAll cX7_thickAll 3 (some .int) :: lwT) ({ frames := 1, cells := 0, slots := 0, locals := 21 }) (gPc D (mW cI ad) (mE D cI) S [.ref (ad 26)]) (va_Qi (fun (r : Int32) (S' : St) => S' = S ∧ r = zI (sm (fun k => thk (S 5 k)) n)) (gB D (mW cI ad)) (mA ad)) 0 0 (mA ad) := by
  refine Met.ofW (cc := cX7_thickAll) (maxL := 3) (ret := (some .int)) (by decide) rfl ?_
  intro p e s m args below meth c s₁ B hml hv
  obtain ⟨rfl, hP, hE⟩ := hv
  have hx := B.exec
  have hb := B.bytes
  have hr := B.returns
  have hts := atoms_spec (ws := Cond.code yX7_thickAll cX7_thickAll 3 (some .int) :: lwT) B.pre
  have hT := fun w (h : w ∈ lwT) => hts w (List.mem_cons_of_mem _ h)
  have hsub : ∀ w ∈ lwT, w ∈ (Cond.code yX7_thickAll cX7_thickAll 3 (some .int) :: lwT) := fun w h => List.mem_cons_of_mem _ h
  have hown : s.vm.findClass RX7 = some m.cls := findClass_of_methodNamed B.named
  have hlocks := B.notSynchronized
  have hK : va_K D vwCl [(cI, .int)] s := hE
  have hS : va_S (mA ad) s.heap s.heap [] := va_S.rf
  have hl := lv_entry ([.ref (ad 26)]) (n := 3) (Nat.le_of_ble_eq_true rfl)
  rw [lg_entry_eq]
  generalize (lg_sl ([.ref (ad 26)]) ++ List.replicate (3 - (lg_sl ([.ref (ad 26)])).length) Slot.unset).toArray = ls at hl ⊢
  have hl : lv_has ls 3 [(0, .ref (ad 26))] := hl
  refine z_iconst hx hb dX7_thickAll_0 ?_
  refine lv_istore_n (lv' := [(1, .int (zI (0))), (0, .ref (ad 26))]) hx hb dX7_thickAll_1 rfl hl (by decide) rfl (fun ls hl => ?_)
  refine z_iconst hx hb dX7_thickAll_2 ?_
  refine lv_istore_n (lv' := [(2, .int (zI (0))), (1, .int (zI (0))), (0, .ref (ad 26))]) hx hb dX7_thickAll_3 rfl hl (by decide) rfl (fun ls hl => ?_)
  have cut_4 : ∀ (k9 : Nat) (i : Nat) (y : Int) (H : Heap) (locs : List Loc) (ls : Array Slot), (i ≤ n) → (y = sm (fun k => thk (S 5 k)) i) → (n - i) < k9 → va_P D vwCl (mW cI ad S) H → RS S → va_S (mA ad) s.heap H locs → lv_has ls 3 [(0, .ref (ad 26)), (1, .int (zI (y))), (2, .int (zI (↑i)))] → W p l e (headSpec (Cond.code yX7_thickAll cX7_thickAll 3 (some .int) :: lwT) ({ frames := 1, cells := 0, slots := 0, locals := 21 })).room s m ([.ref (ad 26)] : List Value).toArray below meth c H locs 0 0 (MQ below (va_Qi (fun (r : Int32) (S' : St) => S' = S ∧ r = zI (sm (fun k => thk (S 5 k)) n)) (gB D (mW cI ad)) (mA ad)) ([.ref (ad 26)] : List Value).toArray s 0 0 (mA ad)) (F0 m 4 ls []) := by
    intro k9
    induction k9 with
    | zero =>
      intro i y H locs ls hi hy hk9 hP hR hS hl
      exact absurd hk9 (Nat.not_lt_zero _)
    | succ k9 ih_4 =>
      intro i y H locs ls hi hy hk9 hP hR hS hl
      refine lv_iload_n hx hb dX7_thickAll_4 rfl (lv_at hl 2 rfl) ?_
      refine lv_aload_n hx hb dX7_thickAll_5 rfl (lv_at hl 0 rfl) ?_
      have g_1 : -2147483648 ≤ S 2 0 ∧ S 2 0 < 2147483648 := hR 2 0 (by decide)
      refine va_get (D := D) (ci := 7) (v := .int (zI (S 2 0))) (C := RX7) (T := TX7) (N := 26) hx hb hT inX7 hown hK hP 0 rfl rfl 2 (by decide) (hT _ q_674) (fun _ h9 => h9) rfl dX7_thickAll_6 ?_
      refine z_icmp_ge (tgt := 26) hx hb (by omega) (by omega) (by omega) (by omega) dX7_thickAll_9 (by decide) (fun c_2 => ?_) (fun c_2 => ?_)
      · have h9 : True := trivial
        refine lv_iload_n hx hb dX7_thickAll_26 rfl (lv_at hl 1 rfl) ?_
        exact g_iret (S1 := S) (v := zI (y)) hx hb hr hlocks hP hR hS (⟨rfl, by rw [hy, show i = n by omega]⟩) dX7_thickAll_27
      · have h9 : True := trivial
        refine lv_iload_n hx hb dX7_thickAll_12 rfl (lv_at hl 1 rfl) ?_
        refine lv_aload_n hx hb dX7_thickAll_13 rfl (lv_at hl 0 rfl) ?_
        refine lv_iload_n hx hb dX7_thickAll_14 rfl (lv_at hl 2 rfl) ?_
        refine g_callVi (As := [.int (zI (↑i))]) (rest := [.int (zI (y))]) ⟨hx, hb, hml, hown, hts⟩ (k_X7_thick l D cI ad hinj S hR ↑i (by omega) (by omega)) (cwV 1 hts (gV hsub q_898 q_900 q_sX7_thick q_8 q_901) rfl rfl rfl hdX7_thick ⟨Nat.le_of_ble_eq_true rfl, Nat.le_of_ble_eq_true rfl⟩) (mEb D cI) (mEk D cI (mA ad)) hE (va_recv (ci := 7) (q0 := 0) hK hP rfl rfl) hP hS rfl hl.1 rfl (Nat.le_of_ble_eq_true rfl) dX7_thickAll_15 ⟨Nat.le_of_ble_eq_true rfl, Nat.le_of_ble_eq_true rfl⟩ (fun r_3 S_4 H locs hq_5 hP hR hS _ => ?_)
        obtain ⟨hs9, rfl⟩ := hq_5
        obtain rfl := hs9.symm
        refine z_top (b := thk (S 5 i)) rfl ?_
        refine z_iadd hx hb dX7_thickAll_18 ?_
        refine lv_istore_n (lv' := [(1, .int (zI (y + (thk (S 5 i))))), (0, .ref (ad 26)), (2, .int (zI (↑i)))]) hx hb dX7_thickAll_19 rfl hl (by decide) rfl (fun ls hl => ?_)
        refine z_iinc (lv' := [(2, .int (zI (↑i + 1))), (1, .int (zI (y + (thk (S 5 i))))), (0, .ref (ad 26))]) hx hb dX7_thickAll_20 hl (k := 2) rfl (by decide) rfl (fun ls hl => ?_)
        refine lv_goto (tgt := 4) hx hb dX7_thickAll_23 (by decide) ?_
        exact ih_4 (i + 1) (y + (thk (S 5 i))) _ _ _ (by omega) (by rw [sm, hy]) (by omega) hP hR hS (lv_sub hl [2, 1, 0] rfl)
  exact cut_4 _ 0 0 _ _ _ (by omega) (rfl) (Nat.lt_succ_self _) hP hR hS (lv_sub hl [2, 1, 0] rfl)
set_option maxHeartbeats 4000000 in
set_option maxRecDepth 100000 in
theorem k_X7_movesNow (l : Launch) (D : va_G) (cI : ClassId) (ad : Nat → Nat) (hinj : mInj ad) (S : St) (hR : RS S) (n : Nat) (hn : S 2 0 = ↑n) (hn7 : n ≤ 7) (hp : prm n (S 6)) : Met l yX7_movesNow (Cond.code yX7_movesNow cX7_movesNow 3 (some .int) :: lwT) ({ frames := 3, cells := 0, slots := 0, locals := 70 }) (gPc D (mW cI ad) (mE D cI) S [.ref (ad 26)]) (va_Qi (fun (r : Int32) (S' : St) => ∃ e9 e11, S' = sA (sA S 9 e9) 11 e11 ∧ r = zI (mvsF n (S 6))) (gB D (mW cI ad)) (mA ad)) 0 0 (mA ad) := by
  refine Met.ofW (cc := cX7_movesNow) (maxL := 3) (ret := (some .int)) (by decide) rfl ?_
  intro p e s m args below meth c s₁ B hml hv
  obtain ⟨rfl, hP, hE⟩ := hv
  have hx := B.exec
  have hb := B.bytes
  have hr := B.returns
  have hts := atoms_spec (ws := Cond.code yX7_movesNow cX7_movesNow 3 (some .int) :: lwT) B.pre
  have hT := fun w (h : w ∈ lwT) => hts w (List.mem_cons_of_mem _ h)
  have hsub : ∀ w ∈ lwT, w ∈ (Cond.code yX7_movesNow cX7_movesNow 3 (some .int) :: lwT) := fun w h => List.mem_cons_of_mem _ h
  have hown : s.vm.findClass RX7 = some m.cls := findClass_of_methodNamed B.named
  have hlocks := B.notSynchronized
  have hK : va_K D vwCl [(cI, .int)] s := hE
  have hS : va_S (mA ad) s.heap s.heap [] := va_S.rf
  have hnn : n * n ≤ 49 := Nat.mul_le_mul hn7 hn7
  have hl := lv_entry ([.ref (ad 26)]) (n := 3) (Nat.le_of_ble_eq_true rfl)
  rw [lg_entry_eq]
  generalize (lg_sl ([.ref (ad 26)]) ++ List.replicate (3 - (lg_sl ([.ref (ad 26)])).length) Slot.unset).toArray = ls at hl ⊢
  have hl : lv_has ls 3 [(0, .ref (ad 26))] := hl
  refine z_iconst hx hb dX7_movesNow_0 ?_
  refine lv_istore_n (lv' := [(1, .int (zI (0))), (0, .ref (ad 26))]) hx hb dX7_movesNow_1 rfl hl (by decide) rfl (fun ls hl => ?_)
  refine z_iconst hx hb dX7_movesNow_2 ?_
  refine lv_istore_n (lv' := [(2, .int (zI (0))), (1, .int (zI (0))), (0, .ref (ad 26))]) hx hb dX7_movesNow_3 rfl hl (by decide) rfl (fun ls hl => ?_)
  have cut_4 : ∀ (k9 : Nat) (i : Nat) (y : Int) (g9 : Nat → Int) (g11 : Nat → Int) (H : Heap) (locs : List Loc) (ls : Array Slot), (i ≤ n * n) → (y = cnt (fun a => pB (cbF n (S 6) (a / n) (a % n) ≠ -1)) i) → (n * n - i) < k9 → va_P D vwCl (mW cI ad (sA (sA S 9 g9) 11 g11)) H → RS (sA (sA S 9 g9) 11 g11) → va_S (mA ad) s.heap H locs → lv_has ls 3 [(0, .ref (ad 26)), (1, .int (zI (y))), (2, .int (zI (↑i)))] → W p l e (headSpec (Cond.code yX7_movesNow cX7_movesNow 3 (some .int) :: lwT) ({ frames := 3, cells := 0, slots := 0, locals := 70 })).room s m ([.ref (ad 26)] : List Value).toArray below meth c H locs 0 0 (MQ below (va_Qi (fun (r : Int32) (S' : St) => ∃ e9 e11, S' = sA (sA S 9 e9) 11 e11 ∧ r = zI (mvsF n (S 6))) (gB D (mW cI ad)) (mA ad)) ([.ref (ad 26)] : List Value).toArray s 0 0 (mA ad)) (F0 m 4 ls []) := by
    intro k9
    induction k9 with
    | zero =>
      intro i y g9 g11 H locs ls hi hy hk9 hP hR hS hl
      exact absurd hk9 (Nat.not_lt_zero _)
    | succ k9 ih_4 =>
      intro i y g9 g11 H locs ls hi hy hk9 hP hR hS hl
      refine lv_iload_n hx hb dX7_movesNow_4 rfl (lv_at hl 2 rfl) ?_
      refine lv_aload_n hx hb dX7_movesNow_5 rfl (lv_at hl 0 rfl) ?_
      have g_1 : -2147483648 ≤ S 2 0 ∧ S 2 0 < 2147483648 := hR 2 0 (by decide)
      refine va_get (D := D) (ci := 7) (v := .int (zI (S 2 0))) (C := RX7) (T := TX7) (N := 26) hx hb hT inX7 hown hK hP 0 rfl rfl 2 (by decide) (hT _ q_674) (fun _ h9 => h9) rfl dX7_movesNow_6 ?_
      refine lv_aload_n hx hb dX7_movesNow_9 rfl (lv_at hl 0 rfl) ?_
      refine va_get (D := D) (ci := 7) (v := .int (zI (S 2 0))) (C := RX7) (T := TX7) (N := 26) hx hb hT inX7 hown hK hP 0 rfl rfl 2 (by decide) (hT _ q_674) (fun _ h9 => h9) rfl dX7_movesNow_10 ?_
      refine z_imul hx hb dX7_movesNow_13 ?_
      refine z_top (b := ↑(n * n)) (by rw [hn]; exact (Int.natCast_mul n n).symm) ?_
      refine z_icmp_ge (tgt := 55) hx hb (by omega) (by omega) (by omega) (by omega) dX7_movesNow_14 (by decide) (fun c_2 => ?_) (fun c_2 => ?_)
      · have h9 : True := trivial
        refine lv_iload_n hx hb dX7_movesNow_55 rfl (lv_at hl 1 rfl) ?_
        exact g_iret (S1 := sA (sA S 9 g9) 11 g11) (v := zI (y)) hx hb hr hlocks hP hR hS (⟨_, _, rfl, by rw [hy, show i = n * n by omega]; rfl⟩) dX7_movesNow_56
      · have h9 : True := trivial
        have hn0 : 0 < n := Nat.pos_of_ne_zero (fun e => by subst e; omega)
        have hdv := Nat.div_lt_of_lt_mul (show i < n * n by omega)
        have hmd := Nat.mod_lt i hn0
        refine lv_iload_n hx hb dX7_movesNow_17 rfl (lv_at hl 1 rfl) ?_
        refine lv_aload_n hx hb dX7_movesNow_18 rfl (lv_at hl 0 rfl) ?_
        refine lv_aload_n hx hb dX7_movesNow_19 rfl (lv_at hl 0 rfl) ?_
        refine va_get (D := D) (ci := 7) (v := .ref (ad 6)) (C := RX7) (T := TX7) (N := 26) hx hb hT inX7 hown hK hP 0 rfl rfl 6 (by decide) (hT _ q_678) (fun _ h9 => h9) rfl dX7_movesNow_20 ?_
        refine lv_iload_n hx hb dX7_movesNow_23 rfl (lv_at hl 2 rfl) ?_
        refine lv_aload_n hx hb dX7_movesNow_24 rfl (lv_at hl 0 rfl) ?_
        refine va_get (D := D) (ci := 7) (v := .int (zI (S 2 0))) (C := RX7) (T := TX7) (N := 26) hx hb hT inX7 hown hK hP 0 rfl rfl 2 (by decide) (hT _ q_674) (fun _ h9 => h9) rfl dX7_movesNow_25 ?_
        refine z_idiv hx hb (by omega) (by omega) (by omega) (by omega) dX7_movesNow_28 ?_
        refine z_top (b := ↑(i / n)) (by rw [hn]; rfl) ?_
        refine lv_iload_n hx hb dX7_movesNow_29 rfl (lv_at hl 2 rfl) ?_
        refine lv_aload_n hx hb dX7_movesNow_30 rfl (lv_at hl 0 rfl) ?_
        refine va_get (D := D) (ci := 7) (v := .int (zI (S 2 0))) (C := RX7) (T := TX7) (N := 26) hx hb hT inX7 hown hK hP 0 rfl rfl 2 (by decide) (hT _ q_674) (fun _ h9 => h9) rfl dX7_movesNow_31 ?_
        refine z_irem hx hb (by omega) (by omega) (by omega) (by omega) dX7_movesNow_34 ?_
        refine z_top (b := ↑(i % n)) (by rw [hn]; rfl) ?_
        refine g_callVi (As := [.ref (ad 6), .int (zI (↑(i / n))), .int (zI (↑(i % n)))]) (rest := [.int (zI (y))]) ⟨hx, hb, hml, hown, hts⟩ (k_X7_codeBy_6 l D cI ad hinj (sA (sA S 9 g9) 11 g11) hR n hn hn7 hp (i / n) (i % n) (↑(i / n)) (↑(i % n)) rfl rfl hdv hmd) (cwV 3 hts (gV hsub q_836 q_838 q_sX7_codeBy q_8 q_839) rfl rfl rfl hdX7_codeBy ⟨Nat.le_of_ble_eq_true rfl, Nat.le_of_ble_eq_true rfl⟩) (mEb D cI) (mEk D cI (mA ad)) hE (va_recv (ci := 7) (q0 := 0) hK hP rfl rfl) hP hS rfl hl.1 rfl (Nat.le_of_ble_eq_true rfl) dX7_movesNow_35 ⟨Nat.le_of_ble_eq_true rfl, Nat.le_of_ble_eq_true rfl⟩ (fun r_3 S_4 H locs hq_5 hP hR hS _ => ?_)
        obtain ⟨f_6, g_7, rfl, rfl⟩ := hq_5
        refine z_top (b := cbF n (S 6) (i / n) (i % n)) rfl ?_
        have hcr := cbF_r hn7 hp hdv hmd
        refine z_iconst hx hb dX7_movesNow_38 ?_
        refine z_icmp_ne (tgt := 46) hx hb (by omega) (by omega) (by omega) (by omega) dX7_movesNow_39 (by decide) (fun c_8 => ?_) (fun c_8 => ?_)
        · have h9 : True := trivial
          refine z_iconst hx hb dX7_movesNow_46 ?_
          refine z_iadd hx hb dX7_movesNow_47 ?_
          refine lv_istore_n (lv' := [(1, .int (zI (y + 1))), (0, .ref (ad 26)), (2, .int (zI (↑i)))]) hx hb dX7_movesNow_48 rfl hl (by decide) rfl (fun ls hl => ?_)
          refine z_iinc (lv' := [(2, .int (zI (↑i + 1))), (1, .int (zI (y + 1))), (0, .ref (ad 26))]) hx hb dX7_movesNow_49 hl (k := 2) rfl (by decide) rfl (fun ls hl => ?_)
          refine lv_goto (tgt := 4) hx hb dX7_movesNow_52 (by decide) ?_
          have hSe_9 : sA (sA (sA (sA S 9 g9) 11 g11) 11 f_6) 9 g_7 = sA (sA S 9 g_7) 11 f_6 := by
            funext k8
            by_cases e80 : k8 = 9
            · subst e80; first | rfl | (funext j8; rfl)
            by_cases e81 : k8 = 11
            · subst e81; first | rfl | (funext j8; rfl)
            simp [sA, e80, e81]
          rw [hSe_9] at hP hR
          exact ih_4 (i + 1) (y + 1) g_7 f_6 _ _ _ (by omega) (cnt_t (P := (fun a => pB (cbF n (S 6) (a / n) (a % n) ≠ -1))) (pB_t.mpr (by omega)) hy) (by omega) hP hR hS (lv_sub hl [2, 1, 0] rfl)
        · have h9 : True := trivial
          refine z_iconst hx hb dX7_movesNow_42 ?_
          refine lv_goto (tgt := 47) hx hb dX7_movesNow_43 (by decide) ?_
          refine z_iadd hx hb dX7_movesNow_47 ?_
          refine lv_istore_n (lv' := [(1, .int (zI (y + 0))), (0, .ref (ad 26)), (2, .int (zI (↑i)))]) hx hb dX7_movesNow_48 rfl hl (by decide) rfl (fun ls hl => ?_)
          refine z_iinc (lv' := [(2, .int (zI (↑i + 1))), (1, .int (zI (y + 0))), (0, .ref (ad 26))]) hx hb dX7_movesNow_49 hl (k := 2) rfl (by decide) rfl (fun ls hl => ?_)
          refine lv_goto (tgt := 4) hx hb dX7_movesNow_52 (by decide) ?_
          have hSe_10 : sA (sA (sA (sA S 9 g9) 11 g11) 11 f_6) 9 g_7 = sA (sA S 9 g_7) 11 f_6 := by
            funext k8
            by_cases e80 : k8 = 9
            · subst e80; first | rfl | (funext j8; rfl)
            by_cases e81 : k8 = 11
            · subst e81; first | rfl | (funext j8; rfl)
            simp [sA, e80, e81]
          rw [hSe_10] at hP hR
          exact ih_4 (i + 1) (y + 0) g_7 f_6 _ _ _ (by omega) (cnt_f (P := (fun a => pB (cbF n (S 6) (a / n) (a % n) ≠ -1))) (pB_f.mpr (by omega)) hy) (by omega) hP hR hS (lv_sub hl [2, 1, 0] rfl)
  have hSe_11 : S = sA (sA S 9 (S 9)) 11 (S 11) := by
    funext k8
    by_cases e80 : k8 = 9
    · subst e80; first | rfl | (funext j8; rfl)
    by_cases e81 : k8 = 11
    · subst e81; first | rfl | (funext j8; rfl)
    simp [sA, e80, e81]
  rw [hSe_11] at hP hR
  exact cut_4 _ 0 0 (S 9) (S 11) _ _ _ (by omega) (rfl) (Nat.lt_succ_self _) hP hR hS (lv_sub hl [2, 1, 0] rfl)
set_option maxHeartbeats 4000000 in
set_option maxRecDepth 100000 in
theorem k_X7_countOf (l : Launch) (D : va_G) (cI : ClassId) (ad : Nat → Nat) (hinj : mInj ad) (S : St) (hR : RS S) (n : Nat) (hn : S 2 0 = ↑n) (hn7 : n ≤ 7) (hp : prm n (S 6)) (xw : Int) (hxw1 : -2147483648 ≤ xw) (hxw2 : xw < 2147483648) : Met l yX7_countOf (Cond.code yX7_countOf cX7_countOf 2 (some .int) :: lwT) ({ frames := 4, cells := 0, slots := 0, locals := 92 }) (gPc D (mW cI ad) (mE D cI) S [.ref (ad 26), .int (zI (xw))]) (va_Qi (fun (r : Int32) (S' : St) => ∃ e9 e11, S' = sA (sA S 9 e9) 11 e11 ∧ r = zI (ctF n (S 5) (S 6) (S 3 0) (S 15 0) (S 1 0) (S 4 0) xw)) (gB D (mW cI ad)) (mA ad)) 0 0 (mA ad) := by
  refine Met.ofW (cc := cX7_countOf) (maxL := 2) (ret := (some .int)) (by decide) rfl ?_
  intro p e s m args below meth c s₁ B hml hv
  obtain ⟨rfl, hP, hE⟩ := hv
  have hx := B.exec
  have hb := B.bytes
  have hr := B.returns
  have hts := atoms_spec (ws := Cond.code yX7_countOf cX7_countOf 2 (some .int) :: lwT) B.pre
  have hT := fun w (h : w ∈ lwT) => hts w (List.mem_cons_of_mem _ h)
  have hsub : ∀ w ∈ lwT, w ∈ (Cond.code yX7_countOf cX7_countOf 2 (some .int) :: lwT) := fun w h => List.mem_cons_of_mem _ h
  have hown : s.vm.findClass RX7 = some m.cls := findClass_of_methodNamed B.named
  have hlocks := B.notSynchronized
  have hK : va_K D vwCl [(cI, .int)] s := hE
  have hS : va_S (mA ad) s.heap s.heap [] := va_S.rf
  have hl := lv_entry ([.ref (ad 26), .int (zI (xw))]) (n := 2) (Nat.le_of_ble_eq_true rfl)
  rw [lg_entry_eq]
  generalize (lg_sl ([.ref (ad 26), .int (zI (xw))]) ++ List.replicate (2 - (lg_sl ([.ref (ad 26), .int (zI (xw))])).length) Slot.unset).toArray = ls at hl ⊢
  have hl : lv_has ls 2 [(0, .ref (ad 26)), (1, .int (zI (xw)))] := hl
  refine lv_iload_n hx hb dX7_countOf_0 rfl (lv_at hl 1 rfl) ?_
  rcases (show (xw < 0 ∨ 9 < xw) ∨ xw = 0 ∨ xw = 1 ∨ xw = 2 ∨ xw = 3 ∨ xw = 4 ∨ xw = 5 ∨ xw = 6 ∨ xw = 7 ∨ xw = 8 ∨ xw = 9 by omega) with c_1 | c_1 | c_1 | c_1 | c_1 | c_1 | c_1 | c_1 | c_1 | c_1 | c_1
  · refine z_tabOut hx hb (by omega) (by omega) dX7_countOf_1 c_1 (tgt := 118) (by decide) ?_
    refine z_bipush hx hb dX7_countOf_118 (by decide) ?_
    exact g_iret (S1 := S) (v := zI (-102)) hx hb hr hlocks hP hR hS (⟨S 9, S 11, by rw [sA_self, sA_self], by unfold ctF; rw [if_neg (by omega), if_neg (by omega), if_neg (by omega), if_neg (by omega), if_neg (by omega), if_neg (by omega), if_neg (by omega), if_neg (by omega), if_neg (by omega), if_neg (by omega)]⟩) dX7_countOf_120
  · refine z_tabIn hx hb c_1 (by decide) (by decide) dX7_countOf_1 (by decide) (by decide) (off := 55) (by decide) (tgt := 56) (by decide) ?_
    refine lv_aload_n hx hb dX7_countOf_56 rfl (lv_at hl 0 rfl) ?_
    have g_2 : -2147483648 ≤ S 2 0 ∧ S 2 0 < 2147483648 := hR 2 0 (by decide)
    refine va_get (D := D) (ci := 7) (v := .int (zI (S 2 0))) (C := RX7) (T := TX7) (N := 26) hx hb hT inX7 hown hK hP 0 rfl rfl 2 (by decide) (hT _ q_674) (fun _ h9 => h9) rfl dX7_countOf_57 ?_
    exact g_iret (S1 := S) (v := zI (S 2 0)) hx hb hr hlocks hP hR hS (⟨S 9, S 11, by rw [sA_self, sA_self], by unfold ctF; rw [if_pos (by omega), hn]⟩) dX7_countOf_60
  · refine z_tabIn hx hb c_1 (by decide) (by decide) dX7_countOf_1 (by decide) (by decide) (off := 60) (by decide) (tgt := 61) (by decide) ?_
    refine lv_aload_n hx hb dX7_countOf_61 rfl (lv_at hl 0 rfl) ?_
    refine g_callVi (As := []) (rest := []) ⟨hx, hb, hml, hown, hts⟩ (k_X7_thickAll l D cI ad hinj S hR n hn hn7) (cwV 0 hts (gV hsub q_1051 q_1053 q_sX7_thickAll q_8 q_1054) rfl rfl rfl hdX7_thickAll ⟨Nat.le_of_ble_eq_true rfl, Nat.le_of_ble_eq_true rfl⟩) (mEb D cI) (mEk D cI (mA ad)) hE (va_recv (ci := 7) (q0 := 0) hK hP rfl rfl) hP hS rfl hl.1 rfl (Nat.le_of_ble_eq_true rfl) dX7_countOf_62 ⟨Nat.le_of_ble_eq_true rfl, Nat.le_of_ble_eq_true rfl⟩ (fun r_3 S_4 H locs hq_5 hP hR hS _ => ?_)
    obtain ⟨hs9, rfl⟩ := hq_5
    obtain rfl := hs9.symm
    refine z_top (b := sm (fun k => thk (S 5 k)) n) rfl ?_
    exact g_iret (S1 := S) (v := zI (sm (fun k => thk (S 5 k)) n)) hx hb hr hlocks hP hR hS (⟨S 9, S 11, by rw [sA_self, sA_self], by unfold ctF; rw [if_neg (by omega), if_pos (by omega)]⟩) dX7_countOf_65
  · refine z_tabIn hx hb c_1 (by decide) (by decide) dX7_countOf_1 (by decide) (by decide) (off := 65) (by decide) (tgt := 66) (by decide) ?_
    refine lv_aload_n hx hb dX7_countOf_66 rfl (lv_at hl 0 rfl) ?_
    refine lv_aload_n hx hb dX7_countOf_67 rfl (lv_at hl 0 rfl) ?_
    refine va_get (D := D) (ci := 7) (v := .ref (ad 6)) (C := RX7) (T := TX7) (N := 26) hx hb hT inX7 hown hK hP 0 rfl rfl 6 (by decide) (hT _ q_678) (fun _ h9 => h9) rfl dX7_countOf_68 ?_
    refine g_callVi (As := [.ref (ad 6)]) (rest := []) ⟨hx, hb, hml, hown, hts⟩ (k_X7_widest_6 l D cI ad hinj S hR n hn hn7 hp) (cwV 1 hts (gV hsub q_890 q_892 q_sX7_widest q_8 q_893) rfl rfl rfl hdX7_widest ⟨Nat.le_of_ble_eq_true rfl, Nat.le_of_ble_eq_true rfl⟩) (mEb D cI) (mEk D cI (mA ad)) hE (va_recv (ci := 7) (q0 := 0) hK hP rfl rfl) hP hS rfl hl.1 rfl (Nat.le_of_ble_eq_true rfl) dX7_countOf_71 ⟨Nat.le_of_ble_eq_true rfl, Nat.le_of_ble_eq_true rfl⟩ (fun r_6 S_7 H locs hq_8 hP hR hS _ => ?_)
    obtain ⟨f_9, rfl, rfl⟩ := hq_8
    refine z_top (b := mxF (wdF n (S 5) (S 6)) (n - 1)) rfl ?_
    exact g_iret (S1 := sA S 9 f_9) (v := zI (mxF (wdF n (S 5) (S 6)) (n - 1))) hx hb hr hlocks hP hR hS (⟨_, S 11, (sA_self _ 11).symm, by unfold ctF; rw [if_neg (by omega), if_neg (by omega), if_pos (by omega)]; rfl⟩) dX7_countOf_74
  · refine z_tabIn hx hb c_1 (by decide) (by decide) dX7_countOf_1 (by decide) (by decide) (off := 74) (by decide) (tgt := 75) (by decide) ?_
    refine lv_aload_n hx hb dX7_countOf_75 rfl (lv_at hl 0 rfl) ?_
    refine lv_aload_n hx hb dX7_countOf_76 rfl (lv_at hl 0 rfl) ?_
    refine va_get (D := D) (ci := 7) (v := .ref (ad 6)) (C := RX7) (T := TX7) (N := 26) hx hb hT inX7 hown hK hP 0 rfl rfl 6 (by decide) (hT _ q_678) (fun _ h9 => h9) rfl dX7_countOf_77 ?_
    refine g_callVi (As := [.ref (ad 6)]) (rest := []) ⟨hx, hb, hml, hown, hts⟩ (k_X7_widerMany_6 l D cI ad hinj S hR n hn hn7 hp) (cwV 1 hts (gV hsub q_973 q_975 q_sX7_widerMany q_8 q_976) rfl rfl rfl hdX7_widerMany ⟨Nat.le_of_ble_eq_true rfl, Nat.le_of_ble_eq_true rfl⟩) (mEb D cI) (mEk D cI (mA ad)) hE (va_recv (ci := 7) (q0 := 0) hK hP rfl rfl) hP hS rfl hl.1 rfl (Nat.le_of_ble_eq_true rfl) dX7_countOf_80 ⟨Nat.le_of_ble_eq_true rfl, Nat.le_of_ble_eq_true rfl⟩ (fun r_10 S_11 H locs hq_12 hP hR hS _ => ?_)
    obtain ⟨f_13, rfl, rfl⟩ := hq_12
    refine z_top (b := cnt (fun q => pB (0 < wdF n (S 5) (S 6) q)) (n - 1)) rfl ?_
    exact g_iret (S1 := sA S 9 f_13) (v := zI (cnt (fun q => pB (0 < wdF n (S 5) (S 6) q)) (n - 1))) hx hb hr hlocks hP hR hS (⟨_, S 11, (sA_self _ 11).symm, by unfold ctF; rw [if_neg (by omega), if_neg (by omega), if_neg (by omega), if_pos (by omega)]; rfl⟩) dX7_countOf_83
  · refine z_tabIn hx hb c_1 (by decide) (by decide) dX7_countOf_1 (by decide) (by decide) (off := 83) (by decide) (tgt := 84) (by decide) ?_
    refine lv_aload_n hx hb dX7_countOf_84 rfl (lv_at hl 0 rfl) ?_
    refine lv_aload_n hx hb dX7_countOf_85 rfl (lv_at hl 0 rfl) ?_
    refine va_get (D := D) (ci := 7) (v := .ref (ad 6)) (C := RX7) (T := TX7) (N := 26) hx hb hT inX7 hown hK hP 0 rfl rfl 6 (by decide) (hT _ q_678) (fun _ h9 => h9) rfl dX7_countOf_86 ?_
    refine g_callVi (As := [.ref (ad 6)]) (rest := []) ⟨hx, hb, hml, hown, hts⟩ (k_X7_rightMany_6 l D cI ad hinj S hR n hn hn7 hp) (cwV 1 hts (gV hsub q_870 q_872 q_sX7_rightMany q_8 q_873) rfl rfl rfl hdX7_rightMany ⟨Nat.le_of_ble_eq_true rfl, Nat.le_of_ble_eq_true rfl⟩) (mEb D cI) (mEk D cI (mA ad)) hE (va_recv (ci := 7) (q0 := 0) hK hP rfl rfl) hP hS rfl hl.1 rfl (Nat.le_of_ble_eq_true rfl) dX7_countOf_89 ⟨Nat.le_of_ble_eq_true rfl, Nat.le_of_ble_eq_true rfl⟩ (fun r_14 S_15 H locs hq_16 hP hR hS _ => ?_)
    obtain ⟨hs9, rfl⟩ := hq_16
    obtain rfl := hs9.symm
    refine z_top (b := cnt (fun q => pB (rgP n (S 5) (S 6) q)) n) rfl ?_
    exact g_iret (S1 := S) (v := zI (cnt (fun q => pB (rgP n (S 5) (S 6) q)) n)) hx hb hr hlocks hP hR hS (⟨S 9, S 11, by rw [sA_self, sA_self], by unfold ctF; rw [if_neg (by omega), if_neg (by omega), if_neg (by omega), if_neg (by omega), if_pos (by omega)]⟩) dX7_countOf_92
  · refine z_tabIn hx hb c_1 (by decide) (by decide) dX7_countOf_1 (by decide) (by decide) (off := 92) (by decide) (tgt := 93) (by decide) ?_
    refine lv_aload_n hx hb dX7_countOf_93 rfl (lv_at hl 0 rfl) ?_
    refine g_callVi (As := []) (rest := []) ⟨hx, hb, hml, hown, hts⟩ (k_X7_movesNow l D cI ad hinj S hR n hn hn7 (hp)) (cwV 0 hts (gV hsub q_1055 q_1057 q_sX7_movesNow q_8 q_1058) rfl rfl rfl hdX7_movesNow ⟨Nat.le_of_ble_eq_true rfl, Nat.le_of_ble_eq_true rfl⟩) (mEb D cI) (mEk D cI (mA ad)) hE (va_recv (ci := 7) (q0 := 0) hK hP rfl rfl) hP hS rfl hl.1 rfl (Nat.le_of_ble_eq_true rfl) dX7_countOf_94 ⟨Nat.le_of_ble_eq_true rfl, Nat.le_of_ble_eq_true rfl⟩ (fun r_17 S_18 H locs hq_19 hP hR hS _ => ?_)
    obtain ⟨e_20, e_21, rfl, rfl⟩ := hq_19
    refine z_top (b := mvsF n (S 6)) rfl ?_
    exact g_iret (S1 := sA (sA S 9 e_20) 11 e_21) (v := zI (mvsF n (S 6))) hx hb hr hlocks hP hR hS (⟨_, _, rfl, by unfold ctF; rw [if_neg (by omega), if_neg (by omega), if_neg (by omega), if_neg (by omega), if_neg (by omega), if_pos (by omega)]⟩) dX7_countOf_97
  · refine z_tabIn hx hb c_1 (by decide) (by decide) dX7_countOf_1 (by decide) (by decide) (off := 97) (by decide) (tgt := 98) (by decide) ?_
    refine lv_aload_n hx hb dX7_countOf_98 rfl (lv_at hl 0 rfl) ?_
    have g_22 : -2147483648 ≤ S 3 0 ∧ S 3 0 < 2147483648 := hR 3 0 (by decide)
    refine va_get (D := D) (ci := 7) (v := .int (zI (S 3 0))) (C := RX7) (T := TX7) (N := 26) hx hb hT inX7 hown hK hP 0 rfl rfl 3 (by decide) (hT _ q_675) (fun _ h9 => h9) rfl dX7_countOf_99 ?_
    exact g_iret (S1 := S) (v := zI (S 3 0)) hx hb hr hlocks hP hR hS (⟨S 9, S 11, by rw [sA_self, sA_self], by unfold ctF; rw [if_neg (by omega), if_neg (by omega), if_neg (by omega), if_neg (by omega), if_neg (by omega), if_neg (by omega), if_pos (by omega)]⟩) dX7_countOf_102
  · refine z_tabIn hx hb c_1 (by decide) (by decide) dX7_countOf_1 (by decide) (by decide) (off := 102) (by decide) (tgt := 103) (by decide) ?_
    refine lv_aload_n hx hb dX7_countOf_103 rfl (lv_at hl 0 rfl) ?_
    have g_23 : -2147483648 ≤ S 15 0 ∧ S 15 0 < 2147483648 := hR 15 0 (by decide)
    refine va_get (D := D) (ci := 7) (v := .int (zI (S 15 0))) (C := RX7) (T := TX7) (N := 26) hx hb hT inX7 hown hK hP 0 rfl rfl 15 (by decide) (hT _ q_687) (fun _ h9 => h9) rfl dX7_countOf_104 ?_
    exact g_iret (S1 := S) (v := zI (S 15 0)) hx hb hr hlocks hP hR hS (⟨S 9, S 11, by rw [sA_self, sA_self], by unfold ctF; rw [if_neg (by omega), if_neg (by omega), if_neg (by omega), if_neg (by omega), if_neg (by omega), if_neg (by omega), if_neg (by omega), if_pos (by omega)]⟩) dX7_countOf_107
  · refine z_tabIn hx hb c_1 (by decide) (by decide) dX7_countOf_1 (by decide) (by decide) (off := 107) (by decide) (tgt := 108) (by decide) ?_
    refine lv_aload_n hx hb dX7_countOf_108 rfl (lv_at hl 0 rfl) ?_
    have g_24 : -2147483648 ≤ S 1 0 ∧ S 1 0 < 2147483648 := hR 1 0 (by decide)
    refine va_get (D := D) (ci := 7) (v := .int (zI (S 1 0))) (C := RX7) (T := TX7) (N := 26) hx hb hT inX7 hown hK hP 0 rfl rfl 1 (by decide) (hT _ q_673) (fun _ h9 => h9) rfl dX7_countOf_109 ?_
    exact g_iret (S1 := S) (v := zI (S 1 0)) hx hb hr hlocks hP hR hS (⟨S 9, S 11, by rw [sA_self, sA_self], by unfold ctF; rw [if_neg (by omega), if_neg (by omega), if_neg (by omega), if_neg (by omega), if_neg (by omega), if_neg (by omega), if_neg (by omega), if_neg (by omega), if_pos (by omega)]⟩) dX7_countOf_112
  · refine z_tabIn hx hb c_1 (by decide) (by decide) dX7_countOf_1 (by decide) (by decide) (off := 112) (by decide) (tgt := 113) (by decide) ?_
    refine lv_aload_n hx hb dX7_countOf_113 rfl (lv_at hl 0 rfl) ?_
    have g_25 : -2147483648 ≤ S 4 0 ∧ S 4 0 < 2147483648 := hR 4 0 (by decide)
    refine va_get (D := D) (ci := 7) (v := .int (zI (S 4 0))) (C := RX7) (T := TX7) (N := 26) hx hb hT inX7 hown hK hP 0 rfl rfl 4 (by decide) (hT _ q_676) (fun _ h9 => h9) rfl dX7_countOf_114 ?_
    exact g_iret (S1 := S) (v := zI (S 4 0)) hx hb hr hlocks hP hR hS (⟨S 9, S 11, by rw [sA_self, sA_self], by unfold ctF; rw [if_neg (by omega), if_neg (by omega), if_neg (by omega), if_neg (by omega), if_neg (by omega), if_neg (by omega), if_neg (by omega), if_neg (by omega), if_neg (by omega), if_pos (by omega)]⟩) dX7_countOf_117
