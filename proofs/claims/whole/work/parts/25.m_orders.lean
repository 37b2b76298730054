set_option maxHeartbeats 4000000 in
set_option maxRecDepth 100000 in
theorem k_X7_fitMany (l : Launch) (D : va_G) (cI : ClassId) (ad : Nat → Nat) (hinj : mInj ad) (S : St) (hR : RS S) (n : Nat) (hn : S 2 0 = ↑n) (hn7 : n ≤ 7) (N : Nat) (hN : S 8 0 = ↑N) (hO : OT n N (S 7)) : Met l yX7_fitMany (Cond.code yX7_fitMany cX7_fitMany 3 (some .int) :: lwT) ({ frames := 5, cells := 0, slots := 0, locals := 110 }) (gPc D (mW cI ad) (mE D cI) S [.ref (ad 26)]) (va_Qi (fun (r : Int32) (S' : St) => ∃ e10, S' = sA S 10 e10 ∧ r = zI (cnt (fun k => pB (ftP n (S 5) (S 7) k)) N)) (gB D (mW cI ad)) (mA ad)) 0 0 (mA ad) := by
  refine Met.ofW (cc := cX7_fitMany) (maxL := 3) (ret := (some .int)) (by decide) rfl ?_
  intro p e s m args below meth c s₁ B hml hv
  obtain ⟨rfl, hP, hE⟩ := hv
  have hx := B.exec
  have hb := B.bytes
  have hr := B.returns
  have hts := atoms_spec (ws := Cond.code yX7_fitMany cX7_fitMany 3 (some .int) :: lwT) B.pre
  have hT := fun w (h : w ∈ lwT) => hts w (List.mem_cons_of_mem _ h)
  have hsub : ∀ w ∈ lwT, w ∈ (Cond.code yX7_fitMany cX7_fitMany 3 (some .int) :: lwT) := fun w h => List.mem_cons_of_mem _ h
  have hown : s.vm.findClass RX7 = some m.cls := findClass_of_methodNamed B.named
  have hlocks := B.notSynchronized
  have hK : va_K D vwCl [(cI, .int)] s := hE
  have hS : va_S (mA ad) s.heap s.heap [] := va_S.rf
  have hO1 := hO.1
  have hO2 := hO.2.1
  have hl := lv_entry ([.ref (ad 26)]) (n := 3) (Nat.le_of_ble_eq_true rfl)
  rw [lg_entry_eq]
  generalize (lg_sl ([.ref (ad 26)]) ++ List.replicate (3 - (lg_sl ([.ref (ad 26)])).length) Slot.unset).toArray = ls at hl ⊢
  have hl : lv_has ls 3 [(0, .ref (ad 26))] := hl
  refine z_iconst hx hb dX7_fitMany_0 ?_
  refine lv_istore_n (lv' := [(1, .int (zI (0))), (0, .ref (ad 26))]) hx hb dX7_fitMany_1 rfl hl (by decide) rfl (fun ls hl => ?_)
  refine z_iconst hx hb dX7_fitMany_2 ?_
  refine lv_istore_n (lv' := [(2, .int (zI (0))), (1, .int (zI (0))), (0, .ref (ad 26))]) hx hb dX7_fitMany_3 rfl hl (by decide) rfl (fun ls hl => ?_)
  have cut_4 : ∀ (k9 : Nat) (i : Nat) (y : Int) (f : Nat → Int) (H : Heap) (locs : List Loc) (ls : Array Slot), (i ≤ N) → (y = cnt (fun k => pB (ftP n (S 5) (S 7) k)) i) → (N - i) < k9 → va_P D vwCl (mW cI ad (sA S 10 f)) H → RS (sA S 10 f) → va_S (mA ad) s.heap H locs → lv_has ls 3 [(0, .ref (ad 26)), (1, .int (zI (y))), (2, .int (zI (↑i)))] → W p l e (headSpec (Cond.code yX7_fitMany cX7_fitMany 3 (some .int) :: lwT) ({ frames := 5, cells := 0, slots := 0, locals := 110 })).room s m ([.ref (ad 26)] : List Value).toArray below meth c H locs 0 0 (MQ below (va_Qi (fun (r : Int32) (S' : St) => ∃ e10, S' = sA S 10 e10 ∧ r = zI (cnt (fun k => pB (ftP n (S 5) (S 7) k)) N)) (gB D (mW cI ad)) (mA ad)) ([.ref (ad 26)] : List Value).toArray s 0 0 (mA ad)) (F0 m 4 ls []) := by
    intro k9
    induction k9 with
    | zero =>
      intro i y f H locs ls hi hy hk9 hP hR hS hl
      exact absurd hk9 (Nat.not_lt_zero _)
    | succ k9 ih_4 =>
      intro i y f H locs ls hi hy hk9 hP hR hS hl
      refine lv_iload_n hx hb dX7_fitMany_4 rfl (lv_at hl 2 rfl) ?_
      refine lv_aload_n hx hb dX7_fitMany_5 rfl (lv_at hl 0 rfl) ?_
      have g_1 : -2147483648 ≤ S 8 0 ∧ S 8 0 < 2147483648 := hR 8 0 (by decide)
      refine va_get (D := D) (ci := 7) (v := .int (zI (S 8 0))) (C := RX7) (T := TX7) (N := 26) hx hb hT inX7 hown hK hP 0 rfl rfl 8 (by decide) (hT _ q_680) (fun _ h9 => h9) rfl dX7_fitMany_6 ?_
      refine z_icmp_ge (tgt := 34) hx hb (by omega) (by omega) (by omega) (by omega) dX7_fitMany_9 (by decide) (fun c_2 => ?_) (fun c_2 => ?_)
      · have h9 : True := trivial
        refine lv_iload_n hx hb dX7_fitMany_34 rfl (lv_at hl 1 rfl) ?_
        exact g_iret (S1 := sA S 10 f) (v := zI (y)) hx hb hr hlocks hP hR hS (⟨_, rfl, by rw [hy, show i = N by omega]⟩) dX7_fitMany_35
      · have h9 : True := trivial
        refine lv_iload_n hx hb dX7_fitMany_12 rfl (lv_at hl 1 rfl) ?_
        refine lv_aload_n hx hb dX7_fitMany_13 rfl (lv_at hl 0 rfl) ?_
        refine lv_iload_n hx hb dX7_fitMany_14 rfl (lv_at hl 2 rfl) ?_
        refine g_callVi (As := [.int (zI (↑i))]) (rest := [.int (zI (y))]) ⟨hx, hb, hml, hown, hts⟩ (k_X7_isFitOrder l D cI ad hinj (sA S 10 f) hR n hn hn7 (i) ↑i (by omega) (by omega) ((hO2 i (by omega)).1) ((hO2 i (by omega)).2.1)) (cwV 1 hts (gV hsub q_862 q_864 q_sX7_isFitOrder q_8 q_865) rfl rfl rfl hdX7_isFitOrder ⟨Nat.le_of_ble_eq_true rfl, Nat.le_of_ble_eq_true rfl⟩) (mEb D cI) (mEk D cI (mA ad)) hE (va_recv (ci := 7) (q0 := 0) hK hP rfl rfl) hP hS rfl hl.1 rfl (Nat.le_of_ble_eq_true rfl) dX7_fitMany_15 ⟨Nat.le_of_ble_eq_true rfl, Nat.le_of_ble_eq_true rfl⟩ (fun r_3 S_4 H locs hq_5 hP hR hS _ => ?_)
        obtain ⟨f_6, rfl, hro_7, rfl⟩ := hq_5
        rw [sA_sA] at hP hR
        refine z_top (b := b2 (pB (fitP n (S 5) (dgF n (S 7 i))))) rfl ?_
        refine z_ifeqB (tgt := 25) hx hb dX7_fitMany_18 (by decide) (fun c_8 => ?_) (fun c_8 => ?_)
        · have h9 : True := trivial
          refine z_iconst hx hb dX7_fitMany_25 ?_
          refine z_iadd hx hb dX7_fitMany_26 ?_
          refine lv_istore_n (lv' := [(1, .int (zI (y + 0))), (0, .ref (ad 26)), (2, .int (zI (↑i)))]) hx hb dX7_fitMany_27 rfl hl (by decide) rfl (fun ls hl => ?_)
          refine z_iinc (lv' := [(2, .int (zI (↑i + 1))), (1, .int (zI (y + 0))), (0, .ref (ad 26))]) hx hb dX7_fitMany_28 hl (k := 2) rfl (by decide) rfl (fun ls hl => ?_)
          refine lv_goto (tgt := 4) hx hb dX7_fitMany_31 (by decide) ?_
          exact ih_4 (i + 1) (y + 0) f_6 _ _ _ (by omega) (cnt_f (P := (fun k => pB (ftP n (S 5) (S 7) k))) c_8 hy) (by omega) hP hR hS (lv_sub hl [2, 1, 0] rfl)
        · have h9 : True := trivial
          refine z_iconst hx hb dX7_fitMany_21 ?_
          refine lv_goto (tgt := 26) hx hb dX7_fitMany_22 (by decide) ?_
          refine z_iadd hx hb dX7_fitMany_26 ?_
          refine lv_istore_n (lv' := [(1, .int (zI (y + 1))), (0, .ref (ad 26)), (2, .int (zI (↑i)))]) hx hb dX7_fitMany_27 rfl hl (by decide) rfl (fun ls hl => ?_)
          refine z_iinc (lv' := [(2, .int (zI (↑i + 1))), (1, .int (zI (y + 1))), (0, .ref (ad 26))]) hx hb dX7_fitMany_28 hl (k := 2) rfl (by decide) rfl (fun ls hl => ?_)
          refine lv_goto (tgt := 4) hx hb dX7_fitMany_31 (by decide) ?_
          exact ih_4 (i + 1) (y + 1) f_6 _ _ _ (by omega) (cnt_t (P := (fun k => pB (ftP n (S 5) (S 7) k))) c_8 hy) (by omega) hP hR hS (lv_sub hl [2, 1, 0] rfl)
  have hSe_9 : S = sA S 10 (S 10) := by
    funext k8
    by_cases e80 : k8 = 10
    · subst e80; first | rfl | (funext j8; rfl)
    simp [sA, e80]
  rw [hSe_9] at hP hR
  exact cut_4 _ 0 0 (S 10) _ _ _ (by omega) (rfl) (Nat.lt_succ_self _) hP hR hS (lv_sub hl [2, 1, 0] rfl)
set_option maxHeartbeats 4000000 in
set_option maxRecDepth 100000 in
theorem k_X7_topsOf (l : Launch) (D : va_G) (cI : ClassId) (ad : Nat → Nat) (hinj : mInj ad) (S : St) (hR : RS S) (n : Nat) (hn : S 2 0 = ↑n) (hn7 : n ≤ 7) (N : Nat) (hN : S 8 0 = ↑N) (hO : OT n N (S 7)) (hn1 : 1 ≤ n) (xl xw : Int) (hxl1 : -2147483648 ≤ xl) (hxl2 : xl < 2147483648) (hxw1 : -2147483648 ≤ xw) (hxw2 : xw < 2147483648) : Met l yX7_topsOf (Cond.code yX7_topsOf cX7_topsOf 6 (some .int) :: lwT) ({ frames := 5, cells := 0, slots := 0, locals := 110 }) (gPc D (mW cI ad) (mE D cI) S [.ref (ad 26), .int (zI (xl)), .int (zI (xw))]) (va_Qi (fun (r : Int32) (S' : St) => ∃ e10, S' = sA S 10 e10 ∧ r = zI (cnt (fun k => pB ((xw = 0 ∨ ftP n (S 5) (S 7) k) ∧ dgF n (S 7 k) 0 = xl)) N)) (gB D (mW cI ad)) (mA ad)) 0 0 (mA ad) := by
  refine Met.ofW (cc := cX7_topsOf) (maxL := 6) (ret := (some .int)) (by decide) rfl ?_
  intro p e s m args below meth c s₁ B hml hv
  obtain ⟨rfl, hP, hE⟩ := hv
  have hx := B.exec
  have hb := B.bytes
  have hr := B.returns
  have hts := atoms_spec (ws := Cond.code yX7_topsOf cX7_topsOf 6 (some .int) :: lwT) B.pre
  have hT := fun w (h : w ∈ lwT) => hts w (List.mem_cons_of_mem _ h)
  have hsub : ∀ w ∈ lwT, w ∈ (Cond.code yX7_topsOf cX7_topsOf 6 (some .int) :: lwT) := fun w h => List.mem_cons_of_mem _ h
  have hown : s.vm.findClass RX7 = some m.cls := findClass_of_methodNamed B.named
  have hlocks := B.notSynchronized
  have hK : va_K D vwCl [(cI, .int)] s := hE
  have hS : va_S (mA ad) s.heap s.heap [] := va_S.rf
  have hO1 := hO.1
  have hO2 := hO.2.1
  have hl := lv_entry ([.ref (ad 26), .int (zI (xl)), .int (zI (xw))]) (n := 6) (Nat.le_of_ble_eq_true rfl)
  rw [lg_entry_eq]
  generalize (lg_sl ([.ref (ad 26), .int (zI (xl)), .int (zI (xw))]) ++ List.replicate (6 - (lg_sl ([.ref (ad 26), .int (zI (xl)), .int (zI (xw))])).length) Slot.unset).toArray = ls at hl ⊢
  have hl : lv_has ls 6 [(0, .ref (ad 26)), (1, .int (zI (xl))), (2, .int (zI (xw)))] := hl
  refine z_iconst hx hb dX7_topsOf_0 ?_
  refine lv_istore_n (lv' := [(3, .int (zI (0))), (0, .ref (ad 26)), (1, .int (zI (xl))), (2, .int (zI (xw)))]) hx hb dX7_topsOf_1 rfl hl (by decide) rfl (fun ls hl => ?_)
  refine z_iconst hx hb dX7_topsOf_2 ?_
  refine lv_istore (lv' := [(4, .int (zI (0))), (3, .int (zI (0))), (0, .ref (ad 26)), (1, .int (zI (xl))), (2, .int (zI (xw)))]) hx hb dX7_topsOf_3 hl (by decide) rfl (fun ls hl => ?_)
  have cut_5 : ∀ (k9 : Nat) (i : Nat) (y : Int) (f : Nat → Int) (H : Heap) (locs : List Loc) (ls : Array Slot), (i ≤ N) → (y = cnt (fun k => pB ((xw = 0 ∨ ftP n (S 5) (S 7) k) ∧ dgF n (S 7 k) 0 = xl)) i) → (N - i) < k9 → va_P D vwCl (mW cI ad (sA S 10 f)) H → RS (sA S 10 f) → va_S (mA ad) s.heap H locs → lv_has ls 6 [(0, .ref (ad 26)), (1, .int (zI (xl))), (2, .int (zI (xw))), (3, .int (zI (y))), (4, .int (zI (↑i)))] → W p l e (headSpec (Cond.code yX7_topsOf cX7_topsOf 6 (some .int) :: lwT) ({ frames := 5, cells := 0, slots := 0, locals := 110 })).room s m ([.ref (ad 26), .int (zI (xl)), .int (zI (xw))] : List Value).toArray below meth c H locs 0 0 (MQ below (va_Qi (fun (r : Int32) (S' : St) => ∃ e10, S' = sA S 10 e10 ∧ r = zI (cnt (fun k => pB ((xw = 0 ∨ ftP n (S 5) (S 7) k) ∧ dgF n (S 7 k) 0 = xl)) N)) (gB D (mW cI ad)) (mA ad)) ([.ref (ad 26), .int (zI (xl)), .int (zI (xw))] : List Value).toArray s 0 0 (mA ad)) (F0 m 5 ls []) := by
    intro k9
    induction k9 with
    | zero =>
      intro i y f H locs ls hi hy hk9 hP hR hS hl
      exact absurd hk9 (Nat.not_lt_zero _)
    | succ k9 ih_5 =>
      intro i y f H locs ls hi hy hk9 hP hR hS hl
      refine lv_iload hx hb dX7_topsOf_5 (lv_at hl 4 rfl) ?_
      refine lv_aload_n hx hb dX7_topsOf_7 rfl (lv_at hl 0 rfl) ?_
      have g_1 : -2147483648 ≤ S 8 0 ∧ S 8 0 < 2147483648 := hR 8 0 (by decide)
      refine va_get (D := D) (ci := 7) (v := .int (zI (S 8 0))) (C := RX7) (T := TX7) (N := 26) hx hb hT inX7 hown hK hP 0 rfl rfl 8 (by decide) (hT _ q_680) (fun _ h9 => h9) rfl dX7_topsOf_8 ?_
      refine z_icmp_ge (tgt := 78) hx hb (by omega) (by omega) (by omega) (by omega) dX7_topsOf_11 (by decide) (fun c_2 => ?_) (fun c_2 => ?_)
      · have h9 : True := trivial
        refine lv_iload_n hx hb dX7_topsOf_78 rfl (lv_at hl 3 rfl) ?_
        exact g_iret (S1 := sA S 10 f) (v := zI (y)) hx hb hr hlocks hP hR hS (⟨_, rfl, by rw [hy, show i = N by omega]⟩) dX7_topsOf_79
      · have h9 : True := trivial
        have cut_32 : ∀ (o : Bool) (g : Nat → Int) (H : Heap) (locs : List Loc) (ls : Array Slot), (o = pB (xw = 0 ∨ ftP n (S 5) (S 7) i)) → va_P D vwCl (mW cI ad (sA S 10 g)) H → RS (sA S 10 g) → va_S (mA ad) s.heap H locs → lv_has ls 6 [(0, .ref (ad 26)), (1, .int (zI (xl))), (2, .int (zI (xw))), (3, .int (zI (y))), (4, .int (zI (↑i)))] → W p l e (headSpec (Cond.code yX7_topsOf cX7_topsOf 6 (some .int) :: lwT) ({ frames := 5, cells := 0, slots := 0, locals := 110 })).room s m ([.ref (ad 26), .int (zI (xl)), .int (zI (xw))] : List Value).toArray below meth c H locs 0 0 (MQ below (va_Qi (fun (r : Int32) (S' : St) => ∃ e10, S' = sA S 10 e10 ∧ r = zI (cnt (fun k => pB ((xw = 0 ∨ ftP n (S 5) (S 7) k) ∧ dgF n (S 7 k) 0 = xl)) N)) (gB D (mW cI ad)) (mA ad)) ([.ref (ad 26), .int (zI (xl)), .int (zI (xw))] : List Value).toArray s 0 0 (mA ad)) (F0 m 32 ls [.int (zI (b2 (o)))]) := by
          intro o g H locs ls ho hP hR hS hl
          refine lv_istore (lv' := [(5, .int (zI (b2 (o)))), (0, .ref (ad 26)), (1, .int (zI (xl))), (2, .int (zI (xw))), (3, .int (zI (y))), (4, .int (zI (↑i)))]) hx hb dX7_topsOf_32 hl (by decide) rfl (fun ls hl => ?_)
          refine lv_aload_n hx hb dX7_topsOf_34 rfl (lv_at hl 1 rfl) ?_
          refine lv_aload_n hx hb dX7_topsOf_35 rfl (lv_at hl 1 rfl) ?_
          refine va_get (D := D) (ci := 7) (v := .ref (ad 7)) (C := RX7) (T := TX7) (N := 26) hx hb hT inX7 hown hK hP 0 rfl rfl 7 (by decide) (hT _ q_679) (fun _ h9 => h9) rfl dX7_topsOf_36 ?_
          refine lv_iload hx hb dX7_topsOf_39 (lv_at hl 5 rfl) ?_
          have g_3 : -2147483648 ≤ S 7 i ∧ S 7 i < 2147483648 := hR 7 i (by decide)
          refine z_ald (f := S 7) hx hb hK hP 4 0 rfl rfl (by omega) (by omega) (by decide) (j := i) rfl dX7_topsOf_41 ?_
          refine lv_aload_n hx hb dX7_topsOf_42 rfl (lv_at hl 1 rfl) ?_
          refine va_get (D := D) (ci := 7) (v := .ref (ad 10)) (C := RX7) (T := TX7) (N := 26) hx hb hT inX7 hown hK hP 0 rfl rfl 10 (by decide) (hT _ q_682) (fun _ h9 => h9) rfl dX7_topsOf_43 ?_
          refine g_callVv (As := [.int (zI (S 7 i)), .ref (ad 10)]) (rest := []) ⟨hx, hb, hml, hown, hts⟩ (k_X7_layRow_10 l D cI ad hinj (sA S 10 g) hR n hn hn7 (S 7 i) ((hO2 i (by omega)).1) (by omega)) (cwV 2 hts (gV hsub q_832 q_834 q_sX7_layRow q_8 q_835) rfl rfl rfl hdX7_layRow ⟨Nat.le_of_ble_eq_true rfl, Nat.le_of_ble_eq_true rfl⟩) (mEb D cI) (mEk D cI (mA ad)) hE (va_recv (ci := 7) (q0 := 0) hK hP rfl rfl) hP hS rfl hl.1 rfl (Nat.le_of_ble_eq_true rfl) dX7_topsOf_46 ⟨Nat.le_of_ble_eq_true rfl, Nat.le_of_ble_eq_true rfl⟩ (fun S_5 H locs hq_6 hP hR hS _ => ?_)
          obtain ⟨f_7, rfl, hlr_8⟩ := hq_6
          rw [sA_sA] at hP hR
          refine lv_iload_n hx hb dX7_topsOf_49 rfl (lv_at hl 4 rfl) ?_
          refine lv_iload hx hb dX7_topsOf_50 (lv_at hl 0 rfl) ?_
          refine z_ifeqB (tgt := 69) hx hb dX7_topsOf_52 (by decide) (fun c_9 => ?_) (fun c_9 => ?_)
          · have h9 : True := trivial
            refine z_iconst hx hb dX7_topsOf_69 ?_
            refine z_iadd hx hb dX7_topsOf_70 ?_
            refine lv_istore_n (lv' := [(3, .int (zI (y + 0))), (5, .int (zI (b2 (o)))), (0, .ref (ad 26)), (1, .int (zI (xl))), (2, .int (zI (xw))), (4, .int (zI (↑i)))]) hx hb dX7_topsOf_71 rfl hl (by decide) rfl (fun ls hl => ?_)
            refine z_iinc (lv' := [(4, .int (zI (↑i + 1))), (3, .int (zI (y + 0))), (5, .int (zI (b2 (o)))), (0, .ref (ad 26)), (1, .int (zI (xl))), (2, .int (zI (xw)))]) hx hb dX7_topsOf_72 hl (k := 5) rfl (by decide) rfl (fun ls hl => ?_)
            refine lv_goto (tgt := 5) hx hb dX7_topsOf_75 (by decide) ?_
            exact ih_5 (i + 1) (y + 0) f_7 _ _ _ (by omega) (cnt_f (P := (fun k => pB ((xw = 0 ∨ ftP n (S 5) (S 7) k) ∧ dgF n (S 7 k) 0 = xl))) (pB_f.mpr (fun h => pB_f.mp (by rw [← ho]; exact c_9) h.1)) hy) (by omega) hP hR hS (lv_sub hl [3, 4, 5, 1, 0] rfl)
          · have h9 : True := trivial
            refine lv_aload_n hx hb dX7_topsOf_55 rfl (lv_at hl 1 rfl) ?_
            refine va_get (D := D) (ci := 7) (v := .ref (ad 10)) (C := RX7) (T := TX7) (N := 26) hx hb hT inX7 hown hK hP 0 rfl rfl 10 (by decide) (hT _ q_682) (fun _ h9 => h9) rfl dX7_topsOf_56 ?_
            refine z_iconst hx hb dX7_topsOf_59 ?_
            have g_10 : -2147483648 ≤ f_7 0 ∧ f_7 0 < 2147483648 := hR 10 0 (by decide)
            refine z_ald (f := f_7) hx hb hK hP 6 0 rfl rfl (by omega) (by omega) (by decide) (j := 0) rfl dX7_topsOf_60 ?_
            refine z_top (b := dgF n (S 7 i) 0) (hlr_8 0 (by omega)) ?_
            refine lv_iload_n hx hb dX7_topsOf_61 rfl (lv_at hl 2 rfl) ?_
            have h0g := (hO2 i (by omega)).2.1.1 0 (by omega)
            refine z_icmp_ne (tgt := 69) hx hb (by omega) (by omega) (by omega) (by omega) dX7_topsOf_62 (by decide) (fun c_11 => ?_) (fun c_11 => ?_)
            · have h9 : True := trivial
              refine z_iconst hx hb dX7_topsOf_69 ?_
              refine z_iadd hx hb dX7_topsOf_70 ?_
              refine lv_istore_n (lv' := [(3, .int (zI (y + 0))), (5, .int (zI (b2 (o)))), (0, .ref (ad 26)), (1, .int (zI (xl))), (2, .int (zI (xw))), (4, .int (zI (↑i)))]) hx hb dX7_topsOf_71 rfl hl (by decide) rfl (fun ls hl => ?_)
              refine z_iinc (lv' := [(4, .int (zI (↑i + 1))), (3, .int (zI (y + 0))), (5, .int (zI (b2 (o)))), (0, .ref (ad 26)), (1, .int (zI (xl))), (2, .int (zI (xw)))]) hx hb dX7_topsOf_72 hl (k := 5) rfl (by decide) rfl (fun ls hl => ?_)
              refine lv_goto (tgt := 5) hx hb dX7_topsOf_75 (by decide) ?_
              exact ih_5 (i + 1) (y + 0) f_7 _ _ _ (by omega) (cnt_f (P := (fun k => pB ((xw = 0 ∨ ftP n (S 5) (S 7) k) ∧ dgF n (S 7 k) 0 = xl))) (pB_f.mpr (fun h => c_11 h.2)) hy) (by omega) hP hR hS (lv_sub hl [3, 4, 5, 1, 0] rfl)
            · have h9 : True := trivial
              refine z_iconst hx hb dX7_topsOf_65 ?_
              refine lv_goto (tgt := 70) hx hb dX7_topsOf_66 (by decide) ?_
              refine z_iadd hx hb dX7_topsOf_70 ?_
              refine lv_istore_n (lv' := [(3, .int (zI (y + 1))), (5, .int (zI (b2 (o)))), (0, .ref (ad 26)), (1, .int (zI (xl))), (2, .int (zI (xw))), (4, .int (zI (↑i)))]) hx hb dX7_topsOf_71 rfl hl (by decide) rfl (fun ls hl => ?_)
              refine z_iinc (lv' := [(4, .int (zI (↑i + 1))), (3, .int (zI (y + 1))), (5, .int (zI (b2 (o)))), (0, .ref (ad 26)), (1, .int (zI (xl))), (2, .int (zI (xw)))]) hx hb dX7_topsOf_72 hl (k := 5) rfl (by decide) rfl (fun ls hl => ?_)
              refine lv_goto (tgt := 5) hx hb dX7_topsOf_75 (by decide) ?_
              exact ih_5 (i + 1) (y + 1) f_7 _ _ _ (by omega) (cnt_t (P := (fun k => pB ((xw = 0 ∨ ftP n (S 5) (S 7) k) ∧ dgF n (S 7 k) 0 = xl))) (pB_t.mpr ⟨pB_t.mp (by rw [← ho]; exact c_9), c_11⟩) hy) (by omega) hP hR hS (lv_sub hl [3, 4, 5, 1, 0] rfl)
        refine lv_iload_n hx hb dX7_topsOf_14 rfl (lv_at hl 2 rfl) ?_
        refine z_if_eq (tgt := 27) hx hb (by omega) (by omega) dX7_topsOf_15 (by decide) (fun c_12 => ?_) (fun c_12 => ?_)
        · have h9 : True := trivial
          refine z_iconst hx hb dX7_topsOf_27 ?_
          refine lv_goto (tgt := 32) hx hb dX7_topsOf_28 (by decide) ?_
          exact cut_32 true f _ _ _ (qT (Or.inl (by omega))) hP hR hS (lv_sub hl [0, 1, 2, 3, 4] rfl)
        · have h9 : True := trivial
          refine lv_aload_n hx hb dX7_topsOf_18 rfl (lv_at hl 0 rfl) ?_
          refine lv_iload hx hb dX7_topsOf_19 (lv_at hl 4 rfl) ?_
          refine g_callVi (As := [.int (zI (↑i))]) (rest := []) ⟨hx, hb, hml, hown, hts⟩ (k_X7_isFitOrder l D cI ad hinj (sA S 10 f) hR n hn hn7 (i) ↑i (by omega) (by omega) ((hO2 i (by omega)).1) ((hO2 i (by omega)).2.1)) (cwV 1 hts (gV hsub q_862 q_864 q_sX7_isFitOrder q_8 q_865) rfl rfl rfl hdX7_isFitOrder ⟨Nat.le_of_ble_eq_true rfl, Nat.le_of_ble_eq_true rfl⟩) (mEb D cI) (mEk D cI (mA ad)) hE (va_recv (ci := 7) (q0 := 0) hK hP rfl rfl) hP hS rfl hl.1 rfl (Nat.le_of_ble_eq_true rfl) dX7_topsOf_21 ⟨Nat.le_of_ble_eq_true rfl, Nat.le_of_ble_eq_true rfl⟩ (fun r_13 S_14 H locs hq_15 hP hR hS _ => ?_)
          obtain ⟨f_16, rfl, hro_17, rfl⟩ := hq_15
          rw [sA_sA] at hP hR
          refine z_top (b := b2 (pB (fitP n (S 5) (dgF n (S 7 i))))) rfl ?_
          refine z_ifeqB (tgt := 31) hx hb dX7_topsOf_24 (by decide) (fun c_18 => ?_) (fun c_18 => ?_)
          · have h9 : True := trivial
            refine z_iconst hx hb dX7_topsOf_31 ?_
            exact cut_32 false f_16 _ _ _ (qF (fun h => h.elim (fun g => by omega) (fun g => pB_f.mp c_18 g))) hP hR hS (lv_sub hl [0, 1, 2, 3, 4] rfl)
          · have h9 : True := trivial
            refine z_iconst hx hb dX7_topsOf_27 ?_
            refine lv_goto (tgt := 32) hx hb dX7_topsOf_28 (by decide) ?_
            exact cut_32 true f_16 _ _ _ (qT (Or.inr (pB_t.mp c_18))) hP hR hS (lv_sub hl [0, 1, 2, 3, 4] rfl)
  have hSe_19 : S = sA S 10 (S 10) := by
    funext k8
    by_cases e80 : k8 = 10
    · subst e80; first | rfl | (funext j8; rfl)
    simp [sA, e80]
  rw [hSe_19] at hP hR
  exact cut_5 _ 0 0 (S 10) _ _ _ (by omega) (rfl) (Nat.lt_succ_self _) hP hR hS (lv_sub hl [2, 3, 4, 1, 0] rfl)
set_option maxHeartbeats 4000000 in
set_option maxRecDepth 100000 in
theorem k_X7_trimOf (l : Launch) (D : va_G) (cI : ClassId) (ad : Nat → Nat) (hinj : mInj ad) (S : St) (hR : RS S) (n : Nat) (hn : S 2 0 = ↑n) (hn7 : n ≤ 7) (N : Nat) (hN : S 8 0 = ↑N) (hO : OT n N (S 7)) (xw : Int) (hxw1 : -2147483648 ≤ xw) (hxw2 : xw < 2147483648) : Met l yX7_trimOf (Cond.code yX7_trimOf cX7_trimOf 6 (some .int) :: lwT) ({ frames := 5, cells := 0, slots := 0, locals := 110 }) (gPc D (mW cI ad) (mE D cI) S [.ref (ad 26), .int (zI (xw))]) (va_Qi (fun (r : Int32) (S' : St) => ∃ e9 e10, S' = sA (sA S 9 e9) 10 e10 ∧ ∃ x : Int, argm (ftP n (S 5) (S 7)) (fun k => wmF n (S 5) (dgF n (S 7 k))) N x ∧ r = zI (if x = -1 ∨ xw = 0 then x else wmF n (S 5) (dgF n (S 7 x.toNat)))) (gB D (mW cI ad)) (mA ad)) 0 0 (mA ad) := by
  refine Met.ofW (cc := cX7_trimOf) (maxL := 6) (ret := (some .int)) (by decide) rfl ?_
  intro p e s m args below meth c s₁ B hml hv
  obtain ⟨rfl, hP, hE⟩ := hv
  have hx := B.exec
  have hb := B.bytes
  have hr := B.returns
  have hts := atoms_spec (ws := Cond.code yX7_trimOf cX7_trimOf 6 (some .int) :: lwT) B.pre
  have hT := fun w (h : w ∈ lwT) => hts w (List.mem_cons_of_mem _ h)
  have hsub : ∀ w ∈ lwT, w ∈ (Cond.code yX7_trimOf cX7_trimOf 6 (some .int) :: lwT) := fun w h => List.mem_cons_of_mem _ h
  have hown : s.vm.findClass RX7 = some m.cls := findClass_of_methodNamed B.named
  have hlocks := B.notSynchronized
  have hK : va_K D vwCl [(cI, .int)] s := hE
  have hS : va_S (mA ad) s.heap s.heap [] := va_S.rf
  have hO1 := hO.1
  have hO2 := hO.2.1
  have hl := lv_entry ([.ref (ad 26), .int (zI (xw))]) (n := 6) (Nat.le_of_ble_eq_true rfl)
  rw [lg_entry_eq]
  generalize (lg_sl ([.ref (ad 26), .int (zI (xw))]) ++ List.replicate (6 - (lg_sl ([.ref (ad 26), .int (zI (xw))])).length) Slot.unset).toArray = ls at hl ⊢
  have hl : lv_has ls 6 [(0, .ref (ad 26)), (1, .int (zI (xw)))] := hl
  refine z_iconst hx hb dX7_trimOf_0 ?_
  refine lv_istore_n (lv' := [(2, .int (zI (-1))), (0, .ref (ad 26)), (1, .int (zI (xw)))]) hx hb dX7_trimOf_1 rfl hl (by decide) rfl (fun ls hl => ?_)
  refine z_bipush hx hb dX7_trimOf_2 (by decide) ?_
  refine lv_istore_n (lv' := [(3, .int (zI (99))), (2, .int (zI (-1))), (0, .ref (ad 26)), (1, .int (zI (xw)))]) hx hb dX7_trimOf_4 rfl hl (by decide) rfl (fun ls hl => ?_)
  refine z_iconst hx hb dX7_trimOf_5 ?_
  refine lv_istore (lv' := [(4, .int (zI (0))), (3, .int (zI (99))), (2, .int (zI (-1))), (0, .ref (ad 26)), (1, .int (zI (xw)))]) hx hb dX7_trimOf_6 hl (by decide) rfl (fun ls hl => ?_)
  have cut_8 : ∀ (k9 : Nat) (i : Nat) (x : Int) (y : Int) (g : Nat → Int) (f : Nat → Int) (H : Heap) (locs : List Loc) (ls : Array Slot), (i ≤ N) → (argm (ftP n (S 5) (S 7)) (fun k => wmF n (S 5) (dgF n (S 7 k))) i x) → (x = -1 → y = 99) → (∀ b : Nat, x = ↑b → y = wmF n (S 5) (dgF n (S 7 b))) → (0 ≤ y ∧ y ≤ 99) → (N - i) < k9 → va_P D vwCl (mW cI ad (sA (sA S 9 g) 10 f)) H → RS (sA (sA S 9 g) 10 f) → va_S (mA ad) s.heap H locs → lv_has ls 6 [(0, .ref (ad 26)), (1, .int (zI (xw))), (2, .int (zI (x))), (3, .int (zI (y))), (4, .int (zI (↑i)))] → W p l e (headSpec (Cond.code yX7_trimOf cX7_trimOf 6 (some .int) :: lwT) ({ frames := 5, cells := 0, slots := 0, locals := 110 })).room s m ([.ref (ad 26), .int (zI (xw))] : List Value).toArray below meth c H locs 0 0 (MQ below (va_Qi (fun (r : Int32) (S' : St) => ∃ e9 e10, S' = sA (sA S 9 e9) 10 e10 ∧ ∃ x : Int, argm (ftP n (S 5) (S 7)) (fun k => wmF n (S 5) (dgF n (S 7 k))) N x ∧ r = zI (if x = -1 ∨ xw = 0 then x else wmF n (S 5) (dgF n (S 7 x.toNat)))) (gB D (mW cI ad)) (mA ad)) ([.ref (ad 26), .int (zI (xw))] : List Value).toArray s 0 0 (mA ad)) (F0 m 8 ls []) := by
    intro k9
    induction k9 with
    | zero =>
      intro i x y g f H locs ls hi hm hy1 hy2 hyr hk9 hP hR hS hl
      exact absurd hk9 (Nat.not_lt_zero _)
    | succ k9 ih_8 =>
      intro i x y g f H locs ls hi hm hy1 hy2 hyr hk9 hP hR hS hl
      have hxr := argm_r hm
      refine lv_iload hx hb dX7_trimOf_8 (lv_at hl 4 rfl) ?_
      refine lv_aload_n hx hb dX7_trimOf_10 rfl (lv_at hl 0 rfl) ?_
      have g_1 : -2147483648 ≤ S 8 0 ∧ S 8 0 < 2147483648 := hR 8 0 (by decide)
      refine va_get (D := D) (ci := 7) (v := .int (zI (S 8 0))) (C := RX7) (T := TX7) (N := 26) hx hb hT inX7 hown hK hP 0 rfl rfl 8 (by decide) (hT _ q_680) (fun _ h9 => h9) rfl dX7_trimOf_11 ?_
      refine z_icmp_ge (tgt := 68) hx hb (by omega) (by omega) (by omega) (by omega) dX7_trimOf_14 (by decide) (fun c_2 => ?_) (fun c_2 => ?_)
      · have h9 : True := trivial
        refine lv_iload_n hx hb dX7_trimOf_68 rfl (lv_at hl 2 rfl) ?_
        refine z_iconst hx hb dX7_trimOf_69 ?_
        refine z_icmp_eq (tgt := 77) hx hb (by omega) (by omega) (by omega) (by omega) dX7_trimOf_70 (by decide) (fun c_3 => ?_) (fun c_3 => ?_)
        · have h9 : True := trivial
          refine lv_iload_n hx hb dX7_trimOf_77 rfl (lv_at hl 2 rfl) ?_
          refine lv_goto (tgt := 82) hx hb dX7_trimOf_78 (by decide) ?_
          exact g_iret (S1 := sA (sA S 9 g) 10 f) (v := zI (x)) hx hb hr hlocks hP hR hS (⟨_, _, rfl, x, by rw [show N = i by omega]; exact hm, by rw [if_pos (by omega)]⟩) dX7_trimOf_82
        · have h9 : True := trivial
          refine lv_iload_n hx hb dX7_trimOf_73 rfl (lv_at hl 1 rfl) ?_
          refine z_if_ne (tgt := 81) hx hb (by omega) (by omega) dX7_trimOf_74 (by decide) (fun c_4 => ?_) (fun c_4 => ?_)
          · have h9 : True := trivial
            refine lv_iload_n hx hb dX7_trimOf_81 rfl (lv_at hl 3 rfl) ?_
            exact g_iret (S1 := sA (sA S 9 g) 10 f) (v := zI (y)) hx hb hr hlocks hP hR hS (⟨_, _, rfl, x, by rw [show N = i by omega]; exact hm, by rw [if_neg (by omega), ← hy2 x.toNat (by have := argm_r hm; omega)]⟩) dX7_trimOf_82
          · have h9 : True := trivial
            refine lv_iload_n hx hb dX7_trimOf_77 rfl (lv_at hl 2 rfl) ?_
            refine lv_goto (tgt := 82) hx hb dX7_trimOf_78 (by decide) ?_
            exact g_iret (S1 := sA (sA S 9 g) 10 f) (v := zI (x)) hx hb hr hlocks hP hR hS (⟨_, _, rfl, x, by rw [show N = i by omega]; exact hm, by rw [if_pos (by omega)]⟩) dX7_trimOf_82
      · have h9 : True := trivial
        refine lv_aload_n hx hb dX7_trimOf_17 rfl (lv_at hl 0 rfl) ?_
        refine lv_iload hx hb dX7_trimOf_18 (lv_at hl 4 rfl) ?_
        refine g_callVi (As := [.int (zI (↑i))]) (rest := []) ⟨hx, hb, hml, hown, hts⟩ (k_X7_isFitOrder l D cI ad hinj (sA (sA S 9 g) 10 f) hR n hn hn7 (i) ↑i (by omega) (by omega) ((hO2 i (by omega)).1) ((hO2 i (by omega)).2.1)) (cwV 1 hts (gV hsub q_862 q_864 q_sX7_isFitOrder q_8 q_865) rfl rfl rfl hdX7_isFitOrder ⟨Nat.le_of_ble_eq_true rfl, Nat.le_of_ble_eq_true rfl⟩) (mEb D cI) (mEk D cI (mA ad)) hE (va_recv (ci := 7) (q0 := 0) hK hP rfl rfl) hP hS rfl hl.1 rfl (Nat.le_of_ble_eq_true rfl) dX7_trimOf_20 ⟨Nat.le_of_ble_eq_true rfl, Nat.le_of_ble_eq_true rfl⟩ (fun r_5 S_6 H locs hq_7 hP hR hS _ => ?_)
        obtain ⟨f_8, rfl, hro_9, rfl⟩ := hq_7
        rw [sA_sA] at hP hR
        refine z_top (b := b2 (pB (fitP n (S 5) (dgF n (S 7 i))))) rfl ?_
        refine z_ifeqB (tgt := 62) hx hb dX7_trimOf_23 (by decide) (fun c_10 => ?_) (fun c_10 => ?_)
        · have h9 : True := trivial
          refine z_iinc (lv' := [(4, .int (zI (↑i + 1))), (0, .ref (ad 26)), (1, .int (zI (xw))), (2, .int (zI (x))), (3, .int (zI (y)))]) hx hb dX7_trimOf_62 hl (k := 4) rfl (by decide) rfl (fun ls hl => ?_)
          refine lv_goto (tgt := 8) hx hb dX7_trimOf_65 (by decide) ?_
          exact ih_8 (i + 1) x y g f_8 _ _ _ (by omega) (argm_s hm (pB_f.mp c_10)) (hy1) (hy2) (by omega) (by omega) hP hR hS (lv_sub hl [1, 2, 3, 4, 0] rfl)
        · have h9 : True := trivial
          refine lv_aload_n hx hb dX7_trimOf_26 rfl (lv_at hl 0 rfl) ?_
          refine lv_aload_n hx hb dX7_trimOf_27 rfl (lv_at hl 0 rfl) ?_
          refine va_get (D := D) (ci := 7) (v := .ref (ad 10)) (C := RX7) (T := TX7) (N := 26) hx hb hT inX7 hown hK hP 0 rfl rfl 10 (by decide) (hT _ q_682) (fun _ h9 => h9) rfl dX7_trimOf_28 ?_
          refine g_callVi (As := [.ref (ad 10)]) (rest := []) ⟨hx, hb, hml, hown, hts⟩ (k_X7_widest_10 l D cI ad hinj (sA (sA S 9 g) 10 f_8) hR n hn hn7 (prm_c hro_9 (hO2 i (by omega)).2.1)) (cwV 1 hts (gV hsub q_890 q_892 q_sX7_widest q_8 q_893) rfl rfl rfl hdX7_widest ⟨Nat.le_of_ble_eq_true rfl, Nat.le_of_ble_eq_true rfl⟩) (mEb D cI) (mEk D cI (mA ad)) hE (va_recv (ci := 7) (q0 := 0) hK hP rfl rfl) hP hS rfl hl.1 rfl (Nat.le_of_ble_eq_true rfl) dX7_trimOf_31 ⟨Nat.le_of_ble_eq_true rfl, Nat.le_of_ble_eq_true rfl⟩ (fun r_11 S_12 H locs hq_13 hP hR hS _ => ?_)
          obtain ⟨f_14, rfl, rfl⟩ := hq_13
          refine z_top (b := mxF (wdF n (S 5) f_8) (n - 1)) rfl ?_
          have hwe := wmF_c (kd := S 5) hro_9
          have hwr := wmF_r n (S 5) (dgF n (S 7 i))
          refine z_top (b := wmF n (S 5) (dgF n (S 7 i))) (hwe) ?_
          refine lv_istore (lv' := [(5, .int (zI (wmF n (S 5) (dgF n (S 7 i))))), (0, .ref (ad 26)), (1, .int (zI (xw))), (2, .int (zI (x))), (3, .int (zI (y))), (4, .int (zI (↑i)))]) hx hb dX7_trimOf_34 hl (by decide) rfl (fun ls hl => ?_)
          refine lv_iload hx hb dX7_trimOf_36 (lv_at hl 0 rfl) ?_
          refine lv_iload_n hx hb dX7_trimOf_38 rfl (lv_at hl 4 rfl) ?_
          refine z_icmp_ge (tgt := 47) hx hb (by omega) (by omega) (by omega) (by omega) dX7_trimOf_39 (by decide) (fun c_15 => ?_) (fun c_15 => ?_)
          · have h9 : True := trivial
            refine lv_iload_n hx hb dX7_trimOf_47 rfl (lv_at hl 3 rfl) ?_
            refine lv_istore_n (lv' := [(2, .int (zI (x))), (5, .int (zI (wmF n (S 5) (dgF n (S 7 i))))), (0, .ref (ad 26)), (1, .int (zI (xw))), (3, .int (zI (y))), (4, .int (zI (↑i)))]) hx hb dX7_trimOf_48 rfl hl (by decide) rfl (fun ls hl => ?_)
            refine lv_iload hx hb dX7_trimOf_49 (lv_at hl 1 rfl) ?_
            refine lv_iload_n hx hb dX7_trimOf_51 rfl (lv_at hl 4 rfl) ?_
            refine z_icmp_ge (tgt := 60) hx hb (by omega) (by omega) (by omega) (by omega) dX7_trimOf_52 (by decide) (fun c_16 => ?_) (fun c_16 => ?_)
            · have h9 : True := trivial
              refine lv_iload_n hx hb dX7_trimOf_60 rfl (lv_at hl 4 rfl) ?_
              refine lv_istore_n (lv' := [(3, .int (zI (y))), (2, .int (zI (x))), (5, .int (zI (wmF n (S 5) (dgF n (S 7 i))))), (0, .ref (ad 26)), (1, .int (zI (xw))), (4, .int (zI (↑i)))]) hx hb dX7_trimOf_61 rfl hl (by decide) rfl (fun ls hl => ?_)
              refine z_iinc (lv' := [(4, .int (zI (↑i + 1))), (3, .int (zI (y))), (2, .int (zI (x))), (5, .int (zI (wmF n (S 5) (dgF n (S 7 i))))), (0, .ref (ad 26)), (1, .int (zI (xw)))]) hx hb dX7_trimOf_62 hl (k := 5) rfl (by decide) rfl (fun ls hl => ?_)
              refine lv_goto (tgt := 8) hx hb dX7_trimOf_65 (by decide) ?_
              have hSe_17 : sA (sA (sA S 9 g) 10 f_8) 9 f_14 = sA (sA S 9 f_14) 10 f_8 := by
                funext k8
                by_cases e80 : k8 = 9
                · subst e80; first | rfl | (funext j8; rfl)
                by_cases e81 : k8 = 10
                · subst e81; first | rfl | (funext j8; rfl)
                simp [sA, e80, e81]
              rw [hSe_17] at hP hR
              exact ih_8 (i + 1) x y f_14 f_8 _ _ _ (by omega) (argm_k hm (fun e => by have := hy1 e; omega) (fun b e => by have := hy2 b e; omega)) (hy1) (hy2) (by omega) (by omega) hP hR hS (lv_sub hl [4, 5, 2, 1, 0] rfl)
            · exact False.elim (by omega)
          · have h9 : True := trivial
            refine lv_iload hx hb dX7_trimOf_42 (lv_at hl 5 rfl) ?_
            refine lv_goto (tgt := 48) hx hb dX7_trimOf_44 (by decide) ?_
            refine lv_istore_n (lv' := [(2, .int (zI (↑i))), (5, .int (zI (wmF n (S 5) (dgF n (S 7 i))))), (0, .ref (ad 26)), (1, .int (zI (xw))), (3, .int (zI (y))), (4, .int (zI (↑i)))]) hx hb dX7_trimOf_48 rfl hl (by decide) rfl (fun ls hl => ?_)
            refine lv_iload hx hb dX7_trimOf_49 (lv_at hl 1 rfl) ?_
            refine lv_iload_n hx hb dX7_trimOf_51 rfl (lv_at hl 4 rfl) ?_
            refine z_icmp_ge (tgt := 60) hx hb (by omega) (by omega) (by omega) (by omega) dX7_trimOf_52 (by decide) (fun c_18 => ?_) (fun c_18 => ?_)
            · exact False.elim (by omega)
            · have h9 : True := trivial
              refine lv_iload hx hb dX7_trimOf_55 (lv_at hl 1 rfl) ?_
              refine lv_goto (tgt := 61) hx hb dX7_trimOf_57 (by decide) ?_
              refine lv_istore_n (lv' := [(3, .int (zI (wmF n (S 5) (dgF n (S 7 i))))), (2, .int (zI (↑i))), (5, .int (zI (wmF n (S 5) (dgF n (S 7 i))))), (0, .ref (ad 26)), (1, .int (zI (xw))), (4, .int (zI (↑i)))]) hx hb dX7_trimOf_61 rfl hl (by decide) rfl (fun ls hl => ?_)
              refine z_iinc (lv' := [(4, .int (zI (↑i + 1))), (3, .int (zI (wmF n (S 5) (dgF n (S 7 i))))), (2, .int (zI (↑i))), (5, .int (zI (wmF n (S 5) (dgF n (S 7 i))))), (0, .ref (ad 26)), (1, .int (zI (xw)))]) hx hb dX7_trimOf_62 hl (k := 5) rfl (by decide) rfl (fun ls hl => ?_)
              refine lv_goto (tgt := 8) hx hb dX7_trimOf_65 (by decide) ?_
              have hSe_19 : sA (sA (sA S 9 g) 10 f_8) 9 f_14 = sA (sA S 9 f_14) 10 f_8 := by
                funext k8
                by_cases e80 : k8 = 9
                · subst e80; first | rfl | (funext j8; rfl)
                by_cases e81 : k8 = 10
                · subst e81; first | rfl | (funext j8; rfl)
                simp [sA, e80, e81]
              rw [hSe_19] at hP hR
              exact ih_8 (i + 1) ↑i (wmF n (S 5) (dgF n (S 7 i))) f_14 f_8 _ _ _ (by omega) (argm_n hm (pB_t.mp c_10) (fun b e => by have := hy2 b e; omega)) (fun e => by omega) (fun b e => by rw [show b = i by omega]) (by omega) (by omega) hP hR hS (lv_sub hl [4, 5, 2, 1, 0] rfl)
  have hSe_20 : S = sA (sA S 9 (S 9)) 10 (S 10) := by
    funext k8
    by_cases e80 : k8 = 9
    · subst e80; first | rfl | (funext j8; rfl)
    by_cases e81 : k8 = 10
    · subst e81; first | rfl | (funext j8; rfl)
    simp [sA, e80, e81]
  rw [hSe_20] at hP hR
  exact cut_8 _ 0 (-1) 99 (S 9) (S 10) _ _ _ (by omega) (argm_0) (fun _ => rfl) (fun b e => by omega) (by omega) (Nat.lt_succ_self _) hP hR hS (lv_sub hl [3, 4, 2, 1, 0] rfl)
set_option maxHeartbeats 4000000 in
set_option maxRecDepth 100000 in
theorem k_X7_isLikely (l : Launch) (D : va_G) (cI : ClassId) (ad : Nat → Nat) (hinj : mInj ad) (S : St) (hR : RS S) (n : Nat) (hn : S 2 0 = ↑n) (hn7 : n ≤ 7) (N : Nat) (hN : S 8 0 = ↑N) (hO : OT n N (S 7)) (m9 : Nat) (hm9 : S 15 0 = ↑m9) (hsg : sgOK n (S 16) m9) (k0 : Nat) (x : Int) (hxk : x = ↑k0) (hk0 : k0 < N) : Met l yX7_isLikely (Cond.code yX7_isLikely cX7_isLikely 5 (some .boolean) :: lwT) ({ frames := 1, cells := 0, slots := 0, locals := 24 }) (gPc D (mW cI ad) (mE D cI) S [.ref (ad 26), .int (zI (x))]) (va_Qi (fun (r : Int32) (S' : St) => ∃ e10, S' = sA S 10 e10 ∧ (∀ j, j < n → e10 j = dgF n (S 7 k0) j) ∧ r = zI (b2 (pB (lkP n (dgF n (S 7 k0)) (S 16) m9)))) (gB D (mW cI ad)) (mA ad)) 0 0 (mA ad) := by
  refine Met.ofW (cc := cX7_isLikely) (maxL := 5) (ret := (some .boolean)) (by decide) rfl ?_
  intro p e s m args below meth c s₁ B hml hv
  obtain ⟨rfl, hP, hE⟩ := hv
  have hx := B.exec
  have hb := B.bytes
  have hr := B.returns
  have hts := atoms_spec (ws := Cond.code yX7_isLikely cX7_isLikely 5 (some .boolean) :: lwT) B.pre
  have hT := fun w (h : w ∈ lwT) => hts w (List.mem_cons_of_mem _ h)
  have hsub : ∀ w ∈ lwT, w ∈ (Cond.code yX7_isLikely cX7_isLikely 5 (some .boolean) :: lwT) := fun w h => List.mem_cons_of_mem _ h
  have hown : s.vm.findClass RX7 = some m.cls := findClass_of_methodNamed B.named
  have hlocks := B.notSynchronized
  have hK : va_K D vwCl [(cI, .int)] s := hE
  have hS : va_S (mA ad) s.heap s.heap [] := va_S.rf
  have hO1 := hO.1
  have hO2 := hO.2.1
  have hs1 := hsg.1
  have hs2 := hsg.2
  have hl := lv_entry ([.ref (ad 26), .int (zI (x))]) (n := 5) (Nat.le_of_ble_eq_true rfl)
  rw [lg_entry_eq]
  generalize (lg_sl ([.ref (ad 26), .int (zI (x))]) ++ List.replicate (5 - (lg_sl ([.ref (ad 26), .int (zI (x))])).length) Slot.unset).toArray = ls at hl ⊢
  have hl : lv_has ls 5 [(0, .ref (ad 26)), (1, .int (zI (x)))] := hl
  refine lv_aload_n hx hb dX7_isLikely_0 rfl (lv_at hl 0 rfl) ?_
  refine lv_aload_n hx hb dX7_isLikely_1 rfl (lv_at hl 0 rfl) ?_
  refine va_get (D := D) (ci := 7) (v := .ref (ad 7)) (C := RX7) (T := TX7) (N := 26) hx hb hT inX7 hown hK hP 0 rfl rfl 7 (by decide) (hT _ q_679) (fun _ h9 => h9) rfl dX7_isLikely_2 ?_
  refine lv_iload_n hx hb dX7_isLikely_5 rfl (lv_at hl 1 rfl) ?_
  have g_1 : -2147483648 ≤ S 7 (x).toNat ∧ S 7 (x).toNat < 2147483648 := hR 7 ((x).toNat) (by decide)
  refine z_ald (f := S 7) hx hb hK hP 4 0 rfl rfl (by omega) (by omega) (by decide) (j := (x).toNat) rfl dX7_isLikely_6 ?_
  have h8 := hR 7 k0 (by decide)
  refine z_top (b := S 7 k0) (by rw [show x.toNat = k0 by omega]) ?_
  refine lv_aload_n hx hb dX7_isLikely_7 rfl (lv_at hl 0 rfl) ?_
  refine va_get (D := D) (ci := 7) (v := .ref (ad 10)) (C := RX7) (T := TX7) (N := 26) hx hb hT inX7 hown hK hP 0 rfl rfl 10 (by decide) (hT _ q_682) (fun _ h9 => h9) rfl dX7_isLikely_8 ?_
  refine g_callVv (As := [.int (zI (S 7 k0)), .ref (ad 10)]) (rest := []) ⟨hx, hb, hml, hown, hts⟩ (k_X7_layRow_10 l D cI ad hinj S hR n hn hn7 (S 7 k0) ((hO2 k0 hk0).1) (by omega)) (cwV 2 hts (gV hsub q_832 q_834 q_sX7_layRow q_8 q_835) rfl rfl rfl hdX7_layRow ⟨Nat.le_of_ble_eq_true rfl, Nat.le_of_ble_eq_true rfl⟩) (mEb D cI) (mEk D cI (mA ad)) hE (va_recv (ci := 7) (q0 := 0) hK hP rfl rfl) hP hS rfl hl.1 rfl (Nat.le_of_ble_eq_true rfl) dX7_isLikely_11 ⟨Nat.le_of_ble_eq_true rfl, Nat.le_of_ble_eq_true rfl⟩ (fun S_3 H locs hq_4 hP hR hS _ => ?_)
  obtain ⟨f_5, rfl, hlr_6⟩ := hq_4
  have hpf := prm_c hlr_6 (hO2 k0 hk0).2.1
  refine z_iconst hx hb dX7_isLikely_14 ?_
  refine lv_istore_n (lv' := [(2, .int (zI (1))), (0, .ref (ad 26)), (1, .int (zI (x)))]) hx hb dX7_isLikely_15 rfl hl (by decide) rfl (fun ls hl => ?_)
  refine z_iconst hx hb dX7_isLikely_16 ?_
  refine lv_istore_n (lv' := [(3, .int (zI (0))), (2, .int (zI (1))), (0, .ref (ad 26)), (1, .int (zI (x)))]) hx hb dX7_isLikely_17 rfl hl (by decide) rfl (fun ls hl => ?_)
  have cut_18 : ∀ (k9 : Nat) (a : Nat) (z : Int) (o : Bool) (H : Heap) (locs : List Loc) (ls : Array Slot), (a ≤ m9) → (z = 3 * ↑a) → (o = pB (lkP n (dgF n (S 7 k0)) (S 16) a)) → (m9 - a) < k9 → va_P D vwCl (mW cI ad (sA S 10 f_5)) H → RS (sA S 10 f_5) → va_S (mA ad) s.heap H locs → lv_has ls 5 [(0, .ref (ad 26)), (2, .int (zI (b2 (o)))), (3, .int (zI (z)))] → W p l e (headSpec (Cond.code yX7_isLikely cX7_isLikely 5 (some .boolean) :: lwT) ({ frames := 1, cells := 0, slots := 0, locals := 24 })).room s m ([.ref (ad 26), .int (zI (x))] : List Value).toArray below meth c H locs 0 0 (MQ below (va_Qi (fun (r : Int32) (S' : St) => ∃ e10, S' = sA S 10 e10 ∧ (∀ j, j < n → e10 j = dgF n (S 7 k0) j) ∧ r = zI (b2 (pB (lkP n (dgF n (S 7 k0)) (S 16) m9)))) (gB D (mW cI ad)) (mA ad)) ([.ref (ad 26), .int (zI (x))] : List Value).toArray s 0 0 (mA ad)) (F0 m 18 ls []) := by
    intro k9
    induction k9 with
    | zero =>
      intro a z o H locs ls ha hz ho hk9 hP hR hS hl
      exact absurd hk9 (Nat.not_lt_zero _)
    | succ k9 ih_18 =>
      intro a z o H locs ls ha hz ho hk9 hP hR hS hl
      refine lv_iload_n hx hb dX7_isLikely_18 rfl (lv_at hl 2 rfl) ?_
      refine z_iconst hx hb dX7_isLikely_19 ?_
      refine lv_aload_n hx hb dX7_isLikely_20 rfl (lv_at hl 0 rfl) ?_
      have g_7 : -2147483648 ≤ S 15 0 ∧ S 15 0 < 2147483648 := hR 15 0 (by decide)
      refine va_get (D := D) (ci := 7) (v := .int (zI (S 15 0))) (C := RX7) (T := TX7) (N := 26) hx hb hT inX7 hown hK hP 0 rfl rfl 15 (by decide) (hT _ q_687) (fun _ h9 => h9) rfl dX7_isLikely_21 ?_
      refine z_imul hx hb dX7_isLikely_24 ?_
      refine z_icmp_ge (tgt := 88) hx hb (by omega) (by omega) (by omega) (by omega) dX7_isLikely_25 (by decide) (fun c_8 => ?_) (fun c_8 => ?_)
      · have h9 : True := trivial
        refine lv_iload_n hx hb dX7_isLikely_88 rfl (lv_at hl 1 rfl) ?_
        exact g_zret (S1 := sA S 10 f_5) (bo := o) hx hb hr hlocks hP hR hS (⟨_, rfl, hlr_6, by rw [ho, show a = m9 by omega]⟩) dX7_isLikely_89
      · have h9 : True := trivial
        refine lv_aload_n hx hb dX7_isLikely_28 rfl (lv_at hl 0 rfl) ?_
        refine va_get (D := D) (ci := 7) (v := .ref (ad 10)) (C := RX7) (T := TX7) (N := 26) hx hb hT inX7 hown hK hP 0 rfl rfl 10 (by decide) (hT _ q_682) (fun _ h9 => h9) rfl dX7_isLikely_29 ?_
        refine lv_aload_n hx hb dX7_isLikely_32 rfl (lv_at hl 0 rfl) ?_
        refine va_get (D := D) (ci := 7) (v := .ref (ad 16)) (C := RX7) (T := TX7) (N := 26) hx hb hT inX7 hown hK hP 0 rfl rfl 16 (by decide) (hT _ q_688) (fun _ h9 => h9) rfl dX7_isLikely_33 ?_
        refine lv_iload_n hx hb dX7_isLikely_36 rfl (lv_at hl 2 rfl) ?_
        have g_9 : -2147483648 ≤ S 16 (z).toNat ∧ S 16 (z).toNat < 2147483648 := hR 16 ((z).toNat) (by decide)
        refine z_ald (f := S 16) hx hb hK hP 10 0 rfl rfl (by omega) (by omega) (by decide) (j := (z).toNat) rfl dX7_isLikely_37 ?_
        have h7a := hs2 a (by omega)
        have h7c := hR 16 (3 * a) (by decide)
        refine z_top (b := S 16 (3 * a)) (by rw [show z.toNat = 3 * a by omega]) ?_
        refine g_callSi (As := [.ref (ad 10), .int (zI (S 16 (3 * a)))]) (rest := []) ⟨hx, hb, hml, hown, hts⟩ (k_X7_placeOf_10 l D cI ad hinj (sA S 10 f_5) hR n hn7 (S 16 (3 * a)).toNat (S 16 (3 * a)) (by omega) (by omega) hpf) (cwS 2 hts (gS hsub q_843 q_844 q_8 q_845) rfl rfl rfl hdX7_placeOf ⟨Nat.le_of_ble_eq_true rfl, Nat.le_of_ble_eq_true rfl⟩) (mEb D cI) (mEk D cI (mA ad)) hE hP hS rfl hl.1 rfl (Nat.le_of_ble_eq_true rfl) dX7_isLikely_38 ⟨Nat.le_of_ble_eq_true rfl, Nat.le_of_ble_eq_true rfl⟩ (fun r_10 S_11 H locs hq_12 hP hR hS _ => ?_)
        obtain ⟨hs9, rfl⟩ := hq_12
        obtain rfl := hs9.symm
        have g_13 := pl_lt (v := (S 16 (3 * a)).toNat) (hpf) (by omega)
        refine z_top (b := ↑(pl n f_5 ((S 16 (3 * a)).toNat))) rfl ?_
        have hpe := pl_lt (hO2 k0 hk0).2.1 (v := (S 16 (3 * a)).toNat) (by omega)
        refine z_top (b := ↑(pl n (dgF n (S 7 k0)) (S 16 (3 * a)).toNat)) (congrArg Nat.cast (pl_c hlr_6 _)) ?_
        refine lv_aload_n hx hb dX7_isLikely_41 rfl (lv_at hl 0 rfl) ?_
        refine va_get (D := D) (ci := 7) (v := .ref (ad 16)) (C := RX7) (T := TX7) (N := 26) hx hb hT inX7 hown hK hP 0 rfl rfl 16 (by decide) (hT _ q_688) (fun _ h9 => h9) rfl dX7_isLikely_42 ?_
        refine lv_iload_n hx hb dX7_isLikely_45 rfl (lv_at hl 2 rfl) ?_
        refine z_iconst hx hb dX7_isLikely_46 ?_
        refine z_iadd hx hb dX7_isLikely_47 ?_
        have g_14 : -2147483648 ≤ S 16 (z + 1).toNat ∧ S 16 (z + 1).toNat < 2147483648 := hR 16 ((z + 1).toNat) (by decide)
        refine z_ald (f := S 16) hx hb hK hP 10 0 rfl rfl (by omega) (by omega) (by decide) (j := (z + 1).toNat) rfl dX7_isLikely_48 ?_
        have h7d : -2147483648 ≤ S 16 (3 * a + 1) ∧ S 16 (3 * a + 1) < 2147483648 := hR 16 (3 * a + 1) (by decide)
        refine z_top (b := S 16 (3 * a + 1)) (by rw [show (z + 1).toNat = 3 * a + 1 by omega]) ?_
        refine z_icmp_ge (tgt := 56) hx hb (by omega) (by omega) (by omega) (by omega) dX7_isLikely_49 (by decide) (fun c_15 => ?_) (fun c_15 => ?_)
        · have h9 : True := trivial
          refine z_iconst hx hb dX7_isLikely_56 ?_
          refine lv_istore (lv' := [(4, .int (zI (0))), (0, .ref (ad 26)), (2, .int (zI (b2 (o)))), (3, .int (zI (z)))]) hx hb dX7_isLikely_57 hl (by decide) rfl (fun ls hl => ?_)
          refine lv_iload_n hx hb dX7_isLikely_59 rfl (lv_at hl 2 rfl) ?_
          refine z_ifeqB (tgt := 80) hx hb dX7_isLikely_60 (by decide) (fun c_16 => ?_) (fun c_16 => ?_)
          · have h9 : True := trivial
            refine z_iconst hx hb dX7_isLikely_80 ?_
            refine lv_istore_n (lv' := [(2, .int (zI (0))), (4, .int (zI (0))), (0, .ref (ad 26)), (3, .int (zI (z)))]) hx hb dX7_isLikely_81 rfl hl (by decide) rfl (fun ls hl => ?_)
            refine z_iinc (lv' := [(3, .int (zI (z + 3))), (2, .int (zI (0))), (4, .int (zI (0))), (0, .ref (ad 26))]) hx hb dX7_isLikely_82 hl (k := 3) rfl (by decide) rfl (fun ls hl => ?_)
            refine lv_goto (tgt := 18) hx hb dX7_isLikely_85 (by decide) ?_
            exact ih_18 (a + 1) (z + 3) false _ _ _ (by omega) (by omega) (qF (fun h => pB_f.mp (by rw [← ho]; exact c_16) (lkP_s.mp h).1)) (by omega) hP hR hS (lv_sub hl [3, 1, 0] rfl)
          · have h9 : True := trivial
            refine lv_iload hx hb dX7_isLikely_63 (lv_at hl 0 rfl) ?_
            refine lv_aload_n hx hb dX7_isLikely_65 rfl (lv_at hl 1 rfl) ?_
            refine va_get (D := D) (ci := 7) (v := .ref (ad 16)) (C := RX7) (T := TX7) (N := 26) hx hb hT inX7 hown hK hP 0 rfl rfl 16 (by decide) (hT _ q_688) (fun _ h9 => h9) rfl dX7_isLikely_66 ?_
            refine lv_iload_n hx hb dX7_isLikely_69 rfl (lv_at hl 3 rfl) ?_
            refine z_iconst hx hb dX7_isLikely_70 ?_
            refine z_iadd hx hb dX7_isLikely_71 ?_
            have g_17 : -2147483648 ≤ S 16 (z + 2).toNat ∧ S 16 (z + 2).toNat < 2147483648 := hR 16 ((z + 2).toNat) (by decide)
            refine z_ald (f := S 16) hx hb hK hP 10 0 rfl rfl (by omega) (by omega) (by decide) (j := (z + 2).toNat) rfl dX7_isLikely_72 ?_
            refine z_top (b := S 16 (3 * a + 2)) (by rw [show (z + 2).toNat = 3 * a + 2 by omega]) ?_
            refine z_icmp_ne (tgt := 80) hx hb (by omega) (by omega) (by omega) (by omega) dX7_isLikely_73 (by decide) (fun c_18 => ?_) (fun c_18 => ?_)
            · have h9 : True := trivial
              refine z_iconst hx hb dX7_isLikely_80 ?_
              refine lv_istore_n (lv' := [(2, .int (zI (0))), (4, .int (zI (0))), (0, .ref (ad 26)), (3, .int (zI (z)))]) hx hb dX7_isLikely_81 rfl hl (by decide) rfl (fun ls hl => ?_)
              refine z_iinc (lv' := [(3, .int (zI (z + 3))), (2, .int (zI (0))), (4, .int (zI (0))), (0, .ref (ad 26))]) hx hb dX7_isLikely_82 hl (k := 3) rfl (by decide) rfl (fun ls hl => ?_)
              refine lv_goto (tgt := 18) hx hb dX7_isLikely_85 (by decide) ?_
              exact ih_18 (a + 1) (z + 3) false _ _ _ (by omega) (by omega) (qF (fun h => by have := (lkP_s.mp h).2; omega)) (by omega) hP hR hS (lv_sub hl [3, 1, 0] rfl)
            · have h9 : True := trivial
              refine z_iconst hx hb dX7_isLikely_76 ?_
              refine lv_goto (tgt := 81) hx hb dX7_isLikely_77 (by decide) ?_
              refine lv_istore_n (lv' := [(2, .int (zI (1))), (4, .int (zI (0))), (0, .ref (ad 26)), (3, .int (zI (z)))]) hx hb dX7_isLikely_81 rfl hl (by decide) rfl (fun ls hl => ?_)
              refine z_iinc (lv' := [(3, .int (zI (z + 3))), (2, .int (zI (1))), (4, .int (zI (0))), (0, .ref (ad 26))]) hx hb dX7_isLikely_82 hl (k := 3) rfl (by decide) rfl (fun ls hl => ?_)
              refine lv_goto (tgt := 18) hx hb dX7_isLikely_85 (by decide) ?_
              exact ih_18 (a + 1) (z + 3) true _ _ _ (by omega) (by omega) (qT (lkP_s.mpr ⟨pB_t.mp (by rw [← ho]; exact c_16), by omega⟩)) (by omega) hP hR hS (lv_sub hl [3, 1, 0] rfl)
        · have h9 : True := trivial
          refine z_iconst hx hb dX7_isLikely_52 ?_
          refine lv_goto (tgt := 57) hx hb dX7_isLikely_53 (by decide) ?_
          refine lv_istore (lv' := [(4, .int (zI (1))), (0, .ref (ad 26)), (2, .int (zI (b2 (o)))), (3, .int (zI (z)))]) hx hb dX7_isLikely_57 hl (by decide) rfl (fun ls hl => ?_)
          refine lv_iload_n hx hb dX7_isLikely_59 rfl (lv_at hl 2 rfl) ?_
          refine z_ifeqB (tgt := 80) hx hb dX7_isLikely_60 (by decide) (fun c_19 => ?_) (fun c_19 => ?_)
          · have h9 : True := trivial
            refine z_iconst hx hb dX7_isLikely_80 ?_
            refine lv_istore_n (lv' := [(2, .int (zI (0))), (4, .int (zI (1))), (0, .ref (ad 26)), (3, .int (zI (z)))]) hx hb dX7_isLikely_81 rfl hl (by decide) rfl (fun ls hl => ?_)
            refine z_iinc (lv' := [(3, .int (zI (z + 3))), (2, .int (zI (0))), (4, .int (zI (1))), (0, .ref (ad 26))]) hx hb dX7_isLikely_82 hl (k := 3) rfl (by decide) rfl (fun ls hl => ?_)
            refine lv_goto (tgt := 18) hx hb dX7_isLikely_85 (by decide) ?_
            exact ih_18 (a + 1) (z + 3) false _ _ _ (by omega) (by omega) (qF (fun h => pB_f.mp (by rw [← ho]; exact c_19) (lkP_s.mp h).1)) (by omega) hP hR hS (lv_sub hl [3, 1, 0] rfl)
          · have h9 : True := trivial
            refine lv_iload hx hb dX7_isLikely_63 (lv_at hl 0 rfl) ?_
            refine lv_aload_n hx hb dX7_isLikely_65 rfl (lv_at hl 1 rfl) ?_
            refine va_get (D := D) (ci := 7) (v := .ref (ad 16)) (C := RX7) (T := TX7) (N := 26) hx hb hT inX7 hown hK hP 0 rfl rfl 16 (by decide) (hT _ q_688) (fun _ h9 => h9) rfl dX7_isLikely_66 ?_
            refine lv_iload_n hx hb dX7_isLikely_69 rfl (lv_at hl 3 rfl) ?_
            refine z_iconst hx hb dX7_isLikely_70 ?_
            refine z_iadd hx hb dX7_isLikely_71 ?_
            have g_20 : -2147483648 ≤ S 16 (z + 2).toNat ∧ S 16 (z + 2).toNat < 2147483648 := hR 16 ((z + 2).toNat) (by decide)
            refine z_ald (f := S 16) hx hb hK hP 10 0 rfl rfl (by omega) (by omega) (by decide) (j := (z + 2).toNat) rfl dX7_isLikely_72 ?_
            refine z_top (b := S 16 (3 * a + 2)) (by rw [show (z + 2).toNat = 3 * a + 2 by omega]) ?_
            refine z_icmp_ne (tgt := 80) hx hb (by omega) (by omega) (by omega) (by omega) dX7_isLikely_73 (by decide) (fun c_21 => ?_) (fun c_21 => ?_)
            · have h9 : True := trivial
              refine z_iconst hx hb dX7_isLikely_80 ?_
              refine lv_istore_n (lv' := [(2, .int (zI (0))), (4, .int (zI (1))), (0, .ref (ad 26)), (3, .int (zI (z)))]) hx hb dX7_isLikely_81 rfl hl (by decide) rfl (fun ls hl => ?_)
              refine z_iinc (lv' := [(3, .int (zI (z + 3))), (2, .int (zI (0))), (4, .int (zI (1))), (0, .ref (ad 26))]) hx hb dX7_isLikely_82 hl (k := 3) rfl (by decide) rfl (fun ls hl => ?_)
              refine lv_goto (tgt := 18) hx hb dX7_isLikely_85 (by decide) ?_
              exact ih_18 (a + 1) (z + 3) false _ _ _ (by omega) (by omega) (qF (fun h => by have := (lkP_s.mp h).2; omega)) (by omega) hP hR hS (lv_sub hl [3, 1, 0] rfl)
            · have h9 : True := trivial
              refine z_iconst hx hb dX7_isLikely_76 ?_
              refine lv_goto (tgt := 81) hx hb dX7_isLikely_77 (by decide) ?_
              refine lv_istore_n (lv' := [(2, .int (zI (1))), (4, .int (zI (1))), (0, .ref (ad 26)), (3, .int (zI (z)))]) hx hb dX7_isLikely_81 rfl hl (by decide) rfl (fun ls hl => ?_)
              refine z_iinc (lv' := [(3, .int (zI (z + 3))), (2, .int (zI (1))), (4, .int (zI (1))), (0, .ref (ad 26))]) hx hb dX7_isLikely_82 hl (k := 3) rfl (by decide) rfl (fun ls hl => ?_)
              refine lv_goto (tgt := 18) hx hb dX7_isLikely_85 (by decide) ?_
              exact ih_18 (a + 1) (z + 3) true _ _ _ (by omega) (by omega) (qT (lkP_s.mpr ⟨pB_t.mp (by rw [← ho]; exact c_19), by omega⟩)) (by omega) hP hR hS (lv_sub hl [3, 1, 0] rfl)
  exact cut_18 _ 0 0 true _ _ _ (by omega) (by omega) (qT (fun a h => absurd h (Nat.not_lt_zero a))) (Nat.lt_succ_self _) hP hR hS (lv_sub hl [2, 1, 0] rfl)
set_option maxHeartbeats 4000000 in
set_option maxRecDepth 100000 in
theorem k_X7_couldOf (l : Launch) (D : va_G) (cI : ClassId) (ad : Nat → Nat) (hinj : mInj ad) (S : St) (hR : RS S) (n : Nat) (hn : S 2 0 = ↑n) (hn7 : n ≤ 7) (N : Nat) (hN : S 8 0 = ↑N) (hO : OT n N (S 7)) (m9 : Nat) (hm9 : S 15 0 = ↑m9) (hsg : sgOK n (S 16) m9) : Met l yX7_couldOf (Cond.code yX7_couldOf cX7_couldOf 3 (some .int) :: lwT) ({ frames := 2, cells := 0, slots := 0, locals := 48 }) (gPc D (mW cI ad) (mE D cI) S [.ref (ad 26)]) (va_Qi (fun (r : Int32) (S' : St) => ∃ e10, S' = sA S 10 e10 ∧ r = zI (cnt (fun k => pB (lkP n (dgF n (S 7 k)) (S 16) m9)) N)) (gB D (mW cI ad)) (mA ad)) 0 0 (mA ad) := by
  refine Met.ofW (cc := cX7_couldOf) (maxL := 3) (ret := (some .int)) (by decide) rfl ?_
  intro p e s m args below meth c s₁ B hml hv
  obtain ⟨rfl, hP, hE⟩ := hv
  have hx := B.exec
  have hb := B.bytes
  have hr := B.returns
  have hts := atoms_spec (ws := Cond.code yX7_couldOf cX7_couldOf 3 (some .int) :: lwT) B.pre
  have hT := fun w (h : w ∈ lwT) => hts w (List.mem_cons_of_mem _ h)
  have hsub : ∀ w ∈ lwT, w ∈ (Cond.code yX7_couldOf cX7_couldOf 3 (some .int) :: lwT) := fun w h => List.mem_cons_of_mem _ h
  have hown : s.vm.findClass RX7 = some m.cls := findClass_of_methodNamed B.named
  have hlocks := B.notSynchronized
  have hK : va_K D vwCl [(cI, .int)] s := hE
  have hS : va_S (mA ad) s.heap s.heap [] := va_S.rf
  have hO1 := hO.1
  have hO2 := hO.2.1
  have hl := lv_entry ([.ref (ad 26)]) (n := 3) (Nat.le_of_ble_eq_true rfl)
  rw [lg_entry_eq]
  generalize (lg_sl ([.ref (ad 26)]) ++ List.replicate (3 - (lg_sl ([.ref (ad 26)])).length) Slot.unset).toArray = ls at hl ⊢
  have hl : lv_has ls 3 [(0, .ref (ad 26))] := hl
  refine z_iconst hx hb dX7_couldOf_0 ?_
  refine lv_istore_n (lv' := [(1, .int (zI (0))), (0, .ref (ad 26))]) hx hb dX7_couldOf_1 rfl hl (by decide) rfl (fun ls hl => ?_)
  refine z_iconst hx hb dX7_couldOf_2 ?_
  refine lv_istore_n (lv' := [(2, .int (zI (0))), (1, .int (zI (0))), (0, .ref (ad 26))]) hx hb dX7_couldOf_3 rfl hl (by decide) rfl (fun ls hl => ?_)
  have cut_4 : ∀ (k9 : Nat) (i : Nat) (y : Int) (f : Nat → Int) (H : Heap) (locs : List Loc) (ls : Array Slot), (i ≤ N) → (y = cnt (fun k => pB (lkP n (dgF n (S 7 k)) (S 16) m9)) i) → (N - i) < k9 → va_P D vwCl (mW cI ad (sA S 10 f)) H → RS (sA S 10 f) → va_S (mA ad) s.heap H locs → lv_has ls 3 [(0, .ref (ad 26)), (1, .int (zI (y))), (2, .int (zI (↑i)))] → W p l e (headSpec (Cond.code yX7_couldOf cX7_couldOf 3 (some .int) :: lwT) ({ frames := 2, cells := 0, slots := 0, locals := 48 })).room s m ([.ref (ad 26)] : List Value).toArray below meth c H locs 0 0 (MQ below (va_Qi (fun (r : Int32) (S' : St) => ∃ e10, S' = sA S 10 e10 ∧ r = zI (cnt (fun k => pB (lkP n (dgF n (S 7 k)) (S 16) m9)) N)) (gB D (mW cI ad)) (mA ad)) ([.ref (ad 26)] : List Value).toArray s 0 0 (mA ad)) (F0 m 4 ls []) := by
    intro k9
    induction k9 with
    | zero =>
      intro i y f H locs ls hi hy hk9 hP hR hS hl
      exact absurd hk9 (Nat.not_lt_zero _)
    | succ k9 ih_4 =>
      intro i y f H locs ls hi hy hk9 hP hR hS hl
      refine lv_iload_n hx hb dX7_couldOf_4 rfl (lv_at hl 2 rfl) ?_
      refine lv_aload_n hx hb dX7_couldOf_5 rfl (lv_at hl 0 rfl) ?_
      have g_1 : -2147483648 ≤ S 8 0 ∧ S 8 0 < 2147483648 := hR 8 0 (by decide)
      refine va_get (D := D) (ci := 7) (v := .int (zI (S 8 0))) (C := RX7) (T := TX7) (N := 26) hx hb hT inX7 hown hK hP 0 rfl rfl 8 (by decide) (hT _ q_680) (fun _ h9 => h9) rfl dX7_couldOf_6 ?_
      refine z_icmp_ge (tgt := 34) hx hb (by omega) (by omega) (by omega) (by omega) dX7_couldOf_9 (by decide) (fun c_2 => ?_) (fun c_2 => ?_)
      · have h9 : True := trivial
        refine lv_iload_n hx hb dX7_couldOf_34 rfl (lv_at hl 1 rfl) ?_
        exact g_iret (S1 := sA S 10 f) (v := zI (y)) hx hb hr hlocks hP hR hS (⟨_, rfl, by rw [hy, show i = N by omega]⟩) dX7_couldOf_35
      · have h9 : True := trivial
        refine lv_iload_n hx hb dX7_couldOf_12 rfl (lv_at hl 1 rfl) ?_
        refine lv_aload_n hx hb dX7_couldOf_13 rfl (lv_at hl 0 rfl) ?_
        refine lv_iload_n hx hb dX7_couldOf_14 rfl (lv_at hl 2 rfl) ?_
        refine g_callVi (As := [.int (zI (↑i))]) (rest := [.int (zI (y))]) ⟨hx, hb, hml, hown, hts⟩ (k_X7_isLikely l D cI ad hinj (sA S 10 f) hR n hn hn7 N hN hO m9 hm9 hsg (i) ↑i (by omega) (by omega)) (cwV 1 hts (gV hsub q_1005 q_1007 q_sX7_isLikely q_8 q_1008) rfl rfl rfl hdX7_isLikely ⟨Nat.le_of_ble_eq_true rfl, Nat.le_of_ble_eq_true rfl⟩) (mEb D cI) (mEk D cI (mA ad)) hE (va_recv (ci := 7) (q0 := 0) hK hP rfl rfl) hP hS rfl hl.1 rfl (Nat.le_of_ble_eq_true rfl) dX7_couldOf_15 ⟨Nat.le_of_ble_eq_true rfl, Nat.le_of_ble_eq_true rfl⟩ (fun r_3 S_4 H locs hq_5 hP hR hS _ => ?_)
        obtain ⟨e_6, rfl, hro_7, rfl⟩ := hq_5
        rw [sA_sA] at hP hR
        refine z_top (b := b2 (pB (lkP n (dgF n (S 7 i)) (S 16) m9))) rfl ?_
        refine z_ifeqB (tgt := 25) hx hb dX7_couldOf_18 (by decide) (fun c_8 => ?_) (fun c_8 => ?_)
        · have h9 : True := trivial
          refine z_iconst hx hb dX7_couldOf_25 ?_
          refine z_iadd hx hb dX7_couldOf_26 ?_
          refine lv_istore_n (lv' := [(1, .int (zI (y + 0))), (0, .ref (ad 26)), (2, .int (zI (↑i)))]) hx hb dX7_couldOf_27 rfl hl (by decide) rfl (fun ls hl => ?_)
          refine z_iinc (lv' := [(2, .int (zI (↑i + 1))), (1, .int (zI (y + 0))), (0, .ref (ad 26))]) hx hb dX7_couldOf_28 hl (k := 2) rfl (by decide) rfl (fun ls hl => ?_)
          refine lv_goto (tgt := 4) hx hb dX7_couldOf_31 (by decide) ?_
          exact ih_4 (i + 1) (y + 0) e_6 _ _ _ (by omega) (cnt_f (P := (fun k => pB (lkP n (dgF n (S 7 k)) (S 16) m9))) c_8 hy) (by omega) hP hR hS (lv_sub hl [2, 1, 0] rfl)
        · have h9 : True := trivial
          refine z_iconst hx hb dX7_couldOf_21 ?_
          refine lv_goto (tgt := 26) hx hb dX7_couldOf_22 (by decide) ?_
          refine z_iadd hx hb dX7_couldOf_26 ?_
          refine lv_istore_n (lv' := [(1, .int (zI (y + 1))), (0, .ref (ad 26)), (2, .int (zI (↑i)))]) hx hb dX7_couldOf_27 rfl hl (by decide) rfl (fun ls hl => ?_)
          refine z_iinc (lv' := [(2, .int (zI (↑i + 1))), (1, .int (zI (y + 1))), (0, .ref (ad 26))]) hx hb dX7_couldOf_28 hl (k := 2) rfl (by decide) rfl (fun ls hl => ?_)
          refine lv_goto (tgt := 4) hx hb dX7_couldOf_31 (by decide) ?_
          exact ih_4 (i + 1) (y + 1) e_6 _ _ _ (by omega) (cnt_t (P := (fun k => pB (lkP n (dgF n (S 7 k)) (S 16) m9))) c_8 hy) (by omega) hP hR hS (lv_sub hl [2, 1, 0] rfl)
  have hSe_9 : S = sA S 10 (S 10) := by
    funext k8
    by_cases e80 : k8 = 10
    · subst e80; first | rfl | (funext j8; rfl)
    simp [sA, e80]
  rw [hSe_9] at hP hR
  exact cut_4 _ 0 0 (S 10) _ _ _ (by omega) (rfl) (Nat.lt_succ_self _) hP hR hS (lv_sub hl [2, 1, 0] rfl)
set_option maxHeartbeats 4000000 in
set_option maxRecDepth 100000 in
theorem k_X7_oddsOf (l : Launch) (D : va_G) (cI : ClassId) (ad : Nat → Nat) (hinj : mInj ad) (S : St) (hR : RS S) (n : Nat) (hn : S 2 0 = ↑n) (hn7 : n ≤ 7) (N : Nat) (hN : S 8 0 = ↑N) (hO : OT n N (S 7)) (u1 u2 : Nat) (x1 x2 xw : Int) (hx1 : x1 = ↑u1) (hx2 : x2 = ↑u2) (hu1 : u1 < n) (hu2 : u2 < n) (hxw1 : -2147483648 ≤ xw) (hxw2 : xw < 2147483648) : Met l yX7_oddsOf (Cond.code yX7_oddsOf cX7_oddsOf 9 (some .int) :: lwT) ({ frames := 5, cells := 0, slots := 0, locals := 110 }) (gPc D (mW cI ad) (mE D cI) S [.ref (ad 26), .int (zI (x1)), .int (zI (x2)), .int (zI (xw))]) (va_Qi (fun (r : Int32) (S' : St) => ∃ e10, S' = sA S 10 e10 ∧ r = zI (odF (cnt (fun k => pB (ftP n (S 5) (S 7) k)) N) (cnt (fun k => pB (ftP n (S 5) (S 7) k ∧ pl n (dgF n (S 7 k)) u1 < pl n (dgF n (S 7 k)) u2)) N) xw)) (gB D (mW cI ad)) (mA ad)) 0 0 (mA ad) := by
  refine Met.ofW (cc := cX7_oddsOf) (maxL := 9) (ret := (some .int)) (by decide) rfl ?_
  intro p e s m args below meth c s₁ B hml hv
  obtain ⟨rfl, hP, hE⟩ := hv
  have hx := B.exec
  have hb := B.bytes
  have hr := B.returns
  have hts := atoms_spec (ws := Cond.code yX7_oddsOf cX7_oddsOf 9 (some .int) :: lwT) B.pre
  have hT := fun w (h : w ∈ lwT) => hts w (List.mem_cons_of_mem _ h)
  have hsub : ∀ w ∈ lwT, w ∈ (Cond.code yX7_oddsOf cX7_oddsOf 9 (some .int) :: lwT) := fun w h => List.mem_cons_of_mem _ h
  have hown : s.vm.findClass RX7 = some m.cls := findClass_of_methodNamed B.named
  have hlocks := B.notSynchronized
  have hK : va_K D vwCl [(cI, .int)] s := hE
  have hS : va_S (mA ad) s.heap s.heap [] := va_S.rf
  have hO1 := hO.1
  have hO2 := hO.2.1
  have hl := lv_entry ([.ref (ad 26), .int (zI (x1)), .int (zI (x2)), .int (zI (xw))]) (n := 9) (Nat.le_of_ble_eq_true rfl)
  rw [lg_entry_eq]
  generalize (lg_sl ([.ref (ad 26), .int (zI (x1)), .int (zI (x2)), .int (zI (xw))]) ++ List.replicate (9 - (lg_sl ([.ref (ad 26), .int (zI (x1)), .int (zI (x2)), .int (zI (xw))])).length) Slot.unset).toArray = ls at hl ⊢
  have hl : lv_has ls 9 [(0, .ref (ad 26)), (1, .int (zI (x1))), (2, .int (zI (x2))), (3, .int (zI (xw)))] := hl
  refine z_iconst hx hb dX7_oddsOf_0 ?_
  refine lv_istore (lv' := [(4, .int (zI (0))), (0, .ref (ad 26)), (1, .int (zI (x1))), (2, .int (zI (x2))), (3, .int (zI (xw)))]) hx hb dX7_oddsOf_1 hl (by decide) rfl (fun ls hl => ?_)
  refine z_iconst hx hb dX7_oddsOf_3 ?_
  refine lv_istore (lv' := [(5, .int (zI (0))), (4, .int (zI (0))), (0, .ref (ad 26)), (1, .int (zI (x1))), (2, .int (zI (x2))), (3, .int (zI (xw)))]) hx hb dX7_oddsOf_4 hl (by decide) rfl (fun ls hl => ?_)
  refine z_iconst hx hb dX7_oddsOf_6 ?_
  refine lv_istore (lv' := [(6, .int (zI (0))), (5, .int (zI (0))), (4, .int (zI (0))), (0, .ref (ad 26)), (1, .int (zI (x1))), (2, .int (zI (x2))), (3, .int (zI (xw)))]) hx hb dX7_oddsOf_7 hl (by decide) rfl (fun ls hl => ?_)
  have cut_9 : ∀ (k9 : Nat) (i : Nat) (y : Int) (z : Int) (f : Nat → Int) (H : Heap) (locs : List Loc) (ls : Array Slot), (i ≤ N) → (y = cnt (fun k => pB (ftP n (S 5) (S 7) k ∧ pl n (dgF n (S 7 k)) u1 < pl n (dgF n (S 7 k)) u2)) i) → (z = cnt (fun k => pB (ftP n (S 5) (S 7) k)) i) → (N - i) < k9 → va_P D vwCl (mW cI ad (sA S 10 f)) H → RS (sA S 10 f) → va_S (mA ad) s.heap H locs → lv_has ls 9 [(0, .ref (ad 26)), (1, .int (zI (x1))), (2, .int (zI (x2))), (3, .int (zI (xw))), (4, .int (zI (y))), (5, .int (zI (z))), (6, .int (zI (↑i)))] → W p l e (headSpec (Cond.code yX7_oddsOf cX7_oddsOf 9 (some .int) :: lwT) ({ frames := 5, cells := 0, slots := 0, locals := 110 })).room s m ([.ref (ad 26), .int (zI (x1)), .int (zI (x2)), .int (zI (xw))] : List Value).toArray below meth c H locs 0 0 (MQ below (va_Qi (fun (r : Int32) (S' : St) => ∃ e10, S' = sA S 10 e10 ∧ r = zI (odF (cnt (fun k => pB (ftP n (S 5) (S 7) k)) N) (cnt (fun k => pB (ftP n (S 5) (S 7) k ∧ pl n (dgF n (S 7 k)) u1 < pl n (dgF n (S 7 k)) u2)) N) xw)) (gB D (mW cI ad)) (mA ad)) ([.ref (ad 26), .int (zI (x1)), .int (zI (x2)), .int (zI (xw))] : List Value).toArray s 0 0 (mA ad)) (F0 m 9 ls []) := by
    intro k9
    induction k9 with
    | zero =>
      intro i y z f H locs ls hi hy hz hk9 hP hR hS hl
      exact absurd hk9 (Nat.not_lt_zero _)
    | succ k9 ih_9 =>
      intro i y z f H locs ls hi hy hz hk9 hP hR hS hl
      have hyr := cnt_r (fun k => pB (ftP n (S 5) (S 7) k ∧ pl n (dgF n (S 7 k)) u1 < pl n (dgF n (S 7 k)) u2)) i
      have hzr := cnt_r (fun k => pB (ftP n (S 5) (S 7) k)) i
      refine lv_iload hx hb dX7_oddsOf_9 (lv_at hl 6 rfl) ?_
      refine lv_aload_n hx hb dX7_oddsOf_11 rfl (lv_at hl 0 rfl) ?_
      have g_1 : -2147483648 ≤ S 8 0 ∧ S 8 0 < 2147483648 := hR 8 0 (by decide)
      refine va_get (D := D) (ci := 7) (v := .int (zI (S 8 0))) (C := RX7) (T := TX7) (N := 26) hx hb hT inX7 hown hK hP 0 rfl rfl 8 (by decide) (hT _ q_680) (fun _ h9 => h9) rfl dX7_oddsOf_12 ?_
      refine z_icmp_ge (tgt := 65) hx hb (by omega) (by omega) (by omega) (by omega) dX7_oddsOf_15 (by decide) (fun c_2 => ?_) (fun c_2 => ?_)
      · have h9 : True := trivial
        refine lv_iload hx hb dX7_oddsOf_65 (lv_at hl 5 rfl) ?_
        refine lv_istore (lv' := [(6, .int (zI (z))), (0, .ref (ad 26)), (1, .int (zI (x1))), (2, .int (zI (x2))), (3, .int (zI (xw))), (4, .int (zI (y))), (5, .int (zI (z)))]) hx hb dX7_oddsOf_67 hl (by decide) rfl (fun ls hl => ?_)
        refine lv_iload hx hb dX7_oddsOf_69 (lv_at hl 5 rfl) ?_
        refine lv_istore (lv' := [(7, .int (zI (y))), (6, .int (zI (z))), (0, .ref (ad 26)), (1, .int (zI (x1))), (2, .int (zI (x2))), (3, .int (zI (xw))), (4, .int (zI (y))), (5, .int (zI (z)))]) hx hb dX7_oddsOf_71 hl (by decide) rfl (fun ls hl => ?_)
        have cut_73 : ∀ (k9 : Nat) (xa : Int) (xb : Int) (H : Heap) (locs : List Loc) (ls : Array Slot), (0 ≤ xa ∧ xa ≤ 462 ∧ 0 ≤ xb ∧ xb ≤ 462) → (Int.gcd xa xb = Int.gcd z y) → xb.toNat < k9 → va_P D vwCl (mW cI ad (sA S 10 f)) H → RS (sA S 10 f) → va_S (mA ad) s.heap H locs → lv_has ls 9 [(0, .ref (ad 26)), (3, .int (zI (xw))), (4, .int (zI (y))), (5, .int (zI (z))), (6, .int (zI (xa))), (7, .int (zI (xb)))] → W p l e (headSpec (Cond.code yX7_oddsOf cX7_oddsOf 9 (some .int) :: lwT) ({ frames := 5, cells := 0, slots := 0, locals := 110 })).room s m ([.ref (ad 26), .int (zI (x1)), .int (zI (x2)), .int (zI (xw))] : List Value).toArray below meth c H locs 0 0 (MQ below (va_Qi (fun (r : Int32) (S' : St) => ∃ e10, S' = sA S 10 e10 ∧ r = zI (odF (cnt (fun k => pB (ftP n (S 5) (S 7) k)) N) (cnt (fun k => pB (ftP n (S 5) (S 7) k ∧ pl n (dgF n (S 7 k)) u1 < pl n (dgF n (S 7 k)) u2)) N) xw)) (gB D (mW cI ad)) (mA ad)) ([.ref (ad 26), .int (zI (x1)), .int (zI (x2)), .int (zI (xw))] : List Value).toArray s 0 0 (mA ad)) (F0 m 73 ls []) := by
          intro k9
          induction k9 with
          | zero =>
            intro xa xb H locs ls hab hg hk9 hP hR hS hl
            exact absurd hk9 (Nat.not_lt_zero _)
          | succ k9 ih_73 =>
            intro xa xb H locs ls hab hg hk9 hP hR hS hl
            refine lv_iload hx hb dX7_oddsOf_73 (lv_at hl 5 rfl) ?_
            refine z_if_le (tgt := 96) hx hb (by omega) (by omega) dX7_oddsOf_75 (by decide) (fun c_3 => ?_) (fun c_3 => ?_)
            · have h9 : True := trivial
              have hx0 : xb = 0 := by omega
              rw [hx0] at hg
              have hxa : xa = (Int.gcd z y : Nat) := by rw [← hg]; simp; omega
              have hzN : z = cnt (fun k => pB (ftP n (S 5) (S 7) k)) N := by rw [hz, show i = N by omega]
              have hyN : y = cnt (fun k => pB (ftP n (S 5) (S 7) k ∧ pl n (dgF n (S 7 k)) u1 < pl n (dgF n (S 7 k)) u2)) N := by rw [hy, show i = N by omega]
              refine lv_iload hx hb dX7_oddsOf_96 (lv_at hl 3 rfl) ?_
              refine z_if_ne (tgt := 105) hx hb (by omega) (by omega) dX7_oddsOf_98 (by decide) (fun c_4 => ?_) (fun c_4 => ?_)
              · have h9 : True := trivial
                have hnz : ¬ z = 0 := by omega
                have hpos : 0 < xa := by have h8 : Int.gcd z y ≠ 0 := fun e => hnz (Int.gcd_eq_zero_iff.mp e).1; omega
                refine lv_iload_n hx hb dX7_oddsOf_105 rfl (lv_at hl 1 rfl) ?_
                refine z_if_ne (tgt := 117) hx hb (by omega) (by omega) dX7_oddsOf_106 (by decide) (fun c_5 => ?_) (fun c_5 => ?_)
                · have h9 : True := trivial
                  refine lv_iload hx hb dX7_oddsOf_117 (lv_at hl 3 rfl) ?_
                  refine lv_iload hx hb dX7_oddsOf_119 (lv_at hl 4 rfl) ?_
                  refine z_idiv hx hb (by omega) (by omega) (by omega) (by omega) dX7_oddsOf_121 ?_
                  exact g_iret (S1 := sA S 10 f) (v := zI (z / xa)) hx hb hr hlocks hP hR hS (⟨_, rfl, by rw [← hzN, ← hyN]; unfold odF; rw [if_neg (by omega), if_neg (by omega), hxa]⟩) dX7_oddsOf_122
                · have h9 : True := trivial
                  refine lv_iload hx hb dX7_oddsOf_109 (lv_at hl 2 rfl) ?_
                  refine lv_iload hx hb dX7_oddsOf_111 (lv_at hl 4 rfl) ?_
                  refine z_idiv hx hb (by omega) (by omega) (by omega) (by omega) dX7_oddsOf_113 ?_
                  refine lv_goto (tgt := 122) hx hb dX7_oddsOf_114 (by decide) ?_
                  exact g_iret (S1 := sA S 10 f) (v := zI (y / xa)) hx hb hr hlocks hP hR hS (⟨_, rfl, by rw [← hzN, ← hyN]; unfold odF; rw [if_neg (by omega), if_pos (by omega), hxa]⟩) dX7_oddsOf_122
              · have h9 : True := trivial
                refine lv_iload_n hx hb dX7_oddsOf_101 rfl (lv_at hl 1 rfl) ?_
                refine lv_goto (tgt := 122) hx hb dX7_oddsOf_102 (by decide) ?_
                exact g_iret (S1 := sA S 10 f) (v := zI (xw)) hx hb hr hlocks hP hR hS (⟨_, rfl, by rw [← hzN, ← hyN]; unfold odF; rw [if_pos (by omega)]⟩) dX7_oddsOf_122
            · have h9 : True := trivial
              refine lv_iload hx hb dX7_oddsOf_78 (lv_at hl 4 rfl) ?_
              refine lv_iload hx hb dX7_oddsOf_80 (lv_at hl 5 rfl) ?_
              refine z_irem hx hb (by omega) (by omega) (by omega) (by omega) dX7_oddsOf_82 ?_
              refine lv_istore (lv' := [(8, .int (zI (xa % xb))), (0, .ref (ad 26)), (3, .int (zI (xw))), (4, .int (zI (y))), (5, .int (zI (z))), (6, .int (zI (xa))), (7, .int (zI (xb)))]) hx hb dX7_oddsOf_83 hl (by decide) rfl (fun ls hl => ?_)
              refine lv_iload hx hb dX7_oddsOf_85 (lv_at hl 6 rfl) ?_
              refine lv_istore (lv' := [(6, .int (zI (xb))), (8, .int (zI (xa % xb))), (0, .ref (ad 26)), (3, .int (zI (xw))), (4, .int (zI (y))), (5, .int (zI (z))), (7, .int (zI (xb)))]) hx hb dX7_oddsOf_87 hl (by decide) rfl (fun ls hl => ?_)
              refine lv_iload hx hb dX7_oddsOf_89 (lv_at hl 1 rfl) ?_
              refine lv_istore (lv' := [(7, .int (zI (xa % xb))), (6, .int (zI (xb))), (8, .int (zI (xa % xb))), (0, .ref (ad 26)), (3, .int (zI (xw))), (4, .int (zI (y))), (5, .int (zI (z)))]) hx hb dX7_oddsOf_91 hl (by decide) rfl (fun ls hl => ?_)
              refine lv_goto (tgt := 73) hx hb dX7_oddsOf_93 (by decide) ?_
              exact ih_73 xb (xa % xb) _ _ _ (by have h8 := Int.emod_nonneg xa (show xb ≠ 0 by omega); have h9 := Int.emod_lt_of_pos xa (show 0 < xb by omega); omega) ((ig_step (by omega) (by omega)).trans hg) (by have h8 := Int.emod_nonneg xa (show xb ≠ 0 by omega); have h9 := Int.emod_lt_of_pos xa (show 0 < xb by omega); omega) hP hR hS (lv_sub hl [3, 4, 5, 6, 1, 0] rfl)
        exact cut_73 _ z y _ _ _ (by omega) (rfl) (Nat.lt_succ_self _) hP hR hS (lv_sub hl [2, 5, 6, 7, 1, 0] rfl)
      · have h9 : True := trivial
        have cut_59 : ∀ (y2 : Int) (z2 : Int) (f2 : Nat → Int) (H : Heap) (locs : List Loc) (ls : Array Slot), (y2 = cnt (fun k => pB (ftP n (S 5) (S 7) k ∧ pl n (dgF n (S 7 k)) u1 < pl n (dgF n (S 7 k)) u2)) (i + 1)) → (z2 = cnt (fun k => pB (ftP n (S 5) (S 7) k)) (i + 1)) → va_P D vwCl (mW cI ad (sA S 10 f2)) H → RS (sA S 10 f2) → va_S (mA ad) s.heap H locs → lv_has ls 9 [(0, .ref (ad 26)), (1, .int (zI (x1))), (2, .int (zI (x2))), (3, .int (zI (xw))), (4, .int (zI (y2))), (5, .int (zI (z2))), (6, .int (zI (↑i)))] → W p l e (headSpec (Cond.code yX7_oddsOf cX7_oddsOf 9 (some .int) :: lwT) ({ frames := 5, cells := 0, slots := 0, locals := 110 })).room s m ([.ref (ad 26), .int (zI (x1)), .int (zI (x2)), .int (zI (xw))] : List Value).toArray below meth c H locs 0 0 (MQ below (va_Qi (fun (r : Int32) (S' : St) => ∃ e10, S' = sA S 10 e10 ∧ r = zI (odF (cnt (fun k => pB (ftP n (S 5) (S 7) k)) N) (cnt (fun k => pB (ftP n (S 5) (S 7) k ∧ pl n (dgF n (S 7 k)) u1 < pl n (dgF n (S 7 k)) u2)) N) xw)) (gB D (mW cI ad)) (mA ad)) ([.ref (ad 26), .int (zI (x1)), .int (zI (x2)), .int (zI (xw))] : List Value).toArray s 0 0 (mA ad)) (F0 m 59 ls []) := by
          intro y2 z2 f2 H locs ls hy2 hz2 hP hR hS hl
          refine z_iinc (lv' := [(6, .int (zI (↑i + 1))), (0, .ref (ad 26)), (1, .int (zI (x1))), (2, .int (zI (x2))), (3, .int (zI (xw))), (4, .int (zI (y2))), (5, .int (zI (z2)))]) hx hb dX7_oddsOf_59 hl (k := 6) rfl (by decide) rfl (fun ls hl => ?_)
          refine lv_goto (tgt := 9) hx hb dX7_oddsOf_62 (by decide) ?_
          exact ih_9 (i + 1) y2 z2 f2 _ _ _ (by omega) (hy2) (hz2) (by omega) hP hR hS (lv_sub hl [1, 2, 3, 4, 5, 6, 0] rfl)
        refine lv_aload_n hx hb dX7_oddsOf_18 rfl (lv_at hl 0 rfl) ?_
        refine lv_iload hx hb dX7_oddsOf_19 (lv_at hl 6 rfl) ?_
        refine g_callVi (As := [.int (zI (↑i))]) (rest := []) ⟨hx, hb, hml, hown, hts⟩ (k_X7_isFitOrder l D cI ad hinj (sA S 10 f) hR n hn hn7 (i) ↑i (by omega) (by omega) ((hO2 i (by omega)).1) ((hO2 i (by omega)).2.1)) (cwV 1 hts (gV hsub q_862 q_864 q_sX7_isFitOrder q_8 q_865) rfl rfl rfl hdX7_isFitOrder ⟨Nat.le_of_ble_eq_true rfl, Nat.le_of_ble_eq_true rfl⟩) (mEb D cI) (mEk D cI (mA ad)) hE (va_recv (ci := 7) (q0 := 0) hK hP rfl rfl) hP hS rfl hl.1 rfl (Nat.le_of_ble_eq_true rfl) dX7_oddsOf_21 ⟨Nat.le_of_ble_eq_true rfl, Nat.le_of_ble_eq_true rfl⟩ (fun r_6 S_7 H locs hq_8 hP hR hS _ => ?_)
        obtain ⟨f_9, rfl, hro_10, rfl⟩ := hq_8
        rw [sA_sA] at hP hR
        refine z_top (b := b2 (pB (fitP n (S 5) (dgF n (S 7 i))))) rfl ?_
        have hpf := prm_c hro_10 (hO2 i (by omega)).2.1
        have hpo := (hO2 i (by omega)).2.1
        refine z_ifeqB (tgt := 59) hx hb dX7_oddsOf_24 (by decide) (fun c_11 => ?_) (fun c_11 => ?_)
        · have h9 : True := trivial
          exact cut_59 y z f_9 _ _ _ ((Int.add_zero y).symm.trans (cnt_f (P := (fun k => pB (ftP n (S 5) (S 7) k ∧ pl n (dgF n (S 7 k)) u1 < pl n (dgF n (S 7 k)) u2))) (pB_f.mpr (fun h => pB_f.mp c_11 h.1)) hy)) ((Int.add_zero z).symm.trans (cnt_f (P := (fun k => pB (ftP n (S 5) (S 7) k))) c_11 hz)) hP hR hS (lv_sub hl [0, 1, 2, 3, 4, 5, 6] rfl)
        · have h9 : True := trivial
          refine z_iinc (lv' := [(5, .int (zI (z + 1))), (0, .ref (ad 26)), (1, .int (zI (x1))), (2, .int (zI (x2))), (3, .int (zI (xw))), (4, .int (zI (y))), (6, .int (zI (↑i)))]) hx hb dX7_oddsOf_27 hl (k := 5) rfl (by decide) rfl (fun ls hl => ?_)
          refine lv_iload hx hb dX7_oddsOf_30 (lv_at hl 5 rfl) ?_
          refine lv_aload_n hx hb dX7_oddsOf_32 rfl (lv_at hl 1 rfl) ?_
          refine va_get (D := D) (ci := 7) (v := .ref (ad 10)) (C := RX7) (T := TX7) (N := 26) hx hb hT inX7 hown hK hP 0 rfl rfl 10 (by decide) (hT _ q_682) (fun _ h9 => h9) rfl dX7_oddsOf_33 ?_
          refine lv_iload_n hx hb dX7_oddsOf_36 rfl (lv_at hl 2 rfl) ?_
          refine g_callSi (As := [.ref (ad 10), .int (zI (x1))]) (rest := [.int (zI (y))]) ⟨hx, hb, hml, hown, hts⟩ (k_X7_placeOf_10 l D cI ad hinj (sA S 10 f_9) hR n hn7 u1 x1 (by omega) (by omega) hpf) (cwS 2 hts (gS hsub q_843 q_844 q_8 q_845) rfl rfl rfl hdX7_placeOf ⟨Nat.le_of_ble_eq_true rfl, Nat.le_of_ble_eq_true rfl⟩) (mEb D cI) (mEk D cI (mA ad)) hE hP hS rfl hl.1 rfl (Nat.le_of_ble_eq_true rfl) dX7_oddsOf_37 ⟨Nat.le_of_ble_eq_true rfl, Nat.le_of_ble_eq_true rfl⟩ (fun r_12 S_13 H locs hq_14 hP hR hS _ => ?_)
          obtain ⟨hs9, rfl⟩ := hq_14
          obtain rfl := hs9.symm
          have g_15 := pl_lt (v := u1) (hpf) (by omega)
          refine z_top (b := ↑(pl n f_9 u1)) rfl ?_
          have hp1 := pl_lt hpo hu1
          refine z_top (b := ↑(pl n (dgF n (S 7 i)) u1)) (congrArg Nat.cast (pl_c hro_10 _)) ?_
          refine lv_aload_n hx hb dX7_oddsOf_40 rfl (lv_at hl 1 rfl) ?_
          refine va_get (D := D) (ci := 7) (v := .ref (ad 10)) (C := RX7) (T := TX7) (N := 26) hx hb hT inX7 hown hK hP 0 rfl rfl 10 (by decide) (hT _ q_682) (fun _ h9 => h9) rfl dX7_oddsOf_41 ?_
          refine lv_iload_n hx hb dX7_oddsOf_44 rfl (lv_at hl 3 rfl) ?_
          refine g_callSi (As := [.ref (ad 10), .int (zI (x2))]) (rest := [.int (zI (↑(pl n (dgF n (S 7 i)) u1))), .int (zI (y))]) ⟨hx, hb, hml, hown, hts⟩ (k_X7_placeOf_10 l D cI ad hinj (sA S 10 f_9) hR n hn7 u2 x2 (by omega) (by omega) hpf) (cwS 2 hts (gS hsub q_843 q_844 q_8 q_845) rfl rfl rfl hdX7_placeOf ⟨Nat.le_of_ble_eq_true rfl, Nat.le_of_ble_eq_true rfl⟩) (mEb D cI) (mEk D cI (mA ad)) hE hP hS rfl hl.1 rfl (Nat.le_of_ble_eq_true rfl) dX7_oddsOf_45 ⟨Nat.le_of_ble_eq_true rfl, Nat.le_of_ble_eq_true rfl⟩ (fun r_16 S_17 H locs hq_18 hP hR hS _ => ?_)
          obtain ⟨hs9, rfl⟩ := hq_18
          obtain rfl := hs9.symm
          have g_19 := pl_lt (v := u2) (hpf) (by omega)
          refine z_top (b := ↑(pl n f_9 u2)) rfl ?_
          have hp2 := pl_lt hpo hu2
          refine z_top (b := ↑(pl n (dgF n (S 7 i)) u2)) (congrArg Nat.cast (pl_c hro_10 _)) ?_
          refine z_icmp_ge (tgt := 55) hx hb (by omega) (by omega) (by omega) (by omega) dX7_oddsOf_48 (by decide) (fun c_20 => ?_) (fun c_20 => ?_)
          · have h9 : True := trivial
            refine z_iconst hx hb dX7_oddsOf_55 ?_
            refine z_iadd hx hb dX7_oddsOf_56 ?_
            refine lv_istore (lv' := [(4, .int (zI (y + 0))), (5, .int (zI (z + 1))), (0, .ref (ad 26)), (1, .int (zI (x1))), (2, .int (zI (x2))), (3, .int (zI (xw))), (6, .int (zI (↑i)))]) hx hb dX7_oddsOf_57 hl (by decide) rfl (fun ls hl => ?_)
            exact cut_59 (y + 0) (z + 1) f_9 _ _ _ (cnt_f (P := (fun k => pB (ftP n (S 5) (S 7) k ∧ pl n (dgF n (S 7 k)) u1 < pl n (dgF n (S 7 k)) u2))) (pB_f.mpr (fun h => by have := h.2; omega)) hy) (cnt_t (P := (fun k => pB (ftP n (S 5) (S 7) k))) c_11 hz) hP hR hS (lv_sub hl [2, 3, 4, 5, 0, 1, 6] rfl)
          · have h9 : True := trivial
            refine z_iconst hx hb dX7_oddsOf_51 ?_
            refine lv_goto (tgt := 56) hx hb dX7_oddsOf_52 (by decide) ?_
            refine z_iadd hx hb dX7_oddsOf_56 ?_
            refine lv_istore (lv' := [(4, .int (zI (y + 1))), (5, .int (zI (z + 1))), (0, .ref (ad 26)), (1, .int (zI (x1))), (2, .int (zI (x2))), (3, .int (zI (xw))), (6, .int (zI (↑i)))]) hx hb dX7_oddsOf_57 hl (by decide) rfl (fun ls hl => ?_)
            exact cut_59 (y + 1) (z + 1) f_9 _ _ _ (cnt_t (P := (fun k => pB (ftP n (S 5) (S 7) k ∧ pl n (dgF n (S 7 k)) u1 < pl n (dgF n (S 7 k)) u2))) (pB_t.mpr ⟨pB_t.mp c_11, by omega⟩) hy) (cnt_t (P := (fun k => pB (ftP n (S 5) (S 7) k))) c_11 hz) hP hR hS (lv_sub hl [2, 3, 4, 5, 0, 1, 6] rfl)
  have hSe_21 : S = sA S 10 (S 10) := by
    funext k8
    by_cases e80 : k8 = 10
    · subst e80; first | rfl | (funext j8; rfl)
    simp [sA, e80]
  rw [hSe_21] at hP hR
  exact cut_9 _ 0 0 0 (S 10) _ _ _ (by omega) (rfl) (rfl) (Nat.lt_succ_self _) hP hR hS (lv_sub hl [3, 4, 5, 6, 2, 1, 0] rfl)
set_option maxHeartbeats 4000000 in
set_option maxRecDepth 100000 in
theorem k_X7_worstBy (l : Launch) (D : va_G) (cI : ClassId) (ad : Nat → Nat) (hinj : mInj ad) (S : St) (hR : RS S) (n : Nat) (hn : S 2 0 = ↑n) (hn7 : n ≤ 7) (N : Nat) (hN : S 8 0 = ↑N) (hO : OT n N (S 7)) (m9 : Nat) (hm9 : S 15 0 = ↑m9) (hsg : sgOK n (S 16) m9) (u1 : Nat) (xd xl xa : Int) (hxl : xl = ↑u1) (hu1 : u1 < n) (hxd : 0 ≤ xd ∧ xd ≤ 8) (hxa : 0 ≤ xa ∧ xa ≤ 462) : Met l yX7_worstBy (Cond.code yX7_worstBy cX7_worstBy 6 (some .int) :: lwT) ({ frames := 2, cells := 0, slots := 0, locals := 48 }) (gPc D (mW cI ad) (mE D cI) S [.ref (ad 26), .int (zI (xd)), .int (zI (xl)), .int (zI (xa))]) (va_Qi (fun (r : Int32) (S' : St) => ∃ e10, S' = sA S 10 e10 ∧ r = zI (wsF xa (cnt (fun k => pB (lkP n (dgF n (S 7 k)) (S 16) m9 ∧ ((pl n (dgF n (S 7 k)) u1 : Nat) : Int) < xd)) N))) (gB D (mW cI ad)) (mA ad)) 0 0 (mA ad) := by
  refine Met.ofW (cc := cX7_worstBy) (maxL := 6) (ret := (some .int)) (by decide) rfl ?_
  intro p e s m args below meth c s₁ B hml hv
  obtain ⟨rfl, hP, hE⟩ := hv
  have hx := B.exec
  have hb := B.bytes
  have hr := B.returns
  have hts := atoms_spec (ws := Cond.code yX7_worstBy cX7_worstBy 6 (some .int) :: lwT) B.pre
  have hT := fun w (h : w ∈ lwT) => hts w (List.mem_cons_of_mem _ h)
  have hsub : ∀ w ∈ lwT, w ∈ (Cond.code yX7_worstBy cX7_worstBy 6 (some .int) :: lwT) := fun w h => List.mem_cons_of_mem _ h
  have hown : s.vm.findClass RX7 = some m.cls := findClass_of_methodNamed B.named
  have hlocks := B.notSynchronized
  have hK : va_K D vwCl [(cI, .int)] s := hE
  have hS : va_S (mA ad) s.heap s.heap [] := va_S.rf
  have hO1 := hO.1
  have hO2 := hO.2.1
  have hl := lv_entry ([.ref (ad 26), .int (zI (xd)), .int (zI (xl)), .int (zI (xa))]) (n := 6) (Nat.le_of_ble_eq_true rfl)
  rw [lg_entry_eq]
  generalize (lg_sl ([.ref (ad 26), .int (zI (xd)), .int (zI (xl)), .int (zI (xa))]) ++ List.replicate (6 - (lg_sl ([.ref (ad 26), .int (zI (xd)), .int (zI (xl)), .int (zI (xa))])).length) Slot.unset).toArray = ls at hl ⊢
  have hl : lv_has ls 6 [(0, .ref (ad 26)), (1, .int (zI (xd))), (2, .int (zI (xl))), (3, .int (zI (xa)))] := hl
  refine z_iconst hx hb dX7_worstBy_0 ?_
  refine lv_istore (lv' := [(4, .int (zI (0))), (0, .ref (ad 26)), (1, .int (zI (xd))), (2, .int (zI (xl))), (3, .int (zI (xa)))]) hx hb dX7_worstBy_1 hl (by decide) rfl (fun ls hl => ?_)
  refine z_iconst hx hb dX7_worstBy_3 ?_
  refine lv_istore (lv' := [(5, .int (zI (0))), (4, .int (zI (0))), (0, .ref (ad 26)), (1, .int (zI (xd))), (2, .int (zI (xl))), (3, .int (zI (xa)))]) hx hb dX7_worstBy_4 hl (by decide) rfl (fun ls hl => ?_)
  have cut_6 : ∀ (k9 : Nat) (i : Nat) (y : Int) (f : Nat → Int) (H : Heap) (locs : List Loc) (ls : Array Slot), (i ≤ N) → (y = cnt (fun k => pB (lkP n (dgF n (S 7 k)) (S 16) m9 ∧ ((pl n (dgF n (S 7 k)) u1 : Nat) : Int) < xd)) i) → (N - i) < k9 → va_P D vwCl (mW cI ad (sA S 10 f)) H → RS (sA S 10 f) → va_S (mA ad) s.heap H locs → lv_has ls 6 [(0, .ref (ad 26)), (1, .int (zI (xd))), (2, .int (zI (xl))), (3, .int (zI (xa))), (4, .int (zI (y))), (5, .int (zI (↑i)))] → W p l e (headSpec (Cond.code yX7_worstBy cX7_worstBy 6 (some .int) :: lwT) ({ frames := 2, cells := 0, slots := 0, locals := 48 })).room s m ([.ref (ad 26), .int (zI (xd)), .int (zI (xl)), .int (zI (xa))] : List Value).toArray below meth c H locs 0 0 (MQ below (va_Qi (fun (r : Int32) (S' : St) => ∃ e10, S' = sA S 10 e10 ∧ r = zI (wsF xa (cnt (fun k => pB (lkP n (dgF n (S 7 k)) (S 16) m9 ∧ ((pl n (dgF n (S 7 k)) u1 : Nat) : Int) < xd)) N))) (gB D (mW cI ad)) (mA ad)) ([.ref (ad 26), .int (zI (xd)), .int (zI (xl)), .int (zI (xa))] : List Value).toArray s 0 0 (mA ad)) (F0 m 6 ls []) := by
    intro k9
    induction k9 with
    | zero =>
      intro i y f H locs ls hi hy hk9 hP hR hS hl
      exact absurd hk9 (Nat.not_lt_zero _)
    | succ k9 ih_6 =>
      intro i y f H locs ls hi hy hk9 hP hR hS hl
      have hyr := cnt_r (fun k => pB (lkP n (dgF n (S 7 k)) (S 16) m9 ∧ ((pl n (dgF n (S 7 k)) u1 : Nat) : Int) < xd)) i
      refine lv_iload hx hb dX7_worstBy_6 (lv_at hl 5 rfl) ?_
      refine lv_aload_n hx hb dX7_worstBy_8 rfl (lv_at hl 0 rfl) ?_
      have g_1 : -2147483648 ≤ S 8 0 ∧ S 8 0 < 2147483648 := hR 8 0 (by decide)
      refine va_get (D := D) (ci := 7) (v := .int (zI (S 8 0))) (C := RX7) (T := TX7) (N := 26) hx hb hT inX7 hown hK hP 0 rfl rfl 8 (by decide) (hT _ q_680) (fun _ h9 => h9) rfl dX7_worstBy_9 ?_
      refine z_icmp_ge (tgt := 52) hx hb (by omega) (by omega) (by omega) (by omega) dX7_worstBy_12 (by decide) (fun c_2 => ?_) (fun c_2 => ?_)
      · have h9 : True := trivial
        refine lv_iload hx hb dX7_worstBy_52 (lv_at hl 4 rfl) ?_
        refine lv_iload_n hx hb dX7_worstBy_54 rfl (lv_at hl 3 rfl) ?_
        refine lv_iload hx hb dX7_worstBy_55 (lv_at hl 4 rfl) ?_
        refine z_isub hx hb dX7_worstBy_57 ?_
        refine z_icmp_le (tgt := 66) hx hb (by omega) (by omega) (by omega) (by omega) dX7_worstBy_58 (by decide) (fun c_3 => ?_) (fun c_3 => ?_)
        · have h9 : True := trivial
          refine lv_iload_n hx hb dX7_worstBy_66 rfl (lv_at hl 3 rfl) ?_
          refine lv_iload hx hb dX7_worstBy_67 (lv_at hl 4 rfl) ?_
          refine z_isub hx hb dX7_worstBy_69 ?_
          exact g_iret (S1 := sA S 10 f) (v := zI (xa - y)) hx hb hr hlocks hP hR hS (⟨_, rfl, by rw [show N = i by omega, ← hy]; unfold wsF; rw [if_pos (by omega)]⟩) dX7_worstBy_70
        · have h9 : True := trivial
          refine lv_iload hx hb dX7_worstBy_61 (lv_at hl 4 rfl) ?_
          refine lv_goto (tgt := 70) hx hb dX7_worstBy_63 (by decide) ?_
          exact g_iret (S1 := sA S 10 f) (v := zI (y)) hx hb hr hlocks hP hR hS (⟨_, rfl, by rw [show N = i by omega, ← hy]; unfold wsF; rw [if_neg (by omega)]⟩) dX7_worstBy_70
      · have h9 : True := trivial
        refine lv_iload hx hb dX7_worstBy_15 (lv_at hl 4 rfl) ?_
        refine lv_aload_n hx hb dX7_worstBy_17 rfl (lv_at hl 0 rfl) ?_
        refine lv_iload hx hb dX7_worstBy_18 (lv_at hl 5 rfl) ?_
        refine g_callVi (As := [.int (zI (↑i))]) (rest := [.int (zI (y))]) ⟨hx, hb, hml, hown, hts⟩ (k_X7_isLikely l D cI ad hinj (sA S 10 f) hR n hn hn7 N hN hO m9 hm9 hsg (i) ↑i (by omega) (by omega)) (cwV 1 hts (gV hsub q_1005 q_1007 q_sX7_isLikely q_8 q_1008) rfl rfl rfl hdX7_isLikely ⟨Nat.le_of_ble_eq_true rfl, Nat.le_of_ble_eq_true rfl⟩) (mEb D cI) (mEk D cI (mA ad)) hE (va_recv (ci := 7) (q0 := 0) hK hP rfl rfl) hP hS rfl hl.1 rfl (Nat.le_of_ble_eq_true rfl) dX7_worstBy_20 ⟨Nat.le_of_ble_eq_true rfl, Nat.le_of_ble_eq_true rfl⟩ (fun r_4 S_5 H locs hq_6 hP hR hS _ => ?_)
        obtain ⟨e_7, rfl, hro_8, rfl⟩ := hq_6
        rw [sA_sA] at hP hR
        refine z_top (b := b2 (pB (lkP n (dgF n (S 7 i)) (S 16) m9))) rfl ?_
        have hpf := prm_c hro_8 (hO2 i (by omega)).2.1
        have hpo := (hO2 i (by omega)).2.1
        refine z_ifeqB (tgt := 42) hx hb dX7_worstBy_23 (by decide) (fun c_9 => ?_) (fun c_9 => ?_)
        · have h9 : True := trivial
          refine z_iconst hx hb dX7_worstBy_42 ?_
          refine z_iadd hx hb dX7_worstBy_43 ?_
          refine lv_istore (lv' := [(4, .int (zI (y + 0))), (0, .ref (ad 26)), (1, .int (zI (xd))), (2, .int (zI (xl))), (3, .int (zI (xa))), (5, .int (zI (↑i)))]) hx hb dX7_worstBy_44 hl (by decide) rfl (fun ls hl => ?_)
          refine z_iinc (lv' := [(5, .int (zI (↑i + 1))), (4, .int (zI (y + 0))), (0, .ref (ad 26)), (1, .int (zI (xd))), (2, .int (zI (xl))), (3, .int (zI (xa)))]) hx hb dX7_worstBy_46 hl (k := 5) rfl (by decide) rfl (fun ls hl => ?_)
          refine lv_goto (tgt := 6) hx hb dX7_worstBy_49 (by decide) ?_
          exact ih_6 (i + 1) (y + 0) e_7 _ _ _ (by omega) (cnt_f (P := (fun k => pB (lkP n (dgF n (S 7 k)) (S 16) m9 ∧ ((pl n (dgF n (S 7 k)) u1 : Nat) : Int) < xd))) (pB_f.mpr (fun h => pB_f.mp c_9 h.1)) hy) (by omega) hP hR hS (lv_sub hl [2, 3, 4, 5, 1, 0] rfl)
        · have h9 : True := trivial
          refine lv_aload_n hx hb dX7_worstBy_26 rfl (lv_at hl 0 rfl) ?_
          refine va_get (D := D) (ci := 7) (v := .ref (ad 10)) (C := RX7) (T := TX7) (N := 26) hx hb hT inX7 hown hK hP 0 rfl rfl 10 (by decide) (hT _ q_682) (fun _ h9 => h9) rfl dX7_worstBy_27 ?_
          refine lv_iload_n hx hb dX7_worstBy_30 rfl (lv_at hl 2 rfl) ?_
          refine g_callSi (As := [.ref (ad 10), .int (zI (xl))]) (rest := [.int (zI (y))]) ⟨hx, hb, hml, hown, hts⟩ (k_X7_placeOf_10 l D cI ad hinj (sA S 10 e_7) hR n hn7 u1 xl (by omega) (by omega) hpf) (cwS 2 hts (gS hsub q_843 q_844 q_8 q_845) rfl rfl rfl hdX7_placeOf ⟨Nat.le_of_ble_eq_true rfl, Nat.le_of_ble_eq_true rfl⟩) (mEb D cI) (mEk D cI (mA ad)) hE hP hS rfl hl.1 rfl (Nat.le_of_ble_eq_true rfl) dX7_worstBy_31 ⟨Nat.le_of_ble_eq_true rfl, Nat.le_of_ble_eq_true rfl⟩ (fun r_10 S_11 H locs hq_12 hP hR hS _ => ?_)
          obtain ⟨hs9, rfl⟩ := hq_12
          obtain rfl := hs9.symm
          have g_13 := pl_lt (v := u1) (hpf) (by omega)
          refine z_top (b := ↑(pl n e_7 u1)) rfl ?_
          have hp1 := pl_lt hpo hu1
          refine z_top (b := ↑(pl n (dgF n (S 7 i)) u1)) (congrArg Nat.cast (pl_c hro_8 _)) ?_
          refine lv_iload_n hx hb dX7_worstBy_34 rfl (lv_at hl 1 rfl) ?_
          refine z_icmp_ge (tgt := 42) hx hb (by omega) (by omega) (by omega) (by omega) dX7_worstBy_35 (by decide) (fun c_14 => ?_) (fun c_14 => ?_)
          · have h9 : True := trivial
            refine z_iconst hx hb dX7_worstBy_42 ?_
            refine z_iadd hx hb dX7_worstBy_43 ?_
            refine lv_istore (lv' := [(4, .int (zI (y + 0))), (0, .ref (ad 26)), (1, .int (zI (xd))), (2, .int (zI (xl))), (3, .int (zI (xa))), (5, .int (zI (↑i)))]) hx hb dX7_worstBy_44 hl (by decide) rfl (fun ls hl => ?_)
            refine z_iinc (lv' := [(5, .int (zI (↑i + 1))), (4, .int (zI (y + 0))), (0, .ref (ad 26)), (1, .int (zI (xd))), (2, .int (zI (xl))), (3, .int (zI (xa)))]) hx hb dX7_worstBy_46 hl (k := 5) rfl (by decide) rfl (fun ls hl => ?_)
            refine lv_goto (tgt := 6) hx hb dX7_worstBy_49 (by decide) ?_
            exact ih_6 (i + 1) (y + 0) e_7 _ _ _ (by omega) (cnt_f (P := (fun k => pB (lkP n (dgF n (S 7 k)) (S 16) m9 ∧ ((pl n (dgF n (S 7 k)) u1 : Nat) : Int) < xd))) (pB_f.mpr (fun h => by have := h.2; omega)) hy) (by omega) hP hR hS (lv_sub hl [2, 3, 4, 5, 1, 0] rfl)
          · have h9 : True := trivial
            refine z_iconst hx hb dX7_worstBy_38 ?_
            refine lv_goto (tgt := 43) hx hb dX7_worstBy_39 (by decide) ?_
            refine z_iadd hx hb dX7_worstBy_43 ?_
            refine lv_istore (lv' := [(4, .int (zI (y + 1))), (0, .ref (ad 26)), (1, .int (zI (xd))), (2, .int (zI (xl))), (3, .int (zI (xa))), (5, .int (zI (↑i)))]) hx hb dX7_worstBy_44 hl (by decide) rfl (fun ls hl => ?_)
            refine z_iinc (lv' := [(5, .int (zI (↑i + 1))), (4, .int (zI (y + 1))), (0, .ref (ad 26)), (1, .int (zI (xd))), (2, .int (zI (xl))), (3, .int (zI (xa)))]) hx hb dX7_worstBy_46 hl (k := 5) rfl (by decide) rfl (fun ls hl => ?_)
            refine lv_goto (tgt := 6) hx hb dX7_worstBy_49 (by decide) ?_
            exact ih_6 (i + 1) (y + 1) e_7 _ _ _ (by omega) (cnt_t (P := (fun k => pB (lkP n (dgF n (S 7 k)) (S 16) m9 ∧ ((pl n (dgF n (S 7 k)) u1 : Nat) : Int) < xd))) (pB_t.mpr ⟨pB_t.mp c_9, by omega⟩) hy) (by omega) hP hR hS (lv_sub hl [2, 3, 4, 5, 1, 0] rfl)
  have hSe_15 : S = sA S 10 (S 10) := by
    funext k8
    by_cases e80 : k8 = 10
    · subst e80; first | rfl | (funext j8; rfl)
    simp [sA, e80]
  rw [hSe_15] at hP hR
  exact cut_6 _ 0 0 (S 10) _ _ _ (by omega) (rfl) (Nat.lt_succ_self _) hP hR hS (lv_sub hl [2, 3, 4, 5, 1, 0] rfl)
set_option maxHeartbeats 4000000 in
set_option maxRecDepth 100000 in
theorem k_X7_trialOf (l : Launch) (D : va_G) (cI : ClassId) (ad : Nat → Nat) (hinj : mInj ad) (S : St) (hR : RS S) (n : Nat) (hn : S 2 0 = ↑n) (hn7 : n ≤ 7) (N : Nat) (hN : S 8 0 = ↑N) (hO : OT n N (S 7)) (m9 : Nat) (hm9 : S 15 0 = ↑m9) (hsg : sgOK n (S 16) m9) : Met l yX7_trialOf (Cond.code yX7_trialOf cX7_trialOf 6 (some .int) :: lwT) ({ frames := 3, cells := 0, slots := 0, locals := 73 }) (gPc D (mW cI ad) (mE D cI) S [.ref (ad 26)]) (va_Qi (fun (r : Int32) (S' : St) => ∃ e10, S' = sA S 10 e10 ∧ ∃ x : Int, argm (fun _ => 0 < cnt (fun k => pB (lkP n (dgF n (S 7 k)) (S 16) m9)) N) (wtF n N (S 7) (S 16) m9) (n * n) x ∧ r = zI (trF n x)) (gB D (mW cI ad)) (mA ad)) 0 0 (mA ad) := by
  refine Met.ofW (cc := cX7_trialOf) (maxL := 6) (ret := (some .int)) (by decide) rfl ?_
  intro p e s m args below meth c s₁ B hml hv
  obtain ⟨rfl, hP, hE⟩ := hv
  have hx := B.exec
  have hb := B.bytes
  have hr := B.returns
  have hts := atoms_spec (ws := Cond.code yX7_trialOf cX7_trialOf 6 (some .int) :: lwT) B.pre
  have hT := fun w (h : w ∈ lwT) => hts w (List.mem_cons_of_mem _ h)
  have hsub : ∀ w ∈ lwT, w ∈ (Cond.code yX7_trialOf cX7_trialOf 6 (some .int) :: lwT) := fun w h => List.mem_cons_of_mem _ h
  have hown : s.vm.findClass RX7 = some m.cls := findClass_of_methodNamed B.named
  have hlocks := B.notSynchronized
  have hK : va_K D vwCl [(cI, .int)] s := hE
  have hS : va_S (mA ad) s.heap s.heap [] := va_S.rf
  have hO1 := hO.1
  have hO2 := hO.2.1
  have hnn : n * n ≤ 49 := Nat.mul_le_mul hn7 hn7
  have har := cnt_r (fun k => pB (lkP n (dgF n (S 7 k)) (S 16) m9)) N
  obtain ⟨al, hal⟩ : ∃ al, al = cnt (fun k => pB (lkP n (dgF n (S 7 k)) (S 16) m9)) N := ⟨_, rfl⟩
  have hl := lv_entry ([.ref (ad 26)]) (n := 6) (Nat.le_of_ble_eq_true rfl)
  rw [lg_entry_eq]
  generalize (lg_sl ([.ref (ad 26)]) ++ List.replicate (6 - (lg_sl ([.ref (ad 26)])).length) Slot.unset).toArray = ls at hl ⊢
  have hl : lv_has ls 6 [(0, .ref (ad 26))] := hl
  refine lv_aload_n hx hb dX7_trialOf_0 rfl (lv_at hl 0 rfl) ?_
  refine g_callVi (As := []) (rest := []) ⟨hx, hb, hml, hown, hts⟩ (k_X7_couldOf l D cI ad hinj S hR n hn hn7 N hN hO m9 hm9 hsg) (cwV 0 hts (gV hsub q_1001 q_1003 q_sX7_couldOf q_8 q_1004) rfl rfl rfl hdX7_couldOf ⟨Nat.le_of_ble_eq_true rfl, Nat.le_of_ble_eq_true rfl⟩) (mEb D cI) (mEk D cI (mA ad)) hE (va_recv (ci := 7) (q0 := 0) hK hP rfl rfl) hP hS rfl hl.1 rfl (Nat.le_of_ble_eq_true rfl) dX7_trialOf_1 ⟨Nat.le_of_ble_eq_true rfl, Nat.le_of_ble_eq_true rfl⟩ (fun r_1 S_2 H locs hq_3 hP hR hS _ => ?_)
  obtain ⟨e_4, rfl, rfl⟩ := hq_3
  refine z_top (b := cnt (fun k => pB (lkP n (dgF n (S 7 k)) (S 16) m9)) N) rfl ?_
  refine z_top (b := al) (hal.symm) ?_
  refine lv_istore_n (lv' := [(1, .int (zI (al))), (0, .ref (ad 26))]) hx hb dX7_trialOf_4 rfl hl (by decide) rfl (fun ls hl => ?_)
  refine z_iconst hx hb dX7_trialOf_5 ?_
  refine lv_istore_n (lv' := [(2, .int (zI (-1))), (1, .int (zI (al))), (0, .ref (ad 26))]) hx hb dX7_trialOf_6 rfl hl (by decide) rfl (fun ls hl => ?_)
  refine z_sipush hx hb dX7_trialOf_7 (by decide) ?_
  refine lv_istore_n (lv' := [(3, .int (zI (1000))), (2, .int (zI (-1))), (1, .int (zI (al))), (0, .ref (ad 26))]) hx hb dX7_trialOf_10 rfl hl (by decide) rfl (fun ls hl => ?_)
  refine z_iconst hx hb dX7_trialOf_11 ?_
  refine lv_istore (lv' := [(4, .int (zI (0))), (3, .int (zI (1000))), (2, .int (zI (-1))), (1, .int (zI (al))), (0, .ref (ad 26))]) hx hb dX7_trialOf_12 hl (by decide) rfl (fun ls hl => ?_)
  have cut_14 : ∀ (k9 : Nat) (i : Nat) (xk : Int) (x : Int) (y : Int) (f : Nat → Int) (H : Heap) (locs : List Loc) (ls : Array Slot), (i ≤ n * n) → (i = 0 ∨ 0 < al) → (argm (fun _ => 0 < cnt (fun k => pB (lkP n (dgF n (S 7 k)) (S 16) m9)) N) (wtF n N (S 7) (S 16) m9) i xk) → (x = trF n xk) → (xk = -1 → y = 1000) → (∀ b : Nat, xk = ↑b → y = (wtF n N (S 7) (S 16) m9) b) → (0 ≤ y ∧ y ≤ 1000) → (n * n - i) < k9 → va_P D vwCl (mW cI ad (sA S 10 f)) H → RS (sA S 10 f) → va_S (mA ad) s.heap H locs → lv_has ls 6 [(0, .ref (ad 26)), (1, .int (zI (al))), (2, .int (zI (x))), (3, .int (zI (y))), (4, .int (zI (↑i)))] → W p l e (headSpec (Cond.code yX7_trialOf cX7_trialOf 6 (some .int) :: lwT) ({ frames := 3, cells := 0, slots := 0, locals := 73 })).room s m ([.ref (ad 26)] : List Value).toArray below meth c H locs 0 0 (MQ below (va_Qi (fun (r : Int32) (S' : St) => ∃ e10, S' = sA S 10 e10 ∧ ∃ x : Int, argm (fun _ => 0 < cnt (fun k => pB (lkP n (dgF n (S 7 k)) (S 16) m9)) N) (wtF n N (S 7) (S 16) m9) (n * n) x ∧ r = zI (trF n x)) (gB D (mW cI ad)) (mA ad)) ([.ref (ad 26)] : List Value).toArray s 0 0 (mA ad)) (F0 m 14 ls []) := by
    intro k9
    induction k9 with
    | zero =>
      intro i xk x y f H locs ls hi hal0 hm hxk hy1 hy2 hyr hk9 hP hR hS hl
      exact absurd hk9 (Nat.not_lt_zero _)
    | succ k9 ih_14 =>
      intro i xk x y f H locs ls hi hal0 hm hxk hy1 hy2 hyr hk9 hP hR hS hl
      have hxr := argm_r hm
      refine lv_iload hx hb dX7_trialOf_14 (lv_at hl 4 rfl) ?_
      refine lv_aload_n hx hb dX7_trialOf_16 rfl (lv_at hl 0 rfl) ?_
      have g_5 : -2147483648 ≤ S 2 0 ∧ S 2 0 < 2147483648 := hR 2 0 (by decide)
      refine va_get (D := D) (ci := 7) (v := .int (zI (S 2 0))) (C := RX7) (T := TX7) (N := 26) hx hb hT inX7 hown hK hP 0 rfl rfl 2 (by decide) (hT _ q_674) (fun _ h9 => h9) rfl dX7_trialOf_17 ?_
      refine lv_aload_n hx hb dX7_trialOf_20 rfl (lv_at hl 0 rfl) ?_
      refine va_get (D := D) (ci := 7) (v := .int (zI (S 2 0))) (C := RX7) (T := TX7) (N := 26) hx hb hT inX7 hown hK hP 0 rfl rfl 2 (by decide) (hT _ q_674) (fun _ h9 => h9) rfl dX7_trialOf_21 ?_
      refine z_imul hx hb dX7_trialOf_24 ?_
      refine z_top (b := ↑(n * n)) (by rw [hn]; exact (Int.natCast_mul n n).symm) ?_
      refine z_icmp_ge (tgt := 105) hx hb (by omega) (by omega) (by omega) (by omega) dX7_trialOf_25 (by decide) (fun c_6 => ?_) (fun c_6 => ?_)
      · have h9 : True := trivial
        refine lv_iload_n hx hb dX7_trialOf_105 rfl (lv_at hl 2 rfl) ?_
        exact g_iret (S1 := sA S 10 f) (v := zI (x)) hx hb hr hlocks hP hR hS (⟨_, rfl, xk, (show i = n * n by omega) ▸ hm, by rw [hxk]⟩) dX7_trialOf_106
      · have h9 : True := trivial
        refine lv_iload_n hx hb dX7_trialOf_28 rfl (lv_at hl 1 rfl) ?_
        refine z_if_le (tgt := 105) hx hb (by omega) (by omega) dX7_trialOf_29 (by decide) (fun c_7 => ?_) (fun c_7 => ?_)
        · have h9 : True := trivial
          refine lv_iload_n hx hb dX7_trialOf_105 rfl (lv_at hl 2 rfl) ?_
          exact g_iret (S1 := sA S 10 f) (v := zI (x)) hx hb hr hlocks hP hR hS (⟨_, rfl, xk, Or.inl ⟨by omega, fun k _ h => by rw [← hal] at h; omega⟩, by rw [hxk]⟩) dX7_trialOf_106
        · have h9 : True := trivial
          have hn0 : 0 < n := Nat.pos_of_ne_zero (fun e => by subst e; omega)
          have hm1 := Nat.div_lt_of_lt_mul (show i < n * n by omega)
          have hm2 := Nat.mod_lt i hn0
          refine lv_aload_n hx hb dX7_trialOf_32 rfl (lv_at hl 0 rfl) ?_
          refine lv_iload hx hb dX7_trialOf_33 (lv_at hl 4 rfl) ?_
          refine lv_aload_n hx hb dX7_trialOf_35 rfl (lv_at hl 0 rfl) ?_
          refine va_get (D := D) (ci := 7) (v := .int (zI (S 2 0))) (C := RX7) (T := TX7) (N := 26) hx hb hT inX7 hown hK hP 0 rfl rfl 2 (by decide) (hT _ q_674) (fun _ h9 => h9) rfl dX7_trialOf_36 ?_
          refine z_idiv hx hb (by omega) (by omega) (by omega) (by omega) dX7_trialOf_39 ?_
          refine z_top (b := ↑(i / n)) (by rw [hn]; rfl) ?_
          refine z_iconst hx hb dX7_trialOf_40 ?_
          refine z_iadd hx hb dX7_trialOf_41 ?_
          refine lv_iload hx hb dX7_trialOf_42 (lv_at hl 4 rfl) ?_
          refine lv_aload_n hx hb dX7_trialOf_44 rfl (lv_at hl 0 rfl) ?_
          refine va_get (D := D) (ci := 7) (v := .int (zI (S 2 0))) (C := RX7) (T := TX7) (N := 26) hx hb hT inX7 hown hK hP 0 rfl rfl 2 (by decide) (hT _ q_674) (fun _ h9 => h9) rfl dX7_trialOf_45 ?_
          refine z_irem hx hb (by omega) (by omega) (by omega) (by omega) dX7_trialOf_48 ?_
          refine z_top (b := ↑(i % n)) (by rw [hn]; rfl) ?_
          refine lv_iload_n hx hb dX7_trialOf_49 rfl (lv_at hl 1 rfl) ?_
          refine g_callVi (As := [.int (zI ((↑(i / n)) + 1)), .int (zI (↑(i % n))), .int (zI (al))]) (rest := []) ⟨hx, hb, hml, hown, hts⟩ (k_X7_worstBy l D cI ad hinj (sA S 10 f) hR n hn hn7 N hN hO m9 hm9 hsg (i % n) ((↑(i / n)) + 1) (↑(i % n)) al rfl (Nat.mod_lt _ hn0) ⟨Int.add_nonneg (Int.natCast_nonneg _) (by decide), by omega⟩ (by omega)) (cwV 3 hts (gV hsub q_1017 q_1019 q_sX7_worstBy q_8 q_1020) rfl rfl rfl hdX7_worstBy ⟨Nat.le_of_ble_eq_true rfl, Nat.le_of_ble_eq_true rfl⟩) (mEb D cI) (mEk D cI (mA ad)) hE (va_recv (ci := 7) (q0 := 0) hK hP rfl rfl) hP hS rfl hl.1 rfl (Nat.le_of_ble_eq_true rfl) dX7_trialOf_50 ⟨Nat.le_of_ble_eq_true rfl, Nat.le_of_ble_eq_true rfl⟩ (fun r_8 S_9 H locs hq_10 hP hR hS _ => ?_)
          obtain ⟨e_11, rfl, rfl⟩ := hq_10
          rw [sA_sA] at hP hR
          refine z_top (b := wsF al (cnt (fun k => pB (lkP n (dgF n (S 7 k)) (S 16) m9 ∧ ((pl n (dgF n (S 7 k)) (i % n) : Nat) : Int) < ((↑(i / n)) + 1))) N)) rfl ?_
          have hwr := wtF_r n N (S 7) (S 16) m9 i hO1
          refine z_top (b := wtF n N (S 7) (S 16) m9 i) (by rw [hal]; rfl) ?_
          refine lv_istore (lv' := [(5, .int (zI (wtF n N (S 7) (S 16) m9 i))), (0, .ref (ad 26)), (1, .int (zI (al))), (2, .int (zI (x))), (3, .int (zI (y))), (4, .int (zI (↑i)))]) hx hb dX7_trialOf_53 hl (by decide) rfl (fun ls hl => ?_)
          refine lv_iload hx hb dX7_trialOf_55 (lv_at hl 0 rfl) ?_
          refine lv_iload_n hx hb dX7_trialOf_57 rfl (lv_at hl 4 rfl) ?_
          refine z_icmp_ge (tgt := 84) hx hb (by omega) (by omega) (by omega) (by omega) dX7_trialOf_58 (by decide) (fun c_12 => ?_) (fun c_12 => ?_)
          · have h9 : True := trivial
            refine lv_iload_n hx hb dX7_trialOf_84 rfl (lv_at hl 3 rfl) ?_
            refine lv_istore_n (lv' := [(2, .int (zI (x))), (5, .int (zI (wtF n N (S 7) (S 16) m9 i))), (0, .ref (ad 26)), (1, .int (zI (al))), (3, .int (zI (y))), (4, .int (zI (↑i)))]) hx hb dX7_trialOf_85 rfl hl (by decide) rfl (fun ls hl => ?_)
            refine lv_iload hx hb dX7_trialOf_86 (lv_at hl 1 rfl) ?_
            refine lv_iload_n hx hb dX7_trialOf_88 rfl (lv_at hl 4 rfl) ?_
            refine z_icmp_ge (tgt := 97) hx hb (by omega) (by omega) (by omega) (by omega) dX7_trialOf_89 (by decide) (fun c_13 => ?_) (fun c_13 => ?_)
            · have h9 : True := trivial
              refine lv_iload_n hx hb dX7_trialOf_97 rfl (lv_at hl 4 rfl) ?_
              refine lv_istore_n (lv' := [(3, .int (zI (y))), (2, .int (zI (x))), (5, .int (zI (wtF n N (S 7) (S 16) m9 i))), (0, .ref (ad 26)), (1, .int (zI (al))), (4, .int (zI (↑i)))]) hx hb dX7_trialOf_98 rfl hl (by decide) rfl (fun ls hl => ?_)
              refine z_iinc (lv' := [(4, .int (zI (↑i + 1))), (3, .int (zI (y))), (2, .int (zI (x))), (5, .int (zI (wtF n N (S 7) (S 16) m9 i))), (0, .ref (ad 26)), (1, .int (zI (al)))]) hx hb dX7_trialOf_99 hl (k := 5) rfl (by decide) rfl (fun ls hl => ?_)
              refine lv_goto (tgt := 14) hx hb dX7_trialOf_102 (by decide) ?_
              exact ih_14 (i + 1) xk x y e_11 _ _ _ (by omega) (by omega) (argm_k hm (fun e => by have := hy1 e; omega) (fun b e => by have := hy2 b e; omega)) (hxk) (hy1) (hy2) (by omega) (by omega) hP hR hS (lv_sub hl [4, 5, 2, 1, 0] rfl)
            · exact False.elim (by omega)
          · have h9 : True := trivial
            refine z_bipush hx hb dX7_trialOf_61 (by decide) ?_
            refine lv_iload hx hb dX7_trialOf_63 (lv_at hl 5 rfl) ?_
            refine lv_aload_n hx hb dX7_trialOf_65 rfl (lv_at hl 1 rfl) ?_
            refine va_get (D := D) (ci := 7) (v := .int (zI (S 2 0))) (C := RX7) (T := TX7) (N := 26) hx hb hT inX7 hown hK hP 0 rfl rfl 2 (by decide) (hT _ q_674) (fun _ h9 => h9) rfl dX7_trialOf_66 ?_
            refine z_idiv hx hb (by omega) (by omega) (by omega) (by omega) dX7_trialOf_69 ?_
            refine z_top (b := ↑(i / n)) (by rw [hn]; rfl) ?_
            refine z_iconst hx hb dX7_trialOf_70 ?_
            refine z_iadd hx hb dX7_trialOf_71 ?_
            refine z_imul hx hb dX7_trialOf_72 ?_
            refine lv_iload hx hb dX7_trialOf_73 (lv_at hl 5 rfl) ?_
            refine lv_aload_n hx hb dX7_trialOf_75 rfl (lv_at hl 1 rfl) ?_
            refine va_get (D := D) (ci := 7) (v := .int (zI (S 2 0))) (C := RX7) (T := TX7) (N := 26) hx hb hT inX7 hown hK hP 0 rfl rfl 2 (by decide) (hT _ q_674) (fun _ h9 => h9) rfl dX7_trialOf_76 ?_
            refine z_irem hx hb (by omega) (by omega) (by omega) (by omega) dX7_trialOf_79 ?_
            refine z_top (b := ↑(i % n)) (by rw [hn]; rfl) ?_
            refine z_iadd hx hb dX7_trialOf_80 ?_
            refine lv_goto (tgt := 85) hx hb dX7_trialOf_81 (by decide) ?_
            refine lv_istore_n (lv' := [(2, .int (zI ((10 * ((↑(i / n)) + 1)) + (↑(i % n))))), (5, .int (zI (wtF n N (S 7) (S 16) m9 i))), (0, .ref (ad 26)), (1, .int (zI (al))), (3, .int (zI (y))), (4, .int (zI (↑i)))]) hx hb dX7_trialOf_85 rfl hl (by decide) rfl (fun ls hl => ?_)
            refine lv_iload hx hb dX7_trialOf_86 (lv_at hl 1 rfl) ?_
            refine lv_iload_n hx hb dX7_trialOf_88 rfl (lv_at hl 4 rfl) ?_
            refine z_icmp_ge (tgt := 97) hx hb (by omega) (by omega) (by omega) (by omega) dX7_trialOf_89 (by decide) (fun c_14 => ?_) (fun c_14 => ?_)
            · exact False.elim (by omega)
            · have h9 : True := trivial
              refine lv_iload hx hb dX7_trialOf_92 (lv_at hl 1 rfl) ?_
              refine lv_goto (tgt := 98) hx hb dX7_trialOf_94 (by decide) ?_
              refine lv_istore_n (lv' := [(3, .int (zI (wtF n N (S 7) (S 16) m9 i))), (2, .int (zI ((10 * ((↑(i / n)) + 1)) + (↑(i % n))))), (5, .int (zI (wtF n N (S 7) (S 16) m9 i))), (0, .ref (ad 26)), (1, .int (zI (al))), (4, .int (zI (↑i)))]) hx hb dX7_trialOf_98 rfl hl (by decide) rfl (fun ls hl => ?_)
              refine z_iinc (lv' := [(4, .int (zI (↑i + 1))), (3, .int (zI (wtF n N (S 7) (S 16) m9 i))), (2, .int (zI ((10 * ((↑(i / n)) + 1)) + (↑(i % n))))), (5, .int (zI (wtF n N (S 7) (S 16) m9 i))), (0, .ref (ad 26)), (1, .int (zI (al)))]) hx hb dX7_trialOf_99 hl (k := 5) rfl (by decide) rfl (fun ls hl => ?_)
              refine lv_goto (tgt := 14) hx hb dX7_trialOf_102 (by decide) ?_
              exact ih_14 (i + 1) ↑i ((10 * ((↑(i / n)) + 1)) + (↑(i % n))) (wtF n N (S 7) (S 16) m9 i) e_11 _ _ _ (by omega) (by omega) (argm_n hm (by rw [← hal]; omega) (fun b e => by have := hy2 b e; omega)) (by unfold trF; rw [if_neg (by omega)]; rfl) (fun e => by omega) (fun b e => by rw [show b = i by omega]) (by omega) (by omega) hP hR hS (lv_sub hl [4, 5, 2, 1, 0] rfl)
  exact cut_14 _ 0 (-1) (-1) 1000 e_4 _ _ _ (by omega) (by omega) (argm_0) (rfl) (fun _ => rfl) (fun b e => by omega) (by omega) (Nat.lt_succ_self _) hP hR hS (lv_sub hl [4, 3, 2, 1, 0] rfl)
