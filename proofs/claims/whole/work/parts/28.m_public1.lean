set_option maxHeartbeats 4000000 in
set_option maxRecDepth 100000 in
theorem k_X7_leaf (l : Launch) (D : va_G) (cI : ClassId) (ad : Nat → Nat) (hinj : mInj ad) (S : St) (hR : RS S) (n : Nat) (hn : S 2 0 = ↑n) (hn7 : n ≤ 7) (N k0 : Nat) (hst : n ≠ 0 → STp n N k0 S) (h80 : 0 ≤ S 8 0) (hp : prm n (S 6)) (x w : Int) (hx1 : -2147483648 ≤ x) (hx2 : x < 2147483648) (hw1 : -2147483648 ≤ w) (hw2 : w < 2147483648) : Met l yX7_leaf (Cond.code yX7_leaf cX7_leaf 3 (some .int) :: lwT) ({ frames := 3, cells := 0, slots := 0, locals := 67 }) (gPc D (mW cI ad) (mE D cI) S [.ref (ad 26), .int (zI (x)), .int (zI (w))]) (va_Qi (fun (r : Int32) (S' : St) => S' = S ∧ r = zI (leafF n (S 5) (S 6) x w)) (gB D (mW cI ad)) (mA ad)) 0 0 (mA ad) := by
  refine Met.ofW (cc := cX7_leaf) (maxL := 3) (ret := (some .int)) (by decide) rfl ?_
  intro p e s m args below meth c s₁ B hml hv
  obtain ⟨rfl, hP, hE⟩ := hv
  have hx := B.exec
  have hb := B.bytes
  have hr := B.returns
  have hts := atoms_spec (ws := Cond.code yX7_leaf cX7_leaf 3 (some .int) :: lwT) B.pre
  have hT := fun w (h : w ∈ lwT) => hts w (List.mem_cons_of_mem _ h)
  have hsub : ∀ w ∈ lwT, w ∈ (Cond.code yX7_leaf cX7_leaf 3 (some .int) :: lwT) := fun w h => List.mem_cons_of_mem _ h
  have hown : s.vm.findClass RX7 = some m.cls := findClass_of_methodNamed B.named
  have hlocks := B.notSynchronized
  have hK : va_K D vwCl [(cI, .int)] s := hE
  have hS : va_S (mA ad) s.heap s.heap [] := va_S.rf
  have hl := lv_entry ([.ref (ad 26), .int (zI (x)), .int (zI (w))]) (n := 3) (Nat.le_of_ble_eq_true rfl)
  rw [lg_entry_eq]
  generalize (lg_sl ([.ref (ad 26), .int (zI (x)), .int (zI (w))]) ++ List.replicate (3 - (lg_sl ([.ref (ad 26), .int (zI (x)), .int (zI (w))])).length) Slot.unset).toArray = ls at hl ⊢
  have hl : lv_has ls 3 [(0, .ref (ad 26)), (1, .int (zI (x))), (2, .int (zI (w)))] := hl
  refine lv_aload_n hx hb dX7_leaf_0 rfl (lv_at hl 0 rfl) ?_
  refine lv_iload_n hx hb dX7_leaf_1 rfl (lv_at hl 1 rfl) ?_
  refine g_callVi (As := [.int (zI (x))]) (rest := []) ⟨hx, hb, hml, hown, hts⟩ (k_X7_isLeaf l D cI ad hinj S hR x (by omega) (by omega) (by omega)) (cwV 1 hts (gV hsub q_906 q_908 q_sX7_isLeaf q_8 q_909) rfl rfl rfl hdX7_isLeaf ⟨Nat.le_of_ble_eq_true rfl, Nat.le_of_ble_eq_true rfl⟩) (mEb D cI) (mEk D cI (mA ad)) hE (va_recv (ci := 7) (q0 := 0) hK hP rfl rfl) hP hS rfl hl.1 rfl (Nat.le_of_ble_eq_true rfl) dX7_leaf_2 ⟨Nat.le_of_ble_eq_true rfl, Nat.le_of_ble_eq_true rfl⟩ (fun r_1 S_2 H locs hq_3 hP hR hS _ => ?_)
  obtain ⟨hs9, rfl⟩ := hq_3
  obtain rfl := hs9.symm
  refine z_top (b := b2 (decide (0 ≤ x ∧ x ≤ S 2 0 - 1))) rfl ?_
  refine z_ifeqB (tgt := 17) hx hb dX7_leaf_5 (by decide) (fun c_4 => ?_) (fun c_4 => ?_)
  · have h9 : True := trivial
    have c_4 : ¬ (0 ≤ x ∧ x ≤ S 2 0 - 1) := of_decide_eq_false c_4
    refine z_bipush hx hb dX7_leaf_17 (by decide) ?_
    exact g_iret (S1 := S) (v := zI (-101)) hx hb hr hlocks hP hR hS (⟨rfl, by unfold leafF; rw [if_neg (by omega)]⟩) dX7_leaf_19
  · have h9 : True := trivial
    have c_4 : 0 ≤ x ∧ x ≤ S 2 0 - 1 := of_decide_eq_true c_4
    refine lv_aload_n hx hb dX7_leaf_8 rfl (lv_at hl 0 rfl) ?_
    refine lv_iload_n hx hb dX7_leaf_9 rfl (lv_at hl 1 rfl) ?_
    refine lv_iload_n hx hb dX7_leaf_10 rfl (lv_at hl 2 rfl) ?_
    refine g_callVi (As := [.int (zI (x)), .int (zI (w))]) (rest := []) ⟨hx, hb, hml, hown, hts⟩ (k_X7_tellLeaf l D cI ad hinj S hR n hn hn7 (hp) (x.toNat) x w (by omega) (by omega) (by omega) (by omega)) (cwV 2 hts (gV hsub q_918 q_920 q_sX7_tellLeaf q_8 q_921) rfl rfl rfl hdX7_tellLeaf ⟨Nat.le_of_ble_eq_true rfl, Nat.le_of_ble_eq_true rfl⟩) (mEb D cI) (mEk D cI (mA ad)) hE (va_recv (ci := 7) (q0 := 0) hK hP rfl rfl) hP hS rfl hl.1 rfl (Nat.le_of_ble_eq_true rfl) dX7_leaf_11 ⟨Nat.le_of_ble_eq_true rfl, Nat.le_of_ble_eq_true rfl⟩ (fun r_5 S_6 H locs hq_7 hP hR hS _ => ?_)
    obtain ⟨hs9, rfl⟩ := hq_7
    obtain rfl := hs9.symm
    refine z_top (b := tlF n (S 5) (S 6) x.toNat w) rfl ?_
    refine lv_goto (tgt := 19) hx hb dX7_leaf_14 (by decide) ?_
    exact g_iret (S1 := S) (v := zI (tlF n (S 5) (S 6) x.toNat w)) hx hb hr hlocks hP hR hS (⟨rfl, by unfold leafF; rw [if_pos (by omega)]⟩) dX7_leaf_19
set_option maxHeartbeats 4000000 in
set_option maxRecDepth 100000 in
theorem k_X7_as (l : Launch) (D : va_G) (cI : ClassId) (ad : Nat → Nat) (hinj : mInj ad) (S : St) (hR : RS S) (n : Nat) (hn : S 2 0 = ↑n) (hn7 : n ≤ 7) (N k0 : Nat) (hst : n ≠ 0 → STp n N k0 S) (h80 : 0 ≤ S 8 0) (hp : prm n (S 6)) (x w : Int) (hx1 : -2147483648 ≤ x) (hx2 : x < 2147483648) (hw1 : -2147483648 ≤ w) (hw2 : w < 2147483648) : Met l yX7_as (Cond.code yX7_as cX7_as 4 (some .int) :: lwT) ({ frames := 2, cells := 0, slots := 0, locals := 46 }) (gPc D (mW cI ad) (mE D cI) S [.ref (ad 26), .int (zI (x)), .int (zI (w))]) (va_Qi (fun (r : Int32) (S' : St) => S' = S ∧ r = zI (asF n (S 5) x w)) (gB D (mW cI ad)) (mA ad)) 0 0 (mA ad) := by
  refine Met.ofW (cc := cX7_as) (maxL := 4) (ret := (some .int)) (by decide) rfl ?_
  intro p e s m args below meth c s₁ B hml hv
  obtain ⟨rfl, hP, hE⟩ := hv
  have hx := B.exec
  have hb := B.bytes
  have hr := B.returns
  have hts := atoms_spec (ws := Cond.code yX7_as cX7_as 4 (some .int) :: lwT) B.pre
  have hT := fun w (h : w ∈ lwT) => hts w (List.mem_cons_of_mem _ h)
  have hsub : ∀ w ∈ lwT, w ∈ (Cond.code yX7_as cX7_as 4 (some .int) :: lwT) := fun w h => List.mem_cons_of_mem _ h
  have hown : s.vm.findClass RX7 = some m.cls := findClass_of_methodNamed B.named
  have hlocks := B.notSynchronized
  have hK : va_K D vwCl [(cI, .int)] s := hE
  have hS : va_S (mA ad) s.heap s.heap [] := va_S.rf
  have hl := lv_entry ([.ref (ad 26), .int (zI (x)), .int (zI (w))]) (n := 4) (Nat.le_of_ble_eq_true rfl)
  rw [lg_entry_eq]
  generalize (lg_sl ([.ref (ad 26), .int (zI (x)), .int (zI (w))]) ++ List.replicate (4 - (lg_sl ([.ref (ad 26), .int (zI (x)), .int (zI (w))])).length) Slot.unset).toArray = ls at hl ⊢
  have hl : lv_has ls 4 [(0, .ref (ad 26)), (1, .int (zI (x))), (2, .int (zI (w)))] := hl
  refine lv_aload_n hx hb dX7_as_0 rfl (lv_at hl 0 rfl) ?_
  refine lv_iload_n hx hb dX7_as_1 rfl (lv_at hl 1 rfl) ?_
  refine g_callVi (As := [.int (zI (x))]) (rest := []) ⟨hx, hb, hml, hown, hts⟩ (k_X7_isLeaf l D cI ad hinj S hR x (by omega) (by omega) (by omega)) (cwV 1 hts (gV hsub q_906 q_908 q_sX7_isLeaf q_8 q_909) rfl rfl rfl hdX7_isLeaf ⟨Nat.le_of_ble_eq_true rfl, Nat.le_of_ble_eq_true rfl⟩) (mEb D cI) (mEk D cI (mA ad)) hE (va_recv (ci := 7) (q0 := 0) hK hP rfl rfl) hP hS rfl hl.1 rfl (Nat.le_of_ble_eq_true rfl) dX7_as_2 ⟨Nat.le_of_ble_eq_true rfl, Nat.le_of_ble_eq_true rfl⟩ (fun r_1 S_2 H locs hq_3 hP hR hS _ => ?_)
  obtain ⟨hs9, rfl⟩ := hq_3
  obtain rfl := hs9.symm
  refine z_top (b := b2 (decide (0 ≤ x ∧ x ≤ S 2 0 - 1))) rfl ?_
  refine z_ifneB (tgt := 11) hx hb dX7_as_5 (by decide) (fun c_4 => ?_) (fun c_4 => ?_)
  · have h9 : True := trivial
    have c_4 : 0 ≤ x ∧ x ≤ S 2 0 - 1 := of_decide_eq_true c_4
    refine lv_iload_n hx hb dX7_as_11 rfl (lv_at hl 2 rfl) ?_
    refine z_i2l hx hb (by omega) (by omega) dX7_as_12 ?_
    refine lv_lconst (v := zL 0) hx hb dX7_as_13 (by decide) ?_
    refine lv_ldc2 (v := zL 4) hx hb hown (hT _ q_926) dX7_as_14 ?_
    refine s_callSi (As := [.long (zL (w)), .long (zL (0)), .long (zL (4))]) (rest := []) ⟨hx, hb, hml, hown, hts⟩ (k_X7_in l w 0 4 (by omega) (by omega) (by omega) (by omega) (by omega) (by omega)) (cwS 3 hts (gS hsub q_756 q_757 q_8 q_758) rfl rfl rfl hdX7_in ⟨Nat.le_of_ble_eq_true rfl, Nat.le_of_ble_eq_true rfl⟩) rfl hl.1 rfl (Nat.le_of_ble_eq_true rfl) dX7_as_17 ⟨Nat.le_of_ble_eq_true rfl, Nat.le_of_ble_eq_true rfl⟩ (fun r_5 hq_7 => ?_)
    rw [hq_7]
    refine z_ifneB (tgt := 26) hx hb dX7_as_20 (by decide) (fun c_8 => ?_) (fun c_8 => ?_)
    · have h9 : True := trivial
      have c_8 : 0 ≤ w ∧ w ≤ 4 := of_decide_eq_true c_8
      have cut_75 : ∀ (o : Bool) (H : Heap) (locs : List Loc) (ls : Array Slot), (o = pB (w = 0 ∨ w = S 5 x.toNat ∨ (w = 1 ∧ S 5 x.toNat = 3) ∨ (w = 2 ∧ S 5 x.toNat = 4))) → va_P D vwCl (mW cI ad S) H → RS S → va_S (mA ad) s.heap H locs → lv_has ls 4 [(0, .ref (ad 26)), (1, .int (zI (x))), (2, .int (zI (w)))] → W p l e (headSpec (Cond.code yX7_as cX7_as 4 (some .int) :: lwT) ({ frames := 2, cells := 0, slots := 0, locals := 46 })).room s m ([.ref (ad 26), .int (zI (x)), .int (zI (w))] : List Value).toArray below meth c H locs 0 0 (MQ below (va_Qi (fun (r : Int32) (S' : St) => S' = S ∧ r = zI (asF n (S 5) x w)) (gB D (mW cI ad)) (mA ad)) ([.ref (ad 26), .int (zI (x)), .int (zI (w))] : List Value).toArray s 0 0 (mA ad)) (F0 m 75 ls [.int (zI (b2 (o)))]) := by
        intro o H locs ls ho hP hR hS hl
        refine lv_istore_n (lv' := [(3, .int (zI (b2 (o)))), (0, .ref (ad 26)), (1, .int (zI (x))), (2, .int (zI (w)))]) hx hb dX7_as_75 rfl hl (by decide) rfl (fun ls hl => ?_)
        refine lv_iload_n hx hb dX7_as_76 rfl (lv_at hl 0 rfl) ?_
        refine z_ifeqB (tgt := 84) hx hb dX7_as_77 (by decide) (fun c_9 => ?_) (fun c_9 => ?_)
        · have h9 : True := trivial
          refine z_iconst hx hb dX7_as_84 ?_
          exact g_iret (S1 := S) (v := zI (-1)) hx hb hr hlocks hP hR hS (⟨rfl, by unfold asF; rw [if_pos (by omega), if_pos (by omega), if_neg (pB_f.mp (by rw [← ho]; assumption))]⟩) dX7_as_85
        · have h9 : True := trivial
          refine lv_iload_n hx hb dX7_as_80 rfl (lv_at hl 2 rfl) ?_
          refine lv_goto (tgt := 85) hx hb dX7_as_81 (by decide) ?_
          exact g_iret (S1 := S) (v := zI (x)) hx hb hr hlocks hP hR hS (⟨rfl, by unfold asF; rw [if_pos (by omega), if_pos (by omega), if_pos (pB_t.mp (by rw [← ho]; assumption))]⟩) dX7_as_85
      refine lv_iload_n hx hb dX7_as_26 rfl (lv_at hl 2 rfl) ?_
      refine z_if_eq (tgt := 70) hx hb (by omega) (by omega) dX7_as_27 (by decide) (fun c_10 => ?_) (fun c_10 => ?_)
      · have h9 : True := trivial
        refine z_iconst hx hb dX7_as_70 ?_
        refine lv_goto (tgt := 75) hx hb dX7_as_71 (by decide) ?_
        exact cut_75 true _ _ _ (qT (by omega)) hP hR hS (lv_sub hl [0, 1, 2] rfl)
      · have h9 : True := trivial
        refine lv_iload_n hx hb dX7_as_30 rfl (lv_at hl 2 rfl) ?_
        refine lv_aload_n hx hb dX7_as_31 rfl (lv_at hl 0 rfl) ?_
        refine va_get (D := D) (ci := 7) (v := .ref (ad 5)) (C := RX7) (T := TX7) (N := 26) hx hb hT inX7 hown hK hP 0 rfl rfl 5 (by decide) (hT _ q_677) (fun _ h9 => h9) rfl dX7_as_32 ?_
        refine lv_iload_n hx hb dX7_as_35 rfl (lv_at hl 1 rfl) ?_
        have g_11 : -2147483648 ≤ S 5 (x).toNat ∧ S 5 (x).toNat < 2147483648 := hR 5 ((x).toNat) (by decide)
        refine z_ald (f := S 5) hx hb hK hP 2 0 rfl rfl (by omega) (by omega) (by decide) (j := (x).toNat) rfl dX7_as_36 ?_
        refine z_icmp_eq (tgt := 70) hx hb (by omega) (by omega) (by omega) (by omega) dX7_as_37 (by decide) (fun c_12 => ?_) (fun c_12 => ?_)
        · have h9 : True := trivial
          refine z_iconst hx hb dX7_as_70 ?_
          refine lv_goto (tgt := 75) hx hb dX7_as_71 (by decide) ?_
          exact cut_75 true _ _ _ (qT (by omega)) hP hR hS (lv_sub hl [0, 1, 2] rfl)
        · have h9 : True := trivial
          refine lv_iload_n hx hb dX7_as_40 rfl (lv_at hl 2 rfl) ?_
          refine z_iconst hx hb dX7_as_41 ?_
          refine z_icmp_ne (tgt := 55) hx hb (by omega) (by omega) (by omega) (by omega) dX7_as_42 (by decide) (fun c_13 => ?_) (fun c_13 => ?_)
          · have h9 : True := trivial
            refine lv_iload_n hx hb dX7_as_55 rfl (lv_at hl 2 rfl) ?_
            refine z_iconst hx hb dX7_as_56 ?_
            refine z_icmp_ne (tgt := 74) hx hb (by omega) (by omega) (by omega) (by omega) dX7_as_57 (by decide) (fun c_14 => ?_) (fun c_14 => ?_)
            · have h9 : True := trivial
              refine z_iconst hx hb dX7_as_74 ?_
              exact cut_75 false _ _ _ (qF (by omega)) hP hR hS (lv_sub hl [0, 1, 2] rfl)
            · have h9 : True := trivial
              refine lv_aload_n hx hb dX7_as_60 rfl (lv_at hl 0 rfl) ?_
              refine va_get (D := D) (ci := 7) (v := .ref (ad 5)) (C := RX7) (T := TX7) (N := 26) hx hb hT inX7 hown hK hP 0 rfl rfl 5 (by decide) (hT _ q_677) (fun _ h9 => h9) rfl dX7_as_61 ?_
              refine lv_iload_n hx hb dX7_as_64 rfl (lv_at hl 1 rfl) ?_
              refine z_ald (f := S 5) hx hb hK hP 2 0 rfl rfl (by omega) (by omega) (by decide) (j := (x).toNat) rfl dX7_as_65 ?_
              refine z_iconst hx hb dX7_as_66 ?_
              refine z_icmp_ne (tgt := 74) hx hb (by omega) (by omega) (by omega) (by omega) dX7_as_67 (by decide) (fun c_15 => ?_) (fun c_15 => ?_)
              · have h9 : True := trivial
                refine z_iconst hx hb dX7_as_74 ?_
                exact cut_75 false _ _ _ (qF (by omega)) hP hR hS (lv_sub hl [0, 1, 2] rfl)
              · have h9 : True := trivial
                refine z_iconst hx hb dX7_as_70 ?_
                refine lv_goto (tgt := 75) hx hb dX7_as_71 (by decide) ?_
                exact cut_75 true _ _ _ (qT (by omega)) hP hR hS (lv_sub hl [0, 1, 2] rfl)
          · have h9 : True := trivial
            refine lv_aload_n hx hb dX7_as_45 rfl (lv_at hl 0 rfl) ?_
            refine va_get (D := D) (ci := 7) (v := .ref (ad 5)) (C := RX7) (T := TX7) (N := 26) hx hb hT inX7 hown hK hP 0 rfl rfl 5 (by decide) (hT _ q_677) (fun _ h9 => h9) rfl dX7_as_46 ?_
            refine lv_iload_n hx hb dX7_as_49 rfl (lv_at hl 1 rfl) ?_
            refine z_ald (f := S 5) hx hb hK hP 2 0 rfl rfl (by omega) (by omega) (by decide) (j := (x).toNat) rfl dX7_as_50 ?_
            refine z_iconst hx hb dX7_as_51 ?_
            refine z_icmp_eq (tgt := 70) hx hb (by omega) (by omega) (by omega) (by omega) dX7_as_52 (by decide) (fun c_16 => ?_) (fun c_16 => ?_)
            · have h9 : True := trivial
              refine z_iconst hx hb dX7_as_70 ?_
              refine lv_goto (tgt := 75) hx hb dX7_as_71 (by decide) ?_
              exact cut_75 true _ _ _ (qT (by omega)) hP hR hS (lv_sub hl [0, 1, 2] rfl)
            · have h9 : True := trivial
              refine lv_iload_n hx hb dX7_as_55 rfl (lv_at hl 2 rfl) ?_
              refine z_iconst hx hb dX7_as_56 ?_
              refine z_icmp_ne (tgt := 74) hx hb (by omega) (by omega) (by omega) (by omega) dX7_as_57 (by decide) (fun c_17 => ?_) (fun c_17 => ?_)
              · have h9 : True := trivial
                refine z_iconst hx hb dX7_as_74 ?_
                exact cut_75 false _ _ _ (qF (by omega)) hP hR hS (lv_sub hl [0, 1, 2] rfl)
              · have h9 : True := trivial
                refine lv_aload_n hx hb dX7_as_60 rfl (lv_at hl 0 rfl) ?_
                refine va_get (D := D) (ci := 7) (v := .ref (ad 5)) (C := RX7) (T := TX7) (N := 26) hx hb hT inX7 hown hK hP 0 rfl rfl 5 (by decide) (hT _ q_677) (fun _ h9 => h9) rfl dX7_as_61 ?_
                refine lv_iload_n hx hb dX7_as_64 rfl (lv_at hl 1 rfl) ?_
                refine z_ald (f := S 5) hx hb hK hP 2 0 rfl rfl (by omega) (by omega) (by decide) (j := (x).toNat) rfl dX7_as_65 ?_
                refine z_iconst hx hb dX7_as_66 ?_
                refine z_icmp_ne (tgt := 74) hx hb (by omega) (by omega) (by omega) (by omega) dX7_as_67 (by decide) (fun c_18 => ?_) (fun c_18 => ?_)
                · have h9 : True := trivial
                  refine z_iconst hx hb dX7_as_74 ?_
                  exact cut_75 false _ _ _ (qF (by omega)) hP hR hS (lv_sub hl [0, 1, 2] rfl)
                · have h9 : True := trivial
                  refine z_iconst hx hb dX7_as_70 ?_
                  refine lv_goto (tgt := 75) hx hb dX7_as_71 (by decide) ?_
                  exact cut_75 true _ _ _ (qT (by omega)) hP hR hS (lv_sub hl [0, 1, 2] rfl)
    · have h9 : True := trivial
      have c_8 : ¬ (0 ≤ w ∧ w ≤ 4) := of_decide_eq_false c_8
      refine z_bipush hx hb dX7_as_23 (by decide) ?_
      exact g_iret (S1 := S) (v := zI (-102)) hx hb hr hlocks hP hR hS (⟨rfl, by unfold asF; rw [if_pos (by omega), if_neg (by omega)]⟩) dX7_as_25
  · have h9 : True := trivial
    have c_4 : ¬ (0 ≤ x ∧ x ≤ S 2 0 - 1) := of_decide_eq_false c_4
    refine z_bipush hx hb dX7_as_8 (by decide) ?_
    exact g_iret (S1 := S) (v := zI (-101)) hx hb hr hlocks hP hR hS (⟨rfl, by unfold asF; rw [if_neg (by omega)]⟩) dX7_as_10
set_option maxHeartbeats 4000000 in
set_option maxRecDepth 100000 in
theorem k_X7_hinge (l : Launch) (D : va_G) (cI : ClassId) (ad : Nat → Nat) (hinj : mInj ad) (S : St) (hR : RS S) (n : Nat) (hn : S 2 0 = ↑n) (hn7 : n ≤ 7) (N k0 : Nat) (hst : n ≠ 0 → STp n N k0 S) (h80 : 0 ≤ S 8 0) (hp : prm n (S 6)) (x w : Int) (hx1 : -2147483648 ≤ x) (hx2 : x < 2147483648) (hw1 : -2147483648 ≤ w) (hw2 : w < 2147483648) : Met l yX7_hinge (Cond.code yX7_hinge cX7_hinge 3 (some .int) :: lwT) ({ frames := 2, cells := 0, slots := 0, locals := 46 }) (gPc D (mW cI ad) (mE D cI) S [.ref (ad 26), .int (zI (x)), .int (zI (w))]) (va_Qi (fun (r : Int32) (S' : St) => ∃ e9, S' = sA S 9 e9 ∧ r = zI (hingeF n (S 5) (S 6) x w)) (gB D (mW cI ad)) (mA ad)) 0 0 (mA ad) := by
  refine Met.ofW (cc := cX7_hinge) (maxL := 3) (ret := (some .int)) (by decide) rfl ?_
  intro p e s m args below meth c s₁ B hml hv
  obtain ⟨rfl, hP, hE⟩ := hv
  have hx := B.exec
  have hb := B.bytes
  have hr := B.returns
  have hts := atoms_spec (ws := Cond.code yX7_hinge cX7_hinge 3 (some .int) :: lwT) B.pre
  have hT := fun w (h : w ∈ lwT) => hts w (List.mem_cons_of_mem _ h)
  have hsub : ∀ w ∈ lwT, w ∈ (Cond.code yX7_hinge cX7_hinge 3 (some .int) :: lwT) := fun w h => List.mem_cons_of_mem _ h
  have hown : s.vm.findClass RX7 = some m.cls := findClass_of_methodNamed B.named
  have hlocks := B.notSynchronized
  have hK : va_K D vwCl [(cI, .int)] s := hE
  have hS : va_S (mA ad) s.heap s.heap [] := va_S.rf
  have hl := lv_entry ([.ref (ad 26), .int (zI (x)), .int (zI (w))]) (n := 3) (Nat.le_of_ble_eq_true rfl)
  rw [lg_entry_eq]
  generalize (lg_sl ([.ref (ad 26), .int (zI (x)), .int (zI (w))]) ++ List.replicate (3 - (lg_sl ([.ref (ad 26), .int (zI (x)), .int (zI (w))])).length) Slot.unset).toArray = ls at hl ⊢
  have hl : lv_has ls 3 [(0, .ref (ad 26)), (1, .int (zI (x))), (2, .int (zI (w)))] := hl
  refine lv_iload_n hx hb dX7_hinge_0 rfl (lv_at hl 1 rfl) ?_
  refine z_i2l hx hb (by omega) (by omega) dX7_hinge_1 ?_
  refine lv_lconst (v := zL 0) hx hb dX7_hinge_2 (by decide) ?_
  refine lv_aload_n hx hb dX7_hinge_3 rfl (lv_at hl 0 rfl) ?_
  have g_1 : -2147483648 ≤ S 2 0 ∧ S 2 0 < 2147483648 := hR 2 0 (by decide)
  refine va_get (D := D) (ci := 7) (v := .int (zI (S 2 0))) (C := RX7) (T := TX7) (N := 26) hx hb hT inX7 hown hK hP 0 rfl rfl 2 (by decide) (hT _ q_674) (fun _ h9 => h9) rfl dX7_hinge_4 ?_
  refine z_iconst hx hb dX7_hinge_7 ?_
  refine z_isub hx hb dX7_hinge_8 ?_
  refine z_i2l hx hb (by omega) (by omega) dX7_hinge_9 ?_
  refine s_callSi (As := [.long (zL (x)), .long (zL (0)), .long (zL ((S 2 0) - 2))]) (rest := []) ⟨hx, hb, hml, hown, hts⟩ (k_X7_in l x 0 ((S 2 0) - 2) (by omega) (by omega) (by omega) (by omega) (by omega) (by omega)) (cwS 3 hts (gS hsub q_756 q_757 q_8 q_758) rfl rfl rfl hdX7_in ⟨Nat.le_of_ble_eq_true rfl, Nat.le_of_ble_eq_true rfl⟩) rfl hl.1 rfl (Nat.le_of_ble_eq_true rfl) dX7_hinge_10 ⟨Nat.le_of_ble_eq_true rfl, Nat.le_of_ble_eq_true rfl⟩ (fun r_2 hq_4 => ?_)
  rw [hq_4]
  refine z_ifneB (tgt := 19) hx hb dX7_hinge_13 (by decide) (fun c_5 => ?_) (fun c_5 => ?_)
  · have h9 : True := trivial
    have c_5 : 0 ≤ x ∧ x ≤ ((S 2 0) - 2) := of_decide_eq_true c_5
    refine lv_iload_n hx hb dX7_hinge_19 rfl (lv_at hl 2 rfl) ?_
    refine z_i2l hx hb (by omega) (by omega) dX7_hinge_20 ?_
    refine lv_lconst (v := zL 0) hx hb dX7_hinge_21 (by decide) ?_
    refine lv_lconst (v := zL 1) hx hb dX7_hinge_22 (by decide) ?_
    refine s_callSi (As := [.long (zL (w)), .long (zL (0)), .long (zL (1))]) (rest := []) ⟨hx, hb, hml, hown, hts⟩ (k_X7_in l w 0 1 (by omega) (by omega) (by omega) (by omega) (by omega) (by omega)) (cwS 3 hts (gS hsub q_756 q_757 q_8 q_758) rfl rfl rfl hdX7_in ⟨Nat.le_of_ble_eq_true rfl, Nat.le_of_ble_eq_true rfl⟩) rfl hl.1 rfl (Nat.le_of_ble_eq_true rfl) dX7_hinge_23 ⟨Nat.le_of_ble_eq_true rfl, Nat.le_of_ble_eq_true rfl⟩ (fun r_6 hq_8 => ?_)
    rw [hq_8]
    refine z_ifneB (tgt := 32) hx hb dX7_hinge_26 (by decide) (fun c_9 => ?_) (fun c_9 => ?_)
    · have h9 : True := trivial
      have c_9 : 0 ≤ w ∧ w ≤ 1 := of_decide_eq_true c_9
      refine lv_iload_n hx hb dX7_hinge_32 rfl (lv_at hl 2 rfl) ?_
      refine z_if_ne (tgt := 42) hx hb (by omega) (by omega) dX7_hinge_33 (by decide) (fun c_10 => ?_) (fun c_10 => ?_)
      · have h9 : True := trivial
        refine lv_aload_n hx hb dX7_hinge_42 rfl (lv_at hl 0 rfl) ?_
        refine lv_aload_n hx hb dX7_hinge_43 rfl (lv_at hl 0 rfl) ?_
        refine va_get (D := D) (ci := 7) (v := .ref (ad 6)) (C := RX7) (T := TX7) (N := 26) hx hb hT inX7 hown hK hP 0 rfl rfl 6 (by decide) (hT _ q_678) (fun _ h9 => h9) rfl dX7_hinge_44 ?_
        refine lv_iload_n hx hb dX7_hinge_47 rfl (lv_at hl 1 rfl) ?_
        refine g_callVi (As := [.ref (ad 6), .int (zI (x))]) (rest := []) ⟨hx, hb, hml, hown, hts⟩ (k_X7_wideOf_6 l D cI ad hinj S hR n hn hn7 (hp) (x.toNat) x (by omega) (by omega)) (cwV 2 hts (gV hsub q_894 q_896 q_sX7_wideOf q_8 q_897) rfl rfl rfl hdX7_wideOf ⟨Nat.le_of_ble_eq_true rfl, Nat.le_of_ble_eq_true rfl⟩) (mEb D cI) (mEk D cI (mA ad)) hE (va_recv (ci := 7) (q0 := 0) hK hP rfl rfl) hP hS rfl hl.1 rfl (Nat.le_of_ble_eq_true rfl) dX7_hinge_48 ⟨Nat.le_of_ble_eq_true rfl, Nat.le_of_ble_eq_true rfl⟩ (fun r_11 S_12 H locs hq_13 hP hR hS _ => ?_)
        obtain ⟨f_14, rfl, rfl⟩ := hq_13
        refine z_top (b := wdF n (S 5) (S 6) x.toNat) rfl ?_
        exact g_iret (S1 := sA S 9 f_14) (v := zI (wdF n (S 5) (S 6) x.toNat)) hx hb hr hlocks hP hR hS (⟨_, rfl, by unfold hingeF; rw [if_pos (by omega), if_pos (by omega), if_neg (by omega)]⟩) dX7_hinge_51
      · have h9 : True := trivial
        refine lv_iload_n hx hb dX7_hinge_36 rfl (lv_at hl 1 rfl) ?_
        refine z_iconst hx hb dX7_hinge_37 ?_
        refine z_irem hx hb (by omega) (by omega) (by omega) (by omega) dX7_hinge_38 ?_
        refine lv_goto (tgt := 51) hx hb dX7_hinge_39 (by decide) ?_
        exact g_iret (S1 := S) (v := zI (x % 2)) hx hb hr hlocks hP hR hS (⟨S 9, by rw [sA_self], by unfold hingeF; rw [if_pos (by omega), if_pos (by omega), if_pos (by omega)]⟩) dX7_hinge_51
    · have h9 : True := trivial
      have c_9 : ¬ (0 ≤ w ∧ w ≤ 1) := of_decide_eq_false c_9
      refine z_bipush hx hb dX7_hinge_29 (by decide) ?_
      exact g_iret (S1 := S) (v := zI (-102)) hx hb hr hlocks hP hR hS (⟨S 9, by rw [sA_self], by unfold hingeF; rw [if_pos (by omega), if_neg (by omega)]⟩) dX7_hinge_31
  · have h9 : True := trivial
    have c_5 : ¬ (0 ≤ x ∧ x ≤ ((S 2 0) - 2)) := of_decide_eq_false c_5
    refine z_bipush hx hb dX7_hinge_16 (by decide) ?_
    exact g_iret (S1 := S) (v := zI (-101)) hx hb hr hlocks hP hR hS (⟨S 9, by rw [sA_self], by unfold hingeF; rw [if_neg (by omega)]⟩) dX7_hinge_18
set_option maxHeartbeats 4000000 in
set_option maxRecDepth 100000 in
theorem k_X7_at (l : Launch) (D : va_G) (cI : ClassId) (ad : Nat → Nat) (hinj : mInj ad) (S : St) (hR : RS S) (n : Nat) (hn : S 2 0 = ↑n) (hn7 : n ≤ 7) (N k0 : Nat) (hst : n ≠ 0 → STp n N k0 S) (h80 : 0 ≤ S 8 0) (hp : prm n (S 6)) (x : Int) (hx1 : -2147483648 ≤ x) (hx2 : x < 2147483648) : Met l yX7_at (Cond.code yX7_at cX7_at 2 (some .int) :: lwT) ({ frames := 2, cells := 0, slots := 0, locals := 46 }) (gPc D (mW cI ad) (mE D cI) S [.ref (ad 26), .int (zI (x))]) (va_Qi (fun (r : Int32) (S' : St) => S' = S ∧ r = zI (atF n (S 6) x)) (gB D (mW cI ad)) (mA ad)) 0 0 (mA ad) := by
  refine Met.ofW (cc := cX7_at) (maxL := 2) (ret := (some .int)) (by decide) rfl ?_
  intro p e s m args below meth c s₁ B hml hv
  obtain ⟨rfl, hP, hE⟩ := hv
  have hx := B.exec
  have hb := B.bytes
  have hr := B.returns
  have hts := atoms_spec (ws := Cond.code yX7_at cX7_at 2 (some .int) :: lwT) B.pre
  have hT := fun w (h : w ∈ lwT) => hts w (List.mem_cons_of_mem _ h)
  have hsub : ∀ w ∈ lwT, w ∈ (Cond.code yX7_at cX7_at 2 (some .int) :: lwT) := fun w h => List.mem_cons_of_mem _ h
  have hown : s.vm.findClass RX7 = some m.cls := findClass_of_methodNamed B.named
  have hlocks := B.notSynchronized
  have hK : va_K D vwCl [(cI, .int)] s := hE
  have hS : va_S (mA ad) s.heap s.heap [] := va_S.rf
  have hl := lv_entry ([.ref (ad 26), .int (zI (x))]) (n := 2) (Nat.le_of_ble_eq_true rfl)
  rw [lg_entry_eq]
  generalize (lg_sl ([.ref (ad 26), .int (zI (x))]) ++ List.replicate (2 - (lg_sl ([.ref (ad 26), .int (zI (x))])).length) Slot.unset).toArray = ls at hl ⊢
  have hl : lv_has ls 2 [(0, .ref (ad 26)), (1, .int (zI (x)))] := hl
  refine lv_aload_n hx hb dX7_at_0 rfl (lv_at hl 0 rfl) ?_
  refine lv_iload_n hx hb dX7_at_1 rfl (lv_at hl 1 rfl) ?_
  refine g_callVi (As := [.int (zI (x))]) (rest := []) ⟨hx, hb, hml, hown, hts⟩ (k_X7_isLeaf l D cI ad hinj S hR x (by omega) (by omega) (by omega)) (cwV 1 hts (gV hsub q_906 q_908 q_sX7_isLeaf q_8 q_909) rfl rfl rfl hdX7_isLeaf ⟨Nat.le_of_ble_eq_true rfl, Nat.le_of_ble_eq_true rfl⟩) (mEb D cI) (mEk D cI (mA ad)) hE (va_recv (ci := 7) (q0 := 0) hK hP rfl rfl) hP hS rfl hl.1 rfl (Nat.le_of_ble_eq_true rfl) dX7_at_2 ⟨Nat.le_of_ble_eq_true rfl, Nat.le_of_ble_eq_true rfl⟩ (fun r_1 S_2 H locs hq_3 hP hR hS _ => ?_)
  obtain ⟨hs9, rfl⟩ := hq_3
  obtain rfl := hs9.symm
  refine z_top (b := b2 (decide (0 ≤ x ∧ x ≤ S 2 0 - 1))) rfl ?_
  refine z_ifeqB (tgt := 17) hx hb dX7_at_5 (by decide) (fun c_4 => ?_) (fun c_4 => ?_)
  · have h9 : True := trivial
    have c_4 : ¬ (0 ≤ x ∧ x ≤ S 2 0 - 1) := of_decide_eq_false c_4
    refine z_bipush hx hb dX7_at_17 (by decide) ?_
    exact g_iret (S1 := S) (v := zI (-101)) hx hb hr hlocks hP hR hS (⟨rfl, by unfold atF; rw [if_neg (by omega)]⟩) dX7_at_19
  · have h9 : True := trivial
    have c_4 : 0 ≤ x ∧ x ≤ S 2 0 - 1 := of_decide_eq_true c_4
    refine lv_aload_n hx hb dX7_at_8 rfl (lv_at hl 0 rfl) ?_
    refine va_get (D := D) (ci := 7) (v := .ref (ad 6)) (C := RX7) (T := TX7) (N := 26) hx hb hT inX7 hown hK hP 0 rfl rfl 6 (by decide) (hT _ q_678) (fun _ h9 => h9) rfl dX7_at_9 ?_
    refine lv_iload_n hx hb dX7_at_12 rfl (lv_at hl 1 rfl) ?_
    have g_5 : -2147483648 ≤ S 6 (x).toNat ∧ S 6 (x).toNat < 2147483648 := hR 6 ((x).toNat) (by decide)
    refine z_ald (f := S 6) hx hb hK hP 3 0 rfl rfl (by omega) (by omega) (by decide) (j := (x).toNat) rfl dX7_at_13 ?_
    refine lv_goto (tgt := 19) hx hb dX7_at_14 (by decide) ?_
    exact g_iret (S1 := S) (v := zI (S 6 (x).toNat)) hx hb hr hlocks hP hR hS (⟨rfl, by unfold atF; rw [if_pos (by omega)]⟩) dX7_at_19
set_option maxHeartbeats 4000000 in
set_option maxRecDepth 100000 in
theorem k_X7_may (l : Launch) (D : va_G) (cI : ClassId) (ad : Nat → Nat) (hinj : mInj ad) (S : St) (hR : RS S) (n : Nat) (hn : S 2 0 = ↑n) (hn7 : n ≤ 7) (N k0 : Nat) (hst : n ≠ 0 → STp n N k0 S) (h80 : 0 ≤ S 8 0) (hp : prm n (S 6)) (x y : Int) (hx1 : -2147483648 ≤ x) (hx2 : x < 2147483648) (hy1 : -2147483648 ≤ y) (hy2 : y < 2147483648) : Met l yX7_may (Cond.code yX7_may cX7_may 3 (some .int) :: lwT) ({ frames := 3, cells := 0, slots := 0, locals := 70 }) (gPc D (mW cI ad) (mE D cI) S [.ref (ad 26), .int (zI (x)), .int (zI (y))]) (va_Qi (fun (r : Int32) (S' : St) => ∃ e9 e11, S' = sA (sA S 9 e9) 11 e11 ∧ r = zI (mayF n (S 6) x y)) (gB D (mW cI ad)) (mA ad)) 0 0 (mA ad) := by
  refine Met.ofW (cc := cX7_may) (maxL := 3) (ret := (some .int)) (by decide) rfl ?_
  intro p e s m args below meth c s₁ B hml hv
  obtain ⟨rfl, hP, hE⟩ := hv
  have hx := B.exec
  have hb := B.bytes
  have hr := B.returns
  have hts := atoms_spec (ws := Cond.code yX7_may cX7_may 3 (some .int) :: lwT) B.pre
  have hT := fun w (h : w ∈ lwT) => hts w (List.mem_cons_of_mem _ h)
  have hsub : ∀ w ∈ lwT, w ∈ (Cond.code yX7_may cX7_may 3 (some .int) :: lwT) := fun w h => List.mem_cons_of_mem _ h
  have hown : s.vm.findClass RX7 = some m.cls := findClass_of_methodNamed B.named
  have hlocks := B.notSynchronized
  have hK : va_K D vwCl [(cI, .int)] s := hE
  have hS : va_S (mA ad) s.heap s.heap [] := va_S.rf
  have hl := lv_entry ([.ref (ad 26), .int (zI (x)), .int (zI (y))]) (n := 3) (Nat.le_of_ble_eq_true rfl)
  rw [lg_entry_eq]
  generalize (lg_sl ([.ref (ad 26), .int (zI (x)), .int (zI (y))]) ++ List.replicate (3 - (lg_sl ([.ref (ad 26), .int (zI (x)), .int (zI (y))])).length) Slot.unset).toArray = ls at hl ⊢
  have hl : lv_has ls 3 [(0, .ref (ad 26)), (1, .int (zI (x))), (2, .int (zI (y)))] := hl
  refine lv_aload_n hx hb dX7_may_0 rfl (lv_at hl 0 rfl) ?_
  refine lv_iload_n hx hb dX7_may_1 rfl (lv_at hl 1 rfl) ?_
  refine g_callVi (As := [.int (zI (x))]) (rest := []) ⟨hx, hb, hml, hown, hts⟩ (k_X7_isLeaf l D cI ad hinj S hR x (by omega) (by omega) (by omega)) (cwV 1 hts (gV hsub q_906 q_908 q_sX7_isLeaf q_8 q_909) rfl rfl rfl hdX7_isLeaf ⟨Nat.le_of_ble_eq_true rfl, Nat.le_of_ble_eq_true rfl⟩) (mEb D cI) (mEk D cI (mA ad)) hE (va_recv (ci := 7) (q0 := 0) hK hP rfl rfl) hP hS rfl hl.1 rfl (Nat.le_of_ble_eq_true rfl) dX7_may_2 ⟨Nat.le_of_ble_eq_true rfl, Nat.le_of_ble_eq_true rfl⟩ (fun r_1 S_2 H locs hq_3 hP hR hS _ => ?_)
  obtain ⟨hs9, rfl⟩ := hq_3
  obtain rfl := hs9.symm
  refine z_top (b := b2 (decide (0 ≤ x ∧ x ≤ S 2 0 - 1))) rfl ?_
  refine z_ifeqB (tgt := 16) hx hb dX7_may_5 (by decide) (fun c_4 => ?_) (fun c_4 => ?_)
  · have h9 : True := trivial
    have c_4 : ¬ (0 ≤ x ∧ x ≤ S 2 0 - 1) := of_decide_eq_false c_4
    refine z_bipush hx hb dX7_may_16 (by decide) ?_
    exact g_iret (S1 := S) (v := zI (-101)) hx hb hr hlocks hP hR hS (⟨S 9, S 11, by rw [sA_self, sA_self], by unfold mayF; rw [if_neg (by omega)]⟩) dX7_may_18
  · have h9 : True := trivial
    have c_4 : 0 ≤ x ∧ x ≤ S 2 0 - 1 := of_decide_eq_true c_4
    refine lv_aload_n hx hb dX7_may_8 rfl (lv_at hl 0 rfl) ?_
    refine lv_iload_n hx hb dX7_may_9 rfl (lv_at hl 2 rfl) ?_
    refine g_callVi (As := [.int (zI (y))]) (rest := []) ⟨hx, hb, hml, hown, hts⟩ (k_X7_isLeaf l D cI ad hinj S hR y (by omega) (by omega) (by omega)) (cwV 1 hts (gV hsub q_906 q_908 q_sX7_isLeaf q_8 q_909) rfl rfl rfl hdX7_isLeaf ⟨Nat.le_of_ble_eq_true rfl, Nat.le_of_ble_eq_true rfl⟩) (mEb D cI) (mEk D cI (mA ad)) hE (va_recv (ci := 7) (q0 := 0) hK hP rfl rfl) hP hS rfl hl.1 rfl (Nat.le_of_ble_eq_true rfl) dX7_may_10 ⟨Nat.le_of_ble_eq_true rfl, Nat.le_of_ble_eq_true rfl⟩ (fun r_5 S_6 H locs hq_7 hP hR hS _ => ?_)
    obtain ⟨hs9, rfl⟩ := hq_7
    obtain rfl := hs9.symm
    refine z_top (b := b2 (decide (0 ≤ y ∧ y ≤ S 2 0 - 1))) rfl ?_
    refine z_ifneB (tgt := 19) hx hb dX7_may_13 (by decide) (fun c_8 => ?_) (fun c_8 => ?_)
    · have h9 : True := trivial
      have c_8 : 0 ≤ y ∧ y ≤ S 2 0 - 1 := of_decide_eq_true c_8
      refine lv_aload_n hx hb dX7_may_19 rfl (lv_at hl 0 rfl) ?_
      refine va_get (D := D) (ci := 7) (v := .ref (ad 6)) (C := RX7) (T := TX7) (N := 26) hx hb hT inX7 hown hK hP 0 rfl rfl 6 (by decide) (hT _ q_678) (fun _ h9 => h9) rfl dX7_may_20 ?_
      refine lv_iload_n hx hb dX7_may_23 rfl (lv_at hl 1 rfl) ?_
      refine g_callSi (As := [.ref (ad 6), .int (zI (x))]) (rest := []) ⟨hx, hb, hml, hown, hts⟩ (k_X7_placeOf_6 l D cI ad hinj S hR n hn7 x.toNat x (by omega) (by omega) hp) (cwS 2 hts (gS hsub q_843 q_844 q_8 q_845) rfl rfl rfl hdX7_placeOf ⟨Nat.le_of_ble_eq_true rfl, Nat.le_of_ble_eq_true rfl⟩) (mEb D cI) (mEk D cI (mA ad)) hE hP hS rfl hl.1 rfl (Nat.le_of_ble_eq_true rfl) dX7_may_24 ⟨Nat.le_of_ble_eq_true rfl, Nat.le_of_ble_eq_true rfl⟩ (fun r_9 S_10 H locs hq_11 hP hR hS _ => ?_)
      obtain ⟨hs9, rfl⟩ := hq_11
      obtain rfl := hs9.symm
      have g_12 := pl_lt (v := x.toNat) (hp) (by omega)
      refine z_top (b := ↑(pl n (S 6) x.toNat)) rfl ?_
      refine lv_iload_n hx hb dX7_may_27 rfl (lv_at hl 2 rfl) ?_
      refine z_icmp_eq (tgt := 45) hx hb (by omega) (by omega) (by omega) (by omega) dX7_may_28 (by decide) (fun c_13 => ?_) (fun c_13 => ?_)
      · have h9 : True := trivial
        refine z_iconst hx hb dX7_may_45 ?_
        refine lv_goto (tgt := 50) hx hb dX7_may_46 (by decide) ?_
        exact g_iret (S1 := S) (v := zI (1)) hx hb hr hlocks hP hR hS (⟨S 9, S 11, by rw [sA_self, sA_self], by unfold mayF; rw [if_pos (by omega)]; exact pT (by omega)⟩) dX7_may_50
      · have h9 : True := trivial
        refine lv_aload_n hx hb dX7_may_31 rfl (lv_at hl 0 rfl) ?_
        refine lv_aload_n hx hb dX7_may_32 rfl (lv_at hl 0 rfl) ?_
        refine va_get (D := D) (ci := 7) (v := .ref (ad 6)) (C := RX7) (T := TX7) (N := 26) hx hb hT inX7 hown hK hP 0 rfl rfl 6 (by decide) (hT _ q_678) (fun _ h9 => h9) rfl dX7_may_33 ?_
        refine lv_iload_n hx hb dX7_may_36 rfl (lv_at hl 1 rfl) ?_
        refine lv_iload_n hx hb dX7_may_37 rfl (lv_at hl 2 rfl) ?_
        refine g_callVi (As := [.ref (ad 6), .int (zI (x)), .int (zI (y))]) (rest := []) ⟨hx, hb, hml, hown, hts⟩ (k_X7_codeBy_6 l D cI ad hinj S hR n hn hn7 hp x.toNat y.toNat x y (by omega) (by omega) (by omega) (by omega)) (cwV 3 hts (gV hsub q_836 q_838 q_sX7_codeBy q_8 q_839) rfl rfl rfl hdX7_codeBy ⟨Nat.le_of_ble_eq_true rfl, Nat.le_of_ble_eq_true rfl⟩) (mEb D cI) (mEk D cI (mA ad)) hE (va_recv (ci := 7) (q0 := 0) hK hP rfl rfl) hP hS rfl hl.1 rfl (Nat.le_of_ble_eq_true rfl) dX7_may_38 ⟨Nat.le_of_ble_eq_true rfl, Nat.le_of_ble_eq_true rfl⟩ (fun r_14 S_15 H locs hq_16 hP hR hS _ => ?_)
        obtain ⟨f_17, g_18, rfl, rfl⟩ := hq_16
        refine z_top (b := cbF n (S 6) x.toNat y.toNat) rfl ?_
        have hcr := cbF_r hn7 hp (v := x.toNat) (q := y.toNat) (by omega) (by omega)
        refine z_iconst hx hb dX7_may_41 ?_
        refine z_icmp_eq (tgt := 49) hx hb (by omega) (by omega) (by omega) (by omega) dX7_may_42 (by decide) (fun c_19 => ?_) (fun c_19 => ?_)
        · have h9 : True := trivial
          refine z_iconst hx hb dX7_may_49 ?_
          exact g_iret (S1 := sA (sA S 11 f_17) 9 g_18) (v := zI (0)) hx hb hr hlocks hP hR hS (⟨_, _, sA_cm _ _ _ (by decide), by unfold mayF; rw [if_pos (by omega)]; exact pF (by omega)⟩) dX7_may_50
        · have h9 : True := trivial
          refine z_iconst hx hb dX7_may_45 ?_
          refine lv_goto (tgt := 50) hx hb dX7_may_46 (by decide) ?_
          exact g_iret (S1 := sA (sA S 11 f_17) 9 g_18) (v := zI (1)) hx hb hr hlocks hP hR hS (⟨_, _, sA_cm _ _ _ (by decide), by unfold mayF; rw [if_pos (by omega)]; exact pT (by omega)⟩) dX7_may_50
    · have h9 : True := trivial
      have c_8 : ¬ (0 ≤ y ∧ y ≤ S 2 0 - 1) := of_decide_eq_false c_8
      refine z_bipush hx hb dX7_may_16 (by decide) ?_
      exact g_iret (S1 := S) (v := zI (-101)) hx hb hr hlocks hP hR hS (⟨S 9, S 11, by rw [sA_self, sA_self], by unfold mayF; rw [if_neg (by omega)]⟩) dX7_may_18
set_option maxHeartbeats 4000000 in
set_option maxRecDepth 100000 in
theorem k_X7_orders (l : Launch) (D : va_G) (cI : ClassId) (ad : Nat → Nat) (hinj : mInj ad) (S : St) (hR : RS S) (n : Nat) (hn : S 2 0 = ↑n) (hn7 : n ≤ 7) (N k0 : Nat) (hst : n ≠ 0 → STp n N k0 S) (h80 : 0 ≤ S 8 0) (hp : prm n (S 6)) (w : Int) (hw1 : -2147483648 ≤ w) (hw2 : w < 2147483648) : Met l yX7_orders (Cond.code yX7_orders cX7_orders 2 (some .int) :: lwT) ({ frames := 7, cells := 0, slots := 0, locals := 153 }) (gPc D (mW cI ad) (mE D cI) S [.ref (ad 26), .int (zI (w))]) (va_Qi (fun (r : Int32) (S' : St) => ∃ e10, S' = sA S 10 e10 ∧ r = zI (ordersF n N (S 5) (S 6) (S 7) k0 w)) (gB D (mW cI ad)) (mA ad)) 0 0 (mA ad) := by
  refine Met.ofW (cc := cX7_orders) (maxL := 2) (ret := (some .int)) (by decide) rfl ?_
  intro p e s m args below meth c s₁ B hml hv
  obtain ⟨rfl, hP, hE⟩ := hv
  have hx := B.exec
  have hb := B.bytes
  have hr := B.returns
  have hts := atoms_spec (ws := Cond.code yX7_orders cX7_orders 2 (some .int) :: lwT) B.pre
  have hT := fun w (h : w ∈ lwT) => hts w (List.mem_cons_of_mem _ h)
  have hsub : ∀ w ∈ lwT, w ∈ (Cond.code yX7_orders cX7_orders 2 (some .int) :: lwT) := fun w h => List.mem_cons_of_mem _ h
  have hown : s.vm.findClass RX7 = some m.cls := findClass_of_methodNamed B.named
  have hlocks := B.notSynchronized
  have hK : va_K D vwCl [(cI, .int)] s := hE
  have hS : va_S (mA ad) s.heap s.heap [] := va_S.rf
  have hl := lv_entry ([.ref (ad 26), .int (zI (w))]) (n := 2) (Nat.le_of_ble_eq_true rfl)
  rw [lg_entry_eq]
  generalize (lg_sl ([.ref (ad 26), .int (zI (w))]) ++ List.replicate (2 - (lg_sl ([.ref (ad 26), .int (zI (w))])).length) Slot.unset).toArray = ls at hl ⊢
  have hl : lv_has ls 2 [(0, .ref (ad 26)), (1, .int (zI (w)))] := hl
  refine lv_iload_n hx hb dX7_orders_0 rfl (lv_at hl 1 rfl) ?_
  refine z_i2l hx hb (by omega) (by omega) dX7_orders_1 ?_
  refine lv_lconst (v := zL 0) hx hb dX7_orders_2 (by decide) ?_
  refine lv_ldc2 (v := zL 3) hx hb hown (hT _ q_853) dX7_orders_3 ?_
  refine s_callSi (As := [.long (zL (w)), .long (zL (0)), .long (zL (3))]) (rest := []) ⟨hx, hb, hml, hown, hts⟩ (k_X7_in l w 0 3 (by omega) (by omega) (by omega) (by omega) (by omega) (by omega)) (cwS 3 hts (gS hsub q_756 q_757 q_8 q_758) rfl rfl rfl hdX7_in ⟨Nat.le_of_ble_eq_true rfl, Nat.le_of_ble_eq_true rfl⟩) rfl hl.1 rfl (Nat.le_of_ble_eq_true rfl) dX7_orders_6 ⟨Nat.le_of_ble_eq_true rfl, Nat.le_of_ble_eq_true rfl⟩ (fun r_1 hq_3 => ?_)
  rw [hq_3]
  refine z_ifneB (tgt := 15) hx hb dX7_orders_9 (by decide) (fun c_4 => ?_) (fun c_4 => ?_)
  · have h9 : True := trivial
    have c_4 : 0 ≤ w ∧ w ≤ 3 := of_decide_eq_true c_4
    refine lv_aload_n hx hb dX7_orders_15 rfl (lv_at hl 0 rfl) ?_
    refine g_callVi (As := []) (rest := []) ⟨hx, hb, hml, hown, hts⟩ (k_X7_lacks l D cI ad hinj S hR ) (cwV 0 hts (gV hsub q_812 q_814 q_sX7_lacks q_8 q_815) rfl rfl rfl hdX7_lacks ⟨Nat.le_of_ble_eq_true rfl, Nat.le_of_ble_eq_true rfl⟩) (mEb D cI) (mEk D cI (mA ad)) hE (va_recv (ci := 7) (q0 := 0) hK hP rfl rfl) hP hS rfl hl.1 rfl (Nat.le_of_ble_eq_true rfl) dX7_orders_16 ⟨Nat.le_of_ble_eq_true rfl, Nat.le_of_ble_eq_true rfl⟩ (fun r_5 S_6 H locs hq_7 hP hR hS _ => ?_)
    obtain ⟨hs9, rfl⟩ := hq_7
    obtain rfl := hs9.symm
    refine z_top (b := b2 (decide (S 2 0 = 0))) rfl ?_
    refine z_ifeqB (tgt := 27) hx hb dX7_orders_19 (by decide) (fun c_8 => ?_) (fun c_8 => ?_)
    · have h9 : True := trivial
      have c_8 : ¬ (S 2 0 = 0) := of_decide_eq_false c_8
      obtain ⟨hN, hO, hk0, hk⟩ := hst (by omega)
      have hO1 := hO.1
      have hO2 := hO.2.1
      have hnz : n ≠ 0 := by omega
      refine lv_aload_n hx hb dX7_orders_27 rfl (lv_at hl 0 rfl) ?_
      refine lv_iload_n hx hb dX7_orders_28 rfl (lv_at hl 1 rfl) ?_
      refine g_callVi (As := [.int (zI (w))]) (rest := []) ⟨hx, hb, hml, hown, hts⟩ (k_X7_ordersOf l D cI ad hinj S hR n hn hn7 N hN hO (k0) (hk0) (hk) (hp) w (by omega) (by omega) (by omega)) (cwV 1 hts (gV hsub q_943 q_945 q_sX7_ordersOf q_8 q_946) rfl rfl rfl hdX7_ordersOf ⟨Nat.le_of_ble_eq_true rfl, Nat.le_of_ble_eq_true rfl⟩) (mEb D cI) (mEk D cI (mA ad)) hE (va_recv (ci := 7) (q0 := 0) hK hP rfl rfl) hP hS rfl hl.1 rfl (Nat.le_of_ble_eq_true rfl) dX7_orders_29 ⟨Nat.le_of_ble_eq_true rfl, Nat.le_of_ble_eq_true rfl⟩ (fun r_9 S_10 H locs hq_11 hP hR hS _ => ?_)
      obtain ⟨e_12, rfl, rfl⟩ := hq_11
      refine z_top (b := orsF n N (S 5) (S 6) (S 7) k0 w) rfl ?_
      exact g_iret (S1 := sA S 10 e_12) (v := zI (orsF n N (S 5) (S 6) (S 7) k0 w)) hx hb hr hlocks hP hR hS (⟨_, rfl, by unfold ordersF; rw [if_pos (by omega), if_neg (by omega)]⟩) dX7_orders_32
    · have h9 : True := trivial
      have c_8 : S 2 0 = 0 := of_decide_eq_true c_8
      refine z_bipush hx hb dX7_orders_22 (by decide) ?_
      refine lv_goto (tgt := 32) hx hb dX7_orders_24 (by decide) ?_
      exact g_iret (S1 := S) (v := zI (-103)) hx hb hr hlocks hP hR hS (⟨S 10, by rw [sA_self], by unfold ordersF; rw [if_pos (by omega), if_pos (by omega)]⟩) dX7_orders_32
  · have h9 : True := trivial
    have c_4 : ¬ (0 ≤ w ∧ w ≤ 3) := of_decide_eq_false c_4
    refine z_bipush hx hb dX7_orders_12 (by decide) ?_
    exact g_iret (S1 := S) (v := zI (-102)) hx hb hr hlocks hP hR hS (⟨S 10, by rw [sA_self], by unfold ordersF; rw [if_neg (by omega)]⟩) dX7_orders_14
set_option maxHeartbeats 4000000 in
set_option maxRecDepth 100000 in
theorem k_X7_order (l : Launch) (D : va_G) (cI : ClassId) (ad : Nat → Nat) (hinj : mInj ad) (S : St) (hR : RS S) (n : Nat) (hn : S 2 0 = ↑n) (hn7 : n ≤ 7) (N k0 : Nat) (hst : n ≠ 0 → STp n N k0 S) (h80 : 0 ≤ S 8 0) (hp : prm n (S 6)) (x w : Int) (hx1 : -2147483648 ≤ x) (hx2 : x < 2147483648) (hw1 : -2147483648 ≤ w) (hw2 : w < 2147483648) : Met l yX7_order (Cond.code yX7_order cX7_order 3 (some .int) :: lwT) ({ frames := 5, cells := 0, slots := 0, locals := 111 }) (gPc D (mW cI ad) (mE D cI) S [.ref (ad 26), .int (zI (x)), .int (zI (w))]) (va_Qi (fun (r : Int32) (S' : St) => ∃ e9 e10, S' = sA (sA S 9 e9) 10 e10 ∧ r = zI (orderF n N (S 5) (S 7) x w)) (gB D (mW cI ad)) (mA ad)) 0 0 (mA ad) := by
  refine Met.ofW (cc := cX7_order) (maxL := 3) (ret := (some .int)) (by decide) rfl ?_
  intro p e s m args below meth c s₁ B hml hv
  obtain ⟨rfl, hP, hE⟩ := hv
  have hx := B.exec
  have hb := B.bytes
  have hr := B.returns
  have hts := atoms_spec (ws := Cond.code yX7_order cX7_order 3 (some .int) :: lwT) B.pre
  have hT := fun w (h : w ∈ lwT) => hts w (List.mem_cons_of_mem _ h)
  have hsub : ∀ w ∈ lwT, w ∈ (Cond.code yX7_order cX7_order 3 (some .int) :: lwT) := fun w h => List.mem_cons_of_mem _ h
  have hown : s.vm.findClass RX7 = some m.cls := findClass_of_methodNamed B.named
  have hlocks := B.notSynchronized
  have hK : va_K D vwCl [(cI, .int)] s := hE
  have hS : va_S (mA ad) s.heap s.heap [] := va_S.rf
  have hl := lv_entry ([.ref (ad 26), .int (zI (x)), .int (zI (w))]) (n := 3) (Nat.le_of_ble_eq_true rfl)
  rw [lg_entry_eq]
  generalize (lg_sl ([.ref (ad 26), .int (zI (x)), .int (zI (w))]) ++ List.replicate (3 - (lg_sl ([.ref (ad 26), .int (zI (x)), .int (zI (w))])).length) Slot.unset).toArray = ls at hl ⊢
  have hl : lv_has ls 3 [(0, .ref (ad 26)), (1, .int (zI (x))), (2, .int (zI (w)))] := hl
  refine lv_aload_n hx hb dX7_order_0 rfl (lv_at hl 0 rfl) ?_
  refine lv_iload_n hx hb dX7_order_1 rfl (lv_at hl 1 rfl) ?_
  refine g_callVi (As := [.int (zI (x))]) (rest := []) ⟨hx, hb, hml, hown, hts⟩ (k_X7_isOrder l D cI ad hinj S hR x (by omega) (by omega) (by omega)) (cwV 1 hts (gV hsub q_808 q_810 q_sX7_isOrder q_8 q_811) rfl rfl rfl hdX7_isOrder ⟨Nat.le_of_ble_eq_true rfl, Nat.le_of_ble_eq_true rfl⟩) (mEb D cI) (mEk D cI (mA ad)) hE (va_recv (ci := 7) (q0 := 0) hK hP rfl rfl) hP hS rfl hl.1 rfl (Nat.le_of_ble_eq_true rfl) dX7_order_2 ⟨Nat.le_of_ble_eq_true rfl, Nat.le_of_ble_eq_true rfl⟩ (fun r_1 S_2 H locs hq_3 hP hR hS _ => ?_)
  obtain ⟨hs9, rfl⟩ := hq_3
  obtain rfl := hs9.symm
  refine z_top (b := b2 (decide (S 2 0 ≠ 0 ∧ 0 ≤ x ∧ x ≤ S 8 0 - 1))) rfl ?_
  refine z_ifneB (tgt := 11) hx hb dX7_order_5 (by decide) (fun c_4 => ?_) (fun c_4 => ?_)
  · have h9 : True := trivial
    have c_4 : S 2 0 ≠ 0 ∧ 0 ≤ x ∧ x ≤ S 8 0 - 1 := of_decide_eq_true c_4
    obtain ⟨hN, hO, hk0, hk⟩ := hst (by omega)
    have hO1 := hO.1
    have hO2 := hO.2.1
    have hnz : n ≠ 0 := by omega
    refine lv_iload_n hx hb dX7_order_11 rfl (lv_at hl 2 rfl) ?_
    refine z_i2l hx hb (by omega) (by omega) dX7_order_12 ?_
    refine lv_lconst (v := zL 0) hx hb dX7_order_13 (by decide) ?_
    refine lv_lconst (v := zL 1) hx hb dX7_order_14 (by decide) ?_
    refine s_callSi (As := [.long (zL (w)), .long (zL (0)), .long (zL (1))]) (rest := []) ⟨hx, hb, hml, hown, hts⟩ (k_X7_in l w 0 1 (by omega) (by omega) (by omega) (by omega) (by omega) (by omega)) (cwS 3 hts (gS hsub q_756 q_757 q_8 q_758) rfl rfl rfl hdX7_in ⟨Nat.le_of_ble_eq_true rfl, Nat.le_of_ble_eq_true rfl⟩) rfl hl.1 rfl (Nat.le_of_ble_eq_true rfl) dX7_order_15 ⟨Nat.le_of_ble_eq_true rfl, Nat.le_of_ble_eq_true rfl⟩ (fun r_5 hq_7 => ?_)
    rw [hq_7]
    refine z_ifneB (tgt := 35) hx hb dX7_order_18 (by decide) (fun c_8 => ?_) (fun c_8 => ?_)
    · have h9 : True := trivial
      have c_8 : 0 ≤ w ∧ w ≤ 1 := of_decide_eq_true c_8
      refine lv_aload_n hx hb dX7_order_35 rfl (lv_at hl 0 rfl) ?_
      refine lv_iload_n hx hb dX7_order_36 rfl (lv_at hl 1 rfl) ?_
      refine lv_iload_n hx hb dX7_order_37 rfl (lv_at hl 2 rfl) ?_
      refine g_callVi (As := [.int (zI (x)), .int (zI (w))]) (rest := []) ⟨hx, hb, hml, hown, hts⟩ (k_X7_tellOrder l D cI ad hinj S hR n hn hn7 N hN hO (x.toNat) x w (by omega) (by omega) (by omega)) (cwV 2 hts (gV hsub q_957 q_959 q_sX7_tellOrder q_8 q_960) rfl rfl rfl hdX7_tellOrder ⟨Nat.le_of_ble_eq_true rfl, Nat.le_of_ble_eq_true rfl⟩) (mEb D cI) (mEk D cI (mA ad)) hE (va_recv (ci := 7) (q0 := 0) hK hP rfl rfl) hP hS rfl hl.1 rfl (Nat.le_of_ble_eq_true rfl) dX7_order_38 ⟨Nat.le_of_ble_eq_true rfl, Nat.le_of_ble_eq_true rfl⟩ (fun r_9 S_10 H locs hq_11 hP hR hS _ => ?_)
      obtain ⟨e_12, e_13, rfl, rfl⟩ := hq_11
      refine z_top (b := toF n (S 5) (dgF n (S 7 x.toNat)) w) rfl ?_
      refine lv_goto (tgt := 46) hx hb dX7_order_41 (by decide) ?_
      exact g_iret (S1 := sA (sA S 9 e_12) 10 e_13) (v := zI (toF n (S 5) (dgF n (S 7 x.toNat)) w)) hx hb hr hlocks hP hR hS (⟨_, _, rfl, by unfold orderF; rw [if_pos (by omega), if_pos (by omega)]⟩) dX7_order_46
    · have h9 : True := trivial
      have c_8 : ¬ (0 ≤ w ∧ w ≤ 1) := of_decide_eq_false c_8
      refine lv_iload_n hx hb dX7_order_21 rfl (lv_at hl 2 rfl) ?_
      refine z_i2l hx hb (by omega) (by omega) dX7_order_22 ?_
      refine lv_ldc2 (v := zL 10) hx hb hown (hT _ q_955) dX7_order_23 ?_
      refine lv_ldc2 (v := zL 16) hx hb hown (hT _ q_956) dX7_order_26 ?_
      refine s_callSi (As := [.long (zL (w)), .long (zL (10)), .long (zL (16))]) (rest := []) ⟨hx, hb, hml, hown, hts⟩ (k_X7_in l w 10 16 (by omega) (by omega) (by omega) (by omega) (by omega) (by omega)) (cwS 3 hts (gS hsub q_756 q_757 q_8 q_758) rfl rfl rfl hdX7_in ⟨Nat.le_of_ble_eq_true rfl, Nat.le_of_ble_eq_true rfl⟩) rfl hl.1 rfl (Nat.le_of_ble_eq_true rfl) dX7_order_29 ⟨Nat.le_of_ble_eq_true rfl, Nat.le_of_ble_eq_true rfl⟩ (fun r_14 hq_16 => ?_)
      rw [hq_16]
      refine z_ifeqB (tgt := 44) hx hb dX7_order_32 (by decide) (fun c_17 => ?_) (fun c_17 => ?_)
      · have h9 : True := trivial
        have c_17 : ¬ (10 ≤ w ∧ w ≤ 16) := of_decide_eq_false c_17
        refine z_bipush hx hb dX7_order_44 (by decide) ?_
        exact g_iret (S1 := S) (v := zI (-102)) hx hb hr hlocks hP hR hS (⟨S 9, S 10, by rw [sA_self, sA_self], by unfold orderF; rw [if_pos (by omega), if_neg (by omega)]⟩) dX7_order_46
      · have h9 : True := trivial
        have c_17 : 10 ≤ w ∧ w ≤ 16 := of_decide_eq_true c_17
        refine lv_aload_n hx hb dX7_order_35 rfl (lv_at hl 0 rfl) ?_
        refine lv_iload_n hx hb dX7_order_36 rfl (lv_at hl 1 rfl) ?_
        refine lv_iload_n hx hb dX7_order_37 rfl (lv_at hl 2 rfl) ?_
        refine g_callVi (As := [.int (zI (x)), .int (zI (w))]) (rest := []) ⟨hx, hb, hml, hown, hts⟩ (k_X7_tellOrder l D cI ad hinj S hR n hn hn7 N hN hO (x.toNat) x w (by omega) (by omega) (by omega)) (cwV 2 hts (gV hsub q_957 q_959 q_sX7_tellOrder q_8 q_960) rfl rfl rfl hdX7_tellOrder ⟨Nat.le_of_ble_eq_true rfl, Nat.le_of_ble_eq_true rfl⟩) (mEb D cI) (mEk D cI (mA ad)) hE (va_recv (ci := 7) (q0 := 0) hK hP rfl rfl) hP hS rfl hl.1 rfl (Nat.le_of_ble_eq_true rfl) dX7_order_38 ⟨Nat.le_of_ble_eq_true rfl, Nat.le_of_ble_eq_true rfl⟩ (fun r_18 S_19 H locs hq_20 hP hR hS _ => ?_)
        obtain ⟨e_21, e_22, rfl, rfl⟩ := hq_20
        refine z_top (b := toF n (S 5) (dgF n (S 7 x.toNat)) w) rfl ?_
        refine lv_goto (tgt := 46) hx hb dX7_order_41 (by decide) ?_
        exact g_iret (S1 := sA (sA S 9 e_21) 10 e_22) (v := zI (toF n (S 5) (dgF n (S 7 x.toNat)) w)) hx hb hr hlocks hP hR hS (⟨_, _, rfl, by unfold orderF; rw [if_pos (by omega), if_pos (by omega)]⟩) dX7_order_46
  · have h9 : True := trivial
    have c_4 : ¬ (S 2 0 ≠ 0 ∧ 0 ≤ x ∧ x ≤ S 8 0 - 1) := of_decide_eq_false c_4
    have hbad : ¬ (n ≠ 0 ∧ 0 ≤ x ∧ x ≤ (N : Int) - 1) := fun h => by have := (hst h.1).1; omega
    refine z_bipush hx hb dX7_order_8 (by decide) ?_
    exact g_iret (S1 := S) (v := zI (-101)) hx hb hr hlocks hP hR hS (⟨S 9, S 10, by rw [sA_self, sA_self], by unfold orderF; rw [if_neg hbad]⟩) dX7_order_10
set_option maxHeartbeats 4000000 in
set_option maxRecDepth 100000 in
theorem k_X7_tops (l : Launch) (D : va_G) (cI : ClassId) (ad : Nat → Nat) (hinj : mInj ad) (S : St) (hR : RS S) (n : Nat) (hn : S 2 0 = ↑n) (hn7 : n ≤ 7) (N k0 : Nat) (hst : n ≠ 0 → STp n N k0 S) (h80 : 0 ≤ S 8 0) (hp : prm n (S 6)) (x w : Int) (hx1 : -2147483648 ≤ x) (hx2 : x < 2147483648) (hw1 : -2147483648 ≤ w) (hw2 : w < 2147483648) : Met l yX7_tops (Cond.code yX7_tops cX7_tops 3 (some .int) :: lwT) ({ frames := 6, cells := 0, slots := 0, locals := 135 }) (gPc D (mW cI ad) (mE D cI) S [.ref (ad 26), .int (zI (x)), .int (zI (w))]) (va_Qi (fun (r : Int32) (S' : St) => ∃ e10, S' = sA S 10 e10 ∧ r = zI (topsF n N (S 5) (S 7) x w)) (gB D (mW cI ad)) (mA ad)) 0 0 (mA ad) := by
  refine Met.ofW (cc := cX7_tops) (maxL := 3) (ret := (some .int)) (by decide) rfl ?_
  intro p e s m args below meth c s₁ B hml hv
  obtain ⟨rfl, hP, hE⟩ := hv
  have hx := B.exec
  have hb := B.bytes
  have hr := B.returns
  have hts := atoms_spec (ws := Cond.code yX7_tops cX7_tops 3 (some .int) :: lwT) B.pre
  have hT := fun w (h : w ∈ lwT) => hts w (List.mem_cons_of_mem _ h)
  have hsub : ∀ w ∈ lwT, w ∈ (Cond.code yX7_tops cX7_tops 3 (some .int) :: lwT) := fun w h => List.mem_cons_of_mem _ h
  have hown : s.vm.findClass RX7 = some m.cls := findClass_of_methodNamed B.named
  have hlocks := B.notSynchronized
  have hK : va_K D vwCl [(cI, .int)] s := hE
  have hS : va_S (mA ad) s.heap s.heap [] := va_S.rf
  have hl := lv_entry ([.ref (ad 26), .int (zI (x)), .int (zI (w))]) (n := 3) (Nat.le_of_ble_eq_true rfl)
  rw [lg_entry_eq]
  generalize (lg_sl ([.ref (ad 26), .int (zI (x)), .int (zI (w))]) ++ List.replicate (3 - (lg_sl ([.ref (ad 26), .int (zI (x)), .int (zI (w))])).length) Slot.unset).toArray = ls at hl ⊢
  have hl : lv_has ls 3 [(0, .ref (ad 26)), (1, .int (zI (x))), (2, .int (zI (w)))] := hl
  refine lv_aload_n hx hb dX7_tops_0 rfl (lv_at hl 0 rfl) ?_
  refine lv_iload_n hx hb dX7_tops_1 rfl (lv_at hl 1 rfl) ?_
  refine g_callVi (As := [.int (zI (x))]) (rest := []) ⟨hx, hb, hml, hown, hts⟩ (k_X7_isLeaf l D cI ad hinj S hR x (by omega) (by omega) (by omega)) (cwV 1 hts (gV hsub q_906 q_908 q_sX7_isLeaf q_8 q_909) rfl rfl rfl hdX7_isLeaf ⟨Nat.le_of_ble_eq_true rfl, Nat.le_of_ble_eq_true rfl⟩) (mEb D cI) (mEk D cI (mA ad)) hE (va_recv (ci := 7) (q0 := 0) hK hP rfl rfl) hP hS rfl hl.1 rfl (Nat.le_of_ble_eq_true rfl) dX7_tops_2 ⟨Nat.le_of_ble_eq_true rfl, Nat.le_of_ble_eq_true rfl⟩ (fun r_1 S_2 H locs hq_3 hP hR hS _ => ?_)
  obtain ⟨hs9, rfl⟩ := hq_3
  obtain rfl := hs9.symm
  refine z_top (b := b2 (decide (0 ≤ x ∧ x ≤ S 2 0 - 1))) rfl ?_
  refine z_ifneB (tgt := 11) hx hb dX7_tops_5 (by decide) (fun c_4 => ?_) (fun c_4 => ?_)
  · have h9 : True := trivial
    have c_4 : 0 ≤ x ∧ x ≤ S 2 0 - 1 := of_decide_eq_true c_4
    obtain ⟨hN, hO, hk0, hk⟩ := hst (by omega)
    have hO1 := hO.1
    have hO2 := hO.2.1
    have hnz : n ≠ 0 := by omega
    refine lv_iload_n hx hb dX7_tops_11 rfl (lv_at hl 2 rfl) ?_
    refine z_i2l hx hb (by omega) (by omega) dX7_tops_12 ?_
    refine lv_lconst (v := zL 0) hx hb dX7_tops_13 (by decide) ?_
    refine lv_lconst (v := zL 1) hx hb dX7_tops_14 (by decide) ?_
    refine s_callSi (As := [.long (zL (w)), .long (zL (0)), .long (zL (1))]) (rest := []) ⟨hx, hb, hml, hown, hts⟩ (k_X7_in l w 0 1 (by omega) (by omega) (by omega) (by omega) (by omega) (by omega)) (cwS 3 hts (gS hsub q_756 q_757 q_8 q_758) rfl rfl rfl hdX7_in ⟨Nat.le_of_ble_eq_true rfl, Nat.le_of_ble_eq_true rfl⟩) rfl hl.1 rfl (Nat.le_of_ble_eq_true rfl) dX7_tops_15 ⟨Nat.le_of_ble_eq_true rfl, Nat.le_of_ble_eq_true rfl⟩ (fun r_5 hq_7 => ?_)
    rw [hq_7]
    refine z_ifeqB (tgt := 30) hx hb dX7_tops_18 (by decide) (fun c_8 => ?_) (fun c_8 => ?_)
    · have h9 : True := trivial
      have c_8 : ¬ (0 ≤ w ∧ w ≤ 1) := of_decide_eq_false c_8
      refine z_bipush hx hb dX7_tops_30 (by decide) ?_
      exact g_iret (S1 := S) (v := zI (-102)) hx hb hr hlocks hP hR hS (⟨S 10, by rw [sA_self], by unfold topsF; rw [if_pos (by omega), if_neg (by omega)]⟩) dX7_tops_32
    · have h9 : True := trivial
      have c_8 : 0 ≤ w ∧ w ≤ 1 := of_decide_eq_true c_8
      refine lv_aload_n hx hb dX7_tops_21 rfl (lv_at hl 0 rfl) ?_
      refine lv_iload_n hx hb dX7_tops_22 rfl (lv_at hl 1 rfl) ?_
      refine lv_iload_n hx hb dX7_tops_23 rfl (lv_at hl 2 rfl) ?_
      refine g_callVi (As := [.int (zI (x)), .int (zI (w))]) (rest := []) ⟨hx, hb, hml, hown, hts⟩ (k_X7_topsOf l D cI ad hinj S hR n hn hn7 N hN hO (by omega) x w (by omega) (by omega) (by omega) (by omega)) (cwV 2 hts (gV hsub q_965 q_967 q_sX7_topsOf q_8 q_968) rfl rfl rfl hdX7_topsOf ⟨Nat.le_of_ble_eq_true rfl, Nat.le_of_ble_eq_true rfl⟩) (mEb D cI) (mEk D cI (mA ad)) hE (va_recv (ci := 7) (q0 := 0) hK hP rfl rfl) hP hS rfl hl.1 rfl (Nat.le_of_ble_eq_true rfl) dX7_tops_24 ⟨Nat.le_of_ble_eq_true rfl, Nat.le_of_ble_eq_true rfl⟩ (fun r_9 S_10 H locs hq_11 hP hR hS _ => ?_)
      obtain ⟨e_12, rfl, rfl⟩ := hq_11
      refine z_top (b := cnt (fun k => pB ((w = 0 ∨ ftP n (S 5) (S 7) k) ∧ dgF n (S 7 k) 0 = x)) N) rfl ?_
      refine lv_goto (tgt := 32) hx hb dX7_tops_27 (by decide) ?_
      exact g_iret (S1 := sA S 10 e_12) (v := zI (cnt (fun k => pB ((w = 0 ∨ ftP n (S 5) (S 7) k) ∧ dgF n (S 7 k) 0 = x)) N)) hx hb hr hlocks hP hR hS (⟨_, rfl, by unfold topsF; rw [if_pos (by omega), if_pos (by omega)]⟩) dX7_tops_32
  · have h9 : True := trivial
    have c_4 : ¬ (0 ≤ x ∧ x ≤ S 2 0 - 1) := of_decide_eq_false c_4
    refine z_bipush hx hb dX7_tops_8 (by decide) ?_
    exact g_iret (S1 := S) (v := zI (-101)) hx hb hr hlocks hP hR hS (⟨S 10, by rw [sA_self], by unfold topsF; rw [if_neg (by omega)]⟩) dX7_tops_10
set_option maxHeartbeats 4000000 in
set_option maxRecDepth 100000 in
theorem k_X7_odds (l : Launch) (D : va_G) (cI : ClassId) (ad : Nat → Nat) (hinj : mInj ad) (S : St) (hR : RS S) (n : Nat) (hn : S 2 0 = ↑n) (hn7 : n ≤ 7) (N k0 : Nat) (hst : n ≠ 0 → STp n N k0 S) (h80 : 0 ≤ S 8 0) (hp : prm n (S 6)) (x y w : Int) (hx1 : -2147483648 ≤ x) (hx2 : x < 2147483648) (hy1 : -2147483648 ≤ y) (hy2 : y < 2147483648) (hw1 : -2147483648 ≤ w) (hw2 : w < 2147483648) : Met l yX7_odds (Cond.code yX7_odds cX7_odds 4 (some .int) :: lwT) ({ frames := 6, cells := 0, slots := 0, locals := 138 }) (gPc D (mW cI ad) (mE D cI) S [.ref (ad 26), .int (zI (x)), .int (zI (y)), .int (zI (w))]) (va_Qi (fun (r : Int32) (S' : St) => ∃ e10, S' = sA S 10 e10 ∧ r = zI (oddsF n N (S 5) (S 7) x y w)) (gB D (mW cI ad)) (mA ad)) 0 0 (mA ad) := by
  refine Met.ofW (cc := cX7_odds) (maxL := 4) (ret := (some .int)) (by decide) rfl ?_
  intro p e s m args below meth c s₁ B hml hv
  obtain ⟨rfl, hP, hE⟩ := hv
  have hx := B.exec
  have hb := B.bytes
  have hr := B.returns
  have hts := atoms_spec (ws := Cond.code yX7_odds cX7_odds 4 (some .int) :: lwT) B.pre
  have hT := fun w (h : w ∈ lwT) => hts w (List.mem_cons_of_mem _ h)
  have hsub : ∀ w ∈ lwT, w ∈ (Cond.code yX7_odds cX7_odds 4 (some .int) :: lwT) := fun w h => List.mem_cons_of_mem _ h
  have hown : s.vm.findClass RX7 = some m.cls := findClass_of_methodNamed B.named
  have hlocks := B.notSynchronized
  have hK : va_K D vwCl [(cI, .int)] s := hE
  have hS : va_S (mA ad) s.heap s.heap [] := va_S.rf
  have hl := lv_entry ([.ref (ad 26), .int (zI (x)), .int (zI (y)), .int (zI (w))]) (n := 4) (Nat.le_of_ble_eq_true rfl)
  rw [lg_entry_eq]
  generalize (lg_sl ([.ref (ad 26), .int (zI (x)), .int (zI (y)), .int (zI (w))]) ++ List.replicate (4 - (lg_sl ([.ref (ad 26), .int (zI (x)), .int (zI (y)), .int (zI (w))])).length) Slot.unset).toArray = ls at hl ⊢
  have hl : lv_has ls 4 [(0, .ref (ad 26)), (1, .int (zI (x))), (2, .int (zI (y))), (3, .int (zI (w)))] := hl
  refine lv_aload_n hx hb dX7_odds_0 rfl (lv_at hl 0 rfl) ?_
  refine lv_iload_n hx hb dX7_odds_1 rfl (lv_at hl 1 rfl) ?_
  refine g_callVi (As := [.int (zI (x))]) (rest := []) ⟨hx, hb, hml, hown, hts⟩ (k_X7_isLeaf l D cI ad hinj S hR x (by omega) (by omega) (by omega)) (cwV 1 hts (gV hsub q_906 q_908 q_sX7_isLeaf q_8 q_909) rfl rfl rfl hdX7_isLeaf ⟨Nat.le_of_ble_eq_true rfl, Nat.le_of_ble_eq_true rfl⟩) (mEb D cI) (mEk D cI (mA ad)) hE (va_recv (ci := 7) (q0 := 0) hK hP rfl rfl) hP hS rfl hl.1 rfl (Nat.le_of_ble_eq_true rfl) dX7_odds_2 ⟨Nat.le_of_ble_eq_true rfl, Nat.le_of_ble_eq_true rfl⟩ (fun r_1 S_2 H locs hq_3 hP hR hS _ => ?_)
  obtain ⟨hs9, rfl⟩ := hq_3
  obtain rfl := hs9.symm
  refine z_top (b := b2 (decide (0 ≤ x ∧ x ≤ S 2 0 - 1))) rfl ?_
  refine z_ifeqB (tgt := 21) hx hb dX7_odds_5 (by decide) (fun c_4 => ?_) (fun c_4 => ?_)
  · have h9 : True := trivial
    have c_4 : ¬ (0 ≤ x ∧ x ≤ S 2 0 - 1) := of_decide_eq_false c_4
    refine z_bipush hx hb dX7_odds_21 (by decide) ?_
    exact g_iret (S1 := S) (v := zI (-101)) hx hb hr hlocks hP hR hS (⟨S 10, by rw [sA_self], by unfold oddsF; rw [if_neg (by omega)]⟩) dX7_odds_23
  · have h9 : True := trivial
    have c_4 : 0 ≤ x ∧ x ≤ S 2 0 - 1 := of_decide_eq_true c_4
    refine lv_aload_n hx hb dX7_odds_8 rfl (lv_at hl 0 rfl) ?_
    refine lv_iload_n hx hb dX7_odds_9 rfl (lv_at hl 2 rfl) ?_
    refine g_callVi (As := [.int (zI (y))]) (rest := []) ⟨hx, hb, hml, hown, hts⟩ (k_X7_isLeaf l D cI ad hinj S hR y (by omega) (by omega) (by omega)) (cwV 1 hts (gV hsub q_906 q_908 q_sX7_isLeaf q_8 q_909) rfl rfl rfl hdX7_isLeaf ⟨Nat.le_of_ble_eq_true rfl, Nat.le_of_ble_eq_true rfl⟩) (mEb D cI) (mEk D cI (mA ad)) hE (va_recv (ci := 7) (q0 := 0) hK hP rfl rfl) hP hS rfl hl.1 rfl (Nat.le_of_ble_eq_true rfl) dX7_odds_10 ⟨Nat.le_of_ble_eq_true rfl, Nat.le_of_ble_eq_true rfl⟩ (fun r_5 S_6 H locs hq_7 hP hR hS _ => ?_)
    obtain ⟨hs9, rfl⟩ := hq_7
    obtain rfl := hs9.symm
    refine z_top (b := b2 (decide (0 ≤ y ∧ y ≤ S 2 0 - 1))) rfl ?_
    refine z_ifeqB (tgt := 21) hx hb dX7_odds_13 (by decide) (fun c_8 => ?_) (fun c_8 => ?_)
    · have h9 : True := trivial
      have c_8 : ¬ (0 ≤ y ∧ y ≤ S 2 0 - 1) := of_decide_eq_false c_8
      refine z_bipush hx hb dX7_odds_21 (by decide) ?_
      exact g_iret (S1 := S) (v := zI (-101)) hx hb hr hlocks hP hR hS (⟨S 10, by rw [sA_self], by unfold oddsF; rw [if_neg (by omega)]⟩) dX7_odds_23
    · have h9 : True := trivial
      have c_8 : 0 ≤ y ∧ y ≤ S 2 0 - 1 := of_decide_eq_true c_8
      refine lv_iload_n hx hb dX7_odds_16 rfl (lv_at hl 1 rfl) ?_
      refine lv_iload_n hx hb dX7_odds_17 rfl (lv_at hl 2 rfl) ?_
      refine z_icmp_ne (tgt := 24) hx hb (by omega) (by omega) (by omega) (by omega) dX7_odds_18 (by decide) (fun c_9 => ?_) (fun c_9 => ?_)
      · have h9 : True := trivial
        obtain ⟨hN, hO, hk0, hk⟩ := hst (by omega)
        have hO1 := hO.1
        have hO2 := hO.2.1
        have hnz : n ≠ 0 := by omega
        refine lv_iload_n hx hb dX7_odds_24 rfl (lv_at hl 3 rfl) ?_
        refine z_i2l hx hb (by omega) (by omega) dX7_odds_25 ?_
        refine lv_lconst (v := zL 0) hx hb dX7_odds_26 (by decide) ?_
        refine lv_lconst (v := zL 1) hx hb dX7_odds_27 (by decide) ?_
        refine s_callSi (As := [.long (zL (w)), .long (zL (0)), .long (zL (1))]) (rest := []) ⟨hx, hb, hml, hown, hts⟩ (k_X7_in l w 0 1 (by omega) (by omega) (by omega) (by omega) (by omega) (by omega)) (cwS 3 hts (gS hsub q_756 q_757 q_8 q_758) rfl rfl rfl hdX7_in ⟨Nat.le_of_ble_eq_true rfl, Nat.le_of_ble_eq_true rfl⟩) rfl hl.1 rfl (Nat.le_of_ble_eq_true rfl) dX7_odds_28 ⟨Nat.le_of_ble_eq_true rfl, Nat.le_of_ble_eq_true rfl⟩ (fun r_10 hq_12 => ?_)
        rw [hq_12]
        refine z_ifeqB (tgt := 44) hx hb dX7_odds_31 (by decide) (fun c_13 => ?_) (fun c_13 => ?_)
        · have h9 : True := trivial
          have c_13 : ¬ (0 ≤ w ∧ w ≤ 1) := of_decide_eq_false c_13
          refine z_bipush hx hb dX7_odds_44 (by decide) ?_
          exact g_iret (S1 := S) (v := zI (-102)) hx hb hr hlocks hP hR hS (⟨S 10, by rw [sA_self], by unfold oddsF; rw [if_pos (by omega), if_neg (by omega)]⟩) dX7_odds_46
        · have h9 : True := trivial
          have c_13 : 0 ≤ w ∧ w ≤ 1 := of_decide_eq_true c_13
          refine lv_aload_n hx hb dX7_odds_34 rfl (lv_at hl 0 rfl) ?_
          refine lv_iload_n hx hb dX7_odds_35 rfl (lv_at hl 1 rfl) ?_
          refine lv_iload_n hx hb dX7_odds_36 rfl (lv_at hl 2 rfl) ?_
          refine lv_iload_n hx hb dX7_odds_37 rfl (lv_at hl 3 rfl) ?_
          refine g_callVi (As := [.int (zI (x)), .int (zI (y)), .int (zI (w))]) (rest := []) ⟨hx, hb, hml, hown, hts⟩ (k_X7_oddsOf l D cI ad hinj S hR n hn hn7 N hN hO (x.toNat) (y.toNat) x y w (by omega) (by omega) (by omega) (by omega) (by omega) (by omega)) (cwV 3 hts (gV hsub q_910 q_912 q_sX7_oddsOf q_8 q_913) rfl rfl rfl hdX7_oddsOf ⟨Nat.le_of_ble_eq_true rfl, Nat.le_of_ble_eq_true rfl⟩) (mEb D cI) (mEk D cI (mA ad)) hE (va_recv (ci := 7) (q0 := 0) hK hP rfl rfl) hP hS rfl hl.1 rfl (Nat.le_of_ble_eq_true rfl) dX7_odds_38 ⟨Nat.le_of_ble_eq_true rfl, Nat.le_of_ble_eq_true rfl⟩ (fun r_14 S_15 H locs hq_16 hP hR hS _ => ?_)
          obtain ⟨e_17, rfl, rfl⟩ := hq_16
          refine z_top (b := odF (cnt (fun k => pB (ftP n (S 5) (S 7) k)) N) (cnt (fun k => pB (ftP n (S 5) (S 7) k ∧ pl n (dgF n (S 7 k)) x.toNat < pl n (dgF n (S 7 k)) y.toNat)) N) w) rfl ?_
          refine lv_goto (tgt := 46) hx hb dX7_odds_41 (by decide) ?_
          exact g_iret (S1 := sA S 10 e_17) (v := zI (odF (cnt (fun k => pB (ftP n (S 5) (S 7) k)) N) (cnt (fun k => pB (ftP n (S 5) (S 7) k ∧ pl n (dgF n (S 7 k)) x.toNat < pl n (dgF n (S 7 k)) y.toNat)) N) w)) hx hb hr hlocks hP hR hS (⟨_, rfl, by unfold oddsF; rw [if_pos (by omega), if_pos (by omega)]⟩) dX7_odds_46
      · have h9 : True := trivial
        refine z_bipush hx hb dX7_odds_21 (by decide) ?_
        exact g_iret (S1 := S) (v := zI (-101)) hx hb hr hlocks hP hR hS (⟨S 10, by rw [sA_self], by unfold oddsF; rw [if_neg (by omega)]⟩) dX7_odds_23
