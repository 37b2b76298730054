set_option maxHeartbeats 4000000 in
set_option maxRecDepth 100000 in
theorem k_X7_letter (l : Launch) (D : va_G) (cI : ClassId) (ad : Nat → Nat) (hinj : mInj ad) (S : St) (hR : RS S) (x : Int) (hx1 : -2147483648 ≤ x) (hx2 : x < 2147483648) (sz : Nat) (hsz : S 1 0 = ↑sz) (hsz9 : sz ≤ 9) : Met l yX7_letter (Cond.code yX7_letter cX7_letter 2 (some .int) :: lwT) ({ frames := 1, cells := 0, slots := 0, locals := 25 }) (gPc D (mW cI ad) (mE D cI) S [.ref (ad 26), .int (zI (x))]) (va_Qi (fun (r : Int32) (S' : St) => (¬ (1 ≤ x ∧ x ≤ 126) ∧ S' = S ∧ r = zI (-102)) ∨ ((1 ≤ x ∧ x ≤ 126) ∧ sz = 9 ∧ S' = S ∧ r = zI (-104)) ∨ ((1 ≤ x ∧ x ≤ 126) ∧ sz < 9 ∧ S' = sA (sA S 0 (uZ (S 0) sz x)) 1 (fun _ => ↑sz + 1) ∧ r = zI (↑sz + 1))) (gB D (mW cI ad)) (mA ad)) 0 0 (mA ad) := by
  refine Met.ofW (cc := cX7_letter) (maxL := 2) (ret := (some .int)) (by decide) rfl ?_
  intro p e s m args below meth c s₁ B hml hv
  obtain ⟨rfl, hP, hE⟩ := hv
  have hx := B.exec
  have hb := B.bytes
  have hr := B.returns
  have hts := atoms_spec (ws := Cond.code yX7_letter cX7_letter 2 (some .int) :: lwT) B.pre
  have hT := fun w (h : w ∈ lwT) => hts w (List.mem_cons_of_mem _ h)
  have hsub : ∀ w ∈ lwT, w ∈ (Cond.code yX7_letter cX7_letter 2 (some .int) :: lwT) := fun w h => List.mem_cons_of_mem _ h
  have hown : s.vm.findClass RX7 = some m.cls := findClass_of_methodNamed B.named
  have hlocks := B.notSynchronized
  have hK : va_K D vwCl [(cI, .int)] s := hE
  have hS : va_S (mA ad) s.heap s.heap [] := va_S.rf
  have hl := lv_entry ([.ref (ad 26), .int (zI (x))]) (n := 2) (Nat.le_of_ble_eq_true rfl)
  rw [lg_entry_eq]
  generalize (lg_sl ([.ref (ad 26), .int (zI (x))]) ++ List.replicate (2 - (lg_sl ([.ref (ad 26), .int (zI (x))])).length) Slot.unset).toArray = ls at hl ⊢
  have hl : lv_has ls 2 [(0, .ref (ad 26)), (1, .int (zI (x)))] := hl
  refine lv_iload_n hx hb dX7_letter_0 rfl (lv_at hl 1 rfl) ?_
  refine z_i2l hx hb (by omega) (by omega) dX7_letter_1 ?_
  refine lv_lconst (v := zL 1) hx hb dX7_letter_2 (by decide) ?_
  refine lv_ldc2 (v := zL 126) hx hb hown (hT _ q_755) dX7_letter_3 ?_
  refine s_callSi (As := [.long (zL (x)), .long (zL (1)), .long (zL (126))]) (rest := []) ⟨hx, hb, hml, hown, hts⟩ (k_X7_in l x 1 126 (by omega) (by omega) (by omega) (by omega) (by omega) (by omega)) (cwS 3 hts (gS hsub q_756 q_757 q_8 q_758) rfl rfl rfl hdX7_in ⟨Nat.le_of_ble_eq_true rfl, Nat.le_of_ble_eq_true rfl⟩) rfl hl.1 rfl (Nat.le_of_ble_eq_true rfl) dX7_letter_6 ⟨Nat.le_of_ble_eq_true rfl, Nat.le_of_ble_eq_true rfl⟩ (fun r_1 hq_3 => ?_)
  rw [hq_3]
  refine z_ifneB (tgt := 15) hx hb dX7_letter_9 (by decide) (fun c_4 => ?_) (fun c_4 => ?_)
  · have h9 : True := trivial
    have c_4 : 1 ≤ x ∧ x ≤ 126 := of_decide_eq_true c_4
    refine lv_aload_n hx hb dX7_letter_15 rfl (lv_at hl 0 rfl) ?_
    have g_5 : -2147483648 ≤ S 1 0 ∧ S 1 0 < 2147483648 := hR 1 0 (by decide)
    refine va_get (D := D) (ci := 7) (v := .int (zI (S 1 0))) (C := RX7) (T := TX7) (N := 26) hx hb hT inX7 hown hK hP 0 rfl rfl 1 (by decide) (hT _ q_673) (fun _ h9 => h9) rfl dX7_letter_16 ?_
    refine z_bipush hx hb dX7_letter_19 (by decide) ?_
    refine z_icmp_ne (tgt := 27) hx hb (by omega) (by omega) (by omega) (by omega) dX7_letter_21 (by decide) (fun c_6 => ?_) (fun c_6 => ?_)
    · have h9 : True := trivial
      refine lv_aload_n hx hb dX7_letter_27 rfl (lv_at hl 0 rfl) ?_
      refine va_get (D := D) (ci := 7) (v := .ref (ad 0)) (C := RX7) (T := TX7) (N := 26) hx hb hT inX7 hown hK hP 0 rfl rfl 0 (by decide) (hT _ q_672) (fun _ h9 => h9) rfl dX7_letter_28 ?_
      refine lv_aload_n hx hb dX7_letter_31 rfl (lv_at hl 0 rfl) ?_
      refine va_get (D := D) (ci := 7) (v := .int (zI (S 1 0))) (C := RX7) (T := TX7) (N := 26) hx hb hT inX7 hown hK hP 0 rfl rfl 1 (by decide) (hT _ q_673) (fun _ h9 => h9) rfl dX7_letter_32 ?_
      refine lv_iload_n hx hb dX7_letter_35 rfl (lv_at hl 1 rfl) ?_
      refine z_ast (f := S 0) (i := S 1 0) (v := x) hx hb hK hP (mD hinj cI _) hS 1 0 rfl rfl (by omega) (by omega) (by decide) dX7_letter_36 (fun H locs hP hS => ?_)
      have hP : va_P D vwCl (mW cI ad (sA S 0 (uZ (S 0) (S 1 0).toNat x))) H := hP
      have hR : RS (sA S 0 (uZ (S 0) (S 1 0).toNat x)) := hR.put (by omega) (by omega)
      refine lv_aload_n hx hb dX7_letter_37 rfl (lv_at hl 0 rfl) ?_
      refine lv_dup hx hb dX7_letter_38 rfl ?_
      refine va_get (D := D) (ci := 7) (v := .int (zI (S 1 0))) (C := RX7) (T := TX7) (N := 26) hx hb hT inX7 hown hK hP 0 rfl rfl 1 (by decide) (hT _ q_673) (fun _ h9 => h9) rfl dX7_letter_39 ?_
      refine z_iconst hx hb dX7_letter_42 ?_
      refine z_iadd hx hb dX7_letter_43 ?_
      refine va_put (D := D) (ci := 7) (v := .int (zI ((S 1 0) + 1))) (ty := .int) (C := RX7) (T := TX7) (N := 26) hx hb hT inX7 tyX7 tyX7_ok nmX7 hown hK hP (mD hinj cI _) hS 0 rfl rfl 1 (by decide) (hT _ q_673) (fun _ h9 => h9) rfl (by decide +kernel) rfl rfl (Nat.le_of_ble_eq_true rfl) dX7_letter_44 (fun H locs hP _ hS => ?_)
      have hP : va_P D vwCl (mW cI ad (sA (sA S 0 (uZ (S 0) (S 1 0).toNat x)) 1 (fun _ => (S 1 0) + 1))) H := hP
      have hR : RS (sA (sA S 0 (uZ (S 0) (S 1 0).toNat x)) 1 (fun _ => (S 1 0) + 1)) := hR.one (by omega) (by omega)
      refine lv_aload_n hx hb dX7_letter_47 rfl (lv_at hl 0 rfl) ?_
      refine va_get (D := D) (ci := 7) (v := .int (zI ((S 1 0) + 1))) (C := RX7) (T := TX7) (N := 26) hx hb hT inX7 hown hK hP 0 rfl rfl 1 (by decide) (hT _ q_673) (fun _ h9 => h9) rfl dX7_letter_48 ?_
      exact g_iret (S1 := sA (sA S 0 (uZ (S 0) (S 1 0).toNat x)) 1 (fun _ => (S 1 0) + 1)) (v := zI ((S 1 0) + 1)) hx hb hr hlocks hP hR hS (Or.inr (Or.inr ⟨c_4, by omega, by rw [show (S 1 0).toNat = sz by omega, hsz], by rw [hsz]⟩)) dX7_letter_51
    · have h9 : True := trivial
      refine z_bipush hx hb dX7_letter_24 (by decide) ?_
      exact g_iret (S1 := S) (v := zI (-104)) hx hb hr hlocks hP hR hS (Or.inr (Or.inl ⟨c_4, by omega, rfl, rfl⟩)) dX7_letter_26
  · have h9 : True := trivial
    have c_4 : ¬ (1 ≤ x ∧ x ≤ 126) := of_decide_eq_false c_4
    refine z_bipush hx hb dX7_letter_12 (by decide) ?_
    exact g_iret (S1 := S) (v := zI (-102)) hx hb hr hlocks hP hR hS (Or.inl ⟨c_4, rfl, rfl⟩) dX7_letter_14
set_option maxHeartbeats 4000000 in
set_option maxRecDepth 100000 in
theorem k_X7_blank (l : Launch) (D : va_G) (cI : ClassId) (ad : Nat → Nat) (hinj : mInj ad) (S : St) (hR : RS S)  : Met l yX7_blank (Cond.code yX7_blank cX7_blank 2 (some .int) :: lwT) ({ frames := 0, cells := 0, slots := 0, locals := 0 }) (gPc D (mW cI ad) (mE D cI) S [.ref (ad 26)]) (va_Qi (fun (r : Int32) (S' : St) => S' = sA S 1 (fun _ => 0) ∧ r = zI (S 1 0)) (gB D (mW cI ad)) (mA ad)) 0 0 (mA ad) := by
  refine Met.ofW (cc := cX7_blank) (maxL := 2) (ret := (some .int)) (by decide) rfl ?_
  intro p e s m args below meth c s₁ B hml hv
  obtain ⟨rfl, hP, hE⟩ := hv
  have hx := B.exec
  have hb := B.bytes
  have hr := B.returns
  have hts := atoms_spec (ws := Cond.code yX7_blank cX7_blank 2 (some .int) :: lwT) B.pre
  have hT := fun w (h : w ∈ lwT) => hts w (List.mem_cons_of_mem _ h)
  have hsub : ∀ w ∈ lwT, w ∈ (Cond.code yX7_blank cX7_blank 2 (some .int) :: lwT) := fun w h => List.mem_cons_of_mem _ h
  have hown : s.vm.findClass RX7 = some m.cls := findClass_of_methodNamed B.named
  have hlocks := B.notSynchronized
  have hK : va_K D vwCl [(cI, .int)] s := hE
  have hS : va_S (mA ad) s.heap s.heap [] := va_S.rf
  have hl := lv_entry ([.ref (ad 26)]) (n := 2) (Nat.le_of_ble_eq_true rfl)
  rw [lg_entry_eq]
  generalize (lg_sl ([.ref (ad 26)]) ++ List.replicate (2 - (lg_sl ([.ref (ad 26)])).length) Slot.unset).toArray = ls at hl ⊢
  have hl : lv_has ls 2 [(0, .ref (ad 26))] := hl
  refine lv_aload_n hx hb dX7_blank_0 rfl (lv_at hl 0 rfl) ?_
  have g_1 : -2147483648 ≤ S 1 0 ∧ S 1 0 < 2147483648 := hR 1 0 (by decide)
  refine va_get (D := D) (ci := 7) (v := .int (zI (S 1 0))) (C := RX7) (T := TX7) (N := 26) hx hb hT inX7 hown hK hP 0 rfl rfl 1 (by decide) (hT _ q_673) (fun _ h9 => h9) rfl dX7_blank_1 ?_
  refine lv_istore_n (lv' := [(1, .int (zI (S 1 0))), (0, .ref (ad 26))]) hx hb dX7_blank_4 rfl hl (by decide) rfl (fun ls hl => ?_)
  refine lv_aload_n hx hb dX7_blank_5 rfl (lv_at hl 1 rfl) ?_
  refine z_iconst hx hb dX7_blank_6 ?_
  refine va_put (D := D) (ci := 7) (v := .int (zI (0))) (ty := .int) (C := RX7) (T := TX7) (N := 26) hx hb hT inX7 tyX7 tyX7_ok nmX7 hown hK hP (mD hinj cI _) hS 0 rfl rfl 1 (by decide) (hT _ q_673) (fun _ h9 => h9) rfl (by decide +kernel) rfl rfl (Nat.le_of_ble_eq_true rfl) dX7_blank_7 (fun H locs hP _ hS => ?_)
  have hP : va_P D vwCl (mW cI ad (sA S 1 (fun _ => 0))) H := hP
  have hR : RS (sA S 1 (fun _ => 0)) := hR.one (by omega) (by omega)
  refine lv_iload_n hx hb dX7_blank_10 rfl (lv_at hl 0 rfl) ?_
  exact g_iret (S1 := sA S 1 (fun _ => 0)) (v := zI (S 1 0)) hx hb hr hlocks hP hR hS (⟨rfl, rfl⟩) dX7_blank_11
set_option maxHeartbeats 4000000 in
set_option maxRecDepth 100000 in
theorem k_X7_kindBy (l : Launch) (x : Int) (hx1 : -2147483648 ≤ x) (hx2 : x < 2147483648) : Met l yX7_kindBy (Cond.code yX7_kindBy cX7_kindBy 1 (some .int) :: lwT) ({ frames := 0, cells := 0, slots := 0, locals := 0 }) (va_Pc [.int (zI (x))] (fun _ => True)) (vp_Si (fun r : Int32 => r = zI (kbF x))) 0 0 (fun _ => False) := by
  refine Met.ofW (cc := cX7_kindBy) (maxL := 1) (ret := (some .int)) (by decide) rfl ?_
  intro p e s m args below meth c s₁ B hml hv
  obtain ⟨rfl, -⟩ := hv
  have hx := B.exec
  have hb := B.bytes
  have hr := B.returns
  have hts := atoms_spec (ws := Cond.code yX7_kindBy cX7_kindBy 1 (some .int) :: lwT) B.pre
  have hT := fun w (h : w ∈ lwT) => hts w (List.mem_cons_of_mem _ h)
  have hsub : ∀ w ∈ lwT, w ∈ (Cond.code yX7_kindBy cX7_kindBy 1 (some .int) :: lwT) := fun w h => List.mem_cons_of_mem _ h
  have hown : s.vm.findClass RX7 = some m.cls := findClass_of_methodNamed B.named
  have hlocks := B.notSynchronized
  have hl := lv_entry ([.int (zI (x))]) (n := 1) (Nat.le_of_ble_eq_true rfl)
  rw [lg_entry_eq]
  generalize (lg_sl ([.int (zI (x))]) ++ List.replicate (1 - (lg_sl ([.int (zI (x))])).length) Slot.unset).toArray = ls at hl ⊢
  have hl : lv_has ls 1 [(0, .int (zI (x)))] := hl
  refine lv_iload_n hx hb dX7_kindBy_0 rfl (lv_at hl 0 rfl) ?_
  rcases (show (¬ x = 98 ∧ ¬ x = 99 ∧ ¬ x = 108 ∧ ¬ x = 116 ∧ ¬ x = 119) ∨ x = 98 ∨ x = 99 ∨ x = 108 ∨ x = 116 ∨ x = 119 by omega) with c_1 | c_1 | c_1 | c_1 | c_1 | c_1
  · refine z_look hx hb (by omega) (by omega) dX7_kindBy_1 (by decide) (off := 61) (by show Op.lookupswitch.offset [(98, 53), (99, 57), (108, 51), (116, 59), (119, 55)] 61 _ = _; rw [Op.lookupswitch.offset_cons, if_neg (by omega), Op.lookupswitch.offset_cons, if_neg (by omega), Op.lookupswitch.offset_cons, if_neg (by omega), Op.lookupswitch.offset_cons, if_neg (by omega), Op.lookupswitch.offset_cons, if_neg (by omega)]; rfl) (tgt := 62) (by decide) ?_
    refine z_iconst hx hb dX7_kindBy_62 ?_
    exact s_iret (v := zI (-1)) hx hb hr hlocks (by unfold kbF; congr 1; (repeat' split) <;> omega) dX7_kindBy_63
  · refine z_look hx hb (by omega) (by omega) dX7_kindBy_1 (by decide) (off := 53) (by rw [c_1]; rfl) (tgt := 54) (by decide) ?_
    refine z_iconst hx hb dX7_kindBy_54 ?_
    exact s_iret (v := zI (1)) hx hb hr hlocks (by unfold kbF; congr 1; (repeat' split) <;> omega) dX7_kindBy_55
  · refine z_look hx hb (by omega) (by omega) dX7_kindBy_1 (by decide) (off := 57) (by rw [c_1]; rfl) (tgt := 58) (by decide) ?_
    refine z_iconst hx hb dX7_kindBy_58 ?_
    exact s_iret (v := zI (3)) hx hb hr hlocks (by unfold kbF; congr 1; (repeat' split) <;> omega) dX7_kindBy_59
  · refine z_look hx hb (by omega) (by omega) dX7_kindBy_1 (by decide) (off := 51) (by rw [c_1]; rfl) (tgt := 52) (by decide) ?_
    refine z_iconst hx hb dX7_kindBy_52 ?_
    exact s_iret (v := zI (0)) hx hb hr hlocks (by unfold kbF; congr 1; (repeat' split) <;> omega) dX7_kindBy_53
  · refine z_look hx hb (by omega) (by omega) dX7_kindBy_1 (by decide) (off := 59) (by rw [c_1]; rfl) (tgt := 60) (by decide) ?_
    refine z_iconst hx hb dX7_kindBy_60 ?_
    exact s_iret (v := zI (4)) hx hb hr hlocks (by unfold kbF; congr 1; (repeat' split) <;> omega) dX7_kindBy_61
  · refine z_look hx hb (by omega) (by omega) dX7_kindBy_1 (by decide) (off := 55) (by rw [c_1]; rfl) (tgt := 56) (by decide) ?_
    refine z_iconst hx hb dX7_kindBy_56 ?_
    exact s_iret (v := zI (2)) hx hb hr hlocks (by unfold kbF; congr 1; (repeat' split) <;> omega) dX7_kindBy_57
set_option maxHeartbeats 4000000 in
set_option maxRecDepth 100000 in
theorem k_X7_faultOf (l : Launch) (D : va_G) (cI : ClassId) (ad : Nat → Nat) (hinj : mInj ad) (S : St) (hR : RS S) (sz : Nat) (hsz : S 1 0 = ↑sz) (hsz9 : sz ≤ 9) : Met l yX7_faultOf (Cond.code yX7_faultOf cX7_faultOf 2 (some .int) :: lwT) ({ frames := 1, cells := 0, slots := 0, locals := 20 }) (gPc D (mW cI ad) (mE D cI) S [.ref (ad 26)]) (va_Qi (fun (r : Int32) (S' : St) => ∃ k : Nat, S' = S ∧ r = zI ↑k ∧ isFlt (S 0) sz k) (gB D (mW cI ad)) (mA ad)) 0 0 (mA ad) := by
  refine Met.ofW (cc := cX7_faultOf) (maxL := 2) (ret := (some .int)) (by decide) rfl ?_
  intro p e s m args below meth c s₁ B hml hv
  obtain ⟨rfl, hP, hE⟩ := hv
  have hx := B.exec
  have hb := B.bytes
  have hr := B.returns
  have hts := atoms_spec (ws := Cond.code yX7_faultOf cX7_faultOf 2 (some .int) :: lwT) B.pre
  have hT := fun w (h : w ∈ lwT) => hts w (List.mem_cons_of_mem _ h)
  have hsub : ∀ w ∈ lwT, w ∈ (Cond.code yX7_faultOf cX7_faultOf 2 (some .int) :: lwT) := fun w h => List.mem_cons_of_mem _ h
  have hown : s.vm.findClass RX7 = some m.cls := findClass_of_methodNamed B.named
  have hlocks := B.notSynchronized
  have hK : va_K D vwCl [(cI, .int)] s := hE
  have hS : va_S (mA ad) s.heap s.heap [] := va_S.rf
  have hl := lv_entry ([.ref (ad 26)]) (n := 2) (Nat.le_of_ble_eq_true rfl)
  rw [lg_entry_eq]
  generalize (lg_sl ([.ref (ad 26)]) ++ List.replicate (2 - (lg_sl ([.ref (ad 26)])).length) Slot.unset).toArray = ls at hl ⊢
  have hl : lv_has ls 2 [(0, .ref (ad 26))] := hl
  refine z_iconst hx hb dX7_faultOf_0 ?_
  refine lv_istore_n (lv' := [(1, .int (zI (0))), (0, .ref (ad 26))]) hx hb dX7_faultOf_1 rfl hl (by decide) rfl (fun ls hl => ?_)
  have cut_2 : ∀ (k9 : Nat) (i : Nat) (H : Heap) (locs : List Loc) (ls : Array Slot), (i ≤ sz ∧ i ≤ 7) → (∀ j, j < i → kbF (S 0 j) ≠ -1) → (sz - i) < k9 → va_P D vwCl (mW cI ad S) H → RS S → va_S (mA ad) s.heap H locs → lv_has ls 2 [(0, .ref (ad 26)), (1, .int (zI (↑i)))] → W p l e (headSpec (Cond.code yX7_faultOf cX7_faultOf 2 (some .int) :: lwT) ({ frames := 1, cells := 0, slots := 0, locals := 20 })).room s m ([.ref (ad 26)] : List Value).toArray below meth c H locs 0 0 (MQ below (va_Qi (fun (r : Int32) (S' : St) => ∃ k : Nat, S' = S ∧ r = zI ↑k ∧ isFlt (S 0) sz k) (gB D (mW cI ad)) (mA ad)) ([.ref (ad 26)] : List Value).toArray s 0 0 (mA ad)) (F0 m 2 ls []) := by
    intro k9
    induction k9 with
    | zero =>
      intro i H locs ls hi hf hk9 hP hR hS hl
      exact absurd hk9 (Nat.not_lt_zero _)
    | succ k9 ih_2 =>
      intro i H locs ls hi hf hk9 hP hR hS hl
      refine lv_iload_n hx hb dX7_faultOf_2 rfl (lv_at hl 1 rfl) ?_
      refine lv_aload_n hx hb dX7_faultOf_3 rfl (lv_at hl 0 rfl) ?_
      have g_1 : -2147483648 ≤ S 1 0 ∧ S 1 0 < 2147483648 := hR 1 0 (by decide)
      refine va_get (D := D) (ci := 7) (v := .int (zI (S 1 0))) (C := RX7) (T := TX7) (N := 26) hx hb hT inX7 hown hK hP 0 rfl rfl 1 (by decide) (hT _ q_673) (fun _ h9 => h9) rfl dX7_faultOf_4 ?_
      refine z_icmp_ge (tgt := 35) hx hb (by omega) (by omega) (by omega) (by omega) dX7_faultOf_7 (by decide) (fun c_2 => ?_) (fun c_2 => ?_)
      · have h9 : True := trivial
        refine lv_iload_n hx hb dX7_faultOf_35 rfl (lv_at hl 1 rfl) ?_
        exact g_iret (S1 := S) (v := zI (↑i)) hx hb hr hlocks hP hR hS (⟨i, rfl, rfl, by omega, by omega, hf, by omega⟩) dX7_faultOf_36
      · have h9 : True := trivial
        refine lv_iload_n hx hb dX7_faultOf_10 rfl (lv_at hl 1 rfl) ?_
        refine z_bipush hx hb dX7_faultOf_11 (by decide) ?_
        refine z_icmp_ge (tgt := 35) hx hb (by omega) (by omega) (by omega) (by omega) dX7_faultOf_13 (by decide) (fun c_3 => ?_) (fun c_3 => ?_)
        · have h9 : True := trivial
          refine lv_iload_n hx hb dX7_faultOf_35 rfl (lv_at hl 1 rfl) ?_
          exact g_iret (S1 := S) (v := zI (↑i)) hx hb hr hlocks hP hR hS (⟨i, rfl, rfl, by omega, by omega, hf, by omega⟩) dX7_faultOf_36
        · have h9 : True := trivial
          refine lv_aload_n hx hb dX7_faultOf_16 rfl (lv_at hl 0 rfl) ?_
          refine va_get (D := D) (ci := 7) (v := .ref (ad 0)) (C := RX7) (T := TX7) (N := 26) hx hb hT inX7 hown hK hP 0 rfl rfl 0 (by decide) (hT _ q_672) (fun _ h9 => h9) rfl dX7_faultOf_17 ?_
          refine lv_iload_n hx hb dX7_faultOf_20 rfl (lv_at hl 1 rfl) ?_
          have g_4 : -2147483648 ≤ S 0 i ∧ S 0 i < 2147483648 := hR 0 i (by decide)
          refine z_ald (f := S 0) hx hb hK hP 1 0 rfl rfl (by omega) (by omega) (by decide) (j := i) rfl dX7_faultOf_21 ?_
          refine s_callSi (As := [.int (zI (S 0 i))]) (rest := []) ⟨hx, hb, hml, hown, hts⟩ (k_X7_kindBy l (S 0 i) (by omega) (by omega)) (cwS 1 hts (gS hsub q_771 q_772 q_8 q_773) rfl rfl rfl hdX7_kindBy ⟨Nat.le_of_ble_eq_true rfl, Nat.le_of_ble_eq_true rfl⟩) rfl hl.1 rfl (Nat.le_of_ble_eq_true rfl) dX7_faultOf_22 ⟨Nat.le_of_ble_eq_true rfl, Nat.le_of_ble_eq_true rfl⟩ (fun r_5 hq_7 => ?_)
          rw [hq_7]
          have g_8 := kbF_r (S 0 i)
          refine z_iconst hx hb dX7_faultOf_25 ?_
          refine z_icmp_eq (tgt := 35) hx hb (by omega) (by omega) (by omega) (by omega) dX7_faultOf_26 (by decide) (fun c_9 => ?_) (fun c_9 => ?_)
          · have h9 : True := trivial
            refine lv_iload_n hx hb dX7_faultOf_35 rfl (lv_at hl 1 rfl) ?_
            exact g_iret (S1 := S) (v := zI (↑i)) hx hb hr hlocks hP hR hS (⟨i, rfl, rfl, by omega, by omega, hf, by omega⟩) dX7_faultOf_36
          · have h9 : True := trivial
            refine z_iinc (lv' := [(1, .int (zI (↑i + 1))), (0, .ref (ad 26))]) hx hb dX7_faultOf_29 hl (k := 1) rfl (by decide) rfl (fun ls hl => ?_)
            refine lv_goto (tgt := 2) hx hb dX7_faultOf_32 (by decide) ?_
            exact ih_2 (i + 1) _ _ _ (by omega) (lt_s hf (by omega)) (by omega) hP hR hS (lv_sub hl [1, 0] rfl)
  exact cut_2 _ 0 _ _ _ (by omega) (fun j h => absurd h (Nat.not_lt_zero j)) (Nat.lt_succ_self _) hP hR hS (lv_sub hl [1, 0] rfl)
set_option maxHeartbeats 4000000 in
set_option maxRecDepth 100000 in
theorem k_X7_fault (l : Launch) (D : va_G) (cI : ClassId) (ad : Nat → Nat) (hinj : mInj ad) (S : St) (hR : RS S) (sz : Nat) (hsz : S 1 0 = ↑sz) (hsz9 : sz ≤ 9) : Met l yX7_fault (Cond.code yX7_fault cX7_fault 1 (some .int) :: lwT) ({ frames := 2, cells := 0, slots := 0, locals := 41 }) (gPc D (mW cI ad) (mE D cI) S [.ref (ad 26)]) (va_Qi (fun (r : Int32) (S' : St) => ∃ k : Nat, S' = S ∧ r = zI ↑k ∧ isFlt (S 0) sz k) (gB D (mW cI ad)) (mA ad)) 0 0 (mA ad) := by
  refine Met.ofW (cc := cX7_fault) (maxL := 1) (ret := (some .int)) (by decide) rfl ?_
  intro p e s m args below meth c s₁ B hml hv
  obtain ⟨rfl, hP, hE⟩ := hv
  have hx := B.exec
  have hb := B.bytes
  have hr := B.returns
  have hts := atoms_spec (ws := Cond.code yX7_fault cX7_fault 1 (some .int) :: lwT) B.pre
  have hT := fun w (h : w ∈ lwT) => hts w (List.mem_cons_of_mem _ h)
  have hsub : ∀ w ∈ lwT, w ∈ (Cond.code yX7_fault cX7_fault 1 (some .int) :: lwT) := fun w h => List.mem_cons_of_mem _ h
  have hown : s.vm.findClass RX7 = some m.cls := findClass_of_methodNamed B.named
  have hlocks := B.notSynchronized
  have hK : va_K D vwCl [(cI, .int)] s := hE
  have hS : va_S (mA ad) s.heap s.heap [] := va_S.rf
  have hl := lv_entry ([.ref (ad 26)]) (n := 1) (Nat.le_of_ble_eq_true rfl)
  rw [lg_entry_eq]
  generalize (lg_sl ([.ref (ad 26)]) ++ List.replicate (1 - (lg_sl ([.ref (ad 26)])).length) Slot.unset).toArray = ls at hl ⊢
  have hl : lv_has ls 1 [(0, .ref (ad 26))] := hl
  refine lv_aload_n hx hb dX7_fault_0 rfl (lv_at hl 0 rfl) ?_
  refine g_callVi (As := []) (rest := []) ⟨hx, hb, hml, hown, hts⟩ (k_X7_faultOf l D cI ad hinj S hR sz hsz hsz9) (cwV 0 hts (gV hsub q_767 q_769 q_sX7_faultOf q_8 q_770) rfl rfl rfl hdX7_faultOf ⟨Nat.le_of_ble_eq_true rfl, Nat.le_of_ble_eq_true rfl⟩) (mEb D cI) (mEk D cI (mA ad)) hE (va_recv (ci := 7) (q0 := 0) hK hP rfl rfl) hP hS rfl hl.1 rfl (Nat.le_of_ble_eq_true rfl) dX7_fault_1 ⟨Nat.le_of_ble_eq_true rfl, Nat.le_of_ble_eq_true rfl⟩ (fun r_1 S_2 H locs hq_3 hP hR hS _ => ?_)
  obtain ⟨kf, hs9, rfl, hkf⟩ := hq_3
  obtain rfl := hs9.symm
  refine z_top (b := ↑kf) rfl ?_
  exact g_iret (S1 := S) (v := zI (↑kf)) hx hb hr hlocks hP hR hS (⟨kf, rfl, rfl, hkf⟩) dX7_fault_4
set_option maxHeartbeats 4000000 in
set_option maxRecDepth 100000 in
theorem k_X7_layRow_10 (l : Launch) (D : va_G) (cI : ClassId) (ad : Nat → Nat) (hinj : mInj ad) (S : St) (hR : RS S) (n : Nat) (hn : S 2 0 = ↑n) (hn7 : n ≤ 7) (xc : Int) (hc0 : 0 ≤ xc) (hc2 : xc < 2147483648) : Met l yX7_layRow (Cond.code yX7_layRow cX7_layRow 5 none :: lwT) ({ frames := 0, cells := 0, slots := 0, locals := 0 }) (gPc D (mW cI ad) (mE D cI) S [.ref (ad 26), .int (zI (xc)), .ref (ad 10)]) (va_Qv (fun (S' : St) => ∃ f, S' = sA S 10 f ∧ ∀ j, j < n → f j = dgF n xc j) (gB D (mW cI ad)) (mA ad)) 0 0 (mA ad) := by
  refine Met.ofW (cc := cX7_layRow) (maxL := 5) (ret := none) (by decide) rfl ?_
  intro p e s m args below meth c s₁ B hml hv
  obtain ⟨rfl, hP, hE⟩ := hv
  have hx := B.exec
  have hb := B.bytes
  have hr := B.returns
  have hts := atoms_spec (ws := Cond.code yX7_layRow cX7_layRow 5 none :: lwT) B.pre
  have hT := fun w (h : w ∈ lwT) => hts w (List.mem_cons_of_mem _ h)
  have hsub : ∀ w ∈ lwT, w ∈ (Cond.code yX7_layRow cX7_layRow 5 none :: lwT) := fun w h => List.mem_cons_of_mem _ h
  have hown : s.vm.findClass RX7 = some m.cls := findClass_of_methodNamed B.named
  have hlocks := B.notSynchronized
  have hK : va_K D vwCl [(cI, .int)] s := hE
  have hS : va_S (mA ad) s.heap s.heap [] := va_S.rf
  have hl := lv_entry ([.ref (ad 26), .int (zI (xc)), .ref (ad 10)]) (n := 5) (Nat.le_of_ble_eq_true rfl)
  rw [lg_entry_eq]
  generalize (lg_sl ([.ref (ad 26), .int (zI (xc)), .ref (ad 10)]) ++ List.replicate (5 - (lg_sl ([.ref (ad 26), .int (zI (xc)), .ref (ad 10)])).length) Slot.unset).toArray = ls at hl ⊢
  have hl : lv_has ls 5 [(0, .ref (ad 26)), (1, .int (zI (xc))), (2, .ref (ad 10))] := hl
  refine lv_iload_n hx hb dX7_layRow_0 rfl (lv_at hl 1 rfl) ?_
  refine lv_istore_n (lv' := [(3, .int (zI (xc))), (0, .ref (ad 26)), (1, .int (zI (xc))), (2, .ref (ad 10))]) hx hb dX7_layRow_1 rfl hl (by decide) rfl (fun ls hl => ?_)
  refine lv_aload_n hx hb dX7_layRow_2 rfl (lv_at hl 1 rfl) ?_
  have g_1 : -2147483648 ≤ S 2 0 ∧ S 2 0 < 2147483648 := hR 2 0 (by decide)
  refine va_get (D := D) (ci := 7) (v := .int (zI (S 2 0))) (C := RX7) (T := TX7) (N := 26) hx hb hT inX7 hown hK hP 0 rfl rfl 2 (by decide) (hT _ q_674) (fun _ h9 => h9) rfl dX7_layRow_3 ?_
  refine z_iconst hx hb dX7_layRow_6 ?_
  refine z_isub hx hb dX7_layRow_7 ?_
  refine lv_istore (lv' := [(4, .int (zI ((S 2 0) - 1))), (3, .int (zI (xc))), (0, .ref (ad 26)), (1, .int (zI (xc))), (2, .ref (ad 10))]) hx hb dX7_layRow_8 hl (by decide) rfl (fun ls hl => ?_)
  have cut_10 : ∀ (k9 : Nat) (z : Int) (x : Int) (f : Nat → Int) (H : Heap) (locs : List Loc) (ls : Array Slot), (-1 ≤ z) → (z < ↑n) → (0 ≤ x ∧ x < 2147483648) → (x = xc / 8 ^ ((n : Int) - 1 - z).toNat) → (∀ j : Nat, z < ↑j → j < n → f j = dgF n xc j) → ((z + 1).toNat) < k9 → va_P D vwCl (mW cI ad (sA S 10 f)) H → RS (sA S 10 f) → va_S (mA ad) s.heap H locs → lv_has ls 5 [(0, .ref (ad 26)), (2, .ref (ad 10)), (3, .int (zI (x))), (4, .int (zI (z)))] → W p l e (headSpec (Cond.code yX7_layRow cX7_layRow 5 none :: lwT) ({ frames := 0, cells := 0, slots := 0, locals := 0 })).room s m ([.ref (ad 26), .int (zI (xc)), .ref (ad 10)] : List Value).toArray below meth c H locs 0 0 (MQ below (va_Qv (fun (S' : St) => ∃ f, S' = sA S 10 f ∧ ∀ j, j < n → f j = dgF n xc j) (gB D (mW cI ad)) (mA ad)) ([.ref (ad 26), .int (zI (xc)), .ref (ad 10)] : List Value).toArray s 0 0 (mA ad)) (F0 m 10 ls []) := by
    intro k9
    induction k9 with
    | zero =>
      intro z x f H locs ls hz1 hz2 hx0 hxx hf hk9 hP hR hS hl
      exact absurd hk9 (Nat.not_lt_zero _)
    | succ k9 ih_10 =>
      intro z x f H locs ls hz1 hz2 hx0 hxx hf hk9 hP hR hS hl
      refine lv_iload hx hb dX7_layRow_10 (lv_at hl 3 rfl) ?_
      refine z_if_lt (tgt := 34) hx hb (by omega) (by omega) dX7_layRow_12 (by decide) (fun c_2 => ?_) (fun c_2 => ?_)
      · have h9 : True := trivial
        exact g_vret (S1 := sA S 10 f) hx hb hr hlocks hP hR hS (⟨f, rfl, fun j hj => hf j (by omega) hj⟩) dX7_layRow_34
      · have h9 : True := trivial
        refine lv_aload_n hx hb dX7_layRow_15 rfl (lv_at hl 1 rfl) ?_
        refine lv_iload hx hb dX7_layRow_16 (lv_at hl 3 rfl) ?_
        refine lv_iload_n hx hb dX7_layRow_18 rfl (lv_at hl 2 rfl) ?_
        refine z_bipush hx hb dX7_layRow_19 (by decide) ?_
        refine z_irem hx hb (by omega) (by omega) (by omega) (by omega) dX7_layRow_21 ?_
        refine z_ast (f := (sA S 10 f) 10) (i := z) (v := x % 8) hx hb hK hP (mD hinj cI _) hS 6 0 rfl rfl (by omega) (by omega) (by decide) dX7_layRow_22 (fun H locs hP hS => ?_)
        have hP : va_P D vwCl (mW cI ad (sA S 10 (uZ f (z).toNat (x % 8)))) H := hP
        have hR : RS (sA S 10 (uZ f (z).toNat (x % 8))) := hR.put' (by omega) (by omega)
        refine lv_iload_n hx hb dX7_layRow_23 rfl (lv_at hl 2 rfl) ?_
        refine z_bipush hx hb dX7_layRow_24 (by decide) ?_
        refine z_idiv hx hb (by omega) (by omega) (by omega) (by omega) dX7_layRow_26 ?_
        refine lv_istore_n (lv' := [(3, .int (zI (x / 8))), (0, .ref (ad 26)), (2, .ref (ad 10)), (4, .int (zI (z)))]) hx hb dX7_layRow_27 rfl hl (by decide) rfl (fun ls hl => ?_)
        refine z_iinc (lv' := [(4, .int (zI (z + (-1)))), (3, .int (zI (x / 8))), (0, .ref (ad 26)), (2, .ref (ad 10))]) hx hb dX7_layRow_28 hl (k := 3) rfl (by decide) rfl (fun ls hl => ?_)
        refine lv_goto (tgt := 10) hx hb dX7_layRow_31 (by decide) ?_
        exact ih_10 (z + (-1)) (x / 8) (uZ f (z).toNat (x % 8)) _ _ _ (by omega) (by omega) (by omega) (by rw [show ((n : Int) - 1 - (z + (-1))).toNat = ((n : Int) - 1 - z).toNat + 1 by omega, Int.pow_succ, hxx, Int.ediv_ediv_of_nonneg (Int.pow_nonneg (by omega))]) (fun j h1 h2 => by unfold uZ; split <;> first | (rename_i e9; unfold dgF; rw [hxx, show n - 1 - j = ((n : Int) - 1 - z).toNat by omega]) | exact hf j (by omega) h2) (by omega) hP hR hS (lv_sub hl [2, 3, 1, 0] rfl)
  have hSe_3 : S = sA S 10 (S 10) := by
    funext k8
    by_cases e80 : k8 = 10
    · subst e80; first | rfl | (funext j8; rfl)
    simp [sA, e80]
  rw [hSe_3] at hP hR
  exact cut_10 _ ((S 2 0) - 1) xc (S 10) _ _ _ (by omega) (by omega) (by omega) (by rw [show ((n : Int) - 1 - (S 2 0 - 1)).toNat = 0 by omega]; simp) (fun j h1 h2 => absurd h2 (by omega)) (Nat.lt_succ_self _) hP hR hS (lv_sub hl [2, 4, 1, 0] rfl)
set_option maxHeartbeats 4000000 in
set_option maxRecDepth 100000 in
theorem k_X7_layRow_6 (l : Launch) (D : va_G) (cI : ClassId) (ad : Nat → Nat) (hinj : mInj ad) (S : St) (hR : RS S) (n : Nat) (hn : S 2 0 = ↑n) (hn7 : n ≤ 7) (xc : Int) (hc0 : 0 ≤ xc) (hc2 : xc < 2147483648) : Met l yX7_layRow (Cond.code yX7_layRow cX7_layRow 5 none :: lwT) ({ frames := 0, cells := 0, slots := 0, locals := 0 }) (gPc D (mW cI ad) (mE D cI) S [.ref (ad 26), .int (zI (xc)), .ref (ad 6)]) (va_Qv (fun (S' : St) => ∃ f, S' = sA S 6 f ∧ ∀ j, j < n → f j = dgF n xc j) (gB D (mW cI ad)) (mA ad)) 0 0 (mA ad) := by
  refine Met.ofW (cc := cX7_layRow) (maxL := 5) (ret := none) (by decide) rfl ?_
  intro p e s m args below meth c s₁ B hml hv
  obtain ⟨rfl, hP, hE⟩ := hv
  have hx := B.exec
  have hb := B.bytes
  have hr := B.returns
  have hts := atoms_spec (ws := Cond.code yX7_layRow cX7_layRow 5 none :: lwT) B.pre
  have hT := fun w (h : w ∈ lwT) => hts w (List.mem_cons_of_mem _ h)
  have hsub : ∀ w ∈ lwT, w ∈ (Cond.code yX7_layRow cX7_layRow 5 none :: lwT) := fun w h => List.mem_cons_of_mem _ h
  have hown : s.vm.findClass RX7 = some m.cls := findClass_of_methodNamed B.named
  have hlocks := B.notSynchronized
  have hK : va_K D vwCl [(cI, .int)] s := hE
  have hS : va_S (mA ad) s.heap s.heap [] := va_S.rf
  have hl := lv_entry ([.ref (ad 26), .int (zI (xc)), .ref (ad 6)]) (n := 5) (Nat.le_of_ble_eq_true rfl)
  rw [lg_entry_eq]
  generalize (lg_sl ([.ref (ad 26), .int (zI (xc)), .ref (ad 6)]) ++ List.replicate (5 - (lg_sl ([.ref (ad 26), .int (zI (xc)), .ref (ad 6)])).length) Slot.unset).toArray = ls at hl ⊢
  have hl : lv_has ls 5 [(0, .ref (ad 26)), (1, .int (zI (xc))), (2, .ref (ad 6))] := hl
  refine lv_iload_n hx hb dX7_layRow_0 rfl (lv_at hl 1 rfl) ?_
  refine lv_istore_n (lv' := [(3, .int (zI (xc))), (0, .ref (ad 26)), (1, .int (zI (xc))), (2, .ref (ad 6))]) hx hb dX7_layRow_1 rfl hl (by decide) rfl (fun ls hl => ?_)
  refine lv_aload_n hx hb dX7_layRow_2 rfl (lv_at hl 1 rfl) ?_
  have g_1 : -2147483648 ≤ S 2 0 ∧ S 2 0 < 2147483648 := hR 2 0 (by decide)
  refine va_get (D := D) (ci := 7) (v := .int (zI (S 2 0))) (C := RX7) (T := TX7) (N := 26) hx hb hT inX7 hown hK hP 0 rfl rfl 2 (by decide) (hT _ q_674) (fun _ h9 => h9) rfl dX7_layRow_3 ?_
  refine z_iconst hx hb dX7_layRow_6 ?_
  refine z_isub hx hb dX7_layRow_7 ?_
  refine lv_istore (lv' := [(4, .int (zI ((S 2 0) - 1))), (3, .int (zI (xc))), (0, .ref (ad 26)), (1, .int (zI (xc))), (2, .ref (ad 6))]) hx hb dX7_layRow_8 hl (by decide) rfl (fun ls hl => ?_)
  have cut_10 : ∀ (k9 : Nat) (z : Int) (x : Int) (f : Nat → Int) (H : Heap) (locs : List Loc) (ls : Array Slot), (-1 ≤ z) → (z < ↑n) → (0 ≤ x ∧ x < 2147483648) → (x = xc / 8 ^ ((n : Int) - 1 - z).toNat) → (∀ j : Nat, z < ↑j → j < n → f j = dgF n xc j) → ((z + 1).toNat) < k9 → va_P D vwCl (mW cI ad (sA S 6 f)) H → RS (sA S 6 f) → va_S (mA ad) s.heap H locs → lv_has ls 5 [(0, .ref (ad 26)), (2, .ref (ad 6)), (3, .int (zI (x))), (4, .int (zI (z)))] → W p l e (headSpec (Cond.code yX7_layRow cX7_layRow 5 none :: lwT) ({ frames := 0, cells := 0, slots := 0, locals := 0 })).room s m ([.ref (ad 26), .int (zI (xc)), .ref (ad 6)] : List Value).toArray below meth c H locs 0 0 (MQ below (va_Qv (fun (S' : St) => ∃ f, S' = sA S 6 f ∧ ∀ j, j < n → f j = dgF n xc j) (gB D (mW cI ad)) (mA ad)) ([.ref (ad 26), .int (zI (xc)), .ref (ad 6)] : List Value).toArray s 0 0 (mA ad)) (F0 m 10 ls []) := by
    intro k9
    induction k9 with
    | zero =>
      intro z x f H locs ls hz1 hz2 hx0 hxx hf hk9 hP hR hS hl
      exact absurd hk9 (Nat.not_lt_zero _)
    | succ k9 ih_10 =>
      intro z x f H locs ls hz1 hz2 hx0 hxx hf hk9 hP hR hS hl
      refine lv_iload hx hb dX7_layRow_10 (lv_at hl 3 rfl) ?_
      refine z_if_lt (tgt := 34) hx hb (by omega) (by omega) dX7_layRow_12 (by decide) (fun c_2 => ?_) (fun c_2 => ?_)
      · have h9 : True := trivial
        exact g_vret (S1 := sA S 6 f) hx hb hr hlocks hP hR hS (⟨f, rfl, fun j hj => hf j (by omega) hj⟩) dX7_layRow_34
      · have h9 : True := trivial
        refine lv_aload_n hx hb dX7_layRow_15 rfl (lv_at hl 1 rfl) ?_
        refine lv_iload hx hb dX7_layRow_16 (lv_at hl 3 rfl) ?_
        refine lv_iload_n hx hb dX7_layRow_18 rfl (lv_at hl 2 rfl) ?_
        refine z_bipush hx hb dX7_layRow_19 (by decide) ?_
        refine z_irem hx hb (by omega) (by omega) (by omega) (by omega) dX7_layRow_21 ?_
        refine z_ast (f := (sA S 6 f) 6) (i := z) (v := x % 8) hx hb hK hP (mD hinj cI _) hS 3 0 rfl rfl (by omega) (by omega) (by decide) dX7_layRow_22 (fun H locs hP hS => ?_)
        have hP : va_P D vwCl (mW cI ad (sA S 6 (uZ f (z).toNat (x % 8)))) H := hP
        have hR : RS (sA S 6 (uZ f (z).toNat (x % 8))) := hR.put' (by omega) (by omega)
        refine lv_iload_n hx hb dX7_layRow_23 rfl (lv_at hl 2 rfl) ?_
        refine z_bipush hx hb dX7_layRow_24 (by decide) ?_
        refine z_idiv hx hb (by omega) (by omega) (by omega) (by omega) dX7_layRow_26 ?_
        refine lv_istore_n (lv' := [(3, .int (zI (x / 8))), (0, .ref (ad 26)), (2, .ref (ad 6)), (4, .int (zI (z)))]) hx hb dX7_layRow_27 rfl hl (by decide) rfl (fun ls hl => ?_)
        refine z_iinc (lv' := [(4, .int (zI (z + (-1)))), (3, .int (zI (x / 8))), (0, .ref (ad 26)), (2, .ref (ad 6))]) hx hb dX7_layRow_28 hl (k := 3) rfl (by decide) rfl (fun ls hl => ?_)
        refine lv_goto (tgt := 10) hx hb dX7_layRow_31 (by decide) ?_
        exact ih_10 (z + (-1)) (x / 8) (uZ f (z).toNat (x % 8)) _ _ _ (by omega) (by omega) (by omega) (by rw [show ((n : Int) - 1 - (z + (-1))).toNat = ((n : Int) - 1 - z).toNat + 1 by omega, Int.pow_succ, hxx, Int.ediv_ediv_of_nonneg (Int.pow_nonneg (by omega))]) (fun j h1 h2 => by unfold uZ; split <;> first | (rename_i e9; unfold dgF; rw [hxx, show n - 1 - j = ((n : Int) - 1 - z).toNat by omega]) | exact hf j (by omega) h2) (by omega) hP hR hS (lv_sub hl [2, 3, 1, 0] rfl)
  have hSe_3 : S = sA S 6 (S 6) := by
    funext k8
    by_cases e80 : k8 = 6
    · subst e80; first | rfl | (funext j8; rfl)
    simp [sA, e80]
  rw [hSe_3] at hP hR
  exact cut_10 _ ((S 2 0) - 1) xc (S 6) _ _ _ (by omega) (by omega) (by omega) (by rw [show ((n : Int) - 1 - (S 2 0 - 1)).toNat = 0 by omega]; simp) (fun j h1 h2 => absurd h2 (by omega)) (Nat.lt_succ_self _) hP hR hS (lv_sub hl [2, 4, 1, 0] rfl)
set_option maxHeartbeats 4000000 in
set_option maxRecDepth 100000 in
theorem k_X7_layPlaces_6 (l : Launch) (D : va_G) (cI : ClassId) (ad : Nat → Nat) (hinj : mInj ad) (S : St) (hR : RS S) (n : Nat) (hn : S 2 0 = ↑n) (hn7 : n ≤ 7) (hp : prm n (S 6)) : Met l yX7_layPlaces (Cond.code yX7_layPlaces cX7_layPlaces 3 none :: lwT) ({ frames := 0, cells := 0, slots := 0, locals := 0 }) (gPc D (mW cI ad) (mE D cI) S [.ref (ad 26), .ref (ad 6)]) (va_Qv (fun (S' : St) => ∃ f, S' = sA S 9 f ∧ ∀ v, v < n → f v = ↑(pl n (S 6) v)) (gB D (mW cI ad)) (mA ad)) 0 0 (mA ad) := by
  refine Met.ofW (cc := cX7_layPlaces) (maxL := 3) (ret := none) (by decide) rfl ?_
  intro p e s m args below meth c s₁ B hml hv
  obtain ⟨rfl, hP, hE⟩ := hv
  have hx := B.exec
  have hb := B.bytes
  have hr := B.returns
  have hts := atoms_spec (ws := Cond.code yX7_layPlaces cX7_layPlaces 3 none :: lwT) B.pre
  have hT := fun w (h : w ∈ lwT) => hts w (List.mem_cons_of_mem _ h)
  have hsub : ∀ w ∈ lwT, w ∈ (Cond.code yX7_layPlaces cX7_layPlaces 3 none :: lwT) := fun w h => List.mem_cons_of_mem _ h
  have hown : s.vm.findClass RX7 = some m.cls := findClass_of_methodNamed B.named
  have hlocks := B.notSynchronized
  have hK : va_K D vwCl [(cI, .int)] s := hE
  have hS : va_S (mA ad) s.heap s.heap [] := va_S.rf
  have hl := lv_entry ([.ref (ad 26), .ref (ad 6)]) (n := 3) (Nat.le_of_ble_eq_true rfl)
  rw [lg_entry_eq]
  generalize (lg_sl ([.ref (ad 26), .ref (ad 6)]) ++ List.replicate (3 - (lg_sl ([.ref (ad 26), .ref (ad 6)])).length) Slot.unset).toArray = ls at hl ⊢
  have hl : lv_has ls 3 [(0, .ref (ad 26)), (1, .ref (ad 6))] := hl
  refine z_iconst hx hb dX7_layPlaces_0 ?_
  refine lv_istore_n (lv' := [(2, .int (zI (0))), (0, .ref (ad 26)), (1, .ref (ad 6))]) hx hb dX7_layPlaces_1 rfl hl (by decide) rfl (fun ls hl => ?_)
  have cut_2 : ∀ (k9 : Nat) (i : Nat) (f : Nat → Int) (H : Heap) (locs : List Loc) (ls : Array Slot), (i ≤ n) → (∀ q, q < i → f (S 6 q).toNat = ↑q) → (n - i) < k9 → va_P D vwCl (mW cI ad (sA S 9 f)) H → RS (sA S 9 f) → va_S (mA ad) s.heap H locs → lv_has ls 3 [(0, .ref (ad 26)), (1, .ref (ad 6)), (2, .int (zI (↑i)))] → W p l e (headSpec (Cond.code yX7_layPlaces cX7_layPlaces 3 none :: lwT) ({ frames := 0, cells := 0, slots := 0, locals := 0 })).room s m ([.ref (ad 26), .ref (ad 6)] : List Value).toArray below meth c H locs 0 0 (MQ below (va_Qv (fun (S' : St) => ∃ f, S' = sA S 9 f ∧ ∀ v, v < n → f v = ↑(pl n (S 6) v)) (gB D (mW cI ad)) (mA ad)) ([.ref (ad 26), .ref (ad 6)] : List Value).toArray s 0 0 (mA ad)) (F0 m 2 ls []) := by
    intro k9
    induction k9 with
    | zero =>
      intro i f H locs ls hi hf hk9 hP hR hS hl
      exact absurd hk9 (Nat.not_lt_zero _)
    | succ k9 ih_2 =>
      intro i f H locs ls hi hf hk9 hP hR hS hl
      refine lv_iload_n hx hb dX7_layPlaces_2 rfl (lv_at hl 2 rfl) ?_
      refine lv_aload_n hx hb dX7_layPlaces_3 rfl (lv_at hl 0 rfl) ?_
      have g_1 : -2147483648 ≤ S 2 0 ∧ S 2 0 < 2147483648 := hR 2 0 (by decide)
      refine va_get (D := D) (ci := 7) (v := .int (zI (S 2 0))) (C := RX7) (T := TX7) (N := 26) hx hb hT inX7 hown hK hP 0 rfl rfl 2 (by decide) (hT _ q_674) (fun _ h9 => h9) rfl dX7_layPlaces_4 ?_
      refine z_icmp_ge (tgt := 25) hx hb (by omega) (by omega) (by omega) (by omega) dX7_layPlaces_7 (by decide) (fun c_2 => ?_) (fun c_2 => ?_)
      · have h9 : True := trivial
        exact g_vret (S1 := sA S 9 f) hx hb hr hlocks hP hR hS (⟨f, rfl, fun v hv => by have h7 := pl_at hp hv; have h8 := hf _ (show pl n (S 6) v < i by omega); rw [h7.2] at h8; simpa using h8⟩) dX7_layPlaces_25
      · have h9 : True := trivial
        refine lv_aload_n hx hb dX7_layPlaces_10 rfl (lv_at hl 0 rfl) ?_
        refine va_get (D := D) (ci := 7) (v := .ref (ad 9)) (C := RX7) (T := TX7) (N := 26) hx hb hT inX7 hown hK hP 0 rfl rfl 9 (by decide) (hT _ q_681) (fun _ h9 => h9) rfl dX7_layPlaces_11 ?_
        refine lv_aload_n hx hb dX7_layPlaces_14 rfl (lv_at hl 1 rfl) ?_
        refine lv_iload_n hx hb dX7_layPlaces_15 rfl (lv_at hl 2 rfl) ?_
        have h8 := hp.1 i (by omega)
        have g_3 : -2147483648 ≤ S 6 i ∧ S 6 i < 2147483648 := hR 6 i (by decide)
        refine z_ald (f := S 6) hx hb hK hP 3 0 rfl rfl (by omega) (by omega) (by decide) (j := i) rfl dX7_layPlaces_16 ?_
        refine lv_iload_n hx hb dX7_layPlaces_17 rfl (lv_at hl 2 rfl) ?_
        refine z_ast (f := (sA S 9 f) 9) (i := S 6 i) (v := ↑i) hx hb hK hP (mD hinj cI _) hS 5 0 rfl rfl (by omega) (by omega) (by decide) dX7_layPlaces_18 (fun H locs hP hS => ?_)
        have hP : va_P D vwCl (mW cI ad (sA S 9 (uZ f (S 6 i).toNat ↑i))) H := hP
        have hR : RS (sA S 9 (uZ f (S 6 i).toNat ↑i)) := hR.put' (by omega) (by omega)
        refine z_iinc (lv' := [(2, .int (zI (↑i + 1))), (0, .ref (ad 26)), (1, .ref (ad 6))]) hx hb dX7_layPlaces_19 hl (k := 2) rfl (by decide) rfl (fun ls hl => ?_)
        refine lv_goto (tgt := 2) hx hb dX7_layPlaces_22 (by decide) ?_
        exact ih_2 (i + 1) (uZ f (S 6 i).toNat ↑i) _ _ _ (by omega) (fun q hq => by
          unfold uZ
          have h7 := hp.1 q (by omega)
          split
          · rename_i e9
            have := hp.2 q i (by omega) (by omega) (by omega)
            omega
          · rename_i e9
            exact hf q (Nat.lt_of_le_of_ne (by omega) (fun e => e9 (by rw [e])))) (by omega) hP hR hS (lv_sub hl [1, 2, 0] rfl)
  have hSe_4 : S = sA S 9 (S 9) := by
    funext k8
    by_cases e80 : k8 = 9
    · subst e80; first | rfl | (funext j8; rfl)
    simp [sA, e80]
  rw [hSe_4] at hP hR
  exact cut_2 _ 0 (S 9) _ _ _ (by omega) (fun j h => absurd h (Nat.not_lt_zero j)) (Nat.lt_succ_self _) hP hR hS (lv_sub hl [1, 2, 0] rfl)
set_option maxHeartbeats 4000000 in
set_option maxRecDepth 100000 in
theorem k_X7_layPlaces_10 (l : Launch) (D : va_G) (cI : ClassId) (ad : Nat → Nat) (hinj : mInj ad) (S : St) (hR : RS S) (n : Nat) (hn : S 2 0 = ↑n) (hn7 : n ≤ 7) (hp : prm n (S 10)) : Met l yX7_layPlaces (Cond.code yX7_layPlaces cX7_layPlaces 3 none :: lwT) ({ frames := 0, cells := 0, slots := 0, locals := 0 }) (gPc D (mW cI ad) (mE D cI) S [.ref (ad 26), .ref (ad 10)]) (va_Qv (fun (S' : St) => ∃ f, S' = sA S 9 f ∧ ∀ v, v < n → f v = ↑(pl n (S 10) v)) (gB D (mW cI ad)) (mA ad)) 0 0 (mA ad) := by
  refine Met.ofW (cc := cX7_layPlaces) (maxL := 3) (ret := none) (by decide) rfl ?_
  intro p e s m args below meth c s₁ B hml hv
  obtain ⟨rfl, hP, hE⟩ := hv
  have hx := B.exec
  have hb := B.bytes
  have hr := B.returns
  have hts := atoms_spec (ws := Cond.code yX7_layPlaces cX7_layPlaces 3 none :: lwT) B.pre
  have hT := fun w (h : w ∈ lwT) => hts w (List.mem_cons_of_mem _ h)
  have hsub : ∀ w ∈ lwT, w ∈ (Cond.code yX7_layPlaces cX7_layPlaces 3 none :: lwT) := fun w h => List.mem_cons_of_mem _ h
  have hown : s.vm.findClass RX7 = some m.cls := findClass_of_methodNamed B.named
  have hlocks := B.notSynchronized
  have hK : va_K D vwCl [(cI, .int)] s := hE
  have hS : va_S (mA ad) s.heap s.heap [] := va_S.rf
  have hl := lv_entry ([.ref (ad 26), .ref (ad 10)]) (n := 3) (Nat.le_of_ble_eq_true rfl)
  rw [lg_entry_eq]
  generalize (lg_sl ([.ref (ad 26), .ref (ad 10)]) ++ List.replicate (3 - (lg_sl ([.ref (ad 26), .ref (ad 10)])).length) Slot.unset).toArray = ls at hl ⊢
  have hl : lv_has ls 3 [(0, .ref (ad 26)), (1, .ref (ad 10))] := hl
  refine z_iconst hx hb dX7_layPlaces_0 ?_
  refine lv_istore_n (lv' := [(2, .int (zI (0))), (0, .ref (ad 26)), (1, .ref (ad 10))]) hx hb dX7_layPlaces_1 rfl hl (by decide) rfl (fun ls hl => ?_)
  have cut_2 : ∀ (k9 : Nat) (i : Nat) (f : Nat → Int) (H : Heap) (locs : List Loc) (ls : Array Slot), (i ≤ n) → (∀ q, q < i → f (S 10 q).toNat = ↑q) → (n - i) < k9 → va_P D vwCl (mW cI ad (sA S 9 f)) H → RS (sA S 9 f) → va_S (mA ad) s.heap H locs → lv_has ls 3 [(0, .ref (ad 26)), (1, .ref (ad 10)), (2, .int (zI (↑i)))] → W p l e (headSpec (Cond.code yX7_layPlaces cX7_layPlaces 3 none :: lwT) ({ frames := 0, cells := 0, slots := 0, locals := 0 })).room s m ([.ref (ad 26), .ref (ad 10)] : List Value).toArray below meth c H locs 0 0 (MQ below (va_Qv (fun (S' : St) => ∃ f, S' = sA S 9 f ∧ ∀ v, v < n → f v = ↑(pl n (S 10) v)) (gB D (mW cI ad)) (mA ad)) ([.ref (ad 26), .ref (ad 10)] : List Value).toArray s 0 0 (mA ad)) (F0 m 2 ls []) := by
    intro k9
    induction k9 with
    | zero =>
      intro i f H locs ls hi hf hk9 hP hR hS hl
      exact absurd hk9 (Nat.not_lt_zero _)
    | succ k9 ih_2 =>
      intro i f H locs ls hi hf hk9 hP hR hS hl
      refine lv_iload_n hx hb dX7_layPlaces_2 rfl (lv_at hl 2 rfl) ?_
      refine lv_aload_n hx hb dX7_layPlaces_3 rfl (lv_at hl 0 rfl) ?_
      have g_1 : -2147483648 ≤ S 2 0 ∧ S 2 0 < 2147483648 := hR 2 0 (by decide)
      refine va_get (D := D) (ci := 7) (v := .int (zI (S 2 0))) (C := RX7) (T := TX7) (N := 26) hx hb hT inX7 hown hK hP 0 rfl rfl 2 (by decide) (hT _ q_674) (fun _ h9 => h9) rfl dX7_layPlaces_4 ?_
      refine z_icmp_ge (tgt := 25) hx hb (by omega) (by omega) (by omega) (by omega) dX7_layPlaces_7 (by decide) (fun c_2 => ?_) (fun c_2 => ?_)
      · have h9 : True := trivial
        exact g_vret (S1 := sA S 9 f) hx hb hr hlocks hP hR hS (⟨f, rfl, fun v hv => by have h7 := pl_at hp hv; have h8 := hf _ (show pl n (S 10) v < i by omega); rw [h7.2] at h8; simpa using h8⟩) dX7_layPlaces_25
      · have h9 : True := trivial
        refine lv_aload_n hx hb dX7_layPlaces_10 rfl (lv_at hl 0 rfl) ?_
        refine va_get (D := D) (ci := 7) (v := .ref (ad 9)) (C := RX7) (T := TX7) (N := 26) hx hb hT inX7 hown hK hP 0 rfl rfl 9 (by decide) (hT _ q_681) (fun _ h9 => h9) rfl dX7_layPlaces_11 ?_
        refine lv_aload_n hx hb dX7_layPlaces_14 rfl (lv_at hl 1 rfl) ?_
        refine lv_iload_n hx hb dX7_layPlaces_15 rfl (lv_at hl 2 rfl) ?_
        have h8 := hp.1 i (by omega)
        have g_3 : -2147483648 ≤ S 10 i ∧ S 10 i < 2147483648 := hR 10 i (by decide)
        refine z_ald (f := S 10) hx hb hK hP 6 0 rfl rfl (by omega) (by omega) (by decide) (j := i) rfl dX7_layPlaces_16 ?_
        refine lv_iload_n hx hb dX7_layPlaces_17 rfl (lv_at hl 2 rfl) ?_
        refine z_ast (f := (sA S 9 f) 9) (i := S 10 i) (v := ↑i) hx hb hK hP (mD hinj cI _) hS 5 0 rfl rfl (by omega) (by omega) (by decide) dX7_layPlaces_18 (fun H locs hP hS => ?_)
        have hP : va_P D vwCl (mW cI ad (sA S 9 (uZ f (S 10 i).toNat ↑i))) H := hP
        have hR : RS (sA S 9 (uZ f (S 10 i).toNat ↑i)) := hR.put' (by omega) (by omega)
        refine z_iinc (lv' := [(2, .int (zI (↑i + 1))), (0, .ref (ad 26)), (1, .ref (ad 10))]) hx hb dX7_layPlaces_19 hl (k := 2) rfl (by decide) rfl (fun ls hl => ?_)
        refine lv_goto (tgt := 2) hx hb dX7_layPlaces_22 (by decide) ?_
        exact ih_2 (i + 1) (uZ f (S 10 i).toNat ↑i) _ _ _ (by omega) (fun q hq => by
          unfold uZ
          have h7 := hp.1 q (by omega)
          split
          · rename_i e9
            have := hp.2 q i (by omega) (by omega) (by omega)
            omega
          · rename_i e9
            exact hf q (Nat.lt_of_le_of_ne (by omega) (fun e => e9 (by rw [e])))) (by omega) hP hR hS (lv_sub hl [1, 2, 0] rfl)
  have hSe_4 : S = sA S 9 (S 9) := by
    funext k8
    by_cases e80 : k8 = 9
    · subst e80; first | rfl | (funext j8; rfl)
    simp [sA, e80]
  rw [hSe_4] at hP hR
  exact cut_2 _ 0 (S 9) _ _ _ (by omega) (fun j h => absurd h (Nat.not_lt_zero j)) (Nat.lt_succ_self _) hP hR hS (lv_sub hl [1, 2, 0] rfl)
set_option maxHeartbeats 4000000 in
set_option maxRecDepth 100000 in
theorem k_X7_layPlaces_11 (l : Launch) (D : va_G) (cI : ClassId) (ad : Nat → Nat) (hinj : mInj ad) (S : St) (hR : RS S) (n : Nat) (hn : S 2 0 = ↑n) (hn7 : n ≤ 7) (hp : prm n (S 11)) : Met l yX7_layPlaces (Cond.code yX7_layPlaces cX7_layPlaces 3 none :: lwT) ({ frames := 0, cells := 0, slots := 0, locals := 0 }) (gPc D (mW cI ad) (mE D cI) S [.ref (ad 26), .ref (ad 11)]) (va_Qv (fun (S' : St) => ∃ f, S' = sA S 9 f ∧ ∀ v, v < n → f v = ↑(pl n (S 11) v)) (gB D (mW cI ad)) (mA ad)) 0 0 (mA ad) := by
  refine Met.ofW (cc := cX7_layPlaces) (maxL := 3) (ret := none) (by decide) rfl ?_
  intro p e s m args below meth c s₁ B hml hv
  obtain ⟨rfl, hP, hE⟩ := hv
  have hx := B.exec
  have hb := B.bytes
  have hr := B.returns
  have hts := atoms_spec (ws := Cond.code yX7_layPlaces cX7_layPlaces 3 none :: lwT) B.pre
  have hT := fun w (h : w ∈ lwT) => hts w (List.mem_cons_of_mem _ h)
  have hsub : ∀ w ∈ lwT, w ∈ (Cond.code yX7_layPlaces cX7_layPlaces 3 none :: lwT) := fun w h => List.mem_cons_of_mem _ h
  have hown : s.vm.findClass RX7 = some m.cls := findClass_of_methodNamed B.named
  have hlocks := B.notSynchronized
  have hK : va_K D vwCl [(cI, .int)] s := hE
  have hS : va_S (mA ad) s.heap s.heap [] := va_S.rf
  have hl := lv_entry ([.ref (ad 26), .ref (ad 11)]) (n := 3) (Nat.le_of_ble_eq_true rfl)
  rw [lg_entry_eq]
  generalize (lg_sl ([.ref (ad 26), .ref (ad 11)]) ++ List.replicate (3 - (lg_sl ([.ref (ad 26), .ref (ad 11)])).length) Slot.unset).toArray = ls at hl ⊢
  have hl : lv_has ls 3 [(0, .ref (ad 26)), (1, .ref (ad 11))] := hl
  refine z_iconst hx hb dX7_layPlaces_0 ?_
  refine lv_istore_n (lv' := [(2, .int (zI (0))), (0, .ref (ad 26)), (1, .ref (ad 11))]) hx hb dX7_layPlaces_1 rfl hl (by decide) rfl (fun ls hl => ?_)
  have cut_2 : ∀ (k9 : Nat) (i : Nat) (f : Nat → Int) (H : Heap) (locs : List Loc) (ls : Array Slot), (i ≤ n) → (∀ q, q < i → f (S 11 q).toNat = ↑q) → (n - i) < k9 → va_P D vwCl (mW cI ad (sA S 9 f)) H → RS (sA S 9 f) → va_S (mA ad) s.heap H locs → lv_has ls 3 [(0, .ref (ad 26)), (1, .ref (ad 11)), (2, .int (zI (↑i)))] → W p l e (headSpec (Cond.code yX7_layPlaces cX7_layPlaces 3 none :: lwT) ({ frames := 0, cells := 0, slots := 0, locals := 0 })).room s m ([.ref (ad 26), .ref (ad 11)] : List Value).toArray below meth c H locs 0 0 (MQ below (va_Qv (fun (S' : St) => ∃ f, S' = sA S 9 f ∧ ∀ v, v < n → f v = ↑(pl n (S 11) v)) (gB D (mW cI ad)) (mA ad)) ([.ref (ad 26), .ref (ad 11)] : List Value).toArray s 0 0 (mA ad)) (F0 m 2 ls []) := by
    intro k9
    induction k9 with
    | zero =>
      intro i f H locs ls hi hf hk9 hP hR hS hl
      exact absurd hk9 (Nat.not_lt_zero _)
    | succ k9 ih_2 =>
      intro i f H locs ls hi hf hk9 hP hR hS hl
      refine lv_iload_n hx hb dX7_layPlaces_2 rfl (lv_at hl 2 rfl) ?_
      refine lv_aload_n hx hb dX7_layPlaces_3 rfl (lv_at hl 0 rfl) ?_
      have g_1 : -2147483648 ≤ S 2 0 ∧ S 2 0 < 2147483648 := hR 2 0 (by decide)
      refine va_get (D := D) (ci := 7) (v := .int (zI (S 2 0))) (C := RX7) (T := TX7) (N := 26) hx hb hT inX7 hown hK hP 0 rfl rfl 2 (by decide) (hT _ q_674) (fun _ h9 => h9) rfl dX7_layPlaces_4 ?_
      refine z_icmp_ge (tgt := 25) hx hb (by omega) (by omega) (by omega) (by omega) dX7_layPlaces_7 (by decide) (fun c_2 => ?_) (fun c_2 => ?_)
      · have h9 : True := trivial
        exact g_vret (S1 := sA S 9 f) hx hb hr hlocks hP hR hS (⟨f, rfl, fun v hv => by have h7 := pl_at hp hv; have h8 := hf _ (show pl n (S 11) v < i by omega); rw [h7.2] at h8; simpa using h8⟩) dX7_layPlaces_25
      · have h9 : True := trivial
        refine lv_aload_n hx hb dX7_layPlaces_10 rfl (lv_at hl 0 rfl) ?_
        refine va_get (D := D) (ci := 7) (v := .ref (ad 9)) (C := RX7) (T := TX7) (N := 26) hx hb hT inX7 hown hK hP 0 rfl rfl 9 (by decide) (hT _ q_681) (fun _ h9 => h9) rfl dX7_layPlaces_11 ?_
        refine lv_aload_n hx hb dX7_layPlaces_14 rfl (lv_at hl 1 rfl) ?_
        refine lv_iload_n hx hb dX7_layPlaces_15 rfl (lv_at hl 2 rfl) ?_
        have h8 := hp.1 i (by omega)
        have g_3 : -2147483648 ≤ S 11 i ∧ S 11 i < 2147483648 := hR 11 i (by decide)
        refine z_ald (f := S 11) hx hb hK hP 7 0 rfl rfl (by omega) (by omega) (by decide) (j := i) rfl dX7_layPlaces_16 ?_
        refine lv_iload_n hx hb dX7_layPlaces_17 rfl (lv_at hl 2 rfl) ?_
        refine z_ast (f := (sA S 9 f) 9) (i := S 11 i) (v := ↑i) hx hb hK hP (mD hinj cI _) hS 5 0 rfl rfl (by omega) (by omega) (by decide) dX7_layPlaces_18 (fun H locs hP hS => ?_)
        have hP : va_P D vwCl (mW cI ad (sA S 9 (uZ f (S 11 i).toNat ↑i))) H := hP
        have hR : RS (sA S 9 (uZ f (S 11 i).toNat ↑i)) := hR.put' (by omega) (by omega)
        refine z_iinc (lv' := [(2, .int (zI (↑i + 1))), (0, .ref (ad 26)), (1, .ref (ad 11))]) hx hb dX7_layPlaces_19 hl (k := 2) rfl (by decide) rfl (fun ls hl => ?_)
        refine lv_goto (tgt := 2) hx hb dX7_layPlaces_22 (by decide) ?_
        exact ih_2 (i + 1) (uZ f (S 11 i).toNat ↑i) _ _ _ (by omega) (fun q hq => by
          unfold uZ
          have h7 := hp.1 q (by omega)
          split
          · rename_i e9
            have := hp.2 q i (by omega) (by omega) (by omega)
            omega
          · rename_i e9
            exact hf q (Nat.lt_of_le_of_ne (by omega) (fun e => e9 (by rw [e])))) (by omega) hP hR hS (lv_sub hl [1, 2, 0] rfl)
  have hSe_4 : S = sA S 9 (S 9) := by
    funext k8
    by_cases e80 : k8 = 9
    · subst e80; first | rfl | (funext j8; rfl)
    simp [sA, e80]
  rw [hSe_4] at hP hR
  exact cut_2 _ 0 (S 9) _ _ _ (by omega) (fun j h => absurd h (Nat.not_lt_zero j)) (Nat.lt_succ_self _) hP hR hS (lv_sub hl [1, 2, 0] rfl)
