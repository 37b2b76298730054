set_option maxHeartbeats 4000000 in
set_option maxRecDepth 100000 in
theorem k_X7_in (l : Launch) (xa xb xc : Int) (hxa1 : -2147483648 ≤ xa) (hxa2 : xa < 2147483648) (hxb1 : -2147483648 ≤ xb) (hxb2 : xb < 2147483648) (hxc1 : -2147483648 ≤ xc) (hxc2 : xc < 2147483648) : Met l yX7_in (Cond.code yX7_in cX7_in 6 (some .boolean) :: lwT) ({ frames := 0, cells := 0, slots := 0, locals := 0 }) (va_Pc [.long (zL (xa)), .long (zL (xb)), .long (zL (xc))] (fun _ => True)) (vp_Si (fun r : Int32 => r = zI (b2 (decide (xb ≤ xa ∧ xa ≤ xc))))) 0 0 (fun _ => False) := by
  refine Met.ofW (cc := cX7_in) (maxL := 6) (ret := (some .boolean)) (by decide) rfl ?_
  intro p e s m args below meth c s₁ B hml hv
  obtain ⟨rfl, -⟩ := hv
  have hx := B.exec
  have hb := B.bytes
  have hr := B.returns
  have hts := atoms_spec (ws := Cond.code yX7_in cX7_in 6 (some .boolean) :: lwT) B.pre
  have hT := fun w (h : w ∈ lwT) => hts w (List.mem_cons_of_mem _ h)
  have hsub : ∀ w ∈ lwT, w ∈ (Cond.code yX7_in cX7_in 6 (some .boolean) :: lwT) := fun w h => List.mem_cons_of_mem _ h
  have hown : s.vm.findClass RX7 = some m.cls := findClass_of_methodNamed B.named
  have hlocks := B.notSynchronized
  have hl := lv_entry ([.long (zL (xa)), .long (zL (xb)), .long (zL (xc))]) (n := 6) (Nat.le_of_ble_eq_true rfl)
  rw [lg_entry_eq]
  generalize (lg_sl ([.long (zL (xa)), .long (zL (xb)), .long (zL (xc))]) ++ List.replicate (6 - (lg_sl ([.long (zL (xa)), .long (zL (xb)), .long (zL (xc))])).length) Slot.unset).toArray = ls at hl ⊢
  have hl : lv_has ls 6 [(0, .long (zL (xa))), (2, .long (zL (xb))), (4, .long (zL (xc)))] := hl
  refine lv_lload_n hx hb dX7_in_0 rfl (lv_at hl 0 rfl) ?_
  refine lv_lload_n hx hb dX7_in_1 rfl (lv_at hl 1 rfl) ?_
  refine z_lcmp_lt (tgt := 17) hx hb (by omega) (by omega) (by omega) (by omega) dX7_in_2 dX7_in_3 (by decide) (fun c_1 => ?_) (fun c_1 => ?_)
  · have h9 : True := trivial
    refine z_iconst hx hb dX7_in_17 ?_
    exact s_zret (bo := false) hx hb hr hlocks (bF (by omega)) dX7_in_18
  · have h9 : True := trivial
    refine lv_lload_n hx hb dX7_in_6 rfl (lv_at hl 0 rfl) ?_
    refine lv_lload hx hb dX7_in_7 (lv_at hl 2 rfl) ?_
    refine z_lcmp_gt (tgt := 17) hx hb (by omega) (by omega) (by omega) (by omega) dX7_in_9 dX7_in_10 (by decide) (fun c_2 => ?_) (fun c_2 => ?_)
    · have h9 : True := trivial
      refine z_iconst hx hb dX7_in_17 ?_
      exact s_zret (bo := false) hx hb hr hlocks (bF (by omega)) dX7_in_18
    · have h9 : True := trivial
      refine z_iconst hx hb dX7_in_13 ?_
      refine lv_goto (tgt := 18) hx hb dX7_in_14 (by decide) ?_
      exact s_zret (bo := true) hx hb hr hlocks (bT (by omega)) dX7_in_18
set_option maxHeartbeats 4000000 in
set_option maxRecDepth 100000 in
theorem k_X7_isWithin (l : Launch) (xv xa xb : Int) (hxv1 : -2147483648 ≤ xv) (hxv2 : xv < 2147483648) (hxa1 : -2147483648 ≤ xa) (hxa2 : xa < 2147483648) (hxb1 : -2147483648 ≤ xb) (hxb2 : xb < 2147483648) : Met l yX7_isWithin (Cond.code yX7_isWithin cX7_isWithin 3 (some .boolean) :: lwT) ({ frames := 0, cells := 0, slots := 0, locals := 0 }) (va_Pc [.int (zI (xv)), .int (zI (xa)), .int (zI (xb))] (fun _ => True)) (vp_Si (fun r : Int32 => r = zI (b2 (pB (wth xv xa xb))))) 0 0 (fun _ => False) := by
  refine Met.ofW (cc := cX7_isWithin) (maxL := 3) (ret := (some .boolean)) (by decide) rfl ?_
  intro p e s m args below meth c s₁ B hml hv
  obtain ⟨rfl, -⟩ := hv
  have hx := B.exec
  have hb := B.bytes
  have hr := B.returns
  have hts := atoms_spec (ws := Cond.code yX7_isWithin cX7_isWithin 3 (some .boolean) :: lwT) B.pre
  have hT := fun w (h : w ∈ lwT) => hts w (List.mem_cons_of_mem _ h)
  have hsub : ∀ w ∈ lwT, w ∈ (Cond.code yX7_isWithin cX7_isWithin 3 (some .boolean) :: lwT) := fun w h => List.mem_cons_of_mem _ h
  have hown : s.vm.findClass RX7 = some m.cls := findClass_of_methodNamed B.named
  have hlocks := B.notSynchronized
  have hl := lv_entry ([.int (zI (xv)), .int (zI (xa)), .int (zI (xb))]) (n := 3) (Nat.le_of_ble_eq_true rfl)
  rw [lg_entry_eq]
  generalize (lg_sl ([.int (zI (xv)), .int (zI (xa)), .int (zI (xb))]) ++ List.replicate (3 - (lg_sl ([.int (zI (xv)), .int (zI (xa)), .int (zI (xb))])).length) Slot.unset).toArray = ls at hl ⊢
  have hl : lv_has ls 3 [(0, .int (zI (xv))), (1, .int (zI (xa))), (2, .int (zI (xb)))] := hl
  refine lv_iload_n hx hb dX7_isWithin_0 rfl (lv_at hl 1 rfl) ?_
  refine lv_iload_n hx hb dX7_isWithin_1 rfl (lv_at hl 2 rfl) ?_
  refine z_icmp_ge (tgt := 23) hx hb (by omega) (by omega) (by omega) (by omega) dX7_isWithin_2 (by decide) (fun c_1 => ?_) (fun c_1 => ?_)
  · have h9 : True := trivial
    refine lv_iload_n hx hb dX7_isWithin_23 rfl (lv_at hl 0 rfl) ?_
    refine lv_iload_n hx hb dX7_isWithin_24 rfl (lv_at hl 2 rfl) ?_
    refine z_icmp_le (tgt := 37) hx hb (by omega) (by omega) (by omega) (by omega) dX7_isWithin_25 (by decide) (fun c_2 => ?_) (fun c_2 => ?_)
    · have h9 : True := trivial
      refine z_iconst hx hb dX7_isWithin_37 ?_
      exact s_zret (bo := false) hx hb hr hlocks (pF (by unfold wth; omega)) dX7_isWithin_38
    · have h9 : True := trivial
      refine lv_iload_n hx hb dX7_isWithin_28 rfl (lv_at hl 0 rfl) ?_
      refine lv_iload_n hx hb dX7_isWithin_29 rfl (lv_at hl 1 rfl) ?_
      refine z_icmp_ge (tgt := 37) hx hb (by omega) (by omega) (by omega) (by omega) dX7_isWithin_30 (by decide) (fun c_3 => ?_) (fun c_3 => ?_)
      · have h9 : True := trivial
        refine z_iconst hx hb dX7_isWithin_37 ?_
        exact s_zret (bo := false) hx hb hr hlocks (pF (by unfold wth; omega)) dX7_isWithin_38
      · have h9 : True := trivial
        refine z_iconst hx hb dX7_isWithin_33 ?_
        refine lv_goto (tgt := 38) hx hb dX7_isWithin_34 (by decide) ?_
        exact s_zret (bo := true) hx hb hr hlocks (pT (by unfold wth; omega)) dX7_isWithin_38
  · have h9 : True := trivial
    refine lv_iload_n hx hb dX7_isWithin_5 rfl (lv_at hl 0 rfl) ?_
    refine lv_iload_n hx hb dX7_isWithin_6 rfl (lv_at hl 1 rfl) ?_
    refine z_icmp_le (tgt := 19) hx hb (by omega) (by omega) (by omega) (by omega) dX7_isWithin_7 (by decide) (fun c_4 => ?_) (fun c_4 => ?_)
    · have h9 : True := trivial
      refine z_iconst hx hb dX7_isWithin_19 ?_
      refine lv_goto (tgt := 38) hx hb dX7_isWithin_20 (by decide) ?_
      exact s_zret (bo := false) hx hb hr hlocks (pF (by unfold wth; omega)) dX7_isWithin_38
    · have h9 : True := trivial
      refine lv_iload_n hx hb dX7_isWithin_10 rfl (lv_at hl 0 rfl) ?_
      refine lv_iload_n hx hb dX7_isWithin_11 rfl (lv_at hl 2 rfl) ?_
      refine z_icmp_ge (tgt := 19) hx hb (by omega) (by omega) (by omega) (by omega) dX7_isWithin_12 (by decide) (fun c_5 => ?_) (fun c_5 => ?_)
      · have h9 : True := trivial
        refine z_iconst hx hb dX7_isWithin_19 ?_
        refine lv_goto (tgt := 38) hx hb dX7_isWithin_20 (by decide) ?_
        exact s_zret (bo := false) hx hb hr hlocks (pF (by unfold wth; omega)) dX7_isWithin_38
      · have h9 : True := trivial
        refine z_iconst hx hb dX7_isWithin_15 ?_
        refine lv_goto (tgt := 38) hx hb dX7_isWithin_16 (by decide) ?_
        exact s_zret (bo := true) hx hb hr hlocks (pT (by unfold wth; omega)) dX7_isWithin_38
set_option maxHeartbeats 4000000 in
set_option maxRecDepth 100000 in
theorem k_X7_codeOf_6 (l : Launch) (D : va_G) (cI : ClassId) (ad : Nat → Nat) (hinj : mInj ad) (S : St) (hR : RS S) (n : Nat) (x : Int) (hxn : x = ↑n) (hn : n ≤ 7) : Met l yX7_codeOf (Cond.code yX7_codeOf cX7_codeOf 4 (some .int) :: lwT) ({ frames := 0, cells := 0, slots := 0, locals := 0 }) (gPc D (mW cI ad) (mE D cI) S [.ref (ad 6), .int (zI (x))]) (va_Qi (fun (r : Int32) (S' : St) => S' = S ∧ r = zI (cdF (S 6) n)) (gB D (mW cI ad)) (mA ad)) 0 0 (mA ad) := by
  refine Met.ofW (cc := cX7_codeOf) (maxL := 4) (ret := (some .int)) (by decide) rfl ?_
  intro p e s m args below meth c s₁ B hml hv
  obtain ⟨rfl, hP, hE⟩ := hv
  have hx := B.exec
  have hb := B.bytes
  have hr := B.returns
  have hts := atoms_spec (ws := Cond.code yX7_codeOf cX7_codeOf 4 (some .int) :: lwT) B.pre
  have hT := fun w (h : w ∈ lwT) => hts w (List.mem_cons_of_mem _ h)
  have hsub : ∀ w ∈ lwT, w ∈ (Cond.code yX7_codeOf cX7_codeOf 4 (some .int) :: lwT) := fun w h => List.mem_cons_of_mem _ h
  have hown : s.vm.findClass RX7 = some m.cls := findClass_of_methodNamed B.named
  have hlocks := B.notSynchronized
  have hK : va_K D vwCl [(cI, .int)] s := hE
  have hS : va_S (mA ad) s.heap s.heap [] := va_S.rf
  have hl := lv_entry ([.ref (ad 6), .int (zI (x))]) (n := 4) (Nat.le_of_ble_eq_true rfl)
  rw [lg_entry_eq]
  generalize (lg_sl ([.ref (ad 6), .int (zI (x))]) ++ List.replicate (4 - (lg_sl ([.ref (ad 6), .int (zI (x))])).length) Slot.unset).toArray = ls at hl ⊢
  have hl : lv_has ls 4 [(0, .ref (ad 6)), (1, .int (zI (x)))] := hl
  refine z_iconst hx hb dX7_codeOf_0 ?_
  refine lv_istore_n (lv' := [(2, .int (zI (0))), (0, .ref (ad 6)), (1, .int (zI (x)))]) hx hb dX7_codeOf_1 rfl hl (by decide) rfl (fun ls hl => ?_)
  refine z_iconst hx hb dX7_codeOf_2 ?_
  refine lv_istore_n (lv' := [(3, .int (zI (0))), (2, .int (zI (0))), (0, .ref (ad 6)), (1, .int (zI (x)))]) hx hb dX7_codeOf_3 rfl hl (by decide) rfl (fun ls hl => ?_)
  have cut_4 : ∀ (k9 : Nat) (i : Nat) (H : Heap) (locs : List Loc) (ls : Array Slot), (i ≤ n) → (n - i) < k9 → va_P D vwCl (mW cI ad S) H → RS S → va_S (mA ad) s.heap H locs → lv_has ls 4 [(0, .ref (ad 6)), (1, .int (zI (x))), (2, .int (zI (cdF (S 6) i))), (3, .int (zI (↑i)))] → W p l e (headSpec (Cond.code yX7_codeOf cX7_codeOf 4 (some .int) :: lwT) ({ frames := 0, cells := 0, slots := 0, locals := 0 })).room s m ([.ref (ad 6), .int (zI (x))] : List Value).toArray below meth c H locs 0 0 (MQ below (va_Qi (fun (r : Int32) (S' : St) => S' = S ∧ r = zI (cdF (S 6) n)) (gB D (mW cI ad)) (mA ad)) ([.ref (ad 6), .int (zI (x))] : List Value).toArray s 0 0 (mA ad)) (F0 m 4 ls []) := by
    intro k9
    induction k9 with
    | zero =>
      intro i H locs ls hi hk9 hP hR hS hl
      exact absurd hk9 (Nat.not_lt_zero _)
    | succ k9 ih_4 =>
      intro i H locs ls hi hk9 hP hR hS hl
      refine lv_iload_n hx hb dX7_codeOf_4 rfl (lv_at hl 3 rfl) ?_
      refine lv_iload_n hx hb dX7_codeOf_5 rfl (lv_at hl 1 rfl) ?_
      refine z_icmp_ge (tgt := 24) hx hb (by omega) (by omega) (by omega) (by omega) dX7_codeOf_6 (by decide) (fun c_1 => ?_) (fun c_1 => ?_)
      · have h9 : True := trivial
        refine lv_iload_n hx hb dX7_codeOf_24 rfl (lv_at hl 2 rfl) ?_
        exact g_iret (S1 := S) (v := zI (cdF (S 6) i)) hx hb hr hlocks hP hR hS (⟨rfl, by rw [show n = i by omega]⟩) dX7_codeOf_25
      · have h9 : True := trivial
        refine z_bipush hx hb dX7_codeOf_9 (by decide) ?_
        refine lv_iload_n hx hb dX7_codeOf_11 rfl (lv_at hl 2 rfl) ?_
        refine z_imul hx hb dX7_codeOf_12 ?_
        refine lv_aload_n hx hb dX7_codeOf_13 rfl (lv_at hl 0 rfl) ?_
        refine lv_iload_n hx hb dX7_codeOf_14 rfl (lv_at hl 3 rfl) ?_
        have g_2 : -2147483648 ≤ S 6 i ∧ S 6 i < 2147483648 := hR 6 i (by decide)
        refine z_ald (f := S 6) hx hb hK hP 3 0 rfl rfl (by omega) (by omega) (by decide) (j := i) rfl dX7_codeOf_15 ?_
        refine z_iadd hx hb dX7_codeOf_16 ?_
        refine lv_istore_n (lv' := [(2, .int (zI ((8 * (cdF (S 6) i)) + (S 6 i)))), (0, .ref (ad 6)), (1, .int (zI (x))), (3, .int (zI (↑i)))]) hx hb dX7_codeOf_17 rfl hl (by decide) rfl (fun ls hl => ?_)
        refine z_iinc (lv' := [(3, .int (zI (↑i + 1))), (2, .int (zI ((8 * (cdF (S 6) i)) + (S 6 i)))), (0, .ref (ad 6)), (1, .int (zI (x)))]) hx hb dX7_codeOf_18 hl (k := 3) rfl (by decide) rfl (fun ls hl => ?_)
        refine lv_goto (tgt := 4) hx hb dX7_codeOf_21 (by decide) ?_
        exact ih_4 (i + 1) _ _ _ (by omega) (by omega) hP hR hS (lv_sub hl [2, 3, 1, 0] rfl)
  exact cut_4 _ 0 _ _ _ (by omega) (Nat.lt_succ_self _) hP hR hS (lv_sub hl [2, 3, 1, 0] rfl)
set_option maxHeartbeats 4000000 in
set_option maxRecDepth 100000 in
theorem k_X7_codeOf_10 (l : Launch) (D : va_G) (cI : ClassId) (ad : Nat → Nat) (hinj : mInj ad) (S : St) (hR : RS S) (n : Nat) (x : Int) (hxn : x = ↑n) (hn : n ≤ 7) : Met l yX7_codeOf (Cond.code yX7_codeOf cX7_codeOf 4 (some .int) :: lwT) ({ frames := 0, cells := 0, slots := 0, locals := 0 }) (gPc D (mW cI ad) (mE D cI) S [.ref (ad 10), .int (zI (x))]) (va_Qi (fun (r : Int32) (S' : St) => S' = S ∧ r = zI (cdF (S 10) n)) (gB D (mW cI ad)) (mA ad)) 0 0 (mA ad) := by
  refine Met.ofW (cc := cX7_codeOf) (maxL := 4) (ret := (some .int)) (by decide) rfl ?_
  intro p e s m args below meth c s₁ B hml hv
  obtain ⟨rfl, hP, hE⟩ := hv
  have hx := B.exec
  have hb := B.bytes
  have hr := B.returns
  have hts := atoms_spec (ws := Cond.code yX7_codeOf cX7_codeOf 4 (some .int) :: lwT) B.pre
  have hT := fun w (h : w ∈ lwT) => hts w (List.mem_cons_of_mem _ h)
  have hsub : ∀ w ∈ lwT, w ∈ (Cond.code yX7_codeOf cX7_codeOf 4 (some .int) :: lwT) := fun w h => List.mem_cons_of_mem _ h
  have hown : s.vm.findClass RX7 = some m.cls := findClass_of_methodNamed B.named
  have hlocks := B.notSynchronized
  have hK : va_K D vwCl [(cI, .int)] s := hE
  have hS : va_S (mA ad) s.heap s.heap [] := va_S.rf
  have hl := lv_entry ([.ref (ad 10), .int (zI (x))]) (n := 4) (Nat.le_of_ble_eq_true rfl)
  rw [lg_entry_eq]
  generalize (lg_sl ([.ref (ad 10), .int (zI (x))]) ++ List.replicate (4 - (lg_sl ([.ref (ad 10), .int (zI (x))])).length) Slot.unset).toArray = ls at hl ⊢
  have hl : lv_has ls 4 [(0, .ref (ad 10)), (1, .int (zI (x)))] := hl
  refine z_iconst hx hb dX7_codeOf_0 ?_
  refine lv_istore_n (lv' := [(2, .int (zI (0))), (0, .ref (ad 10)), (1, .int (zI (x)))]) hx hb dX7_codeOf_1 rfl hl (by decide) rfl (fun ls hl => ?_)
  refine z_iconst hx hb dX7_codeOf_2 ?_
  refine lv_istore_n (lv' := [(3, .int (zI (0))), (2, .int (zI (0))), (0, .ref (ad 10)), (1, .int (zI (x)))]) hx hb dX7_codeOf_3 rfl hl (by decide) rfl (fun ls hl => ?_)
  have cut_4 : ∀ (k9 : Nat) (i : Nat) (H : Heap) (locs : List Loc) (ls : Array Slot), (i ≤ n) → (n - i) < k9 → va_P D vwCl (mW cI ad S) H → RS S → va_S (mA ad) s.heap H locs → lv_has ls 4 [(0, .ref (ad 10)), (1, .int (zI (x))), (2, .int (zI (cdF (S 10) i))), (3, .int (zI (↑i)))] → W p l e (headSpec (Cond.code yX7_codeOf cX7_codeOf 4 (some .int) :: lwT) ({ frames := 0, cells := 0, slots := 0, locals := 0 })).room s m ([.ref (ad 10), .int (zI (x))] : List Value).toArray below meth c H locs 0 0 (MQ below (va_Qi (fun (r : Int32) (S' : St) => S' = S ∧ r = zI (cdF (S 10) n)) (gB D (mW cI ad)) (mA ad)) ([.ref (ad 10), .int (zI (x))] : List Value).toArray s 0 0 (mA ad)) (F0 m 4 ls []) := by
    intro k9
    induction k9 with
    | zero =>
      intro i H locs ls hi hk9 hP hR hS hl
      exact absurd hk9 (Nat.not_lt_zero _)
    | succ k9 ih_4 =>
      intro i H locs ls hi hk9 hP hR hS hl
      refine lv_iload_n hx hb dX7_codeOf_4 rfl (lv_at hl 3 rfl) ?_
      refine lv_iload_n hx hb dX7_codeOf_5 rfl (lv_at hl 1 rfl) ?_
      refine z_icmp_ge (tgt := 24) hx hb (by omega) (by omega) (by omega) (by omega) dX7_codeOf_6 (by decide) (fun c_1 => ?_) (fun c_1 => ?_)
      · have h9 : True := trivial
        refine lv_iload_n hx hb dX7_codeOf_24 rfl (lv_at hl 2 rfl) ?_
        exact g_iret (S1 := S) (v := zI (cdF (S 10) i)) hx hb hr hlocks hP hR hS (⟨rfl, by rw [show n = i by omega]⟩) dX7_codeOf_25
      · have h9 : True := trivial
        refine z_bipush hx hb dX7_codeOf_9 (by decide) ?_
        refine lv_iload_n hx hb dX7_codeOf_11 rfl (lv_at hl 2 rfl) ?_
        refine z_imul hx hb dX7_codeOf_12 ?_
        refine lv_aload_n hx hb dX7_codeOf_13 rfl (lv_at hl 0 rfl) ?_
        refine lv_iload_n hx hb dX7_codeOf_14 rfl (lv_at hl 3 rfl) ?_
        have g_2 : -2147483648 ≤ S 10 i ∧ S 10 i < 2147483648 := hR 10 i (by decide)
        refine z_ald (f := S 10) hx hb hK hP 6 0 rfl rfl (by omega) (by omega) (by decide) (j := i) rfl dX7_codeOf_15 ?_
        refine z_iadd hx hb dX7_codeOf_16 ?_
        refine lv_istore_n (lv' := [(2, .int (zI ((8 * (cdF (S 10) i)) + (S 10 i)))), (0, .ref (ad 10)), (1, .int (zI (x))), (3, .int (zI (↑i)))]) hx hb dX7_codeOf_17 rfl hl (by decide) rfl (fun ls hl => ?_)
        refine z_iinc (lv' := [(3, .int (zI (↑i + 1))), (2, .int (zI ((8 * (cdF (S 10) i)) + (S 10 i)))), (0, .ref (ad 10)), (1, .int (zI (x)))]) hx hb dX7_codeOf_18 hl (k := 3) rfl (by decide) rfl (fun ls hl => ?_)
        refine lv_goto (tgt := 4) hx hb dX7_codeOf_21 (by decide) ?_
        exact ih_4 (i + 1) _ _ _ (by omega) (by omega) hP hR hS (lv_sub hl [2, 3, 1, 0] rfl)
  exact cut_4 _ 0 _ _ _ (by omega) (Nat.lt_succ_self _) hP hR hS (lv_sub hl [2, 3, 1, 0] rfl)
set_option maxHeartbeats 4000000 in
set_option maxRecDepth 100000 in
theorem k_X7_codeOf_11 (l : Launch) (D : va_G) (cI : ClassId) (ad : Nat → Nat) (hinj : mInj ad) (S : St) (hR : RS S) (n : Nat) (x : Int) (hxn : x = ↑n) (hn : n ≤ 7) : Met l yX7_codeOf (Cond.code yX7_codeOf cX7_codeOf 4 (some .int) :: lwT) ({ frames := 0, cells := 0, slots := 0, locals := 0 }) (gPc D (mW cI ad) (mE D cI) S [.ref (ad 11), .int (zI (x))]) (va_Qi (fun (r : Int32) (S' : St) => S' = S ∧ r = zI (cdF (S 11) n)) (gB D (mW cI ad)) (mA ad)) 0 0 (mA ad) := by
  refine Met.ofW (cc := cX7_codeOf) (maxL := 4) (ret := (some .int)) (by decide) rfl ?_
  intro p e s m args below meth c s₁ B hml hv
  obtain ⟨rfl, hP, hE⟩ := hv
  have hx := B.exec
  have hb := B.bytes
  have hr := B.returns
  have hts := atoms_spec (ws := Cond.code yX7_codeOf cX7_codeOf 4 (some .int) :: lwT) B.pre
  have hT := fun w (h : w ∈ lwT) => hts w (List.mem_cons_of_mem _ h)
  have hsub : ∀ w ∈ lwT, w ∈ (Cond.code yX7_codeOf cX7_codeOf 4 (some .int) :: lwT) := fun w h => List.mem_cons_of_mem _ h
  have hown : s.vm.findClass RX7 = some m.cls := findClass_of_methodNamed B.named
  have hlocks := B.notSynchronized
  have hK : va_K D vwCl [(cI, .int)] s := hE
  have hS : va_S (mA ad) s.heap s.heap [] := va_S.rf
  have hl := lv_entry ([.ref (ad 11), .int (zI (x))]) (n := 4) (Nat.le_of_ble_eq_true rfl)
  rw [lg_entry_eq]
  generalize (lg_sl ([.ref (ad 11), .int (zI (x))]) ++ List.replicate (4 - (lg_sl ([.ref (ad 11), .int (zI (x))])).length) Slot.unset).toArray = ls at hl ⊢
  have hl : lv_has ls 4 [(0, .ref (ad 11)), (1, .int (zI (x)))] := hl
  refine z_iconst hx hb dX7_codeOf_0 ?_
  refine lv_istore_n (lv' := [(2, .int (zI (0))), (0, .ref (ad 11)), (1, .int (zI (x)))]) hx hb dX7_codeOf_1 rfl hl (by decide) rfl (fun ls hl => ?_)
  refine z_iconst hx hb dX7_codeOf_2 ?_
  refine lv_istore_n (lv' := [(3, .int (zI (0))), (2, .int (zI (0))), (0, .ref (ad 11)), (1, .int (zI (x)))]) hx hb dX7_codeOf_3 rfl hl (by decide) rfl (fun ls hl => ?_)
  have cut_4 : ∀ (k9 : Nat) (i : Nat) (H : Heap) (locs : List Loc) (ls : Array Slot), (i ≤ n) → (n - i) < k9 → va_P D vwCl (mW cI ad S) H → RS S → va_S (mA ad) s.heap H locs → lv_has ls 4 [(0, .ref (ad 11)), (1, .int (zI (x))), (2, .int (zI (cdF (S 11) i))), (3, .int (zI (↑i)))] → W p l e (headSpec (Cond.code yX7_codeOf cX7_codeOf 4 (some .int) :: lwT) ({ frames := 0, cells := 0, slots := 0, locals := 0 })).room s m ([.ref (ad 11), .int (zI (x))] : List Value).toArray below meth c H locs 0 0 (MQ below (va_Qi (fun (r : Int32) (S' : St) => S' = S ∧ r = zI (cdF (S 11) n)) (gB D (mW cI ad)) (mA ad)) ([.ref (ad 11), .int (zI (x))] : List Value).toArray s 0 0 (mA ad)) (F0 m 4 ls []) := by
    intro k9
    induction k9 with
    | zero =>
      intro i H locs ls hi hk9 hP hR hS hl
      exact absurd hk9 (Nat.not_lt_zero _)
    | succ k9 ih_4 =>
      intro i H locs ls hi hk9 hP hR hS hl
      refine lv_iload_n hx hb dX7_codeOf_4 rfl (lv_at hl 3 rfl) ?_
      refine lv_iload_n hx hb dX7_codeOf_5 rfl (lv_at hl 1 rfl) ?_
      refine z_icmp_ge (tgt := 24) hx hb (by omega) (by omega) (by omega) (by omega) dX7_codeOf_6 (by decide) (fun c_1 => ?_) (fun c_1 => ?_)
      · have h9 : True := trivial
        refine lv_iload_n hx hb dX7_codeOf_24 rfl (lv_at hl 2 rfl) ?_
        exact g_iret (S1 := S) (v := zI (cdF (S 11) i)) hx hb hr hlocks hP hR hS (⟨rfl, by rw [show n = i by omega]⟩) dX7_codeOf_25
      · have h9 : True := trivial
        refine z_bipush hx hb dX7_codeOf_9 (by decide) ?_
        refine lv_iload_n hx hb dX7_codeOf_11 rfl (lv_at hl 2 rfl) ?_
        refine z_imul hx hb dX7_codeOf_12 ?_
        refine lv_aload_n hx hb dX7_codeOf_13 rfl (lv_at hl 0 rfl) ?_
        refine lv_iload_n hx hb dX7_codeOf_14 rfl (lv_at hl 3 rfl) ?_
        have g_2 : -2147483648 ≤ S 11 i ∧ S 11 i < 2147483648 := hR 11 i (by decide)
        refine z_ald (f := S 11) hx hb hK hP 7 0 rfl rfl (by omega) (by omega) (by decide) (j := i) rfl dX7_codeOf_15 ?_
        refine z_iadd hx hb dX7_codeOf_16 ?_
        refine lv_istore_n (lv' := [(2, .int (zI ((8 * (cdF (S 11) i)) + (S 11 i)))), (0, .ref (ad 11)), (1, .int (zI (x))), (3, .int (zI (↑i)))]) hx hb dX7_codeOf_17 rfl hl (by decide) rfl (fun ls hl => ?_)
        refine z_iinc (lv' := [(3, .int (zI (↑i + 1))), (2, .int (zI ((8 * (cdF (S 11) i)) + (S 11 i)))), (0, .ref (ad 11)), (1, .int (zI (x)))]) hx hb dX7_codeOf_18 hl (k := 3) rfl (by decide) rfl (fun ls hl => ?_)
        refine lv_goto (tgt := 4) hx hb dX7_codeOf_21 (by decide) ?_
        exact ih_4 (i + 1) _ _ _ (by omega) (by omega) hP hR hS (lv_sub hl [2, 3, 1, 0] rfl)
  exact cut_4 _ 0 _ _ _ (by omega) (Nat.lt_succ_self _) hP hR hS (lv_sub hl [2, 3, 1, 0] rfl)
set_option maxHeartbeats 4000000 in
set_option maxRecDepth 100000 in
theorem k_X7_codeOf_18 (l : Launch) (D : va_G) (cI : ClassId) (ad : Nat → Nat) (hinj : mInj ad) (S : St) (hR : RS S) (n : Nat) (x : Int) (hxn : x = ↑n) (hn : n ≤ 7) : Met l yX7_codeOf (Cond.code yX7_codeOf cX7_codeOf 4 (some .int) :: lwT) ({ frames := 0, cells := 0, slots := 0, locals := 0 }) (gPc D (mW cI ad) (mE D cI) S [.ref (ad 18), .int (zI (x))]) (va_Qi (fun (r : Int32) (S' : St) => S' = S ∧ r = zI (cdF (S 18) n)) (gB D (mW cI ad)) (mA ad)) 0 0 (mA ad) := by
  refine Met.ofW (cc := cX7_codeOf) (maxL := 4) (ret := (some .int)) (by decide) rfl ?_
  intro p e s m args below meth c s₁ B hml hv
  obtain ⟨rfl, hP, hE⟩ := hv
  have hx := B.exec
  have hb := B.bytes
  have hr := B.returns
  have hts := atoms_spec (ws := Cond.code yX7_codeOf cX7_codeOf 4 (some .int) :: lwT) B.pre
  have hT := fun w (h : w ∈ lwT) => hts w (List.mem_cons_of_mem _ h)
  have hsub : ∀ w ∈ lwT, w ∈ (Cond.code yX7_codeOf cX7_codeOf 4 (some .int) :: lwT) := fun w h => List.mem_cons_of_mem _ h
  have hown : s.vm.findClass RX7 = some m.cls := findClass_of_methodNamed B.named
  have hlocks := B.notSynchronized
  have hK : va_K D vwCl [(cI, .int)] s := hE
  have hS : va_S (mA ad) s.heap s.heap [] := va_S.rf
  have hl := lv_entry ([.ref (ad 18), .int (zI (x))]) (n := 4) (Nat.le_of_ble_eq_true rfl)
  rw [lg_entry_eq]
  generalize (lg_sl ([.ref (ad 18), .int (zI (x))]) ++ List.replicate (4 - (lg_sl ([.ref (ad 18), .int (zI (x))])).length) Slot.unset).toArray = ls at hl ⊢
  have hl : lv_has ls 4 [(0, .ref (ad 18)), (1, .int (zI (x)))] := hl
  refine z_iconst hx hb dX7_codeOf_0 ?_
  refine lv_istore_n (lv' := [(2, .int (zI (0))), (0, .ref (ad 18)), (1, .int (zI (x)))]) hx hb dX7_codeOf_1 rfl hl (by decide) rfl (fun ls hl => ?_)
  refine z_iconst hx hb dX7_codeOf_2 ?_
  refine lv_istore_n (lv' := [(3, .int (zI (0))), (2, .int (zI (0))), (0, .ref (ad 18)), (1, .int (zI (x)))]) hx hb dX7_codeOf_3 rfl hl (by decide) rfl (fun ls hl => ?_)
  have cut_4 : ∀ (k9 : Nat) (i : Nat) (H : Heap) (locs : List Loc) (ls : Array Slot), (i ≤ n) → (n - i) < k9 → va_P D vwCl (mW cI ad S) H → RS S → va_S (mA ad) s.heap H locs → lv_has ls 4 [(0, .ref (ad 18)), (1, .int (zI (x))), (2, .int (zI (cdF (S 18) i))), (3, .int (zI (↑i)))] → W p l e (headSpec (Cond.code yX7_codeOf cX7_codeOf 4 (some .int) :: lwT) ({ frames := 0, cells := 0, slots := 0, locals := 0 })).room s m ([.ref (ad 18), .int (zI (x))] : List Value).toArray below meth c H locs 0 0 (MQ below (va_Qi (fun (r : Int32) (S' : St) => S' = S ∧ r = zI (cdF (S 18) n)) (gB D (mW cI ad)) (mA ad)) ([.ref (ad 18), .int (zI (x))] : List Value).toArray s 0 0 (mA ad)) (F0 m 4 ls []) := by
    intro k9
    induction k9 with
    | zero =>
      intro i H locs ls hi hk9 hP hR hS hl
      exact absurd hk9 (Nat.not_lt_zero _)
    | succ k9 ih_4 =>
      intro i H locs ls hi hk9 hP hR hS hl
      refine lv_iload_n hx hb dX7_codeOf_4 rfl (lv_at hl 3 rfl) ?_
      refine lv_iload_n hx hb dX7_codeOf_5 rfl (lv_at hl 1 rfl) ?_
      refine z_icmp_ge (tgt := 24) hx hb (by omega) (by omega) (by omega) (by omega) dX7_codeOf_6 (by decide) (fun c_1 => ?_) (fun c_1 => ?_)
      · have h9 : True := trivial
        refine lv_iload_n hx hb dX7_codeOf_24 rfl (lv_at hl 2 rfl) ?_
        exact g_iret (S1 := S) (v := zI (cdF (S 18) i)) hx hb hr hlocks hP hR hS (⟨rfl, by rw [show n = i by omega]⟩) dX7_codeOf_25
      · have h9 : True := trivial
        refine z_bipush hx hb dX7_codeOf_9 (by decide) ?_
        refine lv_iload_n hx hb dX7_codeOf_11 rfl (lv_at hl 2 rfl) ?_
        refine z_imul hx hb dX7_codeOf_12 ?_
        refine lv_aload_n hx hb dX7_codeOf_13 rfl (lv_at hl 0 rfl) ?_
        refine lv_iload_n hx hb dX7_codeOf_14 rfl (lv_at hl 3 rfl) ?_
        have g_2 : -2147483648 ≤ S 18 i ∧ S 18 i < 2147483648 := hR 18 i (by decide)
        refine z_ald (f := S 18) hx hb hK hP 11 0 rfl rfl (by omega) (by omega) (by decide) (j := i) rfl dX7_codeOf_15 ?_
        refine z_iadd hx hb dX7_codeOf_16 ?_
        refine lv_istore_n (lv' := [(2, .int (zI ((8 * (cdF (S 18) i)) + (S 18 i)))), (0, .ref (ad 18)), (1, .int (zI (x))), (3, .int (zI (↑i)))]) hx hb dX7_codeOf_17 rfl hl (by decide) rfl (fun ls hl => ?_)
        refine z_iinc (lv' := [(3, .int (zI (↑i + 1))), (2, .int (zI ((8 * (cdF (S 18) i)) + (S 18 i)))), (0, .ref (ad 18)), (1, .int (zI (x)))]) hx hb dX7_codeOf_18 hl (k := 3) rfl (by decide) rfl (fun ls hl => ?_)
        refine lv_goto (tgt := 4) hx hb dX7_codeOf_21 (by decide) ?_
        exact ih_4 (i + 1) _ _ _ (by omega) (by omega) hP hR hS (lv_sub hl [2, 3, 1, 0] rfl)
  exact cut_4 _ 0 _ _ _ (by omega) (Nat.lt_succ_self _) hP hR hS (lv_sub hl [2, 3, 1, 0] rfl)
set_option maxHeartbeats 4000000 in
set_option maxRecDepth 100000 in
theorem k_X7_lacks (l : Launch) (D : va_G) (cI : ClassId) (ad : Nat → Nat) (hinj : mInj ad) (S : St) (hR : RS S)  : Met l yX7_lacks (Cond.code yX7_lacks cX7_lacks 1 (some .boolean) :: lwT) ({ frames := 0, cells := 0, slots := 0, locals := 0 }) (gPc D (mW cI ad) (mE D cI) S [.ref (ad 26)]) (va_Qi (fun (r : Int32) (S' : St) => S' = S ∧ r = zI (b2 (decide (S 2 0 = 0)))) (gB D (mW cI ad)) (mA ad)) 0 0 (mA ad) := by
  refine Met.ofW (cc := cX7_lacks) (maxL := 1) (ret := (some .boolean)) (by decide) rfl ?_
  intro p e s m args below meth c s₁ B hml hv
  obtain ⟨rfl, hP, hE⟩ := hv
  have hx := B.exec
  have hb := B.bytes
  have hr := B.returns
  have hts := atoms_spec (ws := Cond.code yX7_lacks cX7_lacks 1 (some .boolean) :: lwT) B.pre
  have hT := fun w (h : w ∈ lwT) => hts w (List.mem_cons_of_mem _ h)
  have hsub : ∀ w ∈ lwT, w ∈ (Cond.code yX7_lacks cX7_lacks 1 (some .boolean) :: lwT) := fun w h => List.mem_cons_of_mem _ h
  have hown : s.vm.findClass RX7 = some m.cls := findClass_of_methodNamed B.named
  have hlocks := B.notSynchronized
  have hK : va_K D vwCl [(cI, .int)] s := hE
  have hS : va_S (mA ad) s.heap s.heap [] := va_S.rf
  have hl := lv_entry ([.ref (ad 26)]) (n := 1) (Nat.le_of_ble_eq_true rfl)
  rw [lg_entry_eq]
  generalize (lg_sl ([.ref (ad 26)]) ++ List.replicate (1 - (lg_sl ([.ref (ad 26)])).length) Slot.unset).toArray = ls at hl ⊢
  have hl : lv_has ls 1 [(0, .ref (ad 26))] := hl
  refine lv_aload_n hx hb dX7_lacks_0 rfl (lv_at hl 0 rfl) ?_
  have g_1 : -2147483648 ≤ S 2 0 ∧ S 2 0 < 2147483648 := hR 2 0 (by decide)
  refine va_get (D := D) (ci := 7) (v := .int (zI (S 2 0))) (C := RX7) (T := TX7) (N := 26) hx hb hT inX7 hown hK hP 0 rfl rfl 2 (by decide) (hT _ q_674) (fun _ h9 => h9) rfl dX7_lacks_1 ?_
  refine z_if_ne (tgt := 11) hx hb (by omega) (by omega) dX7_lacks_4 (by decide) (fun c_2 => ?_) (fun c_2 => ?_)
  · have h9 : True := trivial
    refine z_iconst hx hb dX7_lacks_11 ?_
    exact g_zret (S1 := S) (bo := false) hx hb hr hlocks hP hR hS (⟨rfl, bF (by omega)⟩) dX7_lacks_12
  · have h9 : True := trivial
    refine z_iconst hx hb dX7_lacks_7 ?_
    refine lv_goto (tgt := 12) hx hb dX7_lacks_8 (by decide) ?_
    exact g_zret (S1 := S) (bo := true) hx hb hr hlocks hP hR hS (⟨rfl, bT (by omega)⟩) dX7_lacks_12
set_option maxHeartbeats 4000000 in
set_option maxRecDepth 100000 in
theorem k_X7_isLeaf (l : Launch) (D : va_G) (cI : ClassId) (ad : Nat → Nat) (hinj : mInj ad) (S : St) (hR : RS S) (x : Int) (hx1 : -2147483648 ≤ x) (hx2 : x < 2147483648) (hn0 : 0 ≤ S 2 0) : Met l yX7_isLeaf (Cond.code yX7_isLeaf cX7_isLeaf 2 (some .boolean) :: lwT) ({ frames := 1, cells := 0, slots := 0, locals := 25 }) (gPc D (mW cI ad) (mE D cI) S [.ref (ad 26), .int (zI (x))]) (va_Qi (fun (r : Int32) (S' : St) => S' = S ∧ r = zI (b2 (decide (0 ≤ x ∧ x ≤ S 2 0 - 1)))) (gB D (mW cI ad)) (mA ad)) 0 0 (mA ad) := by
  refine Met.ofW (cc := cX7_isLeaf) (maxL := 2) (ret := (some .boolean)) (by decide) rfl ?_
  intro p e s m args below meth c s₁ B hml hv
  obtain ⟨rfl, hP, hE⟩ := hv
  have hx := B.exec
  have hb := B.bytes
  have hr := B.returns
  have hts := atoms_spec (ws := Cond.code yX7_isLeaf cX7_isLeaf 2 (some .boolean) :: lwT) B.pre
  have hT := fun w (h : w ∈ lwT) => hts w (List.mem_cons_of_mem _ h)
  have hsub : ∀ w ∈ lwT, w ∈ (Cond.code yX7_isLeaf cX7_isLeaf 2 (some .boolean) :: lwT) := fun w h => List.mem_cons_of_mem _ h
  have hown : s.vm.findClass RX7 = some m.cls := findClass_of_methodNamed B.named
  have hlocks := B.notSynchronized
  have hK : va_K D vwCl [(cI, .int)] s := hE
  have hS : va_S (mA ad) s.heap s.heap [] := va_S.rf
  have hl := lv_entry ([.ref (ad 26), .int (zI (x))]) (n := 2) (Nat.le_of_ble_eq_true rfl)
  rw [lg_entry_eq]
  generalize (lg_sl ([.ref (ad 26), .int (zI (x))]) ++ List.replicate (2 - (lg_sl ([.ref (ad 26), .int (zI (x))])).length) Slot.unset).toArray = ls at hl ⊢
  have hl : lv_has ls 2 [(0, .ref (ad 26)), (1, .int (zI (x)))] := hl
  refine lv_iload_n hx hb dX7_isLeaf_0 rfl (lv_at hl 1 rfl) ?_
  refine z_i2l hx hb (by omega) (by omega) dX7_isLeaf_1 ?_
  refine lv_lconst (v := zL 0) hx hb dX7_isLeaf_2 (by decide) ?_
  refine lv_aload_n hx hb dX7_isLeaf_3 rfl (lv_at hl 0 rfl) ?_
  have g_1 : -2147483648 ≤ S 2 0 ∧ S 2 0 < 2147483648 := hR 2 0 (by decide)
  refine va_get (D := D) (ci := 7) (v := .int (zI (S 2 0))) (C := RX7) (T := TX7) (N := 26) hx hb hT inX7 hown hK hP 0 rfl rfl 2 (by decide) (hT _ q_674) (fun _ h9 => h9) rfl dX7_isLeaf_4 ?_
  refine z_iconst hx hb dX7_isLeaf_7 ?_
  refine z_isub hx hb dX7_isLeaf_8 ?_
  refine z_i2l hx hb (by omega) (by omega) dX7_isLeaf_9 ?_
  refine s_callSi (As := [.long (zL (x)), .long (zL (0)), .long (zL ((S 2 0) - 1))]) (rest := []) ⟨hx, hb, hml, hown, hts⟩ (k_X7_in l x 0 ((S 2 0) - 1) (by omega) (by omega) (by omega) (by omega) (by omega) (by omega)) (cwS 3 hts (gS hsub q_756 q_757 q_8 q_758) rfl rfl rfl hdX7_in ⟨Nat.le_of_ble_eq_true rfl, Nat.le_of_ble_eq_true rfl⟩) rfl hl.1 rfl (Nat.le_of_ble_eq_true rfl) dX7_isLeaf_10 ⟨Nat.le_of_ble_eq_true rfl, Nat.le_of_ble_eq_true rfl⟩ (fun r_2 hq_4 => ?_)
  rw [hq_4]
  exact g_zret (S1 := S) (bo := (decide (0 ≤ x ∧ x ≤ ((S 2 0) - 1)))) hx hb hr hlocks hP hR hS (⟨rfl, rfl⟩) dX7_isLeaf_13
set_option maxHeartbeats 4000000 in
set_option maxRecDepth 100000 in
theorem k_X7_copy_6_11 (l : Launch) (D : va_G) (cI : ClassId) (ad : Nat → Nat) (hinj : mInj ad) (S : St) (hR : RS S)  : Met l yX7_copy (Cond.code yX7_copy cX7_copy 3 none :: lwT) ({ frames := 0, cells := 0, slots := 0, locals := 0 }) (gPc D (mW cI ad) (mE D cI) S [.ref (ad 6), .ref (ad 11)]) (va_Qv (fun (S' : St) => ∃ f, S' = sA S 11 f ∧ ∀ j, j < 7 → f j = S 6 j) (gB D (mW cI ad)) (mA ad)) 0 0 (mA ad) := by
  refine Met.ofW (cc := cX7_copy) (maxL := 3) (ret := none) (by decide) rfl ?_
  intro p e s m args below meth c s₁ B hml hv
  obtain ⟨rfl, hP, hE⟩ := hv
  have hx := B.exec
  have hb := B.bytes
  have hr := B.returns
  have hts := atoms_spec (ws := Cond.code yX7_copy cX7_copy 3 none :: lwT) B.pre
  have hT := fun w (h : w ∈ lwT) => hts w (List.mem_cons_of_mem _ h)
  have hsub : ∀ w ∈ lwT, w ∈ (Cond.code yX7_copy cX7_copy 3 none :: lwT) := fun w h => List.mem_cons_of_mem _ h
  have hown : s.vm.findClass RX7 = some m.cls := findClass_of_methodNamed B.named
  have hlocks := B.notSynchronized
  have hK : va_K D vwCl [(cI, .int)] s := hE
  have hS : va_S (mA ad) s.heap s.heap [] := va_S.rf
  have hl := lv_entry ([.ref (ad 6), .ref (ad 11)]) (n := 3) (Nat.le_of_ble_eq_true rfl)
  rw [lg_entry_eq]
  generalize (lg_sl ([.ref (ad 6), .ref (ad 11)]) ++ List.replicate (3 - (lg_sl ([.ref (ad 6), .ref (ad 11)])).length) Slot.unset).toArray = ls at hl ⊢
  have hl : lv_has ls 3 [(0, .ref (ad 6)), (1, .ref (ad 11))] := hl
  refine z_iconst hx hb dX7_copy_0 ?_
  refine lv_istore_n (lv' := [(2, .int (zI (0))), (0, .ref (ad 6)), (1, .ref (ad 11))]) hx hb dX7_copy_1 rfl hl (by decide) rfl (fun ls hl => ?_)
  have cut_2 : ∀ (k9 : Nat) (i : Nat) (f : Nat → Int) (H : Heap) (locs : List Loc) (ls : Array Slot), (i ≤ 7) → (∀ j, j < i → f j = S 6 j) → (7 - i) < k9 → va_P D vwCl (mW cI ad (sA S 11 f)) H → RS (sA S 11 f) → va_S (mA ad) s.heap H locs → lv_has ls 3 [(0, .ref (ad 6)), (1, .ref (ad 11)), (2, .int (zI (↑i)))] → W p l e (headSpec (Cond.code yX7_copy cX7_copy 3 none :: lwT) ({ frames := 0, cells := 0, slots := 0, locals := 0 })).room s m ([.ref (ad 6), .ref (ad 11)] : List Value).toArray below meth c H locs 0 0 (MQ below (va_Qv (fun (S' : St) => ∃ f, S' = sA S 11 f ∧ ∀ j, j < 7 → f j = S 6 j) (gB D (mW cI ad)) (mA ad)) ([.ref (ad 6), .ref (ad 11)] : List Value).toArray s 0 0 (mA ad)) (F0 m 2 ls []) := by
    intro k9
    induction k9 with
    | zero =>
      intro i f H locs ls hi hf hk9 hP hR hS hl
      exact absurd hk9 (Nat.not_lt_zero _)
    | succ k9 ih_2 =>
      intro i f H locs ls hi hf hk9 hP hR hS hl
      refine lv_iload_n hx hb dX7_copy_2 rfl (lv_at hl 2 rfl) ?_
      refine lv_aload_n hx hb dX7_copy_3 rfl (lv_at hl 0 rfl) ?_
      refine va_alen hx hb hK hP 3 0 rfl rfl (v := zI 7) rfl dX7_copy_4 ?_
      refine z_icmp_ge (tgt := 20) hx hb (by omega) (by omega) (by omega) (by omega) dX7_copy_5 (by decide) (fun c_1 => ?_) (fun c_1 => ?_)
      · have h9 : True := trivial
        exact g_vret (S1 := sA S 11 f) hx hb hr hlocks hP hR hS (⟨f, rfl, fun j hj => hf j (by omega)⟩) dX7_copy_20
      · have h9 : True := trivial
        refine lv_aload_n hx hb dX7_copy_8 rfl (lv_at hl 1 rfl) ?_
        refine lv_iload_n hx hb dX7_copy_9 rfl (lv_at hl 2 rfl) ?_
        refine lv_aload_n hx hb dX7_copy_10 rfl (lv_at hl 0 rfl) ?_
        refine lv_iload_n hx hb dX7_copy_11 rfl (lv_at hl 2 rfl) ?_
        have g_2 : -2147483648 ≤ S 6 i ∧ S 6 i < 2147483648 := hR 6 i (by decide)
        refine z_ald (f := S 6) hx hb hK hP 3 0 rfl rfl (by omega) (by omega) (by decide) (j := i) rfl dX7_copy_12 ?_
        refine z_ast (f := (sA S 11 f) 11) (i := ↑i) (v := S 6 i) hx hb hK hP (mD hinj cI _) hS 7 0 rfl rfl (by omega) (by omega) (by decide) dX7_copy_13 (fun H locs hP hS => ?_)
        have hP : va_P D vwCl (mW cI ad (sA S 11 (uZ f i (S 6 i)))) H := hP
        have hR : RS (sA S 11 (uZ f i (S 6 i))) := hR.put' (by omega) (by omega)
        refine z_iinc (lv' := [(2, .int (zI (↑i + 1))), (0, .ref (ad 6)), (1, .ref (ad 11))]) hx hb dX7_copy_14 hl (k := 2) rfl (by decide) rfl (fun ls hl => ?_)
        refine lv_goto (tgt := 2) hx hb dX7_copy_17 (by decide) ?_
        exact ih_2 (i + 1) (uZ f i (S 6 i)) _ _ _ (by omega) (fun j h => by unfold uZ; split <;> first | (rename_i e; rw [e]) | exact hf j (by omega)) (by omega) hP hR hS (lv_sub hl [1, 2, 0] rfl)
  have hSe_3 : S = sA S 11 (S 11) := by
    funext k8
    by_cases e80 : k8 = 11
    · subst e80; first | rfl | (funext j8; rfl)
    simp [sA, e80]
  rw [hSe_3] at hP hR
  exact cut_2 _ 0 (S 11) _ _ _ (by omega) (fun j h => absurd h (Nat.not_lt_zero j)) (Nat.lt_succ_self _) hP hR hS (lv_sub hl [1, 2, 0] rfl)
set_option maxHeartbeats 4000000 in
set_option maxRecDepth 100000 in
theorem k_X7_copy_10_11 (l : Launch) (D : va_G) (cI : ClassId) (ad : Nat → Nat) (hinj : mInj ad) (S : St) (hR : RS S)  : Met l yX7_copy (Cond.code yX7_copy cX7_copy 3 none :: lwT) ({ frames := 0, cells := 0, slots := 0, locals := 0 }) (gPc D (mW cI ad) (mE D cI) S [.ref (ad 10), .ref (ad 11)]) (va_Qv (fun (S' : St) => ∃ f, S' = sA S 11 f ∧ ∀ j, j < 7 → f j = S 10 j) (gB D (mW cI ad)) (mA ad)) 0 0 (mA ad) := by
  refine Met.ofW (cc := cX7_copy) (maxL := 3) (ret := none) (by decide) rfl ?_
  intro p e s m args below meth c s₁ B hml hv
  obtain ⟨rfl, hP, hE⟩ := hv
  have hx := B.exec
  have hb := B.bytes
  have hr := B.returns
  have hts := atoms_spec (ws := Cond.code yX7_copy cX7_copy 3 none :: lwT) B.pre
  have hT := fun w (h : w ∈ lwT) => hts w (List.mem_cons_of_mem _ h)
  have hsub : ∀ w ∈ lwT, w ∈ (Cond.code yX7_copy cX7_copy 3 none :: lwT) := fun w h => List.mem_cons_of_mem _ h
  have hown : s.vm.findClass RX7 = some m.cls := findClass_of_methodNamed B.named
  have hlocks := B.notSynchronized
  have hK : va_K D vwCl [(cI, .int)] s := hE
  have hS : va_S (mA ad) s.heap s.heap [] := va_S.rf
  have hl := lv_entry ([.ref (ad 10), .ref (ad 11)]) (n := 3) (Nat.le_of_ble_eq_true rfl)
  rw [lg_entry_eq]
  generalize (lg_sl ([.ref (ad 10), .ref (ad 11)]) ++ List.replicate (3 - (lg_sl ([.ref (ad 10), .ref (ad 11)])).length) Slot.unset).toArray = ls at hl ⊢
  have hl : lv_has ls 3 [(0, .ref (ad 10)), (1, .ref (ad 11))] := hl
  refine z_iconst hx hb dX7_copy_0 ?_
  refine lv_istore_n (lv' := [(2, .int (zI (0))), (0, .ref (ad 10)), (1, .ref (ad 11))]) hx hb dX7_copy_1 rfl hl (by decide) rfl (fun ls hl => ?_)
  have cut_2 : ∀ (k9 : Nat) (i : Nat) (f : Nat → Int) (H : Heap) (locs : List Loc) (ls : Array Slot), (i ≤ 7) → (∀ j, j < i → f j = S 10 j) → (7 - i) < k9 → va_P D vwCl (mW cI ad (sA S 11 f)) H → RS (sA S 11 f) → va_S (mA ad) s.heap H locs → lv_has ls 3 [(0, .ref (ad 10)), (1, .ref (ad 11)), (2, .int (zI (↑i)))] → W p l e (headSpec (Cond.code yX7_copy cX7_copy 3 none :: lwT) ({ frames := 0, cells := 0, slots := 0, locals := 0 })).room s m ([.ref (ad 10), .ref (ad 11)] : List Value).toArray below meth c H locs 0 0 (MQ below (va_Qv (fun (S' : St) => ∃ f, S' = sA S 11 f ∧ ∀ j, j < 7 → f j = S 10 j) (gB D (mW cI ad)) (mA ad)) ([.ref (ad 10), .ref (ad 11)] : List Value).toArray s 0 0 (mA ad)) (F0 m 2 ls []) := by
    intro k9
    induction k9 with
    | zero =>
      intro i f H locs ls hi hf hk9 hP hR hS hl
      exact absurd hk9 (Nat.not_lt_zero _)
    | succ k9 ih_2 =>
      intro i f H locs ls hi hf hk9 hP hR hS hl
      refine lv_iload_n hx hb dX7_copy_2 rfl (lv_at hl 2 rfl) ?_
      refine lv_aload_n hx hb dX7_copy_3 rfl (lv_at hl 0 rfl) ?_
      refine va_alen hx hb hK hP 6 0 rfl rfl (v := zI 7) rfl dX7_copy_4 ?_
      refine z_icmp_ge (tgt := 20) hx hb (by omega) (by omega) (by omega) (by omega) dX7_copy_5 (by decide) (fun c_1 => ?_) (fun c_1 => ?_)
      · have h9 : True := trivial
        exact g_vret (S1 := sA S 11 f) hx hb hr hlocks hP hR hS (⟨f, rfl, fun j hj => hf j (by omega)⟩) dX7_copy_20
      · have h9 : True := trivial
        refine lv_aload_n hx hb dX7_copy_8 rfl (lv_at hl 1 rfl) ?_
        refine lv_iload_n hx hb dX7_copy_9 rfl (lv_at hl 2 rfl) ?_
        refine lv_aload_n hx hb dX7_copy_10 rfl (lv_at hl 0 rfl) ?_
        refine lv_iload_n hx hb dX7_copy_11 rfl (lv_at hl 2 rfl) ?_
        have g_2 : -2147483648 ≤ S 10 i ∧ S 10 i < 2147483648 := hR 10 i (by decide)
        refine z_ald (f := S 10) hx hb hK hP 6 0 rfl rfl (by omega) (by omega) (by decide) (j := i) rfl dX7_copy_12 ?_
        refine z_ast (f := (sA S 11 f) 11) (i := ↑i) (v := S 10 i) hx hb hK hP (mD hinj cI _) hS 7 0 rfl rfl (by omega) (by omega) (by decide) dX7_copy_13 (fun H locs hP hS => ?_)
        have hP : va_P D vwCl (mW cI ad (sA S 11 (uZ f i (S 10 i)))) H := hP
        have hR : RS (sA S 11 (uZ f i (S 10 i))) := hR.put' (by omega) (by omega)
        refine z_iinc (lv' := [(2, .int (zI (↑i + 1))), (0, .ref (ad 10)), (1, .ref (ad 11))]) hx hb dX7_copy_14 hl (k := 2) rfl (by decide) rfl (fun ls hl => ?_)
        refine lv_goto (tgt := 2) hx hb dX7_copy_17 (by decide) ?_
        exact ih_2 (i + 1) (uZ f i (S 10 i)) _ _ _ (by omega) (fun j h => by unfold uZ; split <;> first | (rename_i e; rw [e]) | exact hf j (by omega)) (by omega) hP hR hS (lv_sub hl [1, 2, 0] rfl)
  have hSe_3 : S = sA S 11 (S 11) := by
    funext k8
    by_cases e80 : k8 = 11
    · subst e80; first | rfl | (funext j8; rfl)
    simp [sA, e80]
  rw [hSe_3] at hP hR
  exact cut_2 _ 0 (S 11) _ _ _ (by omega) (fun j h => absurd h (Nat.not_lt_zero j)) (Nat.lt_succ_self _) hP hR hS (lv_sub hl [1, 2, 0] rfl)
set_option maxHeartbeats 4000000 in
set_option maxRecDepth 100000 in
theorem k_X7_copy_18_11 (l : Launch) (D : va_G) (cI : ClassId) (ad : Nat → Nat) (hinj : mInj ad) (S : St) (hR : RS S)  : Met l yX7_copy (Cond.code yX7_copy cX7_copy 3 none :: lwT) ({ frames := 0, cells := 0, slots := 0, locals := 0 }) (gPc D (mW cI ad) (mE D cI) S [.ref (ad 18), .ref (ad 11)]) (va_Qv (fun (S' : St) => ∃ f, S' = sA S 11 f ∧ ∀ j, j < 7 → f j = S 18 j) (gB D (mW cI ad)) (mA ad)) 0 0 (mA ad) := by
  refine Met.ofW (cc := cX7_copy) (maxL := 3) (ret := none) (by decide) rfl ?_
  intro p e s m args below meth c s₁ B hml hv
  obtain ⟨rfl, hP, hE⟩ := hv
  have hx := B.exec
  have hb := B.bytes
  have hr := B.returns
  have hts := atoms_spec (ws := Cond.code yX7_copy cX7_copy 3 none :: lwT) B.pre
  have hT := fun w (h : w ∈ lwT) => hts w (List.mem_cons_of_mem _ h)
  have hsub : ∀ w ∈ lwT, w ∈ (Cond.code yX7_copy cX7_copy 3 none :: lwT) := fun w h => List.mem_cons_of_mem _ h
  have hown : s.vm.findClass RX7 = some m.cls := findClass_of_methodNamed B.named
  have hlocks := B.notSynchronized
  have hK : va_K D vwCl [(cI, .int)] s := hE
  have hS : va_S (mA ad) s.heap s.heap [] := va_S.rf
  have hl := lv_entry ([.ref (ad 18), .ref (ad 11)]) (n := 3) (Nat.le_of_ble_eq_true rfl)
  rw [lg_entry_eq]
  generalize (lg_sl ([.ref (ad 18), .ref (ad 11)]) ++ List.replicate (3 - (lg_sl ([.ref (ad 18), .ref (ad 11)])).length) Slot.unset).toArray = ls at hl ⊢
  have hl : lv_has ls 3 [(0, .ref (ad 18)), (1, .ref (ad 11))] := hl
  refine z_iconst hx hb dX7_copy_0 ?_
  refine lv_istore_n (lv' := [(2, .int (zI (0))), (0, .ref (ad 18)), (1, .ref (ad 11))]) hx hb dX7_copy_1 rfl hl (by decide) rfl (fun ls hl => ?_)
  have cut_2 : ∀ (k9 : Nat) (i : Nat) (f : Nat → Int) (H : Heap) (locs : List Loc) (ls : Array Slot), (i ≤ 7) → (∀ j, j < i → f j = S 18 j) → (7 - i) < k9 → va_P D vwCl (mW cI ad (sA S 11 f)) H → RS (sA S 11 f) → va_S (mA ad) s.heap H locs → lv_has ls 3 [(0, .ref (ad 18)), (1, .ref (ad 11)), (2, .int (zI (↑i)))] → W p l e (headSpec (Cond.code yX7_copy cX7_copy 3 none :: lwT) ({ frames := 0, cells := 0, slots := 0, locals := 0 })).room s m ([.ref (ad 18), .ref (ad 11)] : List Value).toArray below meth c H locs 0 0 (MQ below (va_Qv (fun (S' : St) => ∃ f, S' = sA S 11 f ∧ ∀ j, j < 7 → f j = S 18 j) (gB D (mW cI ad)) (mA ad)) ([.ref (ad 18), .ref (ad 11)] : List Value).toArray s 0 0 (mA ad)) (F0 m 2 ls []) := by
    intro k9
    induction k9 with
    | zero =>
      intro i f H locs ls hi hf hk9 hP hR hS hl
      exact absurd hk9 (Nat.not_lt_zero _)
    | succ k9 ih_2 =>
      intro i f H locs ls hi hf hk9 hP hR hS hl
      refine lv_iload_n hx hb dX7_copy_2 rfl (lv_at hl 2 rfl) ?_
      refine lv_aload_n hx hb dX7_copy_3 rfl (lv_at hl 0 rfl) ?_
      refine va_alen hx hb hK hP 11 0 rfl rfl (v := zI 7) rfl dX7_copy_4 ?_
      refine z_icmp_ge (tgt := 20) hx hb (by omega) (by omega) (by omega) (by omega) dX7_copy_5 (by decide) (fun c_1 => ?_) (fun c_1 => ?_)
      · have h9 : True := trivial
        exact g_vret (S1 := sA S 11 f) hx hb hr hlocks hP hR hS (⟨f, rfl, fun j hj => hf j (by omega)⟩) dX7_copy_20
      · have h9 : True := trivial
        refine lv_aload_n hx hb dX7_copy_8 rfl (lv_at hl 1 rfl) ?_
        refine lv_iload_n hx hb dX7_copy_9 rfl (lv_at hl 2 rfl) ?_
        refine lv_aload_n hx hb dX7_copy_10 rfl (lv_at hl 0 rfl) ?_
        refine lv_iload_n hx hb dX7_copy_11 rfl (lv_at hl 2 rfl) ?_
        have g_2 : -2147483648 ≤ S 18 i ∧ S 18 i < 2147483648 := hR 18 i (by decide)
        refine z_ald (f := S 18) hx hb hK hP 11 0 rfl rfl (by omega) (by omega) (by decide) (j := i) rfl dX7_copy_12 ?_
        refine z_ast (f := (sA S 11 f) 11) (i := ↑i) (v := S 18 i) hx hb hK hP (mD hinj cI _) hS 7 0 rfl rfl (by omega) (by omega) (by decide) dX7_copy_13 (fun H locs hP hS => ?_)
        have hP : va_P D vwCl (mW cI ad (sA S 11 (uZ f i (S 18 i)))) H := hP
        have hR : RS (sA S 11 (uZ f i (S 18 i))) := hR.put' (by omega) (by omega)
        refine z_iinc (lv' := [(2, .int (zI (↑i + 1))), (0, .ref (ad 18)), (1, .ref (ad 11))]) hx hb dX7_copy_14 hl (k := 2) rfl (by decide) rfl (fun ls hl => ?_)
        refine lv_goto (tgt := 2) hx hb dX7_copy_17 (by decide) ?_
        exact ih_2 (i + 1) (uZ f i (S 18 i)) _ _ _ (by omega) (fun j h => by unfold uZ; split <;> first | (rename_i e; rw [e]) | exact hf j (by omega)) (by omega) hP hR hS (lv_sub hl [1, 2, 0] rfl)
  have hSe_3 : S = sA S 11 (S 11) := by
    funext k8
    by_cases e80 : k8 = 11
    · subst e80; first | rfl | (funext j8; rfl)
    simp [sA, e80]
  rw [hSe_3] at hP hR
  exact cut_2 _ 0 (S 11) _ _ _ (by omega) (fun j h => absurd h (Nat.not_lt_zero j)) (Nat.lt_succ_self _) hP hR hS (lv_sub hl [1, 2, 0] rfl)
set_option maxHeartbeats 4000000 in
set_option maxRecDepth 100000 in
theorem k_X7_copy_6_18 (l : Launch) (D : va_G) (cI : ClassId) (ad : Nat → Nat) (hinj : mInj ad) (S : St) (hR : RS S)  : Met l yX7_copy (Cond.code yX7_copy cX7_copy 3 none :: lwT) ({ frames := 0, cells := 0, slots := 0, locals := 0 }) (gPc D (mW cI ad) (mE D cI) S [.ref (ad 6), .ref (ad 18)]) (va_Qv (fun (S' : St) => ∃ f, S' = sA S 18 f ∧ ∀ j, j < 7 → f j = S 6 j) (gB D (mW cI ad)) (mA ad)) 0 0 (mA ad) := by
  refine Met.ofW (cc := cX7_copy) (maxL := 3) (ret := none) (by decide) rfl ?_
  intro p e s m args below meth c s₁ B hml hv
  obtain ⟨rfl, hP, hE⟩ := hv
  have hx := B.exec
  have hb := B.bytes
  have hr := B.returns
  have hts := atoms_spec (ws := Cond.code yX7_copy cX7_copy 3 none :: lwT) B.pre
  have hT := fun w (h : w ∈ lwT) => hts w (List.mem_cons_of_mem _ h)
  have hsub : ∀ w ∈ lwT, w ∈ (Cond.code yX7_copy cX7_copy 3 none :: lwT) := fun w h => List.mem_cons_of_mem _ h
  have hown : s.vm.findClass RX7 = some m.cls := findClass_of_methodNamed B.named
  have hlocks := B.notSynchronized
  have hK : va_K D vwCl [(cI, .int)] s := hE
  have hS : va_S (mA ad) s.heap s.heap [] := va_S.rf
  have hl := lv_entry ([.ref (ad 6), .ref (ad 18)]) (n := 3) (Nat.le_of_ble_eq_true rfl)
  rw [lg_entry_eq]
  generalize (lg_sl ([.ref (ad 6), .ref (ad 18)]) ++ List.replicate (3 - (lg_sl ([.ref (ad 6), .ref (ad 18)])).length) Slot.unset).toArray = ls at hl ⊢
  have hl : lv_has ls 3 [(0, .ref (ad 6)), (1, .ref (ad 18))] := hl
  refine z_iconst hx hb dX7_copy_0 ?_
  refine lv_istore_n (lv' := [(2, .int (zI (0))), (0, .ref (ad 6)), (1, .ref (ad 18))]) hx hb dX7_copy_1 rfl hl (by decide) rfl (fun ls hl => ?_)
  have cut_2 : ∀ (k9 : Nat) (i : Nat) (f : Nat → Int) (H : Heap) (locs : List Loc) (ls : Array Slot), (i ≤ 7) → (∀ j, j < i → f j = S 6 j) → (7 - i) < k9 → va_P D vwCl (mW cI ad (sA S 18 f)) H → RS (sA S 18 f) → va_S (mA ad) s.heap H locs → lv_has ls 3 [(0, .ref (ad 6)), (1, .ref (ad 18)), (2, .int (zI (↑i)))] → W p l e (headSpec (Cond.code yX7_copy cX7_copy 3 none :: lwT) ({ frames := 0, cells := 0, slots := 0, locals := 0 })).room s m ([.ref (ad 6), .ref (ad 18)] : List Value).toArray below meth c H locs 0 0 (MQ below (va_Qv (fun (S' : St) => ∃ f, S' = sA S 18 f ∧ ∀ j, j < 7 → f j = S 6 j) (gB D (mW cI ad)) (mA ad)) ([.ref (ad 6), .ref (ad 18)] : List Value).toArray s 0 0 (mA ad)) (F0 m 2 ls []) := by
    intro k9
    induction k9 with
    | zero =>
      intro i f H locs ls hi hf hk9 hP hR hS hl
      exact absurd hk9 (Nat.not_lt_zero _)
    | succ k9 ih_2 =>
      intro i f H locs ls hi hf hk9 hP hR hS hl
      refine lv_iload_n hx hb dX7_copy_2 rfl (lv_at hl 2 rfl) ?_
      refine lv_aload_n hx hb dX7_copy_3 rfl (lv_at hl 0 rfl) ?_
      refine va_alen hx hb hK hP 3 0 rfl rfl (v := zI 7) rfl dX7_copy_4 ?_
      refine z_icmp_ge (tgt := 20) hx hb (by omega) (by omega) (by omega) (by omega) dX7_copy_5 (by decide) (fun c_1 => ?_) (fun c_1 => ?_)
      · have h9 : True := trivial
        exact g_vret (S1 := sA S 18 f) hx hb hr hlocks hP hR hS (⟨f, rfl, fun j hj => hf j (by omega)⟩) dX7_copy_20
      · have h9 : True := trivial
        refine lv_aload_n hx hb dX7_copy_8 rfl (lv_at hl 1 rfl) ?_
        refine lv_iload_n hx hb dX7_copy_9 rfl (lv_at hl 2 rfl) ?_
        refine lv_aload_n hx hb dX7_copy_10 rfl (lv_at hl 0 rfl) ?_
        refine lv_iload_n hx hb dX7_copy_11 rfl (lv_at hl 2 rfl) ?_
        have g_2 : -2147483648 ≤ S 6 i ∧ S 6 i < 2147483648 := hR 6 i (by decide)
        refine z_ald (f := S 6) hx hb hK hP 3 0 rfl rfl (by omega) (by omega) (by decide) (j := i) rfl dX7_copy_12 ?_
        refine z_ast (f := (sA S 18 f) 18) (i := ↑i) (v := S 6 i) hx hb hK hP (mD hinj cI _) hS 11 0 rfl rfl (by omega) (by omega) (by decide) dX7_copy_13 (fun H locs hP hS => ?_)
        have hP : va_P D vwCl (mW cI ad (sA S 18 (uZ f i (S 6 i)))) H := hP
        have hR : RS (sA S 18 (uZ f i (S 6 i))) := hR.put' (by omega) (by omega)
        refine z_iinc (lv' := [(2, .int (zI (↑i + 1))), (0, .ref (ad 6)), (1, .ref (ad 18))]) hx hb dX7_copy_14 hl (k := 2) rfl (by decide) rfl (fun ls hl => ?_)
        refine lv_goto (tgt := 2) hx hb dX7_copy_17 (by decide) ?_
        exact ih_2 (i + 1) (uZ f i (S 6 i)) _ _ _ (by omega) (fun j h => by unfold uZ; split <;> first | (rename_i e; rw [e]) | exact hf j (by omega)) (by omega) hP hR hS (lv_sub hl [1, 2, 0] rfl)
  have hSe_3 : S = sA S 18 (S 18) := by
    funext k8
    by_cases e80 : k8 = 18
    · subst e80; first | rfl | (funext j8; rfl)
    simp [sA, e80]
  rw [hSe_3] at hP hR
  exact cut_2 _ 0 (S 18) _ _ _ (by omega) (fun j h => absurd h (Nat.not_lt_zero j)) (Nat.lt_succ_self _) hP hR hS (lv_sub hl [1, 2, 0] rfl)
set_option maxHeartbeats 4000000 in
set_option maxRecDepth 100000 in
theorem k_X7_copy_5_22 (l : Launch) (D : va_G) (cI : ClassId) (ad : Nat → Nat) (hinj : mInj ad) (S : St) (hR : RS S)  : Met l yX7_copy (Cond.code yX7_copy cX7_copy 3 none :: lwT) ({ frames := 0, cells := 0, slots := 0, locals := 0 }) (gPc D (mW cI ad) (mE D cI) S [.ref (ad 5), .ref (ad 22)]) (va_Qv (fun (S' : St) => ∃ f, S' = sA S 22 f ∧ ∀ j, j < 7 → f j = S 5 j) (gB D (mW cI ad)) (mA ad)) 0 0 (mA ad) := by
  refine Met.ofW (cc := cX7_copy) (maxL := 3) (ret := none) (by decide) rfl ?_
  intro p e s m args below meth c s₁ B hml hv
  obtain ⟨rfl, hP, hE⟩ := hv
  have hx := B.exec
  have hb := B.bytes
  have hr := B.returns
  have hts := atoms_spec (ws := Cond.code yX7_copy cX7_copy 3 none :: lwT) B.pre
  have hT := fun w (h : w ∈ lwT) => hts w (List.mem_cons_of_mem _ h)
  have hsub : ∀ w ∈ lwT, w ∈ (Cond.code yX7_copy cX7_copy 3 none :: lwT) := fun w h => List.mem_cons_of_mem _ h
  have hown : s.vm.findClass RX7 = some m.cls := findClass_of_methodNamed B.named
  have hlocks := B.notSynchronized
  have hK : va_K D vwCl [(cI, .int)] s := hE
  have hS : va_S (mA ad) s.heap s.heap [] := va_S.rf
  have hl := lv_entry ([.ref (ad 5), .ref (ad 22)]) (n := 3) (Nat.le_of_ble_eq_true rfl)
  rw [lg_entry_eq]
  generalize (lg_sl ([.ref (ad 5), .ref (ad 22)]) ++ List.replicate (3 - (lg_sl ([.ref (ad 5), .ref (ad 22)])).length) Slot.unset).toArray = ls at hl ⊢
  have hl : lv_has ls 3 [(0, .ref (ad 5)), (1, .ref (ad 22))] := hl
  refine z_iconst hx hb dX7_copy_0 ?_
  refine lv_istore_n (lv' := [(2, .int (zI (0))), (0, .ref (ad 5)), (1, .ref (ad 22))]) hx hb dX7_copy_1 rfl hl (by decide) rfl (fun ls hl => ?_)
  have cut_2 : ∀ (k9 : Nat) (i : Nat) (f : Nat → Int) (H : Heap) (locs : List Loc) (ls : Array Slot), (i ≤ 7) → (∀ j, j < i → f j = S 5 j) → (7 - i) < k9 → va_P D vwCl (mW cI ad (sA S 22 f)) H → RS (sA S 22 f) → va_S (mA ad) s.heap H locs → lv_has ls 3 [(0, .ref (ad 5)), (1, .ref (ad 22)), (2, .int (zI (↑i)))] → W p l e (headSpec (Cond.code yX7_copy cX7_copy 3 none :: lwT) ({ frames := 0, cells := 0, slots := 0, locals := 0 })).room s m ([.ref (ad 5), .ref (ad 22)] : List Value).toArray below meth c H locs 0 0 (MQ below (va_Qv (fun (S' : St) => ∃ f, S' = sA S 22 f ∧ ∀ j, j < 7 → f j = S 5 j) (gB D (mW cI ad)) (mA ad)) ([.ref (ad 5), .ref (ad 22)] : List Value).toArray s 0 0 (mA ad)) (F0 m 2 ls []) := by
    intro k9
    induction k9 with
    | zero =>
      intro i f H locs ls hi hf hk9 hP hR hS hl
      exact absurd hk9 (Nat.not_lt_zero _)
    | succ k9 ih_2 =>
      intro i f H locs ls hi hf hk9 hP hR hS hl
      refine lv_iload_n hx hb dX7_copy_2 rfl (lv_at hl 2 rfl) ?_
      refine lv_aload_n hx hb dX7_copy_3 rfl (lv_at hl 0 rfl) ?_
      refine va_alen hx hb hK hP 2 0 rfl rfl (v := zI 7) rfl dX7_copy_4 ?_
      refine z_icmp_ge (tgt := 20) hx hb (by omega) (by omega) (by omega) (by omega) dX7_copy_5 (by decide) (fun c_1 => ?_) (fun c_1 => ?_)
      · have h9 : True := trivial
        exact g_vret (S1 := sA S 22 f) hx hb hr hlocks hP hR hS (⟨f, rfl, fun j hj => hf j (by omega)⟩) dX7_copy_20
      · have h9 : True := trivial
        refine lv_aload_n hx hb dX7_copy_8 rfl (lv_at hl 1 rfl) ?_
        refine lv_iload_n hx hb dX7_copy_9 rfl (lv_at hl 2 rfl) ?_
        refine lv_aload_n hx hb dX7_copy_10 rfl (lv_at hl 0 rfl) ?_
        refine lv_iload_n hx hb dX7_copy_11 rfl (lv_at hl 2 rfl) ?_
        have g_2 : -2147483648 ≤ S 5 i ∧ S 5 i < 2147483648 := hR 5 i (by decide)
        refine z_ald (f := S 5) hx hb hK hP 2 0 rfl rfl (by omega) (by omega) (by decide) (j := i) rfl dX7_copy_12 ?_
        refine z_ast (f := (sA S 22 f) 22) (i := ↑i) (v := S 5 i) hx hb hK hP (mD hinj cI _) hS 12 0 rfl rfl (by omega) (by omega) (by decide) dX7_copy_13 (fun H locs hP hS => ?_)
        have hP : va_P D vwCl (mW cI ad (sA S 22 (uZ f i (S 5 i)))) H := hP
        have hR : RS (sA S 22 (uZ f i (S 5 i))) := hR.put' (by omega) (by omega)
        refine z_iinc (lv' := [(2, .int (zI (↑i + 1))), (0, .ref (ad 5)), (1, .ref (ad 22))]) hx hb dX7_copy_14 hl (k := 2) rfl (by decide) rfl (fun ls hl => ?_)
        refine lv_goto (tgt := 2) hx hb dX7_copy_17 (by decide) ?_
        exact ih_2 (i + 1) (uZ f i (S 5 i)) _ _ _ (by omega) (fun j h => by unfold uZ; split <;> first | (rename_i e; rw [e]) | exact hf j (by omega)) (by omega) hP hR hS (lv_sub hl [1, 2, 0] rfl)
  have hSe_3 : S = sA S 22 (S 22) := by
    funext k8
    by_cases e80 : k8 = 22
    · subst e80; first | rfl | (funext j8; rfl)
    simp [sA, e80]
  rw [hSe_3] at hP hR
  exact cut_2 _ 0 (S 22) _ _ _ (by omega) (fun j h => absurd h (Nat.not_lt_zero j)) (Nat.lt_succ_self _) hP hR hS (lv_sub hl [1, 2, 0] rfl)
set_option maxHeartbeats 4000000 in
set_option maxRecDepth 100000 in
theorem k_X7_copy_6_23 (l : Launch) (D : va_G) (cI : ClassId) (ad : Nat → Nat) (hinj : mInj ad) (S : St) (hR : RS S)  : Met l yX7_copy (Cond.code yX7_copy cX7_copy 3 none :: lwT) ({ frames := 0, cells := 0, slots := 0, locals := 0 }) (gPc D (mW cI ad) (mE D cI) S [.ref (ad 6), .ref (ad 23)]) (va_Qv (fun (S' : St) => ∃ f, S' = sA S 23 f ∧ ∀ j, j < 7 → f j = S 6 j) (gB D (mW cI ad)) (mA ad)) 0 0 (mA ad) := by
  refine Met.ofW (cc := cX7_copy) (maxL := 3) (ret := none) (by decide) rfl ?_
  intro p e s m args below meth c s₁ B hml hv
  obtain ⟨rfl, hP, hE⟩ := hv
  have hx := B.exec
  have hb := B.bytes
  have hr := B.returns
  have hts := atoms_spec (ws := Cond.code yX7_copy cX7_copy 3 none :: lwT) B.pre
  have hT := fun w (h : w ∈ lwT) => hts w (List.mem_cons_of_mem _ h)
  have hsub : ∀ w ∈ lwT, w ∈ (Cond.code yX7_copy cX7_copy 3 none :: lwT) := fun w h => List.mem_cons_of_mem _ h
  have hown : s.vm.findClass RX7 = some m.cls := findClass_of_methodNamed B.named
  have hlocks := B.notSynchronized
  have hK : va_K D vwCl [(cI, .int)] s := hE
  have hS : va_S (mA ad) s.heap s.heap [] := va_S.rf
  have hl := lv_entry ([.ref (ad 6), .ref (ad 23)]) (n := 3) (Nat.le_of_ble_eq_true rfl)
  rw [lg_entry_eq]
  generalize (lg_sl ([.ref (ad 6), .ref (ad 23)]) ++ List.replicate (3 - (lg_sl ([.ref (ad 6), .ref (ad 23)])).length) Slot.unset).toArray = ls at hl ⊢
  have hl : lv_has ls 3 [(0, .ref (ad 6)), (1, .ref (ad 23))] := hl
  refine z_iconst hx hb dX7_copy_0 ?_
  refine lv_istore_n (lv' := [(2, .int (zI (0))), (0, .ref (ad 6)), (1, .ref (ad 23))]) hx hb dX7_copy_1 rfl hl (by decide) rfl (fun ls hl => ?_)
  have cut_2 : ∀ (k9 : Nat) (i : Nat) (f : Nat → Int) (H : Heap) (locs : List Loc) (ls : Array Slot), (i ≤ 7) → (∀ j, j < i → f j = S 6 j) → (7 - i) < k9 → va_P D vwCl (mW cI ad (sA S 23 f)) H → RS (sA S 23 f) → va_S (mA ad) s.heap H locs → lv_has ls 3 [(0, .ref (ad 6)), (1, .ref (ad 23)), (2, .int (zI (↑i)))] → W p l e (headSpec (Cond.code yX7_copy cX7_copy 3 none :: lwT) ({ frames := 0, cells := 0, slots := 0, locals := 0 })).room s m ([.ref (ad 6), .ref (ad 23)] : List Value).toArray below meth c H locs 0 0 (MQ below (va_Qv (fun (S' : St) => ∃ f, S' = sA S 23 f ∧ ∀ j, j < 7 → f j = S 6 j) (gB D (mW cI ad)) (mA ad)) ([.ref (ad 6), .ref (ad 23)] : List Value).toArray s 0 0 (mA ad)) (F0 m 2 ls []) := by
    intro k9
    induction k9 with
    | zero =>
      intro i f H locs ls hi hf hk9 hP hR hS hl
      exact absurd hk9 (Nat.not_lt_zero _)
    | succ k9 ih_2 =>
      intro i f H locs ls hi hf hk9 hP hR hS hl
      refine lv_iload_n hx hb dX7_copy_2 rfl (lv_at hl 2 rfl) ?_
      refine lv_aload_n hx hb dX7_copy_3 rfl (lv_at hl 0 rfl) ?_
      refine va_alen hx hb hK hP 3 0 rfl rfl (v := zI 7) rfl dX7_copy_4 ?_
      refine z_icmp_ge (tgt := 20) hx hb (by omega) (by omega) (by omega) (by omega) dX7_copy_5 (by decide) (fun c_1 => ?_) (fun c_1 => ?_)
      · have h9 : True := trivial
        exact g_vret (S1 := sA S 23 f) hx hb hr hlocks hP hR hS (⟨f, rfl, fun j hj => hf j (by omega)⟩) dX7_copy_20
      · have h9 : True := trivial
        refine lv_aload_n hx hb dX7_copy_8 rfl (lv_at hl 1 rfl) ?_
        refine lv_iload_n hx hb dX7_copy_9 rfl (lv_at hl 2 rfl) ?_
        refine lv_aload_n hx hb dX7_copy_10 rfl (lv_at hl 0 rfl) ?_
        refine lv_iload_n hx hb dX7_copy_11 rfl (lv_at hl 2 rfl) ?_
        have g_2 : -2147483648 ≤ S 6 i ∧ S 6 i < 2147483648 := hR 6 i (by decide)
        refine z_ald (f := S 6) hx hb hK hP 3 0 rfl rfl (by omega) (by omega) (by decide) (j := i) rfl dX7_copy_12 ?_
        refine z_ast (f := (sA S 23 f) 23) (i := ↑i) (v := S 6 i) hx hb hK hP (mD hinj cI _) hS 13 0 rfl rfl (by omega) (by omega) (by decide) dX7_copy_13 (fun H locs hP hS => ?_)
        have hP : va_P D vwCl (mW cI ad (sA S 23 (uZ f i (S 6 i)))) H := hP
        have hR : RS (sA S 23 (uZ f i (S 6 i))) := hR.put' (by omega) (by omega)
        refine z_iinc (lv' := [(2, .int (zI (↑i + 1))), (0, .ref (ad 6)), (1, .ref (ad 23))]) hx hb dX7_copy_14 hl (k := 2) rfl (by decide) rfl (fun ls hl => ?_)
        refine lv_goto (tgt := 2) hx hb dX7_copy_17 (by decide) ?_
        exact ih_2 (i + 1) (uZ f i (S 6 i)) _ _ _ (by omega) (fun j h => by unfold uZ; split <;> first | (rename_i e; rw [e]) | exact hf j (by omega)) (by omega) hP hR hS (lv_sub hl [1, 2, 0] rfl)
  have hSe_3 : S = sA S 23 (S 23) := by
    funext k8
    by_cases e80 : k8 = 23
    · subst e80; first | rfl | (funext j8; rfl)
    simp [sA, e80]
  rw [hSe_3] at hP hR
  exact cut_2 _ 0 (S 23) _ _ _ (by omega) (fun j h => absurd h (Nat.not_lt_zero j)) (Nat.lt_succ_self _) hP hR hS (lv_sub hl [1, 2, 0] rfl)
set_option maxHeartbeats 4000000 in
set_option maxRecDepth 100000 in
theorem k_X7_copy_16_24 (l : Launch) (D : va_G) (cI : ClassId) (ad : Nat → Nat) (hinj : mInj ad) (S : St) (hR : RS S)  : Met l yX7_copy (Cond.code yX7_copy cX7_copy 3 none :: lwT) ({ frames := 0, cells := 0, slots := 0, locals := 0 }) (gPc D (mW cI ad) (mE D cI) S [.ref (ad 16), .ref (ad 24)]) (va_Qv (fun (S' : St) => ∃ f, S' = sA S 24 f ∧ ∀ j, j < 18 → f j = S 16 j) (gB D (mW cI ad)) (mA ad)) 0 0 (mA ad) := by
  refine Met.ofW (cc := cX7_copy) (maxL := 3) (ret := none) (by decide) rfl ?_
  intro p e s m args below meth c s₁ B hml hv
  obtain ⟨rfl, hP, hE⟩ := hv
  have hx := B.exec
  have hb := B.bytes
  have hr := B.returns
  have hts := atoms_spec (ws := Cond.code yX7_copy cX7_copy 3 none :: lwT) B.pre
  have hT := fun w (h : w ∈ lwT) => hts w (List.mem_cons_of_mem _ h)
  have hsub : ∀ w ∈ lwT, w ∈ (Cond.code yX7_copy cX7_copy 3 none :: lwT) := fun w h => List.mem_cons_of_mem _ h
  have hown : s.vm.findClass RX7 = some m.cls := findClass_of_methodNamed B.named
  have hlocks := B.notSynchronized
  have hK : va_K D vwCl [(cI, .int)] s := hE
  have hS : va_S (mA ad) s.heap s.heap [] := va_S.rf
  have hl := lv_entry ([.ref (ad 16), .ref (ad 24)]) (n := 3) (Nat.le_of_ble_eq_true rfl)
  rw [lg_entry_eq]
  generalize (lg_sl ([.ref (ad 16), .ref (ad 24)]) ++ List.replicate (3 - (lg_sl ([.ref (ad 16), .ref (ad 24)])).length) Slot.unset).toArray = ls at hl ⊢
  have hl : lv_has ls 3 [(0, .ref (ad 16)), (1, .ref (ad 24))] := hl
  refine z_iconst hx hb dX7_copy_0 ?_
  refine lv_istore_n (lv' := [(2, .int (zI (0))), (0, .ref (ad 16)), (1, .ref (ad 24))]) hx hb dX7_copy_1 rfl hl (by decide) rfl (fun ls hl => ?_)
  have cut_2 : ∀ (k9 : Nat) (i : Nat) (f : Nat → Int) (H : Heap) (locs : List Loc) (ls : Array Slot), (i ≤ 18) → (∀ j, j < i → f j = S 16 j) → (18 - i) < k9 → va_P D vwCl (mW cI ad (sA S 24 f)) H → RS (sA S 24 f) → va_S (mA ad) s.heap H locs → lv_has ls 3 [(0, .ref (ad 16)), (1, .ref (ad 24)), (2, .int (zI (↑i)))] → W p l e (headSpec (Cond.code yX7_copy cX7_copy 3 none :: lwT) ({ frames := 0, cells := 0, slots := 0, locals := 0 })).room s m ([.ref (ad 16), .ref (ad 24)] : List Value).toArray below meth c H locs 0 0 (MQ below (va_Qv (fun (S' : St) => ∃ f, S' = sA S 24 f ∧ ∀ j, j < 18 → f j = S 16 j) (gB D (mW cI ad)) (mA ad)) ([.ref (ad 16), .ref (ad 24)] : List Value).toArray s 0 0 (mA ad)) (F0 m 2 ls []) := by
    intro k9
    induction k9 with
    | zero =>
      intro i f H locs ls hi hf hk9 hP hR hS hl
      exact absurd hk9 (Nat.not_lt_zero _)
    | succ k9 ih_2 =>
      intro i f H locs ls hi hf hk9 hP hR hS hl
      refine lv_iload_n hx hb dX7_copy_2 rfl (lv_at hl 2 rfl) ?_
      refine lv_aload_n hx hb dX7_copy_3 rfl (lv_at hl 0 rfl) ?_
      refine va_alen hx hb hK hP 10 0 rfl rfl (v := zI 18) rfl dX7_copy_4 ?_
      refine z_icmp_ge (tgt := 20) hx hb (by omega) (by omega) (by omega) (by omega) dX7_copy_5 (by decide) (fun c_1 => ?_) (fun c_1 => ?_)
      · have h9 : True := trivial
        exact g_vret (S1 := sA S 24 f) hx hb hr hlocks hP hR hS (⟨f, rfl, fun j hj => hf j (by omega)⟩) dX7_copy_20
      · have h9 : True := trivial
        refine lv_aload_n hx hb dX7_copy_8 rfl (lv_at hl 1 rfl) ?_
        refine lv_iload_n hx hb dX7_copy_9 rfl (lv_at hl 2 rfl) ?_
        refine lv_aload_n hx hb dX7_copy_10 rfl (lv_at hl 0 rfl) ?_
        refine lv_iload_n hx hb dX7_copy_11 rfl (lv_at hl 2 rfl) ?_
        have g_2 : -2147483648 ≤ S 16 i ∧ S 16 i < 2147483648 := hR 16 i (by decide)
        refine z_ald (f := S 16) hx hb hK hP 10 0 rfl rfl (by omega) (by omega) (by decide) (j := i) rfl dX7_copy_12 ?_
        refine z_ast (f := (sA S 24 f) 24) (i := ↑i) (v := S 16 i) hx hb hK hP (mD hinj cI _) hS 14 0 rfl rfl (by omega) (by omega) (by decide) dX7_copy_13 (fun H locs hP hS => ?_)
        have hP : va_P D vwCl (mW cI ad (sA S 24 (uZ f i (S 16 i)))) H := hP
        have hR : RS (sA S 24 (uZ f i (S 16 i))) := hR.put' (by omega) (by omega)
        refine z_iinc (lv' := [(2, .int (zI (↑i + 1))), (0, .ref (ad 16)), (1, .ref (ad 24))]) hx hb dX7_copy_14 hl (k := 2) rfl (by decide) rfl (fun ls hl => ?_)
        refine lv_goto (tgt := 2) hx hb dX7_copy_17 (by decide) ?_
        exact ih_2 (i + 1) (uZ f i (S 16 i)) _ _ _ (by omega) (fun j h => by unfold uZ; split <;> first | (rename_i e; rw [e]) | exact hf j (by omega)) (by omega) hP hR hS (lv_sub hl [1, 2, 0] rfl)
  have hSe_3 : S = sA S 24 (S 24) := by
    funext k8
    by_cases e80 : k8 = 24
    · subst e80; first | rfl | (funext j8; rfl)
    simp [sA, e80]
  rw [hSe_3] at hP hR
  exact cut_2 _ 0 (S 24) _ _ _ (by omega) (fun j h => absurd h (Nat.not_lt_zero j)) (Nat.lt_succ_self _) hP hR hS (lv_sub hl [1, 2, 0] rfl)
set_option maxHeartbeats 4000000 in
set_option maxRecDepth 100000 in
theorem k_X7_copy_22_5 (l : Launch) (D : va_G) (cI : ClassId) (ad : Nat → Nat) (hinj : mInj ad) (S : St) (hR : RS S)  : Met l yX7_copy (Cond.code yX7_copy cX7_copy 3 none :: lwT) ({ frames := 0, cells := 0, slots := 0, locals := 0 }) (gPc D (mW cI ad) (mE D cI) S [.ref (ad 22), .ref (ad 5)]) (va_Qv (fun (S' : St) => ∃ f, S' = sA S 5 f ∧ ∀ j, j < 7 → f j = S 22 j) (gB D (mW cI ad)) (mA ad)) 0 0 (mA ad) := by
  refine Met.ofW (cc := cX7_copy) (maxL := 3) (ret := none) (by decide) rfl ?_
  intro p e s m args below meth c s₁ B hml hv
  obtain ⟨rfl, hP, hE⟩ := hv
  have hx := B.exec
  have hb := B.bytes
  have hr := B.returns
  have hts := atoms_spec (ws := Cond.code yX7_copy cX7_copy 3 none :: lwT) B.pre
  have hT := fun w (h : w ∈ lwT) => hts w (List.mem_cons_of_mem _ h)
  have hsub : ∀ w ∈ lwT, w ∈ (Cond.code yX7_copy cX7_copy 3 none :: lwT) := fun w h => List.mem_cons_of_mem _ h
  have hown : s.vm.findClass RX7 = some m.cls := findClass_of_methodNamed B.named
  have hlocks := B.notSynchronized
  have hK : va_K D vwCl [(cI, .int)] s := hE
  have hS : va_S (mA ad) s.heap s.heap [] := va_S.rf
  have hl := lv_entry ([.ref (ad 22), .ref (ad 5)]) (n := 3) (Nat.le_of_ble_eq_true rfl)
  rw [lg_entry_eq]
  generalize (lg_sl ([.ref (ad 22), .ref (ad 5)]) ++ List.replicate (3 - (lg_sl ([.ref (ad 22), .ref (ad 5)])).length) Slot.unset).toArray = ls at hl ⊢
  have hl : lv_has ls 3 [(0, .ref (ad 22)), (1, .ref (ad 5))] := hl
  refine z_iconst hx hb dX7_copy_0 ?_
  refine lv_istore_n (lv' := [(2, .int (zI (0))), (0, .ref (ad 22)), (1, .ref (ad 5))]) hx hb dX7_copy_1 rfl hl (by decide) rfl (fun ls hl => ?_)
  have cut_2 : ∀ (k9 : Nat) (i : Nat) (f : Nat → Int) (H : Heap) (locs : List Loc) (ls : Array Slot), (i ≤ 7) → (∀ j, j < i → f j = S 22 j) → (7 - i) < k9 → va_P D vwCl (mW cI ad (sA S 5 f)) H → RS (sA S 5 f) → va_S (mA ad) s.heap H locs → lv_has ls 3 [(0, .ref (ad 22)), (1, .ref (ad 5)), (2, .int (zI (↑i)))] → W p l e (headSpec (Cond.code yX7_copy cX7_copy 3 none :: lwT) ({ frames := 0, cells := 0, slots := 0, locals := 0 })).room s m ([.ref (ad 22), .ref (ad 5)] : List Value).toArray below meth c H locs 0 0 (MQ below (va_Qv (fun (S' : St) => ∃ f, S' = sA S 5 f ∧ ∀ j, j < 7 → f j = S 22 j) (gB D (mW cI ad)) (mA ad)) ([.ref (ad 22), .ref (ad 5)] : List Value).toArray s 0 0 (mA ad)) (F0 m 2 ls []) := by
    intro k9
    induction k9 with
    | zero =>
      intro i f H locs ls hi hf hk9 hP hR hS hl
      exact absurd hk9 (Nat.not_lt_zero _)
    | succ k9 ih_2 =>
      intro i f H locs ls hi hf hk9 hP hR hS hl
      refine lv_iload_n hx hb dX7_copy_2 rfl (lv_at hl 2 rfl) ?_
      refine lv_aload_n hx hb dX7_copy_3 rfl (lv_at hl 0 rfl) ?_
      refine va_alen hx hb hK hP 12 0 rfl rfl (v := zI 7) rfl dX7_copy_4 ?_
      refine z_icmp_ge (tgt := 20) hx hb (by omega) (by omega) (by omega) (by omega) dX7_copy_5 (by decide) (fun c_1 => ?_) (fun c_1 => ?_)
      · have h9 : True := trivial
        exact g_vret (S1 := sA S 5 f) hx hb hr hlocks hP hR hS (⟨f, rfl, fun j hj => hf j (by omega)⟩) dX7_copy_20
      · have h9 : True := trivial
        refine lv_aload_n hx hb dX7_copy_8 rfl (lv_at hl 1 rfl) ?_
        refine lv_iload_n hx hb dX7_copy_9 rfl (lv_at hl 2 rfl) ?_
        refine lv_aload_n hx hb dX7_copy_10 rfl (lv_at hl 0 rfl) ?_
        refine lv_iload_n hx hb dX7_copy_11 rfl (lv_at hl 2 rfl) ?_
        have g_2 : -2147483648 ≤ S 22 i ∧ S 22 i < 2147483648 := hR 22 i (by decide)
        refine z_ald (f := S 22) hx hb hK hP 12 0 rfl rfl (by omega) (by omega) (by decide) (j := i) rfl dX7_copy_12 ?_
        refine z_ast (f := (sA S 5 f) 5) (i := ↑i) (v := S 22 i) hx hb hK hP (mD hinj cI _) hS 2 0 rfl rfl (by omega) (by omega) (by decide) dX7_copy_13 (fun H locs hP hS => ?_)
        have hP : va_P D vwCl (mW cI ad (sA S 5 (uZ f i (S 22 i)))) H := hP
        have hR : RS (sA S 5 (uZ f i (S 22 i))) := hR.put' (by omega) (by omega)
        refine z_iinc (lv' := [(2, .int (zI (↑i + 1))), (0, .ref (ad 22)), (1, .ref (ad 5))]) hx hb dX7_copy_14 hl (k := 2) rfl (by decide) rfl (fun ls hl => ?_)
        refine lv_goto (tgt := 2) hx hb dX7_copy_17 (by decide) ?_
        exact ih_2 (i + 1) (uZ f i (S 22 i)) _ _ _ (by omega) (fun j h => by unfold uZ; split <;> first | (rename_i e; rw [e]) | exact hf j (by omega)) (by omega) hP hR hS (lv_sub hl [1, 2, 0] rfl)
  have hSe_3 : S = sA S 5 (S 5) := by
    funext k8
    by_cases e80 : k8 = 5
    · subst e80; first | rfl | (funext j8; rfl)
    simp [sA, e80]
  rw [hSe_3] at hP hR
  exact cut_2 _ 0 (S 5) _ _ _ (by omega) (fun j h => absurd h (Nat.not_lt_zero j)) (Nat.lt_succ_self _) hP hR hS (lv_sub hl [1, 2, 0] rfl)
set_option maxHeartbeats 4000000 in
set_option maxRecDepth 100000 in
theorem k_X7_copy_23_6 (l : Launch) (D : va_G) (cI : ClassId) (ad : Nat → Nat) (hinj : mInj ad) (S : St) (hR : RS S)  : Met l yX7_copy (Cond.code yX7_copy cX7_copy 3 none :: lwT) ({ frames := 0, cells := 0, slots := 0, locals := 0 }) (gPc D (mW cI ad) (mE D cI) S [.ref (ad 23), .ref (ad 6)]) (va_Qv (fun (S' : St) => ∃ f, S' = sA S 6 f ∧ ∀ j, j < 7 → f j = S 23 j) (gB D (mW cI ad)) (mA ad)) 0 0 (mA ad) := by
  refine Met.ofW (cc := cX7_copy) (maxL := 3) (ret := none) (by decide) rfl ?_
  intro p e s m args below meth c s₁ B hml hv
  obtain ⟨rfl, hP, hE⟩ := hv
  have hx := B.exec
  have hb := B.bytes
  have hr := B.returns
  have hts := atoms_spec (ws := Cond.code yX7_copy cX7_copy 3 none :: lwT) B.pre
  have hT := fun w (h : w ∈ lwT) => hts w (List.mem_cons_of_mem _ h)
  have hsub : ∀ w ∈ lwT, w ∈ (Cond.code yX7_copy cX7_copy 3 none :: lwT) := fun w h => List.mem_cons_of_mem _ h
  have hown : s.vm.findClass RX7 = some m.cls := findClass_of_methodNamed B.named
  have hlocks := B.notSynchronized
  have hK : va_K D vwCl [(cI, .int)] s := hE
  have hS : va_S (mA ad) s.heap s.heap [] := va_S.rf
  have hl := lv_entry ([.ref (ad 23), .ref (ad 6)]) (n := 3) (Nat.le_of_ble_eq_true rfl)
  rw [lg_entry_eq]
  generalize (lg_sl ([.ref (ad 23), .ref (ad 6)]) ++ List.replicate (3 - (lg_sl ([.ref (ad 23), .ref (ad 6)])).length) Slot.unset).toArray = ls at hl ⊢
  have hl : lv_has ls 3 [(0, .ref (ad 23)), (1, .ref (ad 6))] := hl
  refine z_iconst hx hb dX7_copy_0 ?_
  refine lv_istore_n (lv' := [(2, .int (zI (0))), (0, .ref (ad 23)), (1, .ref (ad 6))]) hx hb dX7_copy_1 rfl hl (by decide) rfl (fun ls hl => ?_)
  have cut_2 : ∀ (k9 : Nat) (i : Nat) (f : Nat → Int) (H : Heap) (locs : List Loc) (ls : Array Slot), (i ≤ 7) → (∀ j, j < i → f j = S 23 j) → (7 - i) < k9 → va_P D vwCl (mW cI ad (sA S 6 f)) H → RS (sA S 6 f) → va_S (mA ad) s.heap H locs → lv_has ls 3 [(0, .ref (ad 23)), (1, .ref (ad 6)), (2, .int (zI (↑i)))] → W p l e (headSpec (Cond.code yX7_copy cX7_copy 3 none :: lwT) ({ frames := 0, cells := 0, slots := 0, locals := 0 })).room s m ([.ref (ad 23), .ref (ad 6)] : List Value).toArray below meth c H locs 0 0 (MQ below (va_Qv (fun (S' : St) => ∃ f, S' = sA S 6 f ∧ ∀ j, j < 7 → f j = S 23 j) (gB D (mW cI ad)) (mA ad)) ([.ref (ad 23), .ref (ad 6)] : List Value).toArray s 0 0 (mA ad)) (F0 m 2 ls []) := by
    intro k9
    induction k9 with
    | zero =>
      intro i f H locs ls hi hf hk9 hP hR hS hl
      exact absurd hk9 (Nat.not_lt_zero _)
    | succ k9 ih_2 =>
      intro i f H locs ls hi hf hk9 hP hR hS hl
      refine lv_iload_n hx hb dX7_copy_2 rfl (lv_at hl 2 rfl) ?_
      refine lv_aload_n hx hb dX7_copy_3 rfl (lv_at hl 0 rfl) ?_
      refine va_alen hx hb hK hP 13 0 rfl rfl (v := zI 7) rfl dX7_copy_4 ?_
      refine z_icmp_ge (tgt := 20) hx hb (by omega) (by omega) (by omega) (by omega) dX7_copy_5 (by decide) (fun c_1 => ?_) (fun c_1 => ?_)
      · have h9 : True := trivial
        exact g_vret (S1 := sA S 6 f) hx hb hr hlocks hP hR hS (⟨f, rfl, fun j hj => hf j (by omega)⟩) dX7_copy_20
      · have h9 : True := trivial
        refine lv_aload_n hx hb dX7_copy_8 rfl (lv_at hl 1 rfl) ?_
        refine lv_iload_n hx hb dX7_copy_9 rfl (lv_at hl 2 rfl) ?_
        refine lv_aload_n hx hb dX7_copy_10 rfl (lv_at hl 0 rfl) ?_
        refine lv_iload_n hx hb dX7_copy_11 rfl (lv_at hl 2 rfl) ?_
        have g_2 : -2147483648 ≤ S 23 i ∧ S 23 i < 2147483648 := hR 23 i (by decide)
        refine z_ald (f := S 23) hx hb hK hP 13 0 rfl rfl (by omega) (by omega) (by decide) (j := i) rfl dX7_copy_12 ?_
        refine z_ast (f := (sA S 6 f) 6) (i := ↑i) (v := S 23 i) hx hb hK hP (mD hinj cI _) hS 3 0 rfl rfl (by omega) (by omega) (by decide) dX7_copy_13 (fun H locs hP hS => ?_)
        have hP : va_P D vwCl (mW cI ad (sA S 6 (uZ f i (S 23 i)))) H := hP
        have hR : RS (sA S 6 (uZ f i (S 23 i))) := hR.put' (by omega) (by omega)
        refine z_iinc (lv' := [(2, .int (zI (↑i + 1))), (0, .ref (ad 23)), (1, .ref (ad 6))]) hx hb dX7_copy_14 hl (k := 2) rfl (by decide) rfl (fun ls hl => ?_)
        refine lv_goto (tgt := 2) hx hb dX7_copy_17 (by decide) ?_
        exact ih_2 (i + 1) (uZ f i (S 23 i)) _ _ _ (by omega) (fun j h => by unfold uZ; split <;> first | (rename_i e; rw [e]) | exact hf j (by omega)) (by omega) hP hR hS (lv_sub hl [1, 2, 0] rfl)
  have hSe_3 : S = sA S 6 (S 6) := by
    funext k8
    by_cases e80 : k8 = 6
    · subst e80; first | rfl | (funext j8; rfl)
    simp [sA, e80]
  rw [hSe_3] at hP hR
  exact cut_2 _ 0 (S 6) _ _ _ (by omega) (fun j h => absurd h (Nat.not_lt_zero j)) (Nat.lt_succ_self _) hP hR hS (lv_sub hl [1, 2, 0] rfl)
set_option maxHeartbeats 4000000 in
set_option maxRecDepth 100000 in
theorem k_X7_copy_24_16 (l : Launch) (D : va_G) (cI : ClassId) (ad : Nat → Nat) (hinj : mInj ad) (S : St) (hR : RS S)  : Met l yX7_copy (Cond.code yX7_copy cX7_copy 3 none :: lwT) ({ frames := 0, cells := 0, slots := 0, locals := 0 }) (gPc D (mW cI ad) (mE D cI) S [.ref (ad 24), .ref (ad 16)]) (va_Qv (fun (S' : St) => ∃ f, S' = sA S 16 f ∧ ∀ j, j < 18 → f j = S 24 j) (gB D (mW cI ad)) (mA ad)) 0 0 (mA ad) := by
  refine Met.ofW (cc := cX7_copy) (maxL := 3) (ret := none) (by decide) rfl ?_
  intro p e s m args below meth c s₁ B hml hv
  obtain ⟨rfl, hP, hE⟩ := hv
  have hx := B.exec
  have hb := B.bytes
  have hr := B.returns
  have hts := atoms_spec (ws := Cond.code yX7_copy cX7_copy 3 none :: lwT) B.pre
  have hT := fun w (h : w ∈ lwT) => hts w (List.mem_cons_of_mem _ h)
  have hsub : ∀ w ∈ lwT, w ∈ (Cond.code yX7_copy cX7_copy 3 none :: lwT) := fun w h => List.mem_cons_of_mem _ h
  have hown : s.vm.findClass RX7 = some m.cls := findClass_of_methodNamed B.named
  have hlocks := B.notSynchronized
  have hK : va_K D vwCl [(cI, .int)] s := hE
  have hS : va_S (mA ad) s.heap s.heap [] := va_S.rf
  have hl := lv_entry ([.ref (ad 24), .ref (ad 16)]) (n := 3) (Nat.le_of_ble_eq_true rfl)
  rw [lg_entry_eq]
  generalize (lg_sl ([.ref (ad 24), .ref (ad 16)]) ++ List.replicate (3 - (lg_sl ([.ref (ad 24), .ref (ad 16)])).length) Slot.unset).toArray = ls at hl ⊢
  have hl : lv_has ls 3 [(0, .ref (ad 24)), (1, .ref (ad 16))] := hl
  refine z_iconst hx hb dX7_copy_0 ?_
  refine lv_istore_n (lv' := [(2, .int (zI (0))), (0, .ref (ad 24)), (1, .ref (ad 16))]) hx hb dX7_copy_1 rfl hl (by decide) rfl (fun ls hl => ?_)
  have cut_2 : ∀ (k9 : Nat) (i : Nat) (f : Nat → Int) (H : Heap) (locs : List Loc) (ls : Array Slot), (i ≤ 18) → (∀ j, j < i → f j = S 24 j) → (18 - i) < k9 → va_P D vwCl (mW cI ad (sA S 16 f)) H → RS (sA S 16 f) → va_S (mA ad) s.heap H locs → lv_has ls 3 [(0, .ref (ad 24)), (1, .ref (ad 16)), (2, .int (zI (↑i)))] → W p l e (headSpec (Cond.code yX7_copy cX7_copy 3 none :: lwT) ({ frames := 0, cells := 0, slots := 0, locals := 0 })).room s m ([.ref (ad 24), .ref (ad 16)] : List Value).toArray below meth c H locs 0 0 (MQ below (va_Qv (fun (S' : St) => ∃ f, S' = sA S 16 f ∧ ∀ j, j < 18 → f j = S 24 j) (gB D (mW cI ad)) (mA ad)) ([.ref (ad 24), .ref (ad 16)] : List Value).toArray s 0 0 (mA ad)) (F0 m 2 ls []) := by
    intro k9
    induction k9 with
    | zero =>
      intro i f H locs ls hi hf hk9 hP hR hS hl
      exact absurd hk9 (Nat.not_lt_zero _)
    | succ k9 ih_2 =>
      intro i f H locs ls hi hf hk9 hP hR hS hl
      refine lv_iload_n hx hb dX7_copy_2 rfl (lv_at hl 2 rfl) ?_
      refine lv_aload_n hx hb dX7_copy_3 rfl (lv_at hl 0 rfl) ?_
      refine va_alen hx hb hK hP 14 0 rfl rfl (v := zI 18) rfl dX7_copy_4 ?_
      refine z_icmp_ge (tgt := 20) hx hb (by omega) (by omega) (by omega) (by omega) dX7_copy_5 (by decide) (fun c_1 => ?_) (fun c_1 => ?_)
      · have h9 : True := trivial
        exact g_vret (S1 := sA S 16 f) hx hb hr hlocks hP hR hS (⟨f, rfl, fun j hj => hf j (by omega)⟩) dX7_copy_20
      · have h9 : True := trivial
        refine lv_aload_n hx hb dX7_copy_8 rfl (lv_at hl 1 rfl) ?_
        refine lv_iload_n hx hb dX7_copy_9 rfl (lv_at hl 2 rfl) ?_
        refine lv_aload_n hx hb dX7_copy_10 rfl (lv_at hl 0 rfl) ?_
        refine lv_iload_n hx hb dX7_copy_11 rfl (lv_at hl 2 rfl) ?_
        have g_2 : -2147483648 ≤ S 24 i ∧ S 24 i < 2147483648 := hR 24 i (by decide)
        refine z_ald (f := S 24) hx hb hK hP 14 0 rfl rfl (by omega) (by omega) (by decide) (j := i) rfl dX7_copy_12 ?_
        refine z_ast (f := (sA S 16 f) 16) (i := ↑i) (v := S 24 i) hx hb hK hP (mD hinj cI _) hS 10 0 rfl rfl (by omega) (by omega) (by decide) dX7_copy_13 (fun H locs hP hS => ?_)
        have hP : va_P D vwCl (mW cI ad (sA S 16 (uZ f i (S 24 i)))) H := hP
        have hR : RS (sA S 16 (uZ f i (S 24 i))) := hR.put' (by omega) (by omega)
        refine z_iinc (lv' := [(2, .int (zI (↑i + 1))), (0, .ref (ad 24)), (1, .ref (ad 16))]) hx hb dX7_copy_14 hl (k := 2) rfl (by decide) rfl (fun ls hl => ?_)
        refine lv_goto (tgt := 2) hx hb dX7_copy_17 (by decide) ?_
        exact ih_2 (i + 1) (uZ f i (S 24 i)) _ _ _ (by omega) (fun j h => by unfold uZ; split <;> first | (rename_i e; rw [e]) | exact hf j (by omega)) (by omega) hP hR hS (lv_sub hl [1, 2, 0] rfl)
  have hSe_3 : S = sA S 16 (S 16) := by
    funext k8
    by_cases e80 : k8 = 16
    · subst e80; first | rfl | (funext j8; rfl)
    simp [sA, e80]
  rw [hSe_3] at hP hR
  exact cut_2 _ 0 (S 16) _ _ _ (by omega) (fun j h => absurd h (Nat.not_lt_zero j)) (Nat.lt_succ_self _) hP hR hS (lv_sub hl [1, 2, 0] rfl)
