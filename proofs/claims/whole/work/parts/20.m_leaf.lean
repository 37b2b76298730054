set_option maxHeartbeats 4000000 in
set_option maxRecDepth 100000 in
theorem k_X7_in (l : Launch) (xa xb xc : Int) (hxa1 : -2147483648 ≤ xa) (hxa2 : xa < 2147483648) (hxb1 : -2147483648 ≤ xb) (hxb2 : xb < 2147483648) (hxc1 : -2147483648 ≤ xc) (hxc2 : xc < 2147483648) : Met l yX7_in (Cond.code yX7_in cX7_in 6 (some .boolean) :: lwT) ({ frames := 0, cells := 0, slots := 0, locals := 0 }) (va_Pc [.long (zL (xa)), .long (zL (xb)), .long (zL (xc))] (fun _ => True)) (vp_Si (fun r : Int32 => r = zI (b2 (decide (xb ≤ xa ∧ xa ≤ xc))))) 0 0 (fun _ => False) := by
  refine Met.ofW (cc := cX7_in) (maxL := 6) (ret := (some .boolean)) (by decide) rfl ?_
  intro p e s m args below meth c s₁ B hml hv
  obtain ⟨rfl, -⟩ := hv
  have hx := B.exec
  have hb := B.bytes
  have hr := B.returns
  have hts := atoms_spec (ws := Cond.code yX7_in cX7_in 6 (some .boolean) :: lwT) B.pre
  have hT := fun w (h : w ∈ lwT) => hts w (List.mem_cons_of_mem _ h)
  have hsub : ∀ w ∈ lwT, w ∈ (Cond.code yX7_in cX7_in 6 (some .boolean) :: lwT) := fun w h => List.mem_cons_of_mem _ h
  have hown : s.vm.findClass RX7 = some m.cls := findClass_of_methodNamed B.named
  have hlocks := B.notSynchronized
  have hl := lv_entry ([.long (zL (xa)), .long (zL (xb)), .long (zL (xc))]) (n := 6) (Nat.le_of_ble_eq_true rfl)
  rw [lg_entry_eq]
  generalize (lg_sl ([.long (zL (xa)), .long (zL (xb)), .long (zL (xc))]) ++ List.replicate (6 - (lg_sl ([.long (zL (xa)), .long (zL (xb)), .long (zL (xc))])).length) Slot.unset).toArray = ls at hl ⊢
  have hl : lv_has ls 6 [(0, .long (zL (xa))), (2, .long (zL (xb))), (4, .long (zL (xc)))] := hl
  refine lv_lload_n hx hb dX7_in_0 rfl (lv_at hl 0 rfl) ?_
  refine lv_lload_n hx hb dX7_in_1 rfl (lv_at hl 1 rfl) ?_
  refine z_lcmp_lt (tgt := 17) hx hb (by omega) (by omega) (by omega) (by omega) dX7_in_2 dX7_in_3 (by decide) (fun c_1 => ?_) (fun c_1 => ?_)
  · have h9 : True := trivial
    refine z_iconst hx hb dX7_in_17 ?_
    exact s_zret (bo := false) hx hb hr hlocks (bF (by omega)) dX7_in_18
  · have h9 : True := trivial
    refine lv_lload_n hx hb dX7_in_6 rfl (lv_at hl 0 rfl) ?_
    refine lv_lload hx hb dX7_in_7 (lv_at hl 2 rfl) ?_
    refine z_lcmp_gt (tgt := 17) hx hb (by omega) (by omega) (by omega) (by omega) dX7_in_9 dX7_in_10 (by decide) (fun c_2 => ?_) (fun c_2 => ?_)
    · have h9 : True := trivial
      refine z_iconst hx hb dX7_in_17 ?_
      exact s_zret (bo := false) hx hb hr hlocks (bF (by omega)) dX7_in_18
    · have h9 : True := trivial
      refine z_iconst hx hb dX7_in_13 ?_
      refine lv_goto (tgt := 18) hx hb dX7_in_14 (by decide) ?_
      exact s_zret (bo := true) hx hb hr hlocks (bT (by omega)) dX7_in_18
set_option maxHeartbeats 4000000 in
set_option maxRecDepth 100000 in
theorem k_X7_isWithin (l : Launch) (xv xa xb : Int) (hxv1 : -2147483648 ≤ xv) (hxv2 : xv < 2147483648) (hxa1 : -2147483648 ≤ xa) (hxa2 : xa < 2147483648) (hxb1 : -2147483648 ≤ xb) (hxb2 : xb < 2147483648) : Met l yX7_isWithin (Cond.code yX7_isWithin cX7_isWithin 3 (some .boolean) :: lwT) ({ frames := 0, cells := 0, slots := 0, locals := 0 }) (va_Pc [.int (zI (xv)), .int (zI (xa)), .int (zI (xb))] (fun _ => True)) (vp_Si (fun r : Int32 => ∃ o : Bool, r = zI (b2 o) ∧ (o = true ↔ wth xv xa xb))) 0 0 (fun _ => False) := by
  refine Met.ofW (cc := cX7_isWithin) (maxL := 3) (ret := (some .boolean)) (by decide) rfl ?_
  intro p e s m args below meth c s₁ B hml hv
  obtain ⟨rfl, -⟩ := hv
  have hx := B.exec
  have hb := B.bytes
  have hr := B.returns
  have hts := atoms_spec (ws := Cond.code yX7_isWithin cX7_isWithin 3 (some .boolean) :: lwT) B.pre
  have hT := fun w (h : w ∈ lwT) => hts w (List.mem_cons_of_mem _ h)
  have hsub : ∀ w ∈ lwT, w ∈ (Cond.code yX7_isWithin cX7_isWithin 3 (some .boolean) :: lwT) := fun w h => List.mem_cons_of_mem _ h
  have hown : s.vm.findClass RX7 = some m.cls := findClass_of_methodNamed B.named
  have hlocks := B.notSynchronized
  have hl := lv_entry ([.int (zI (xv)), .int (zI (xa)), .int (zI (xb))]) (n := 3) (Nat.le_of_ble_eq_true rfl)
  rw [lg_entry_eq]
  generalize (lg_sl ([.int (zI (xv)), .int (zI (xa)), .int (zI (xb))]) ++ List.replicate (3 - (lg_sl ([.int (zI (xv)), .int (zI (xa)), .int (zI (xb))])).length) Slot.unset).toArray = ls at hl ⊢
  have hl : lv_has ls 3 [(0, .int (zI (xv))), (1, .int (zI (xa))), (2, .int (zI (xb)))] := hl
  refine lv_iload_n hx hb dX7_isWithin_0 rfl (lv_at hl 1 rfl) ?_
  refine lv_iload_n hx hb dX7_isWithin_1 rfl (lv_at hl 2 rfl) ?_
  refine z_icmp_ge (tgt := 23) hx hb (by omega) (by omega) (by omega) (by omega) dX7_isWithin_2 (by decide) (fun c_1 => ?_) (fun c_1 => ?_)
  · have h9 : True := trivial
    refine lv_iload_n hx hb dX7_isWithin_23 rfl (lv_at hl 0 rfl) ?_
    refine lv_iload_n hx hb dX7_isWithin_24 rfl (lv_at hl 2 rfl) ?_
    refine z_icmp_le (tgt := 37) hx hb (by omega) (by omega) (by omega) (by omega) dX7_isWithin_25 (by decide) (fun c_2 => ?_) (fun c_2 => ?_)
    · have h9 : True := trivial
      refine z_iconst hx hb dX7_isWithin_37 ?_
      exact s_zret (bo := false) hx hb hr hlocks (⟨false, rfl, by unfold wth; simp; omega⟩) dX7_isWithin_38
    · have h9 : True := trivial
      refine lv_iload_n hx hb dX7_isWithin_28 rfl (lv_at hl 0 rfl) ?_
      refine lv_iload_n hx hb dX7_isWithin_29 rfl (lv_at hl 1 rfl) ?_
      refine z_icmp_ge (tgt := 37) hx hb (by omega) (by omega) (by omega) (by omega) dX7_isWithin_30 (by decide) (fun c_3 => ?_) (fun c_3 => ?_)
      · have h9 : True := trivial
        refine z_iconst hx hb dX7_isWithin_37 ?_
        exact s_zret (bo := false) hx hb hr hlocks (⟨false, rfl, by unfold wth; simp; omega⟩) dX7_isWithin_38
      · have h9 : True := trivial
        refine z_iconst hx hb dX7_isWithin_33 ?_
        refine lv_goto (tgt := 38) hx hb dX7_isWithin_34 (by decide) ?_
        exact s_zret (bo := true) hx hb hr hlocks (⟨true, rfl, by unfold wth; simp; omega⟩) dX7_isWithin_38
  · have h9 : True := trivial
    refine lv_iload_n hx hb dX7_isWithin_5 rfl (lv_at hl 0 rfl) ?_
    refine lv_iload_n hx hb dX7_isWithin_6 rfl (lv_at hl 1 rfl) ?_
    refine z_icmp_le (tgt := 19) hx hb (by omega) (by omega) (by omega) (by omega) dX7_isWithin_7 (by decide) (fun c_4 => ?_) (fun c_4 => ?_)
    · have h9 : True := trivial
      refine z_iconst hx hb dX7_isWithin_19 ?_
      refine lv_goto (tgt := 38) hx hb dX7_isWithin_20 (by decide) ?_
      exact s_zret (bo := false) hx hb hr hlocks (⟨false, rfl, by unfold wth; simp; omega⟩) dX7_isWithin_38
    · have h9 : True := trivial
      refine lv_iload_n hx hb dX7_isWithin_10 rfl (lv_at hl 0 rfl) ?_
      refine lv_iload_n hx hb dX7_isWithin_11 rfl (lv_at hl 2 rfl) ?_
      refine z_icmp_ge (tgt := 19) hx hb (by omega) (by omega) (by omega) (by omega) dX7_isWithin_12 (by decide) (fun c_5 => ?_) (fun c_5 => ?_)
      · have h9 : True := trivial
        refine z_iconst hx hb dX7_isWithin_19 ?_
        refine lv_goto (tgt := 38) hx hb dX7_isWithin_20 (by decide) ?_
        exact s_zret (bo := false) hx hb hr hlocks (⟨false, rfl, by unfold wth; simp; omega⟩) dX7_isWithin_38
      · have h9 : True := trivial
        refine z_iconst hx hb dX7_isWithin_15 ?_
        refine lv_goto (tgt := 38) hx hb dX7_isWithin_16 (by decide) ?_
        exact s_zret (bo := true) hx hb hr hlocks (⟨true, rfl, by unfold wth; simp; omega⟩) dX7_isWithin_38
set_option maxHeartbeats 4000000 in
set_option maxRecDepth 100000 in
theorem k_X7_codeOf_6 (l : Launch) (D : va_G) (cI : ClassId) (ad : Nat → Nat) (hinj : mInj ad) (S : St) (hR : RS S) (n : Nat) (hn : n ≤ 7) : Met l yX7_codeOf (Cond.code yX7_codeOf cX7_codeOf 4 (some .int) :: lwT) ({ frames := 0, cells := 0, slots := 0, locals := 0 }) (gPc D (mW cI ad) (mE D cI) S [.ref (ad 6), .int (zI (↑n))]) (va_Qi (fun (r : Int32) (S' : St) => S' = S ∧ r = zI (cdF (S 6) n)) (gB D (mW cI ad)) (mA ad)) 0 0 (mA ad) := by
  refine Met.ofW (cc := cX7_codeOf) (maxL := 4) (ret := (some .int)) (by decide) rfl ?_
  intro p e s m args below meth c s₁ B hml hv
  obtain ⟨rfl, hP, hE⟩ := hv
  have hx := B.exec
  have hb := B.bytes
  have hr := B.returns
  have hts := atoms_spec (ws := Cond.code yX7_codeOf cX7_codeOf 4 (some .int) :: lwT) B.pre
  have hT := fun w (h : w ∈ lwT) => hts w (List.mem_cons_of_mem _ h)
  have hsub : ∀ w ∈ lwT, w ∈ (Cond.code yX7_codeOf cX7_codeOf 4 (some .int) :: lwT) := fun w h => List.mem_cons_of_mem _ h
  have hown : s.vm.findClass RX7 = some m.cls := findClass_of_methodNamed B.named
  have hlocks := B.notSynchronized
  have hK : va_K D vwCl [(cI, .int)] s := hE
  have hS : va_S (mA ad) s.heap s.heap [] := va_S.rf
  have hl := lv_entry ([.ref (ad 6), .int (zI (↑n))]) (n := 4) (Nat.le_of_ble_eq_true rfl)
  rw [lg_entry_eq]
  generalize (lg_sl ([.ref (ad 6), .int (zI (↑n))]) ++ List.replicate (4 - (lg_sl ([.ref (ad 6), .int (zI (↑n))])).length) Slot.unset).toArray = ls at hl ⊢
  have hl : lv_has ls 4 [(0, .ref (ad 6)), (1, .int (zI (↑n)))] := hl
  refine z_iconst hx hb dX7_codeOf_0 ?_
  refine lv_istore_n (lv' := [(2, .int (zI (0))), (0, .ref (ad 6)), (1, .int (zI (↑n)))]) hx hb dX7_codeOf_1 rfl hl (by decide) rfl (fun ls hl => ?_)
  refine z_iconst hx hb dX7_codeOf_2 ?_
  refine lv_istore_n (lv' := [(3, .int (zI (0))), (2, .int (zI (0))), (0, .ref (ad 6)), (1, .int (zI (↑n)))]) hx hb dX7_codeOf_3 rfl hl (by decide) rfl (fun ls hl => ?_)
  have cut_4 : ∀ (k9 : Nat) (i : Nat) (H : Heap) (locs : List Loc) (ls : Array Slot), i ≤ n → (n - i) < k9 → va_P D vwCl (mW cI ad S) H → RS S → va_S (mA ad) s.heap H locs → lv_has ls 4 [(0, .ref (ad 6)), (1, .int (zI (↑n))), (2, .int (zI (cdF (S 6) i))), (3, .int (zI (↑i)))] → W p l e (headSpec (Cond.code yX7_codeOf cX7_codeOf 4 (some .int) :: lwT) ({ frames := 0, cells := 0, slots := 0, locals := 0 })).room s m ([.ref (ad 6), .int (zI (↑n))] : List Value).toArray below meth c H locs 0 0 (MQ below (va_Qi (fun (r : Int32) (S' : St) => S' = S ∧ r = zI (cdF (S 6) n)) (gB D (mW cI ad)) (mA ad)) ([.ref (ad 6), .int (zI (↑n))] : List Value).toArray s 0 0 (mA ad)) (F0 m 4 ls []) := by
    intro k9
    induction k9 with
    | zero =>
      intro i H locs ls hi hk9 hP hR hS hl
      exact absurd hk9 (Nat.not_lt_zero _)
    | succ k9 ih_4 =>
      intro i H locs ls hi hk9 hP hR hS hl
      refine lv_iload_n hx hb dX7_codeOf_4 rfl (lv_at hl 3 rfl) ?_
      refine lv_iload_n hx hb dX7_codeOf_5 rfl (lv_at hl 1 rfl) ?_
      refine z_icmp_ge (tgt := 24) hx hb (by omega) (by omega) (by omega) (by omega) dX7_codeOf_6 (by decide) (fun c_1 => ?_) (fun c_1 => ?_)
      · have h9 : True := trivial
        refine lv_iload_n hx hb dX7_codeOf_24 rfl (lv_at hl 2 rfl) ?_
        exact g_iret (S1 := S) (v := zI (cdF (S 6) i)) hx hb hr hlocks hP hR hS (⟨rfl, by rw [show n = i by omega]⟩) dX7_codeOf_25
      · have h9 : True := trivial
        refine z_bipush hx hb dX7_codeOf_9 (by decide) ?_
        refine lv_iload_n hx hb dX7_codeOf_11 rfl (lv_at hl 2 rfl) ?_
        refine z_imul hx hb dX7_codeOf_12 ?_
        refine lv_aload_n hx hb dX7_codeOf_13 rfl (lv_at hl 0 rfl) ?_
        refine lv_iload_n hx hb dX7_codeOf_14 rfl (lv_at hl 3 rfl) ?_
        have g_2 := hR 6 i (by decide)
        refine z_ald (f := S 6) hx hb hK hP 3 0 rfl rfl (by omega) (by omega) (by decide) dX7_codeOf_15 ?_
        refine z_iadd hx hb dX7_codeOf_16 ?_
        refine lv_istore_n (lv' := [(2, .int (zI ((8 * (cdF (S 6) i)) + (S 6 i)))), (0, .ref (ad 6)), (1, .int (zI (↑n))), (3, .int (zI (↑i)))]) hx hb dX7_codeOf_17 rfl hl (by decide) rfl (fun ls hl => ?_)
        refine z_iinc (lv' := [(3, .int (zI (↑i + 1))), (2, .int (zI ((8 * (cdF (S 6) i)) + (S 6 i)))), (0, .ref (ad 6)), (1, .int (zI (↑n)))]) hx hb dX7_codeOf_18 hl (k := 3) rfl (by decide) rfl (fun ls hl => ?_)
        refine lv_goto (tgt := 4) hx hb dX7_codeOf_21 (by decide) ?_
        exact ih_4 (i + 1) _ _ _ (by omega) (by omega) hP hR hS (lv_sub hl [2, 3, 1, 0] rfl)
  exact cut_4 _ 0 _ _ _ (by omega) (Nat.lt_succ_self _) hP hR hS (lv_sub hl [2, 3, 1, 0] rfl)
set_option maxHeartbeats 4000000 in
set_option maxRecDepth 100000 in
theorem k_X7_codeOf_10 (l : Launch) (D : va_G) (cI : ClassId) (ad : Nat → Nat) (hinj : mInj ad) (S : St) (hR : RS S) (n : Nat) (hn : n ≤ 7) : Met l yX7_codeOf (Cond.code yX7_codeOf cX7_codeOf 4 (some .int) :: lwT) ({ frames := 0, cells := 0, slots := 0, locals := 0 }) (gPc D (mW cI ad) (mE D cI) S [.ref (ad 10), .int (zI (↑n))]) (va_Qi (fun (r : Int32) (S' : St) => S' = S ∧ r = zI (cdF (S 10) n)) (gB D (mW cI ad)) (mA ad)) 0 0 (mA ad) := by
  refine Met.ofW (cc := cX7_codeOf) (maxL := 4) (ret := (some .int)) (by decide) rfl ?_
  intro p e s m args below meth c s₁ B hml hv
  obtain ⟨rfl, hP, hE⟩ := hv
  have hx := B.exec
  have hb := B.bytes
  have hr := B.returns
  have hts := atoms_spec (ws := Cond.code yX7_codeOf cX7_codeOf 4 (some .int) :: lwT) B.pre
  have hT := fun w (h : w ∈ lwT) => hts w (List.mem_cons_of_mem _ h)
  have hsub : ∀ w ∈ lwT, w ∈ (Cond.code yX7_codeOf cX7_codeOf 4 (some .int) :: lwT) := fun w h => List.mem_cons_of_mem _ h
  have hown : s.vm.findClass RX7 = some m.cls := findClass_of_methodNamed B.named
  have hlocks := B.notSynchronized
  have hK : va_K D vwCl [(cI, .int)] s := hE
  have hS : va_S (mA ad) s.heap s.heap [] := va_S.rf
  have hl := lv_entry ([.ref (ad 10), .int (zI (↑n))]) (n := 4) (Nat.le_of_ble_eq_true rfl)
  rw [lg_entry_eq]
  generalize (lg_sl ([.ref (ad 10), .int (zI (↑n))]) ++ List.replicate (4 - (lg_sl ([.ref (ad 10), .int (zI (↑n))])).length) Slot.unset).toArray = ls at hl ⊢
  have hl : lv_has ls 4 [(0, .ref (ad 10)), (1, .int (zI (↑n)))] := hl
  refine z_iconst hx hb dX7_codeOf_0 ?_
  refine lv_istore_n (lv' := [(2, .int (zI (0))), (0, .ref (ad 10)), (1, .int (zI (↑n)))]) hx hb dX7_codeOf_1 rfl hl (by decide) rfl (fun ls hl => ?_)
  refine z_iconst hx hb dX7_codeOf_2 ?_
  refine lv_istore_n (lv' := [(3, .int (zI (0))), (2, .int (zI (0))), (0, .ref (ad 10)), (1, .int (zI (↑n)))]) hx hb dX7_codeOf_3 rfl hl (by decide) rfl (fun ls hl => ?_)
  have cut_4 : ∀ (k9 : Nat) (i : Nat) (H : Heap) (locs : List Loc) (ls : Array Slot), i ≤ n → (n - i) < k9 → va_P D vwCl (mW cI ad S) H → RS S → va_S (mA ad) s.heap H locs → lv_has ls 4 [(0, .ref (ad 10)), (1, .int (zI (↑n))), (2, .int (zI (cdF (S 10) i))), (3, .int (zI (↑i)))] → W p l e (headSpec (Cond.code yX7_codeOf cX7_codeOf 4 (some .int) :: lwT) ({ frames := 0, cells := 0, slots := 0, locals := 0 })).room s m ([.ref (ad 10), .int (zI (↑n))] : List Value).toArray below meth c H locs 0 0 (MQ below (va_Qi (fun (r : Int32) (S' : St) => S' = S ∧ r = zI (cdF (S 10) n)) (gB D (mW cI ad)) (mA ad)) ([.ref (ad 10), .int (zI (↑n))] : List Value).toArray s 0 0 (mA ad)) (F0 m 4 ls []) := by
    intro k9
    induction k9 with
    | zero =>
      intro i H locs ls hi hk9 hP hR hS hl
      exact absurd hk9 (Nat.not_lt_zero _)
    | succ k9 ih_4 =>
      intro i H locs ls hi hk9 hP hR hS hl
      refine lv_iload_n hx hb dX7_codeOf_4 rfl (lv_at hl 3 rfl) ?_
      refine lv_iload_n hx hb dX7_codeOf_5 rfl (lv_at hl 1 rfl) ?_
      refine z_icmp_ge (tgt := 24) hx hb (by omega) (by omega) (by omega) (by omega) dX7_codeOf_6 (by decide) (fun c_1 => ?_) (fun c_1 => ?_)
      · have h9 : True := trivial
        refine lv_iload_n hx hb dX7_codeOf_24 rfl (lv_at hl 2 rfl) ?_
        exact g_iret (S1 := S) (v := zI (cdF (S 10) i)) hx hb hr hlocks hP hR hS (⟨rfl, by rw [show n = i by omega]⟩) dX7_codeOf_25
      · have h9 : True := trivial
        refine z_bipush hx hb dX7_codeOf_9 (by decide) ?_
        refine lv_iload_n hx hb dX7_codeOf_11 rfl (lv_at hl 2 rfl) ?_
        refine z_imul hx hb dX7_codeOf_12 ?_
        refine lv_aload_n hx hb dX7_codeOf_13 rfl (lv_at hl 0 rfl) ?_
        refine lv_iload_n hx hb dX7_codeOf_14 rfl (lv_at hl 3 rfl) ?_
        have g_2 := hR 10 i (by decide)
        refine z_ald (f := S 10) hx hb hK hP 6 0 rfl rfl (by omega) (by omega) (by decide) dX7_codeOf_15 ?_
        refine z_iadd hx hb dX7_codeOf_16 ?_
        refine lv_istore_n (lv' := [(2, .int (zI ((8 * (cdF (S 10) i)) + (S 10 i)))), (0, .ref (ad 10)), (1, .int (zI (↑n))), (3, .int (zI (↑i)))]) hx hb dX7_codeOf_17 rfl hl (by decide) rfl (fun ls hl => ?_)
        refine z_iinc (lv' := [(3, .int (zI (↑i + 1))), (2, .int (zI ((8 * (cdF (S 10) i)) + (S 10 i)))), (0, .ref (ad 10)), (1, .int (zI (↑n)))]) hx hb dX7_codeOf_18 hl (k := 3) rfl (by decide) rfl (fun ls hl => ?_)
        refine lv_goto (tgt := 4) hx hb dX7_codeOf_21 (by decide) ?_
        exact ih_4 (i + 1) _ _ _ (by omega) (by omega) hP hR hS (lv_sub hl [2, 3, 1, 0] rfl)
  exact cut_4 _ 0 _ _ _ (by omega) (Nat.lt_succ_self _) hP hR hS (lv_sub hl [2, 3, 1, 0] rfl)
set_option maxHeartbeats 4000000 in
set_option maxRecDepth 100000 in
theorem k_X7_codeOf_11 (l : Launch) (D : va_G) (cI : ClassId) (ad : Nat → Nat) (hinj : mInj ad) (S : St) (hR : RS S) (n : Nat) (hn : n ≤ 7) : Met l yX7_codeOf (Cond.code yX7_codeOf cX7_codeOf 4 (some .int) :: lwT) ({ frames := 0, cells := 0, slots := 0, locals := 0 }) (gPc D (mW cI ad) (mE D cI) S [.ref (ad 11), .int (zI (↑n))]) (va_Qi (fun (r : Int32) (S' : St) => S' = S ∧ r = zI (cdF (S 11) n)) (gB D (mW cI ad)) (mA ad)) 0 0 (mA ad) := by
  refine Met.ofW (cc := cX7_codeOf) (maxL := 4) (ret := (some .int)) (by decide) rfl ?_
  intro p e s m args below meth c s₁ B hml hv
  obtain ⟨rfl, hP, hE⟩ := hv
  have hx := B.exec
  have hb := B.bytes
  have hr := B.returns
  have hts := atoms_spec (ws := Cond.code yX7_codeOf cX7_codeOf 4 (some .int) :: lwT) B.pre
  have hT := fun w (h : w ∈ lwT) => hts w (List.mem_cons_of_mem _ h)
  have hsub : ∀ w ∈ lwT, w ∈ (Cond.code yX7_codeOf cX7_codeOf 4 (some .int) :: lwT) := fun w h => List.mem_cons_of_mem _ h
  have hown : s.vm.findClass RX7 = some m.cls := findClass_of_methodNamed B.named
  have hlocks := B.notSynchronized
  have hK : va_K D vwCl [(cI, .int)] s := hE
  have hS : va_S (mA ad) s.heap s.heap [] := va_S.rf
  have hl := lv_entry ([.ref (ad 11), .int (zI (↑n))]) (n := 4) (Nat.le_of_ble_eq_true rfl)
  rw [lg_entry_eq]
  generalize (lg_sl ([.ref (ad 11), .int (zI (↑n))]) ++ List.replicate (4 - (lg_sl ([.ref (ad 11), .int (zI (↑n))])).length) Slot.unset).toArray = ls at hl ⊢
  have hl : lv_has ls 4 [(0, .ref (ad 11)), (1, .int (zI (↑n)))] := hl
  refine z_iconst hx hb dX7_codeOf_0 ?_
  refine lv_istore_n (lv' := [(2, .int (zI (0))), (0, .ref (ad 11)), (1, .int (zI (↑n)))]) hx hb dX7_codeOf_1 rfl hl (by decide) rfl (fun ls hl => ?_)
  refine z_iconst hx hb dX7_codeOf_2 ?_
  refine lv_istore_n (lv' := [(3, .int (zI (0))), (2, .int (zI (0))), (0, .ref (ad 11)), (1, .int (zI (↑n)))]) hx hb dX7_codeOf_3 rfl hl (by decide) rfl (fun ls hl => ?_)
  have cut_4 : ∀ (k9 : Nat) (i : Nat) (H : Heap) (locs : List Loc) (ls : Array Slot), i ≤ n → (n - i) < k9 → va_P D vwCl (mW cI ad S) H → RS S → va_S (mA ad) s.heap H locs → lv_has ls 4 [(0, .ref (ad 11)), (1, .int (zI (↑n))), (2, .int (zI (cdF (S 11) i))), (3, .int (zI (↑i)))] → W p l e (headSpec (Cond.code yX7_codeOf cX7_codeOf 4 (some .int) :: lwT) ({ frames := 0, cells := 0, slots := 0, locals := 0 })).room s m ([.ref (ad 11), .int (zI (↑n))] : List Value).toArray below meth c H locs 0 0 (MQ below (va_Qi (fun (r : Int32) (S' : St) => S' = S ∧ r = zI (cdF (S 11) n)) (gB D (mW cI ad)) (mA ad)) ([.ref (ad 11), .int (zI (↑n))] : List Value).toArray s 0 0 (mA ad)) (F0 m 4 ls []) := by
    intro k9
    induction k9 with
    | zero =>
      intro i H locs ls hi hk9 hP hR hS hl
      exact absurd hk9 (Nat.not_lt_zero _)
    | succ k9 ih_4 =>
      intro i H locs ls hi hk9 hP hR hS hl
      refine lv_iload_n hx hb dX7_codeOf_4 rfl (lv_at hl 3 rfl) ?_
      refine lv_iload_n hx hb dX7_codeOf_5 rfl (lv_at hl 1 rfl) ?_
      refine z_icmp_ge (tgt := 24) hx hb (by omega) (by omega) (by omega) (by omega) dX7_codeOf_6 (by decide) (fun c_1 => ?_) (fun c_1 => ?_)
      · have h9 : True := trivial
        refine lv_iload_n hx hb dX7_codeOf_24 rfl (lv_at hl 2 rfl) ?_
        exact g_iret (S1 := S) (v := zI (cdF (S 11) i)) hx hb hr hlocks hP hR hS (⟨rfl, by rw [show n = i by omega]⟩) dX7_codeOf_25
      · have h9 : True := trivial
        refine z_bipush hx hb dX7_codeOf_9 (by decide) ?_
        refine lv_iload_n hx hb dX7_codeOf_11 rfl (lv_at hl 2 rfl) ?_
        refine z_imul hx hb dX7_codeOf_12 ?_
        refine lv_aload_n hx hb dX7_codeOf_13 rfl (lv_at hl 0 rfl) ?_
        refine lv_iload_n hx hb dX7_codeOf_14 rfl (lv_at hl 3 rfl) ?_
        have g_2 := hR 11 i (by decide)
        refine z_ald (f := S 11) hx hb hK hP 7 0 rfl rfl (by omega) (by omega) (by decide) dX7_codeOf_15 ?_
        refine z_iadd hx hb dX7_codeOf_16 ?_
        refine lv_istore_n (lv' := [(2, .int (zI ((8 * (cdF (S 11) i)) + (S 11 i)))), (0, .ref (ad 11)), (1, .int (zI (↑n))), (3, .int (zI (↑i)))]) hx hb dX7_codeOf_17 rfl hl (by decide) rfl (fun ls hl => ?_)
        refine z_iinc (lv' := [(3, .int (zI (↑i + 1))), (2, .int (zI ((8 * (cdF (S 11) i)) + (S 11 i)))), (0, .ref (ad 11)), (1, .int (zI (↑n)))]) hx hb dX7_codeOf_18 hl (k := 3) rfl (by decide) rfl (fun ls hl => ?_)
        refine lv_goto (tgt := 4) hx hb dX7_codeOf_21 (by decide) ?_
        exact ih_4 (i + 1) _ _ _ (by omega) (by omega) hP hR hS (lv_sub hl [2, 3, 1, 0] rfl)
  exact cut_4 _ 0 _ _ _ (by omega) (Nat.lt_succ_self _) hP hR hS (lv_sub hl [2, 3, 1, 0] rfl)
set_option maxHeartbeats 4000000 in
set_option maxRecDepth 100000 in
theorem k_X7_codeOf_18 (l : Launch) (D : va_G) (cI : ClassId) (ad : Nat → Nat) (hinj : mInj ad) (S : St) (hR : RS S) (n : Nat) (hn : n ≤ 7) : Met l yX7_codeOf (Cond.code yX7_codeOf cX7_codeOf 4 (some .int) :: lwT) ({ frames := 0, cells := 0, slots := 0, locals := 0 }) (gPc D (mW cI ad) (mE D cI) S [.ref (ad 18), .int (zI (↑n))]) (va_Qi (fun (r : Int32) (S' : St) => S' = S ∧ r = zI (cdF (S 18) n)) (gB D (mW cI ad)) (mA ad)) 0 0 (mA ad) := by
  refine Met.ofW (cc := cX7_codeOf) (maxL := 4) (ret := (some .int)) (by decide) rfl ?_
  intro p e s m args below meth c s₁ B hml hv
  obtain ⟨rfl, hP, hE⟩ := hv
  have hx := B.exec
  have hb := B.bytes
  have hr := B.returns
  have hts := atoms_spec (ws := Cond.code yX7_codeOf cX7_codeOf 4 (some .int) :: lwT) B.pre
  have hT := fun w (h : w ∈ lwT) => hts w (List.mem_cons_of_mem _ h)
  have hsub : ∀ w ∈ lwT, w ∈ (Cond.code yX7_codeOf cX7_codeOf 4 (some .int) :: lwT) := fun w h => List.mem_cons_of_mem _ h
  have hown : s.vm.findClass RX7 = some m.cls := findClass_of_methodNamed B.named
  have hlocks := B.notSynchronized
  have hK : va_K D vwCl [(cI, .int)] s := hE
  have hS : va_S (mA ad) s.heap s.heap [] := va_S.rf
  have hl := lv_entry ([.ref (ad 18), .int (zI (↑n))]) (n := 4) (Nat.le_of_ble_eq_true rfl)
  rw [lg_entry_eq]
  generalize (lg_sl ([.ref (ad 18), .int (zI (↑n))]) ++ List.replicate (4 - (lg_sl ([.ref (ad 18), .int (zI (↑n))])).length) Slot.unset).toArray = ls at hl ⊢
  have hl : lv_has ls 4 [(0, .ref (ad 18)), (1, .int (zI (↑n)))] := hl
  refine z_iconst hx hb dX7_codeOf_0 ?_
  refine lv_istore_n (lv' := [(2, .int (zI (0))), (0, .ref (ad 18)), (1, .int (zI (↑n)))]) hx hb dX7_codeOf_1 rfl hl (by decide) rfl (fun ls hl => ?_)
  refine z_iconst hx hb dX7_codeOf_2 ?_
  refine lv_istore_n (lv' := [(3, .int (zI (0))), (2, .int (zI (0))), (0, .ref (ad 18)), (1, .int (zI (↑n)))]) hx hb dX7_codeOf_3 rfl hl (by decide) rfl (fun ls hl => ?_)
  have cut_4 : ∀ (k9 : Nat) (i : Nat) (H : Heap) (locs : List Loc) (ls : Array Slot), i ≤ n → (n - i) < k9 → va_P D vwCl (mW cI ad S) H → RS S → va_S (mA ad) s.heap H locs → lv_has ls 4 [(0, .ref (ad 18)), (1, .int (zI (↑n))), (2, .int (zI (cdF (S 18) i))), (3, .int (zI (↑i)))] → W p l e (headSpec (Cond.code yX7_codeOf cX7_codeOf 4 (some .int) :: lwT) ({ frames := 0, cells := 0, slots := 0, locals := 0 })).room s m ([.ref (ad 18), .int (zI (↑n))] : List Value).toArray below meth c H locs 0 0 (MQ below (va_Qi (fun (r : Int32) (S' : St) => S' = S ∧ r = zI (cdF (S 18) n)) (gB D (mW cI ad)) (mA ad)) ([.ref (ad 18), .int (zI (↑n))] : List Value).toArray s 0 0 (mA ad)) (F0 m 4 ls []) := by
    intro k9
    induction k9 with
    | zero =>
      intro i H locs ls hi hk9 hP hR hS hl
      exact absurd hk9 (Nat.not_lt_zero _)
    | succ k9 ih_4 =>
      intro i H locs ls hi hk9 hP hR hS hl
      refine lv_iload_n hx hb dX7_codeOf_4 rfl (lv_at hl 3 rfl) ?_
      refine lv_iload_n hx hb dX7_codeOf_5 rfl (lv_at hl 1 rfl) ?_
      refine z_icmp_ge (tgt := 24) hx hb (by omega) (by omega) (by omega) (by omega) dX7_codeOf_6 (by decide) (fun c_1 => ?_) (fun c_1 => ?_)
      · have h9 : True := trivial
        refine lv_iload_n hx hb dX7_codeOf_24 rfl (lv_at hl 2 rfl) ?_
        exact g_iret (S1 := S) (v := zI (cdF (S 18) i)) hx hb hr hlocks hP hR hS (⟨rfl, by rw [show n = i by omega]⟩) dX7_codeOf_25
      · have h9 : True := trivial
        refine z_bipush hx hb dX7_codeOf_9 (by decide) ?_
        refine lv_iload_n hx hb dX7_codeOf_11 rfl (lv_at hl 2 rfl) ?_
        refine z_imul hx hb dX7_codeOf_12 ?_
        refine lv_aload_n hx hb dX7_codeOf_13 rfl (lv_at hl 0 rfl) ?_
        refine lv_iload_n hx hb dX7_codeOf_14 rfl (lv_at hl 3 rfl) ?_
        have g_2 := hR 18 i (by decide)
        refine z_ald (f := S 18) hx hb hK hP 11 0 rfl rfl (by omega) (by omega) (by decide) dX7_codeOf_15 ?_
        refine z_iadd hx hb dX7_codeOf_16 ?_
        refine lv_istore_n (lv' := [(2, .int (zI ((8 * (cdF (S 18) i)) + (S 18 i)))), (0, .ref (ad 18)), (1, .int (zI (↑n))), (3, .int (zI (↑i)))]) hx hb dX7_codeOf_17 rfl hl (by decide) rfl (fun ls hl => ?_)
        refine z_iinc (lv' := [(3, .int (zI (↑i + 1))), (2, .int (zI ((8 * (cdF (S 18) i)) + (S 18 i)))), (0, .ref (ad 18)), (1, .int (zI (↑n)))]) hx hb dX7_codeOf_18 hl (k := 3) rfl (by decide) rfl (fun ls hl => ?_)
        refine lv_goto (tgt := 4) hx hb dX7_codeOf_21 (by decide) ?_
        exact ih_4 (i + 1) _ _ _ (by omega) (by omega) hP hR hS (lv_sub hl [2, 3, 1, 0] rfl)
  exact cut_4 _ 0 _ _ _ (by omega) (Nat.lt_succ_self _) hP hR hS (lv_sub hl [2, 3, 1, 0] rfl)
set_option maxHeartbeats 4000000 in
set_option maxRecDepth 100000 in
theorem k_X7_lacks (l : Launch) (D : va_G) (cI : ClassId) (ad : Nat → Nat) (hinj : mInj ad) (S : St) (hR : RS S)  : Met l yX7_lacks (Cond.code yX7_lacks cX7_lacks 1 (some .boolean) :: lwT) ({ frames := 0, cells := 0, slots := 0, locals := 0 }) (gPc D (mW cI ad) (mE D cI) S [.ref (ad 26)]) (va_Qi (fun (r : Int32) (S' : St) => S' = S ∧ r = zI (b2 (decide (S 2 0 = 0)))) (gB D (mW cI ad)) (mA ad)) 0 0 (mA ad) := by
  refine Met.ofW (cc := cX7_lacks) (maxL := 1) (ret := (some .boolean)) (by decide) rfl ?_
  intro p e s m args below meth c s₁ B hml hv
  obtain ⟨rfl, hP, hE⟩ := hv
  have hx := B.exec
  have hb := B.bytes
  have hr := B.returns
  have hts := atoms_spec (ws := Cond.code yX7_lacks cX7_lacks 1 (some .boolean) :: lwT) B.pre
  have hT := fun w (h : w ∈ lwT) => hts w (List.mem_cons_of_mem _ h)
  have hsub : ∀ w ∈ lwT, w ∈ (Cond.code yX7_lacks cX7_lacks 1 (some .boolean) :: lwT) := fun w h => List.mem_cons_of_mem _ h
  have hown : s.vm.findClass RX7 = some m.cls := findClass_of_methodNamed B.named
  have hlocks := B.notSynchronized
  have hK : va_K D vwCl [(cI, .int)] s := hE
  have hS : va_S (mA ad) s.heap s.heap [] := va_S.rf
  have hl := lv_entry ([.ref (ad 26)]) (n := 1) (Nat.le_of_ble_eq_true rfl)
  rw [lg_entry_eq]
  generalize (lg_sl ([.ref (ad 26)]) ++ List.replicate (1 - (lg_sl ([.ref (ad 26)])).length) Slot.unset).toArray = ls at hl ⊢
  have hl : lv_has ls 1 [(0, .ref (ad 26))] := hl
  refine lv_aload_n hx hb dX7_lacks_0 rfl (lv_at hl 0 rfl) ?_
  have g_1 := hR 2 0 (by decide)
  refine va_get (D := D) (ci := 7) (v := .int (zI (S 2 0))) (C := RX7) (T := TX7) (N := 26) hx hb hT inX7 hown hK hP 0 rfl rfl 2 (by decide) (hT _ q_674) (fun _ h9 => h9) rfl dX7_lacks_1 ?_
  refine z_if_ne (tgt := 11) hx hb (by omega) (by omega) dX7_lacks_4 (by decide) (fun c_2 => ?_) (fun c_2 => ?_)
  · have h9 : True := trivial
    refine z_iconst hx hb dX7_lacks_11 ?_
    exact g_zret (S1 := S) (bo := false) hx hb hr hlocks hP hR hS (⟨rfl, bF (by omega)⟩) dX7_lacks_12
  · have h9 : True := trivial
    refine z_iconst hx hb dX7_lacks_7 ?_
    refine lv_goto (tgt := 12) hx hb dX7_lacks_8 (by decide) ?_
    exact g_zret (S1 := S) (bo := true) hx hb hr hlocks hP hR hS (⟨rfl, bT (by omega)⟩) dX7_lacks_12
set_option maxHeartbeats 4000000 in
set_option maxRecDepth 100000 in
theorem k_X7_isLeaf (l : Launch) (D : va_G) (cI : ClassId) (ad : Nat → Nat) (hinj : mInj ad) (S : St) (hR : RS S) (x : Int) (hx1 : -2147483648 ≤ x) (hx2 : x < 2147483648) (hn0 : 0 ≤ S 2 0) : Met l yX7_isLeaf (Cond.code yX7_isLeaf cX7_isLeaf 2 (some .boolean) :: lwT) ({ frames := 1, cells := 0, slots := 0, locals := 25 }) (gPc D (mW cI ad) (mE D cI) S [.ref (ad 26), .int (zI (x))]) (va_Qi (fun (r : Int32) (S' : St) => S' = S ∧ r = zI (b2 (decide (0 ≤ x ∧ x ≤ S 2 0 - 1)))) (gB D (mW cI ad)) (mA ad)) 0 0 (mA ad) := by
  refine Met.ofW (cc := cX7_isLeaf) (maxL := 2) (ret := (some .boolean)) (by decide) rfl ?_
  intro p e s m args below meth c s₁ B hml hv
  obtain ⟨rfl, hP, hE⟩ := hv
  have hx := B.exec
  have hb := B.bytes
  have hr := B.returns
  have hts := atoms_spec (ws := Cond.code yX7_isLeaf cX7_isLeaf 2 (some .boolean) :: lwT) B.pre
  have hT := fun w (h : w ∈ lwT) => hts w (List.mem_cons_of_mem _ h)
  have hsub : ∀ w ∈ lwT, w ∈ (Cond.code yX7_isLeaf cX7_isLeaf 2 (some .boolean) :: lwT) := fun w h => List.mem_cons_of_mem _ h
  have hown : s.vm.findClass RX7 = some m.cls := findClass_of_methodNamed B.named
  have hlocks := B.notSynchronized
  have hK : va_K D vwCl [(cI, .int)] s := hE
  have hS : va_S (mA ad) s.heap s.heap [] := va_S.rf
  have hl := lv_entry ([.ref (ad 26), .int (zI (x))]) (n := 2) (Nat.le_of_ble_eq_true rfl)
  rw [lg_entry_eq]
  generalize (lg_sl ([.ref (ad 26), .int (zI (x))]) ++ List.replicate (2 - (lg_sl ([.ref (ad 26), .int (zI (x))])).length) Slot.unset).toArray = ls at hl ⊢
  have hl : lv_has ls 2 [(0, .ref (ad 26)), (1, .int (zI (x)))] := hl
  refine lv_iload_n hx hb dX7_isLeaf_0 rfl (lv_at hl 1 rfl) ?_
  refine z_i2l hx hb (by omega) (by omega) dX7_isLeaf_1 ?_
  refine lv_lconst (v := zL 0) hx hb dX7_isLeaf_2 (by decide) ?_
  refine lv_aload_n hx hb dX7_isLeaf_3 rfl (lv_at hl 0 rfl) ?_
  have g_1 := hR 2 0 (by decide)
  refine va_get (D := D) (ci := 7) (v := .int (zI (S 2 0))) (C := RX7) (T := TX7) (N := 26) hx hb hT inX7 hown hK hP 0 rfl rfl 2 (by decide) (hT _ q_674) (fun _ h9 => h9) rfl dX7_isLeaf_4 ?_
  refine z_iconst hx hb dX7_isLeaf_7 ?_
  refine z_isub hx hb dX7_isLeaf_8 ?_
  refine z_i2l hx hb (by omega) (by omega) dX7_isLeaf_9 ?_
  refine s_callSi (As := [.long (zL (x)), .long (zL (0)), .long (zL ((S 2 0) - 1))]) (rest := []) ⟨hx, hb, hml, hown, hts⟩ (k_X7_in l x 0 ((S 2 0) - 1) (by omega) (by omega) (by omega) (by omega) (by omega) (by omega)) (cwS 3 hts (gS hsub q_756 q_757 q_8 q_758) rfl rfl rfl hdX7_in ⟨Nat.le_of_ble_eq_true rfl, Nat.le_of_ble_eq_true rfl⟩) rfl hl.1 rfl (Nat.le_of_ble_eq_true rfl) dX7_isLeaf_10 ⟨Nat.le_of_ble_eq_true rfl, Nat.le_of_ble_eq_true rfl⟩ (fun r_2 hq_4 => ?_)
  rw [hq_4]
  exact g_zret (S1 := S) (bo := (decide (0 ≤ x ∧ x ≤ ((S 2 0) - 1)))) hx hb hr hlocks hP hR hS (⟨rfl, rfl⟩) dX7_isLeaf_13
