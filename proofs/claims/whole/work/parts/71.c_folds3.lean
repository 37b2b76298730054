set_option maxHeartbeats 4000000 in
set_option maxRecDepth 100000 in
theorem k_X0_mateOf (l : Launch) (D : va_G) (cI cZ : ClassId) (ad : Nat → Nat) (az av : Nat) (hinj : cInj ad) (S : St) (hR : RS S) (n : Nat) (hn : S 2 0 = ↑n) (hn7 : n ≤ 7) (v sd : Nat) (x y : Int) (hxv : x = ↑v) (hyd : y = ↑sd) (hv : v < n) (hsd : sd < 2) : Met l yX0_mateOf (Cond.code yX0_mateOf cX0_mateOf 4 (some .int) :: lwT) ({ frames := 0, cells := 0, slots := 0, locals := 0 }) (gPc D (cW cI cZ ad) (cE D cI cZ ad az av) S [.ref (ad 42), .int (zI (x)), .int (zI (y))]) (va_Qi (fun (r : Int32) (S' : St) => S' = S ∧ r = zI ((mtN n v sd : Int) - 1)) (gB D (cW cI cZ ad)) (cA ad)) 0 0 (cA ad) := by
  refine Met.ofW (cc := cX0_mateOf) (maxL := 4) (ret := (some .int)) (by decide) rfl ?_
  intro p e s m args below meth c s₁ B hml hv
  obtain ⟨rfl, hP, hE⟩ := hv
  have hx := B.exec
  have hb := B.bytes
  have hr := B.returns
  have hts := atoms_spec (ws := Cond.code yX0_mateOf cX0_mateOf 4 (some .int) :: lwT) B.pre
  have hT := fun w (h : w ∈ lwT) => hts w (List.mem_cons_of_mem _ h)
  have hsub : ∀ w ∈ lwT, w ∈ (Cond.code yX0_mateOf cX0_mateOf 4 (some .int) :: lwT) := fun w h => List.mem_cons_of_mem _ h
  have hown : s.vm.findClass RX0 = some m.cls := findClass_of_methodNamed B.named
  have hlocks := B.notSynchronized
  have hK : va_K D vwCl [(cI, .int), (cZ, .boolean)] s := hE.1
  have hS : va_S (cA ad) s.heap s.heap [] := va_S.rf
  have hl := lv_entry ([.ref (ad 42), .int (zI (x)), .int (zI (y))]) (n := 4) (Nat.le_of_ble_eq_true rfl)
  rw [lg_entry_eq]
  generalize (lg_sl ([.ref (ad 42), .int (zI (x)), .int (zI (y))]) ++ List.replicate (4 - (lg_sl ([.ref (ad 42), .int (zI (x)), .int (zI (y))])).length) Slot.unset).toArray = ls at hl ⊢
  have hl : lv_has ls 4 [(0, .ref (ad 42)), (1, .int (zI (x))), (2, .int (zI (y)))] := hl
  refine lv_iload_n hx hb dX0_mateOf_0 rfl (lv_at hl 1 rfl) ?_
  refine z_iconst hx hb dX0_mateOf_1 ?_
  refine z_irem hx hb (by omega) (by omega) (by omega) (by omega) dX0_mateOf_2 ?_
  refine lv_iload_n hx hb dX0_mateOf_3 rfl (lv_at hl 2 rfl) ?_
  refine z_icmp_ne (tgt := 13) hx hb (by omega) (by omega) (by omega) (by omega) dX0_mateOf_4 (by decide) (fun c_1 => ?_) (fun c_1 => ?_)
  · have h9 : True := trivial
    refine lv_iload_n hx hb dX0_mateOf_13 rfl (lv_at hl 1 rfl) ?_
    refine z_iconst hx hb dX0_mateOf_14 ?_
    refine z_isub hx hb dX0_mateOf_15 ?_
    refine lv_istore_n (lv' := [(3, .int (zI (x - 1))), (0, .ref (ad 42)), (1, .int (zI (x))), (2, .int (zI (y)))]) hx hb dX0_mateOf_16 rfl hl (by decide) rfl (fun ls hl => ?_)
    refine lv_iload_n hx hb dX0_mateOf_17 rfl (lv_at hl 0 rfl) ?_
    refine z_if_lt (tgt := 33) hx hb (by omega) (by omega) dX0_mateOf_18 (by decide) (fun c_2 => ?_) (fun c_2 => ?_)
    · have h9 : True := trivial
      refine z_iconst hx hb dX0_mateOf_33 ?_
      exact g_iret (S1 := S) (v := zI (-1)) hx hb hr hlocks hP hR hS (⟨rfl, by congr 1; rw [mtN_eq]; split <;> split <;> omega⟩) dX0_mateOf_34
    · have h9 : True := trivial
      refine lv_iload_n hx hb dX0_mateOf_21 rfl (lv_at hl 0 rfl) ?_
      refine lv_aload_n hx hb dX0_mateOf_22 rfl (lv_at hl 1 rfl) ?_
      have g_3 : -2147483648 ≤ S 2 0 ∧ S 2 0 < 2147483648 := hR 2 0 (by decide)
      refine va_get (D := D) (ci := 0) (v := .int (zI (S 2 0))) (C := RX0) (T := TX0) (N := 5) hx hb hT inX0 hown hK hP 2 rfl rfl 0 (by decide) (hT _ q_45) (fun _ h9 => h9) rfl dX0_mateOf_23 ?_
      refine z_icmp_ge (tgt := 33) hx hb (by omega) (by omega) (by omega) (by omega) dX0_mateOf_26 (by decide) (fun c_4 => ?_) (fun c_4 => ?_)
      · have h9 : True := trivial
        refine z_iconst hx hb dX0_mateOf_33 ?_
        exact g_iret (S1 := S) (v := zI (-1)) hx hb hr hlocks hP hR hS (⟨rfl, by congr 1; rw [mtN_eq]; split <;> split <;> omega⟩) dX0_mateOf_34
      · have h9 : True := trivial
        refine lv_iload_n hx hb dX0_mateOf_29 rfl (lv_at hl 0 rfl) ?_
        refine lv_goto (tgt := 34) hx hb dX0_mateOf_30 (by decide) ?_
        exact g_iret (S1 := S) (v := zI (x - 1)) hx hb hr hlocks hP hR hS (⟨rfl, by congr 1; rw [mtN_eq]; split <;> split <;> omega⟩) dX0_mateOf_34
  · have h9 : True := trivial
    refine lv_iload_n hx hb dX0_mateOf_7 rfl (lv_at hl 1 rfl) ?_
    refine z_iconst hx hb dX0_mateOf_8 ?_
    refine z_iadd hx hb dX0_mateOf_9 ?_
    refine lv_goto (tgt := 16) hx hb dX0_mateOf_10 (by decide) ?_
    refine lv_istore_n (lv' := [(3, .int (zI (x + 1))), (0, .ref (ad 42)), (1, .int (zI (x))), (2, .int (zI (y)))]) hx hb dX0_mateOf_16 rfl hl (by decide) rfl (fun ls hl => ?_)
    refine lv_iload_n hx hb dX0_mateOf_17 rfl (lv_at hl 0 rfl) ?_
    refine z_if_lt (tgt := 33) hx hb (by omega) (by omega) dX0_mateOf_18 (by decide) (fun c_5 => ?_) (fun c_5 => ?_)
    · have h9 : True := trivial
      refine z_iconst hx hb dX0_mateOf_33 ?_
      exact g_iret (S1 := S) (v := zI (-1)) hx hb hr hlocks hP hR hS (⟨rfl, by congr 1; rw [mtN_eq]; split <;> split <;> omega⟩) dX0_mateOf_34
    · have h9 : True := trivial
      refine lv_iload_n hx hb dX0_mateOf_21 rfl (lv_at hl 0 rfl) ?_
      refine lv_aload_n hx hb dX0_mateOf_22 rfl (lv_at hl 1 rfl) ?_
      have g_6 : -2147483648 ≤ S 2 0 ∧ S 2 0 < 2147483648 := hR 2 0 (by decide)
      refine va_get (D := D) (ci := 0) (v := .int (zI (S 2 0))) (C := RX0) (T := TX0) (N := 5) hx hb hT inX0 hown hK hP 2 rfl rfl 0 (by decide) (hT _ q_45) (fun _ h9 => h9) rfl dX0_mateOf_23 ?_
      refine z_icmp_ge (tgt := 33) hx hb (by omega) (by omega) (by omega) (by omega) dX0_mateOf_26 (by decide) (fun c_7 => ?_) (fun c_7 => ?_)
      · have h9 : True := trivial
        refine z_iconst hx hb dX0_mateOf_33 ?_
        exact g_iret (S1 := S) (v := zI (-1)) hx hb hr hlocks hP hR hS (⟨rfl, by congr 1; rw [mtN_eq]; split <;> split <;> omega⟩) dX0_mateOf_34
      · have h9 : True := trivial
        refine lv_iload_n hx hb dX0_mateOf_29 rfl (lv_at hl 0 rfl) ?_
        refine lv_goto (tgt := 34) hx hb dX0_mateOf_30 (by decide) ?_
        exact g_iret (S1 := S) (v := zI (x + 1)) hx hb hr hlocks hP hR hS (⟨rfl, by congr 1; rw [mtN_eq]; split <;> split <;> omega⟩) dX0_mateOf_34
set_option maxHeartbeats 4000000 in
set_option maxRecDepth 100000 in
theorem k_X0_crossesAbove (l : Launch) (D : va_G) (cI cZ : ClassId) (ad : Nat → Nat) (az av : Nat) (hinj : cInj ad) (S : St) (hR : RS S) (n : Nat) (hn : S 2 0 = ↑n) (hn7 : n ≤ 7) (o : List Nat) (hpn : ∀ v, v < n → S 6 v = (pnN o v : Int) - 1) (hol : o.length ≤ 7) (v sd : Nat) (x y : Int) (hxv : x = ↑v) (hyd : y = ↑sd) (hv : v < n) (hsd : sd < 2) : Met l yX0_crossesAbove (Cond.code yX0_crossesAbove cX0_crossesAbove 6 (some .boolean) :: lwT) ({ frames := 1, cells := 0, slots := 0, locals := 23 }) (gPc D (cW cI cZ ad) (cE D cI cZ ad az av) S [.ref (ad 42), .int (zI (x)), .int (zI (y))]) (va_Qi (fun (r : Int32) (S' : St) => S' = S ∧ r = zI (b2 (crN n o v sd))) (gB D (cW cI cZ ad)) (cA ad)) 0 0 (cA ad) := by
  refine Met.ofW (cc := cX0_crossesAbove) (maxL := 6) (ret := (some .boolean)) (by decide) rfl ?_
  intro p e s m args below meth c s₁ B hml hv
  obtain ⟨rfl, hP, hE⟩ := hv
  have hx := B.exec
  have hb := B.bytes
  have hr := B.returns
  have hts := atoms_spec (ws := Cond.code yX0_crossesAbove cX0_crossesAbove 6 (some .boolean) :: lwT) B.pre
  have hT := fun w (h : w ∈ lwT) => hts w (List.mem_cons_of_mem _ h)
  have hsub : ∀ w ∈ lwT, w ∈ (Cond.code yX0_crossesAbove cX0_crossesAbove 6 (some .boolean) :: lwT) := fun w h => List.mem_cons_of_mem _ h
  have hown : s.vm.findClass RX0 = some m.cls := findClass_of_methodNamed B.named
  have hlocks := B.notSynchronized
  have hK : va_K D vwCl [(cI, .int), (cZ, .boolean)] s := hE.1
  have hS : va_S (cA ad) s.heap s.heap [] := va_S.rf
  obtain ⟨mt, hmt⟩ : ∃ mt, mtN n v sd = mt := ⟨_, rfl⟩
  have hml9 := mtN_le n v sd
  obtain ⟨p9, hp9⟩ : ∃ p9, pnN o (mt - 1) = p9 := ⟨_, rfl⟩
  have hpl9 := pnN_le o (mt - 1)
  rw [hmt] at hml9
  rw [hp9] at hpl9
  have hl := lv_entry ([.ref (ad 42), .int (zI (x)), .int (zI (y))]) (n := 6) (Nat.le_of_ble_eq_true rfl)
  rw [lg_entry_eq]
  generalize (lg_sl ([.ref (ad 42), .int (zI (x)), .int (zI (y))]) ++ List.replicate (6 - (lg_sl ([.ref (ad 42), .int (zI (x)), .int (zI (y))])).length) Slot.unset).toArray = ls at hl ⊢
  have hl : lv_has ls 6 [(0, .ref (ad 42)), (1, .int (zI (x))), (2, .int (zI (y)))] := hl
  refine lv_aload_n hx hb dX0_crossesAbove_0 rfl (lv_at hl 0 rfl) ?_
  refine lv_iload_n hx hb dX0_crossesAbove_1 rfl (lv_at hl 1 rfl) ?_
  refine lv_iload_n hx hb dX0_crossesAbove_2 rfl (lv_at hl 2 rfl) ?_
  refine g_callVi (As := [.int (zI (x)), .int (zI (y))]) (rest := []) ⟨hx, hb, hml, hown, hts⟩ (k_X0_mateOf l D cI cZ ad az av hinj S hR n hn hn7 (v) (sd) x y (by omega) (by omega) (by omega) (by omega)) (cwV 2 hts (gV hsub q_340 q_342 q_sX0_mateOf q_3 q_343) rfl rfl rfl hdX0_mateOf ⟨Nat.le_of_ble_eq_true rfl, Nat.le_of_ble_eq_true rfl⟩) (cEb D cI cZ ad az av) (cEk D cI cZ ad az av) hE (va_recv (ci := 0) (q0 := 2) hK hP rfl rfl) hP hS rfl hl.1 rfl (Nat.le_of_ble_eq_true rfl) dX0_crossesAbove_3 ⟨Nat.le_of_ble_eq_true rfl, Nat.le_of_ble_eq_true rfl⟩ (fun r_1 S_2 H locs hq_3 hP hR hS _ => ?_)
  obtain ⟨hs9, rfl⟩ := hq_3
  obtain rfl := hs9.symm
  refine z_top (b := (↑(mtN n v sd) : Int) - 1) rfl ?_
  refine z_top (b := (↑mt : Int) - 1) (by rw [hmt]) ?_
  refine lv_istore_n (lv' := [(3, .int (zI ((↑mt : Int) - 1))), (0, .ref (ad 42)), (1, .int (zI (x))), (2, .int (zI (y)))]) hx hb dX0_crossesAbove_6 rfl hl (by decide) rfl (fun ls hl => ?_)
  refine lv_iload_n hx hb dX0_crossesAbove_7 rfl (lv_at hl 0 rfl) ?_
  refine z_iconst hx hb dX0_crossesAbove_8 ?_
  refine z_icmp_eq (tgt := 22) hx hb (by omega) (by omega) (by omega) (by omega) dX0_crossesAbove_9 (by decide) (fun c_4 => ?_) (fun c_4 => ?_)
  · have h9 : True := trivial
    refine z_iconst hx hb dX0_crossesAbove_22 ?_
    exact g_zret (S1 := S) (bo := false) hx hb hr hlocks hP hR hS (⟨rfl, by rw [← crN_p]; exact pF (fun h => by unfold crQ at h; rw [hmt, hp9] at h; omega)⟩) dX0_crossesAbove_23
  · have h9 : True := trivial
    refine lv_aload_n hx hb dX0_crossesAbove_12 rfl (lv_at hl 1 rfl) ?_
    refine va_get (D := D) (ci := 0) (v := .ref (ad 6)) (C := RX0) (T := TX0) (N := 5) hx hb hT inX0 hown hK hP 2 rfl rfl 4 (by decide) (hT _ q_57) (fun _ h9 => h9) rfl dX0_crossesAbove_13 ?_
    refine lv_iload_n hx hb dX0_crossesAbove_16 rfl (lv_at hl 0 rfl) ?_
    have g_5 : -2147483648 ≤ S 6 ((↑mt : Int) - 1).toNat ∧ S 6 ((↑mt : Int) - 1).toNat < 2147483648 := hR 6 _ (by decide)
    refine z_ald (f := S 6) hx hb hK hP 11 0 rfl rfl (by omega) (by omega) (by decide) (j := ((↑mt : Int) - 1).toNat) rfl dX0_crossesAbove_17 ?_
    refine z_top (b := (↑p9 : Int) - 1) (by rw [show ((↑mt : Int) - 1).toNat = mt - 1 by omega, hpn _ (by omega), hp9]) ?_
    refine z_iconst hx hb dX0_crossesAbove_18 ?_
    refine z_icmp_ne (tgt := 24) hx hb (by omega) (by omega) (by omega) (by omega) dX0_crossesAbove_19 (by decide) (fun c_6 => ?_) (fun c_6 => ?_)
    · have h9 : True := trivial
      refine z_iconst hx hb dX0_crossesAbove_24 ?_
      refine lv_istore (lv' := [(4, .int (zI (0))), (3, .int (zI ((↑mt : Int) - 1))), (0, .ref (ad 42)), (1, .int (zI (x))), (2, .int (zI (y)))]) hx hb dX0_crossesAbove_25 hl (by decide) rfl (fun ls hl => ?_)
      have cut_27 : ∀ (k9 : Nat) (i : Nat) (H : Heap) (locs : List Loc) (ls : Array Slot), (i ≤ n) → (mt ≠ 0 ∧ p9 ≠ 0) → (∀ b, b < i → ¬ (p9 < pnN o b ∧ mtN n b sd ≠ 0 ∧ pnN o (mtN n b sd - 1) < p9)) → (n - i) < k9 → va_P D vwCl (cW cI cZ ad S) H → RS S → va_S (cA ad) s.heap H locs → lv_has ls 6 [(0, .ref (ad 42)), (1, .int (zI (x))), (2, .int (zI (y))), (3, .int (zI ((↑mt : Int) - 1))), (4, .int (zI (↑i)))] → W p l e (headSpec (Cond.code yX0_crossesAbove cX0_crossesAbove 6 (some .boolean) :: lwT) ({ frames := 1, cells := 0, slots := 0, locals := 23 })).room s m ([.ref (ad 42), .int (zI (x)), .int (zI (y))] : List Value).toArray below meth c H locs 0 0 (MQ below (va_Qi (fun (r : Int32) (S' : St) => S' = S ∧ r = zI (b2 (crN n o v sd))) (gB D (cW cI cZ ad)) (cA ad)) ([.ref (ad 42), .int (zI (x)), .int (zI (y))] : List Value).toArray s 0 0 (cA ad)) (F0 m 27 ls []) := by
        intro k9
        induction k9 with
        | zero =>
          intro i H locs ls hi hm0 hno hk9 hP hR hS hl
          exact absurd hk9 (Nat.not_lt_zero _)
        | succ k9 ih_27 =>
          intro i H locs ls hi hm0 hno hk9 hP hR hS hl
          refine lv_iload hx hb dX0_crossesAbove_27 (lv_at hl 4 rfl) ?_
          refine lv_aload_n hx hb dX0_crossesAbove_29 rfl (lv_at hl 0 rfl) ?_
          have g_7 : -2147483648 ≤ S 2 0 ∧ S 2 0 < 2147483648 := hR 2 0 (by decide)
          refine va_get (D := D) (ci := 0) (v := .int (zI (S 2 0))) (C := RX0) (T := TX0) (N := 5) hx hb hT inX0 hown hK hP 2 rfl rfl 0 (by decide) (hT _ q_45) (fun _ h9 => h9) rfl dX0_crossesAbove_30 ?_
          refine z_icmp_ge (tgt := 94) hx hb (by omega) (by omega) (by omega) (by omega) dX0_crossesAbove_33 (by decide) (fun c_8 => ?_) (fun c_8 => ?_)
          · have h9 : True := trivial
            refine z_iconst hx hb dX0_crossesAbove_94 ?_
            exact g_zret (S1 := S) (bo := false) hx hb hr hlocks hP hR hS (⟨rfl, by rw [← crN_p]; exact pF (fun h => by unfold crQ at h; rw [hmt, hp9] at h; obtain ⟨_, _, b, hb1, hb2⟩ := h; exact hno b (by omega) hb2)⟩) dX0_crossesAbove_95
          · have h9 : True := trivial
            refine lv_aload_n hx hb dX0_crossesAbove_36 rfl (lv_at hl 0 rfl) ?_
            refine va_get (D := D) (ci := 0) (v := .ref (ad 6)) (C := RX0) (T := TX0) (N := 5) hx hb hT inX0 hown hK hP 2 rfl rfl 4 (by decide) (hT _ q_57) (fun _ h9 => h9) rfl dX0_crossesAbove_37 ?_
            refine lv_iload hx hb dX0_crossesAbove_40 (lv_at hl 4 rfl) ?_
            have g_9 : -2147483648 ≤ S 6 i ∧ S 6 i < 2147483648 := hR 6 i (by decide)
            refine z_ald (f := S 6) hx hb hK hP 11 0 rfl rfl (by omega) (by omega) (by decide) (j := i) rfl dX0_crossesAbove_42 ?_
            have hpi := pnN_le o i
            refine z_top (b := (↑(pnN o i) : Int) - 1) (hpn i (by omega)) ?_
            refine lv_aload_n hx hb dX0_crossesAbove_43 rfl (lv_at hl 0 rfl) ?_
            refine va_get (D := D) (ci := 0) (v := .ref (ad 6)) (C := RX0) (T := TX0) (N := 5) hx hb hT inX0 hown hK hP 2 rfl rfl 4 (by decide) (hT _ q_57) (fun _ h9 => h9) rfl dX0_crossesAbove_44 ?_
            refine lv_iload_n hx hb dX0_crossesAbove_47 rfl (lv_at hl 3 rfl) ?_
            have g_10 : -2147483648 ≤ S 6 ((↑mt : Int) - 1).toNat ∧ S 6 ((↑mt : Int) - 1).toNat < 2147483648 := hR 6 _ (by decide)
            refine z_ald (f := S 6) hx hb hK hP 11 0 rfl rfl (by omega) (by omega) (by decide) (j := ((↑mt : Int) - 1).toNat) rfl dX0_crossesAbove_48 ?_
            refine z_top (b := (↑p9 : Int) - 1) (by rw [show ((↑mt : Int) - 1).toNat = mt - 1 by omega, hpn _ (by omega), hp9]) ?_
            refine z_icmp_gt (tgt := 55) hx hb (by omega) (by omega) (by omega) (by omega) dX0_crossesAbove_49 (by decide) (fun c_11 => ?_) (fun c_11 => ?_)
            · have h9 : True := trivial
              refine lv_aload_n hx hb dX0_crossesAbove_55 rfl (lv_at hl 0 rfl) ?_
              refine lv_iload hx hb dX0_crossesAbove_56 (lv_at hl 4 rfl) ?_
              refine lv_iload_n hx hb dX0_crossesAbove_58 rfl (lv_at hl 2 rfl) ?_
              refine g_callVi (As := [.int (zI (↑i)), .int (zI (y))]) (rest := []) ⟨hx, hb, hml, hown, hts⟩ (k_X0_mateOf l D cI cZ ad az av hinj S hR n hn hn7 (i) (sd) ↑i y (by omega) (by omega) (by omega) (by omega)) (cwV 2 hts (gV hsub q_340 q_342 q_sX0_mateOf q_3 q_343) rfl rfl rfl hdX0_mateOf ⟨Nat.le_of_ble_eq_true rfl, Nat.le_of_ble_eq_true rfl⟩) (cEb D cI cZ ad az av) (cEk D cI cZ ad az av) hE (va_recv (ci := 0) (q0 := 2) hK hP rfl rfl) hP hS rfl hl.1 rfl (Nat.le_of_ble_eq_true rfl) dX0_crossesAbove_59 ⟨Nat.le_of_ble_eq_true rfl, Nat.le_of_ble_eq_true rfl⟩ (fun r_12 S_13 H locs hq_14 hP hR hS _ => ?_)
              obtain ⟨hs9, rfl⟩ := hq_14
              obtain rfl := hs9.symm
              refine z_top (b := (↑(mtN n i sd) : Int) - 1) rfl ?_
              have hmi := mtN_le n i sd
              refine z_top (b := (↑(mtN n i sd) : Int) - 1) (rfl) ?_
              refine lv_istore (lv' := [(5, .int (zI ((↑(mtN n i sd) : Int) - 1))), (0, .ref (ad 42)), (1, .int (zI (x))), (2, .int (zI (y))), (3, .int (zI ((↑mt : Int) - 1))), (4, .int (zI (↑i)))]) hx hb dX0_crossesAbove_62 hl (by decide) rfl (fun ls hl => ?_)
              refine lv_iload hx hb dX0_crossesAbove_64 (lv_at hl 0 rfl) ?_
              refine z_iconst hx hb dX0_crossesAbove_66 ?_
              refine z_icmp_eq (tgt := 88) hx hb (by omega) (by omega) (by omega) (by omega) dX0_crossesAbove_67 (by decide) (fun c_15 => ?_) (fun c_15 => ?_)
              · have h9 : True := trivial
                refine z_iinc (lv' := [(4, .int (zI (↑i + 1))), (5, .int (zI ((↑(mtN n i sd) : Int) - 1))), (0, .ref (ad 42)), (1, .int (zI (x))), (2, .int (zI (y))), (3, .int (zI ((↑mt : Int) - 1)))]) hx hb dX0_crossesAbove_88 hl (k := 5) rfl (by decide) rfl (fun ls hl => ?_)
                refine lv_goto (tgt := 27) hx hb dX0_crossesAbove_91 (by decide) ?_
                exact ih_27 (i + 1) _ _ _ (by omega) (by omega) (lt_s hno (by omega)) (by omega) hP hR hS (lv_sub hl [2, 3, 4, 5, 0] rfl)
              · have h9 : True := trivial
                refine lv_aload_n hx hb dX0_crossesAbove_70 rfl (lv_at hl 1 rfl) ?_
                refine va_get (D := D) (ci := 0) (v := .ref (ad 6)) (C := RX0) (T := TX0) (N := 5) hx hb hT inX0 hown hK hP 2 rfl rfl 4 (by decide) (hT _ q_57) (fun _ h9 => h9) rfl dX0_crossesAbove_71 ?_
                refine lv_iload hx hb dX0_crossesAbove_74 (lv_at hl 0 rfl) ?_
                have g_16 : -2147483648 ≤ S 6 ((↑(mtN n i sd) : Int) - 1).toNat ∧ S 6 ((↑(mtN n i sd) : Int) - 1).toNat < 2147483648 := hR 6 _ (by decide)
                refine z_ald (f := S 6) hx hb hK hP 11 0 rfl rfl (by omega) (by omega) (by decide) (j := ((↑(mtN n i sd) : Int) - 1).toNat) rfl dX0_crossesAbove_76 ?_
                have hpe := pnN_le o (mtN n i sd - 1)
                refine z_top (b := (↑(pnN o (mtN n i sd - 1)) : Int) - 1) (by rw [show ((↑(mtN n i sd) : Int) - 1).toNat = mtN n i sd - 1 by omega]; exact hpn _ (by omega)) ?_
                refine lv_aload_n hx hb dX0_crossesAbove_77 rfl (lv_at hl 1 rfl) ?_
                refine va_get (D := D) (ci := 0) (v := .ref (ad 6)) (C := RX0) (T := TX0) (N := 5) hx hb hT inX0 hown hK hP 2 rfl rfl 4 (by decide) (hT _ q_57) (fun _ h9 => h9) rfl dX0_crossesAbove_78 ?_
                refine lv_iload_n hx hb dX0_crossesAbove_81 rfl (lv_at hl 4 rfl) ?_
                refine z_ald (f := S 6) hx hb hK hP 11 0 rfl rfl (by omega) (by omega) (by decide) (j := ((↑mt : Int) - 1).toNat) rfl dX0_crossesAbove_82 ?_
                refine z_top (b := (↑p9 : Int) - 1) (by rw [show ((↑mt : Int) - 1).toNat = mt - 1 by omega, hpn _ (by omega), hp9]) ?_
                refine z_icmp_ge (tgt := 88) hx hb (by omega) (by omega) (by omega) (by omega) dX0_crossesAbove_83 (by decide) (fun c_17 => ?_) (fun c_17 => ?_)
                · have h9 : True := trivial
                  refine z_iinc (lv' := [(4, .int (zI (↑i + 1))), (5, .int (zI ((↑(mtN n i sd) : Int) - 1))), (0, .ref (ad 42)), (1, .int (zI (x))), (2, .int (zI (y))), (3, .int (zI ((↑mt : Int) - 1)))]) hx hb dX0_crossesAbove_88 hl (k := 5) rfl (by decide) rfl (fun ls hl => ?_)
                  refine lv_goto (tgt := 27) hx hb dX0_crossesAbove_91 (by decide) ?_
                  exact ih_27 (i + 1) _ _ _ (by omega) (by omega) (lt_s hno (by omega)) (by omega) hP hR hS (lv_sub hl [2, 3, 4, 5, 0] rfl)
                · have h9 : True := trivial
                  refine z_iconst hx hb dX0_crossesAbove_86 ?_
                  exact g_zret (S1 := S) (bo := true) hx hb hr hlocks hP hR hS (⟨rfl, by rw [← crN_p]; exact pT (by unfold crQ; rw [hmt, hp9]; exact ⟨by omega, by omega, i, by omega, by omega, by omega, by omega⟩)⟩) dX0_crossesAbove_87
            · have h9 : True := trivial
              refine lv_goto (tgt := 88) hx hb dX0_crossesAbove_52 (by decide) ?_
              refine z_iinc (lv' := [(4, .int (zI (↑i + 1))), (0, .ref (ad 42)), (1, .int (zI (x))), (2, .int (zI (y))), (3, .int (zI ((↑mt : Int) - 1)))]) hx hb dX0_crossesAbove_88 hl (k := 4) rfl (by decide) rfl (fun ls hl => ?_)
              refine lv_goto (tgt := 27) hx hb dX0_crossesAbove_91 (by decide) ?_
              exact ih_27 (i + 1) _ _ _ (by omega) (by omega) (lt_s hno (by omega)) (by omega) hP hR hS (lv_sub hl [1, 2, 3, 4, 0] rfl)
      exact cut_27 _ 0 _ _ _ (by omega) (by omega) (fun j h => absurd h (Nat.not_lt_zero j)) (Nat.lt_succ_self _) hP hR hS (lv_sub hl [2, 3, 4, 1, 0] rfl)
    · have h9 : True := trivial
      refine z_iconst hx hb dX0_crossesAbove_22 ?_
      exact g_zret (S1 := S) (bo := false) hx hb hr hlocks hP hR hS (⟨rfl, by rw [← crN_p]; exact pF (fun h => by unfold crQ at h; rw [hmt, hp9] at h; omega)⟩) dX0_crossesAbove_23
set_option maxHeartbeats 4000000 in
set_option maxRecDepth 100000 in
theorem k_X0_canComeNext (l : Launch) (D : va_G) (cI cZ : ClassId) (ad : Nat → Nat) (az av : Nat) (hinj : cInj ad) (S : St) (hR : RS S) (n : Nat) (hn : S 2 0 = ↑n) (hn7 : n ≤ 7) (o : List Nat) (hpn : ∀ v, v < n → S 6 v = (pnN o v : Int) - 1) (hol : o.length ≤ 7) (v : Nat) (x : Int) (hxv : x = ↑v) (hv : v < n) : Met l yX0_canComeNext (Cond.code yX0_canComeNext cX0_canComeNext 2 (some .boolean) :: lwT) ({ frames := 2, cells := 0, slots := 0, locals := 48 }) (gPc D (cW cI cZ ad) (cE D cI cZ ad az av) S [.ref (ad 42), .int (zI (x))]) (va_Qi (fun (r : Int32) (S' : St) => S' = S ∧ r = zI (b2 (okN n o v))) (gB D (cW cI cZ ad)) (cA ad)) 0 0 (cA ad) := by
  refine Met.ofW (cc := cX0_canComeNext) (maxL := 2) (ret := (some .boolean)) (by decide) rfl ?_
  intro p e s m args below meth c s₁ B hml hv
  obtain ⟨rfl, hP, hE⟩ := hv
  have hx := B.exec
  have hb := B.bytes
  have hr := B.returns
  have hts := atoms_spec (ws := Cond.code yX0_canComeNext cX0_canComeNext 2 (some .boolean) :: lwT) B.pre
  have hT := fun w (h : w ∈ lwT) => hts w (List.mem_cons_of_mem _ h)
  have hsub : ∀ w ∈ lwT, w ∈ (Cond.code yX0_canComeNext cX0_canComeNext 2 (some .boolean) :: lwT) := fun w h => List.mem_cons_of_mem _ h
  have hown : s.vm.findClass RX0 = some m.cls := findClass_of_methodNamed B.named
  have hlocks := B.notSynchronized
  have hK : va_K D vwCl [(cI, .int), (cZ, .boolean)] s := hE.1
  have hS : va_S (cA ad) s.heap s.heap [] := va_S.rf
  have hl := lv_entry ([.ref (ad 42), .int (zI (x))]) (n := 2) (Nat.le_of_ble_eq_true rfl)
  rw [lg_entry_eq]
  generalize (lg_sl ([.ref (ad 42), .int (zI (x))]) ++ List.replicate (2 - (lg_sl ([.ref (ad 42), .int (zI (x))])).length) Slot.unset).toArray = ls at hl ⊢
  have hl : lv_has ls 2 [(0, .ref (ad 42)), (1, .int (zI (x)))] := hl
  have hpi := pnN_le o v
  refine lv_aload_n hx hb dX0_canComeNext_0 rfl (lv_at hl 0 rfl) ?_
  refine va_get (D := D) (ci := 0) (v := .ref (ad 6)) (C := RX0) (T := TX0) (N := 5) hx hb hT inX0 hown hK hP 2 rfl rfl 4 (by decide) (hT _ q_57) (fun _ h9 => h9) rfl dX0_canComeNext_1 ?_
  refine lv_iload_n hx hb dX0_canComeNext_4 rfl (lv_at hl 1 rfl) ?_
  have g_1 : -2147483648 ≤ S 6 (x).toNat ∧ S 6 (x).toNat < 2147483648 := hR 6 ((x).toNat) (by decide)
  refine z_ald (f := S 6) hx hb hK hP 11 0 rfl rfl (by omega) (by omega) (by decide) (j := (x).toNat) rfl dX0_canComeNext_5 ?_
  refine z_top (b := (↑(pnN o v) : Int) - 1) (by rw [show x.toNat = v by omega]; exact hpn v hv) ?_
  refine z_iconst hx hb dX0_canComeNext_6 ?_
  refine z_icmp_ne (tgt := 32) hx hb (by omega) (by omega) (by omega) (by omega) dX0_canComeNext_7 (by decide) (fun c_2 => ?_) (fun c_2 => ?_)
  · have h9 : True := trivial
    refine z_iconst hx hb dX0_canComeNext_32 ?_
    exact g_zret (S1 := S) (bo := false) hx hb hr hlocks hP hR hS (⟨rfl, by rw [okN_1 (by omega)]⟩) dX0_canComeNext_33
  · have h9 : True := trivial
    refine lv_aload_n hx hb dX0_canComeNext_10 rfl (lv_at hl 0 rfl) ?_
    refine lv_iload_n hx hb dX0_canComeNext_11 rfl (lv_at hl 1 rfl) ?_
    refine z_iconst hx hb dX0_canComeNext_12 ?_
    refine g_callVi (As := [.int (zI (x)), .int (zI (0))]) (rest := []) ⟨hx, hb, hml, hown, hts⟩ (k_X0_crossesAbove l D cI cZ ad az av hinj S hR n hn hn7 o hpn hol (v) (0) x 0 (by omega) (by omega) (by omega) (by omega)) (cwV 2 hts (gV hsub q_336 q_338 q_sX0_crossesAbove q_3 q_339) rfl rfl rfl hdX0_crossesAbove ⟨Nat.le_of_ble_eq_true rfl, Nat.le_of_ble_eq_true rfl⟩) (cEb D cI cZ ad az av) (cEk D cI cZ ad az av) hE (va_recv (ci := 0) (q0 := 2) hK hP rfl rfl) hP hS rfl hl.1 rfl (Nat.le_of_ble_eq_true rfl) dX0_canComeNext_13 ⟨Nat.le_of_ble_eq_true rfl, Nat.le_of_ble_eq_true rfl⟩ (fun r_3 S_4 H locs hq_5 hP hR hS _ => ?_)
    obtain ⟨hs9, rfl⟩ := hq_5
    obtain rfl := hs9.symm
    refine z_top (b := b2 (crN n o v 0)) rfl ?_
    refine z_ifneB (tgt := 32) hx hb dX0_canComeNext_16 (by decide) (fun c_6 => ?_) (fun c_6 => ?_)
    · have h9 : True := trivial
      refine z_iconst hx hb dX0_canComeNext_32 ?_
      exact g_zret (S1 := S) (bo := false) hx hb hr hlocks hP hR hS (⟨rfl, by rw [okN_2 c_6]⟩) dX0_canComeNext_33
    · have h9 : True := trivial
      refine lv_aload_n hx hb dX0_canComeNext_19 rfl (lv_at hl 0 rfl) ?_
      refine lv_iload_n hx hb dX0_canComeNext_20 rfl (lv_at hl 1 rfl) ?_
      refine z_iconst hx hb dX0_canComeNext_21 ?_
      refine g_callVi (As := [.int (zI (x)), .int (zI (1))]) (rest := []) ⟨hx, hb, hml, hown, hts⟩ (k_X0_crossesAbove l D cI cZ ad az av hinj S hR n hn hn7 o hpn hol (v) (1) x 1 (by omega) (by omega) (by omega) (by omega)) (cwV 2 hts (gV hsub q_336 q_338 q_sX0_crossesAbove q_3 q_339) rfl rfl rfl hdX0_crossesAbove ⟨Nat.le_of_ble_eq_true rfl, Nat.le_of_ble_eq_true rfl⟩) (cEb D cI cZ ad az av) (cEk D cI cZ ad az av) hE (va_recv (ci := 0) (q0 := 2) hK hP rfl rfl) hP hS rfl hl.1 rfl (Nat.le_of_ble_eq_true rfl) dX0_canComeNext_22 ⟨Nat.le_of_ble_eq_true rfl, Nat.le_of_ble_eq_true rfl⟩ (fun r_7 S_8 H locs hq_9 hP hR hS _ => ?_)
      obtain ⟨hs9, rfl⟩ := hq_9
      obtain rfl := hs9.symm
      refine z_top (b := b2 (crN n o v 1)) rfl ?_
      refine z_ifneB (tgt := 32) hx hb dX0_canComeNext_25 (by decide) (fun c_10 => ?_) (fun c_10 => ?_)
      · have h9 : True := trivial
        refine z_iconst hx hb dX0_canComeNext_32 ?_
        exact g_zret (S1 := S) (bo := false) hx hb hr hlocks hP hR hS (⟨rfl, by rw [okN_3 c_10]⟩) dX0_canComeNext_33
      · have h9 : True := trivial
        refine z_iconst hx hb dX0_canComeNext_28 ?_
        refine lv_goto (tgt := 33) hx hb dX0_canComeNext_29 (by decide) ?_
        exact g_zret (S1 := S) (bo := true) hx hb hr hlocks hP hR hS (⟨rfl, by rw [okN_4 (by omega) c_6 c_10]⟩) dX0_canComeNext_33
set_option maxHeartbeats 4000000 in
set_option maxRecDepth 100000 in
theorem k_X0_keep (l : Launch) (D : va_G) (cI cZ : ClassId) (ad : Nat → Nat) (az av : Nat) (hinj : cInj ad) (S : St) (hR : RS S) (n : Nat) (hn : S 2 0 = ↑n) (hn7 : n ≤ 7) (o : List Nat) (hpn : ∀ v, v < n → S 6 v = (pnN o v : Int) - 1) (hol : o.length ≤ 7) (sz : Nat) (hsz : S 3 0 = ↑sz) (hszl : sz < 462) (hg : gdO n o) (hlen : o.length = n) (x : Int) (hx9 : x = cdO o) : Met l yX0_keep (Cond.code yX0_keep cX0_keep 4 none :: lwT) ({ frames := 0, cells := 0, slots := 0, locals := 0 }) (gPc D (cW cI cZ ad) (cE D cI cZ ad az av) S [.ref (ad 42), .int (zI (x))]) (va_Qv (fun (S' : St) => S' = sA (sA (sA S 4 (uZ (S 4) sz (cdO o))) 5 (uZ (S 5) sz (plO n o))) 3 (fun _ => ↑sz + 1)) (gB D (cW cI cZ ad)) (cA ad)) 0 0 (cA ad) := by
  refine Met.ofW (cc := cX0_keep) (maxL := 4) (ret := none) (by decide) rfl ?_
  intro p e s m args below meth c s₁ B hml hv
  obtain ⟨rfl, hP, hE⟩ := hv
  have hx := B.exec
  have hb := B.bytes
  have hr := B.returns
  have hts := atoms_spec (ws := Cond.code yX0_keep cX0_keep 4 none :: lwT) B.pre
  have hT := fun w (h : w ∈ lwT) => hts w (List.mem_cons_of_mem _ h)
  have hsub : ∀ w ∈ lwT, w ∈ (Cond.code yX0_keep cX0_keep 4 none :: lwT) := fun w h => List.mem_cons_of_mem _ h
  have hown : s.vm.findClass RX0 = some m.cls := findClass_of_methodNamed B.named
  have hlocks := B.notSynchronized
  have hK : va_K D vwCl [(cI, .int), (cZ, .boolean)] s := hE.1
  have hS : va_S (cA ad) s.heap s.heap [] := va_S.rf
  have hcr := cdO_r hn7 hg
  have hpa : ∀ v, v < n → pnN o v ≠ 0 ∧ pnN o v ≤ 7 := fun v hv => ⟨gdO_all hg hlen hv, by have := pnN_le o v; omega⟩
  have hl := lv_entry ([.ref (ad 42), .int (zI (x))]) (n := 4) (Nat.le_of_ble_eq_true rfl)
  rw [lg_entry_eq]
  generalize (lg_sl ([.ref (ad 42), .int (zI (x))]) ++ List.replicate (4 - (lg_sl ([.ref (ad 42), .int (zI (x))])).length) Slot.unset).toArray = ls at hl ⊢
  have hl : lv_has ls 4 [(0, .ref (ad 42)), (1, .int (zI (x)))] := hl
  refine lv_aload_n hx hb dX0_keep_0 rfl (lv_at hl 0 rfl) ?_
  have g_1 : -2147483648 ≤ S 3 0 ∧ S 3 0 < 2147483648 := hR 3 0 (by decide)
  refine va_get (D := D) (ci := 0) (v := .int (zI (S 3 0))) (C := RX0) (T := TX0) (N := 5) hx hb hT inX0 hown hK hP 2 rfl rfl 1 (by decide) (hT _ q_50) (fun _ h9 => h9) rfl dX0_keep_1 ?_
  refine z_sipush hx hb dX0_keep_4 (by decide) ?_
  refine z_icmp_lt (tgt := 11) hx hb (by omega) (by omega) (by omega) (by omega) dX0_keep_7 (by decide) (fun c_2 => ?_) (fun c_2 => ?_)
  · have h9 : True := trivial
    refine lv_aload_n hx hb dX0_keep_11 rfl (lv_at hl 0 rfl) ?_
    refine va_get (D := D) (ci := 0) (v := .ref (ad 4)) (C := RX0) (T := TX0) (N := 5) hx hb hT inX0 hown hK hP 2 rfl rfl 2 (by decide) (hT _ q_55) (fun _ h9 => h9) rfl dX0_keep_12 ?_
    refine lv_aload_n hx hb dX0_keep_15 rfl (lv_at hl 0 rfl) ?_
    refine va_get (D := D) (ci := 0) (v := .int (zI (S 3 0))) (C := RX0) (T := TX0) (N := 5) hx hb hT inX0 hown hK hP 2 rfl rfl 1 (by decide) (hT _ q_50) (fun _ h9 => h9) rfl dX0_keep_16 ?_
    refine lv_iload_n hx hb dX0_keep_19 rfl (lv_at hl 1 rfl) ?_
    refine z_ast (f := S 4) (i := S 3 0) (v := x) hx hb hK hP (cD hinj cI cZ _) hS 9 0 rfl rfl (by omega) (by omega) (by decide) dX0_keep_20 (fun H locs hP hS => ?_)
    have hP : va_P D vwCl (cW cI cZ ad (sA S 4 (uZ (S 4) (S 3 0).toNat x))) H := hP
    have hR : RS (sA S 4 (uZ (S 4) (S 3 0).toNat x)) := hR.put (by omega) (by omega)
    refine z_iconst hx hb dX0_keep_21 ?_
    refine lv_istore_n (lv' := [(2, .int (zI (0))), (0, .ref (ad 42)), (1, .int (zI (x)))]) hx hb dX0_keep_22 rfl hl (by decide) rfl (fun ls hl => ?_)
    refine z_iconst hx hb dX0_keep_23 ?_
    refine lv_istore_n (lv' := [(3, .int (zI (0))), (2, .int (zI (0))), (0, .ref (ad 42)), (1, .int (zI (x)))]) hx hb dX0_keep_24 rfl hl (by decide) rfl (fun ls hl => ?_)
    have cut_25 : ∀ (k9 : Nat) (i : Nat) (y : Int) (H : Heap) (locs : List Loc) (ls : Array Slot), (i ≤ n) → (y = plO i o) → (n - i) < k9 → va_P D vwCl (cW cI cZ ad (sA S 4 (uZ (S 4) (S 3 0).toNat x))) H → RS (sA S 4 (uZ (S 4) (S 3 0).toNat x)) → va_S (cA ad) s.heap H locs → lv_has ls 4 [(0, .ref (ad 42)), (1, .int (zI (x))), (2, .int (zI (y))), (3, .int (zI (↑i)))] → W p l e (headSpec (Cond.code yX0_keep cX0_keep 4 none :: lwT) ({ frames := 0, cells := 0, slots := 0, locals := 0 })).room s m ([.ref (ad 42), .int (zI (x))] : List Value).toArray below meth c H locs 0 0 (MQ below (va_Qv (fun (S' : St) => S' = sA (sA (sA S 4 (uZ (S 4) sz (cdO o))) 5 (uZ (S 5) sz (plO n o))) 3 (fun _ => ↑sz + 1)) (gB D (cW cI cZ ad)) (cA ad)) ([.ref (ad 42), .int (zI (x))] : List Value).toArray s 0 0 (cA ad)) (F0 m 25 ls []) := by
      intro k9
      induction k9 with
      | zero =>
        intro i y H locs ls hi hy hk9 hP hR hS hl
        exact absurd hk9 (Nat.not_lt_zero _)
      | succ k9 ih_25 =>
        intro i y H locs ls hi hy hk9 hP hR hS hl
        have hyr := plO_r (o := o) (i := i) (fun v hv => ⟨(hpa v (by omega)).1, by have := (hpa v (by omega)).2; omega⟩)
        rw [← hy] at hyr
        have hpw := pw2 (3 * i) (by omega)
        refine lv_iload_n hx hb dX0_keep_25 rfl (lv_at hl 3 rfl) ?_
        refine lv_aload_n hx hb dX0_keep_26 rfl (lv_at hl 0 rfl) ?_
        have g_3 : -2147483648 ≤ S 2 0 ∧ S 2 0 < 2147483648 := hR 2 0 (by decide)
        refine va_get (D := D) (ci := 0) (v := .int (zI (S 2 0))) (C := RX0) (T := TX0) (N := 5) hx hb hT inX0 hown hK hP 2 rfl rfl 0 (by decide) (hT _ q_45) (fun _ h9 => h9) rfl dX0_keep_27 ?_
        refine z_icmp_ge (tgt := 52) hx hb (by omega) (by omega) (by omega) (by omega) dX0_keep_30 (by decide) (fun c_4 => ?_) (fun c_4 => ?_)
        · have h9 : True := trivial
          refine lv_aload_n hx hb dX0_keep_52 rfl (lv_at hl 0 rfl) ?_
          refine va_get (D := D) (ci := 0) (v := .ref (ad 5)) (C := RX0) (T := TX0) (N := 5) hx hb hT inX0 hown hK hP 2 rfl rfl 3 (by decide) (hT _ q_56) (fun _ h9 => h9) rfl dX0_keep_53 ?_
          refine lv_aload_n hx hb dX0_keep_56 rfl (lv_at hl 0 rfl) ?_
          have g_5 : -2147483648 ≤ S 3 0 ∧ S 3 0 < 2147483648 := hR 3 0 (by decide)
          refine va_get (D := D) (ci := 0) (v := .int (zI (S 3 0))) (C := RX0) (T := TX0) (N := 5) hx hb hT inX0 hown hK hP 2 rfl rfl 1 (by decide) (hT _ q_50) (fun _ h9 => h9) rfl dX0_keep_57 ?_
          refine lv_iload_n hx hb dX0_keep_60 rfl (lv_at hl 2 rfl) ?_
          refine z_ast (f := (sA S 4 (uZ (S 4) (S 3 0).toNat x)) 5) (i := S 3 0) (v := y) hx hb hK hP (cD hinj cI cZ _) hS 10 0 rfl rfl (by omega) (by omega) (by decide) dX0_keep_61 (fun H locs hP hS => ?_)
          have hP : va_P D vwCl (cW cI cZ ad (sA (sA S 4 (uZ (S 4) (S 3 0).toNat x)) 5 (uZ (S 5) (S 3 0).toNat y))) H := hP
          have hR : RS (sA (sA S 4 (uZ (S 4) (S 3 0).toNat x)) 5 (uZ (S 5) (S 3 0).toNat y)) := hR.put (by omega) (by omega)
          refine lv_aload_n hx hb dX0_keep_62 rfl (lv_at hl 0 rfl) ?_
          refine lv_dup hx hb dX0_keep_63 rfl ?_
          refine va_get (D := D) (ci := 0) (v := .int (zI (S 3 0))) (C := RX0) (T := TX0) (N := 5) hx hb hT inX0 hown hK hP 2 rfl rfl 1 (by decide) (hT _ q_50) (fun _ h9 => h9) rfl dX0_keep_64 ?_
          refine z_iconst hx hb dX0_keep_67 ?_
          refine z_iadd hx hb dX0_keep_68 ?_
          refine va_put (D := D) (ci := 0) (v := .int (zI ((S 3 0) + 1))) (ty := .int) (C := RX0) (T := TX0) (N := 5) hx hb hT inX0 tyX0 tyX0_ok nmX0 hown hK hP (cD hinj cI cZ _) hS 2 rfl rfl 1 (by decide) (hT _ q_50) (fun _ h9 => h9) rfl (by decide +kernel) rfl rfl (Nat.le_of_ble_eq_true rfl) dX0_keep_69 (fun H locs hP _ hS => ?_)
          have hP : va_P D vwCl (cW cI cZ ad (sA (sA (sA S 4 (uZ (S 4) (S 3 0).toNat x)) 5 (uZ (S 5) (S 3 0).toNat y)) 3 (fun _ => (S 3 0) + 1))) H := hP
          have hR : RS (sA (sA (sA S 4 (uZ (S 4) (S 3 0).toNat x)) 5 (uZ (S 5) (S 3 0).toNat y)) 3 (fun _ => (S 3 0) + 1)) := hR.one (by omega) (by omega)
          exact g_vret (S1 := sA (sA (sA S 4 (uZ (S 4) (S 3 0).toNat x)) 5 (uZ (S 5) (S 3 0).toNat y)) 3 (fun _ => (S 3 0) + 1)) hx hb hr hlocks hP hR hS (by rw [show (S 3 0).toNat = sz by omega, hsz, hy, hx9, show i = n by omega]) dX0_keep_72
        · have h9 : True := trivial
          refine lv_iload_n hx hb dX0_keep_33 rfl (lv_at hl 2 rfl) ?_
          refine lv_aload_n hx hb dX0_keep_34 rfl (lv_at hl 0 rfl) ?_
          refine va_get (D := D) (ci := 0) (v := .ref (ad 6)) (C := RX0) (T := TX0) (N := 5) hx hb hT inX0 hown hK hP 2 rfl rfl 4 (by decide) (hT _ q_57) (fun _ h9 => h9) rfl dX0_keep_35 ?_
          refine lv_iload_n hx hb dX0_keep_38 rfl (lv_at hl 3 rfl) ?_
          have g_6 : -2147483648 ≤ S 6 i ∧ S 6 i < 2147483648 := hR 6 i (by decide)
          refine z_ald (f := S 6) hx hb hK hP 11 0 rfl rfl (by omega) (by omega) (by decide) (j := i) rfl dX0_keep_39 ?_
          have hp7 := hpa i (by omega)
          refine z_top (b := (↑(pnN o i) : Int) - 1) (hpn i (by omega)) ?_
          refine z_iconst hx hb dX0_keep_40 ?_
          refine lv_iload_n hx hb dX0_keep_41 rfl (lv_at hl 3 rfl) ?_
          refine z_imul hx hb dX0_keep_42 ?_
          have hab : ((↑(pnN o i) : Int) - 1) * 2 ^ (3 * i) ≤ 6 * 2 ^ (3 * i) := Int.mul_le_mul_of_nonneg_right (by omega) (by omega)
          have ha0 : 0 ≤ ((↑(pnN o i) : Int) - 1) * 2 ^ (3 * i) := Int.mul_nonneg (by omega) (by omega)
          have hpx := pw2 (3 * i) (by omega)
          refine z_ishl hx hb (3 * i) (by omega) (by omega) (by omega) (by omega) dX0_keep_43 ?_
          refine z_iorT hx hb (3 * i) (by omega) (by omega) (by omega) (Int.mul_emod_left _ _) dX0_keep_44 ?_
          refine lv_istore_n (lv' := [(2, .int (zI (y + (((↑(pnN o i) : Int) - 1) * 2 ^ (3 * i))))), (0, .ref (ad 42)), (1, .int (zI (x))), (3, .int (zI (↑i)))]) hx hb dX0_keep_45 rfl hl (by decide) rfl (fun ls hl => ?_)
          refine z_iinc (lv' := [(3, .int (zI (↑i + 1))), (2, .int (zI (y + (((↑(pnN o i) : Int) - 1) * 2 ^ (3 * i))))), (0, .ref (ad 42)), (1, .int (zI (x)))]) hx hb dX0_keep_46 hl (k := 3) rfl (by decide) rfl (fun ls hl => ?_)
          refine lv_goto (tgt := 25) hx hb dX0_keep_49 (by decide) ?_
          exact ih_25 (i + 1) (y + (((↑(pnN o i) : Int) - 1) * 2 ^ (3 * i))) _ _ _ (by omega) (by rw [hy]; rfl) (by omega) hP hR hS (lv_sub hl [2, 3, 1, 0] rfl)
    exact cut_25 _ 0 0 _ _ _ (by omega) (rfl) (Nat.lt_succ_self _) hP hR hS (lv_sub hl [2, 3, 1, 0] rfl)
  · exact False.elim (by omega)
