set_option maxHeartbeats 4000000 in
set_option maxRecDepth 100000 in
theorem k_X7_placeOf_6 (l : Launch) (D : va_G) (cI : ClassId) (ad : Nat → Nat) (hinj : mInj ad) (S : St) (hR : RS S) (n : Nat) (hn7 : n ≤ 7) (v : Nat) (x : Int) (hxv : x = ↑v) (hv : v < n) (hp : prm n (S 6)) : Met l yX7_placeOf (Cond.code yX7_placeOf cX7_placeOf 3 (some .int) :: lwT) ({ frames := 0, cells := 0, slots := 0, locals := 0 }) (gPc D (mW cI ad) (mE D cI) S [.ref (ad 6), .int (zI (x))]) (va_Qi (fun (r : Int32) (S' : St) => S' = S ∧ r = zI ↑(pl n (S 6) v)) (gB D (mW cI ad)) (mA ad)) 0 0 (mA ad) := by
  refine Met.ofW (cc := cX7_placeOf) (maxL := 3) (ret := (some .int)) (by decide) rfl ?_
  intro p e s m args below meth c s₁ B hml hv
  obtain ⟨rfl, hP, hE⟩ := hv
  have hx := B.exec
  have hb := B.bytes
  have hr := B.returns
  have hts := atoms_spec (ws := Cond.code yX7_placeOf cX7_placeOf 3 (some .int) :: lwT) B.pre
  have hT := fun w (h : w ∈ lwT) => hts w (List.mem_cons_of_mem _ h)
  have hsub : ∀ w ∈ lwT, w ∈ (Cond.code yX7_placeOf cX7_placeOf 3 (some .int) :: lwT) := fun w h => List.mem_cons_of_mem _ h
  have hown : s.vm.findClass RX7 = some m.cls := findClass_of_methodNamed B.named
  have hlocks := B.notSynchronized
  have hK : va_K D vwCl [(cI, .int)] s := hE
  have hS : va_S (mA ad) s.heap s.heap [] := va_S.rf
  have h7 := pl_at hp hv
  have h8 := pl_first hp hv
  have hl := lv_entry ([.ref (ad 6), .int (zI (x))]) (n := 3) (Nat.le_of_ble_eq_true rfl)
  rw [lg_entry_eq]
  generalize (lg_sl ([.ref (ad 6), .int (zI (x))]) ++ List.replicate (3 - (lg_sl ([.ref (ad 6), .int (zI (x))])).length) Slot.unset).toArray = ls at hl ⊢
  have hl : lv_has ls 3 [(0, .ref (ad 6)), (1, .int (zI (x)))] := hl
  refine z_iconst hx hb dX7_placeOf_0 ?_
  refine lv_istore_n (lv' := [(2, .int (zI (0))), (0, .ref (ad 6)), (1, .int (zI (x)))]) hx hb dX7_placeOf_1 rfl hl (by decide) rfl (fun ls hl => ?_)
  have cut_2 : ∀ (k9 : Nat) (i : Nat) (H : Heap) (locs : List Loc) (ls : Array Slot), (i ≤ pl n (S 6) v) → (7 - i) < k9 → va_P D vwCl (mW cI ad S) H → RS S → va_S (mA ad) s.heap H locs → lv_has ls 3 [(0, .ref (ad 6)), (1, .int (zI (x))), (2, .int (zI (↑i)))] → W p l e (headSpec (Cond.code yX7_placeOf cX7_placeOf 3 (some .int) :: lwT) ({ frames := 0, cells := 0, slots := 0, locals := 0 })).room s m ([.ref (ad 6), .int (zI (x))] : List Value).toArray below meth c H locs 0 0 (MQ below (va_Qi (fun (r : Int32) (S' : St) => S' = S ∧ r = zI ↑(pl n (S 6) v)) (gB D (mW cI ad)) (mA ad)) ([.ref (ad 6), .int (zI (x))] : List Value).toArray s 0 0 (mA ad)) (F0 m 2 ls []) := by
    intro k9
    induction k9 with
    | zero =>
      intro i H locs ls hi hk9 hP hR hS hl
      exact absurd hk9 (Nat.not_lt_zero _)
    | succ k9 ih_2 =>
      intro i H locs ls hi hk9 hP hR hS hl
      refine lv_aload_n hx hb dX7_placeOf_2 rfl (lv_at hl 0 rfl) ?_
      refine lv_iload_n hx hb dX7_placeOf_3 rfl (lv_at hl 2 rfl) ?_
      have g_1 : -2147483648 ≤ S 6 i ∧ S 6 i < 2147483648 := hR 6 i (by decide)
      refine z_ald (f := S 6) hx hb hK hP 3 0 rfl rfl (by omega) (by omega) (by decide) (j := i) rfl dX7_placeOf_4 ?_
      refine lv_iload_n hx hb dX7_placeOf_5 rfl (lv_at hl 1 rfl) ?_
      refine z_icmp_eq (tgt := 15) hx hb (by omega) (by omega) (by omega) (by omega) dX7_placeOf_6 (by decide) (fun c_2 => ?_) (fun c_2 => ?_)
      · have h9 : True := trivial
        refine lv_iload_n hx hb dX7_placeOf_15 rfl (lv_at hl 2 rfl) ?_
        exact g_iret (S1 := S) (v := zI (↑i)) hx hb hr hlocks hP hR hS (⟨rfl, by rw [show i = pl n (S 6) v from Nat.le_antisymm hi (Nat.not_lt.mp (fun g => h8 i g (by omega)))]⟩) dX7_placeOf_16
      · have h9 : True := trivial
        refine z_iinc (lv' := [(2, .int (zI (↑i + 1))), (0, .ref (ad 6)), (1, .int (zI (x)))]) hx hb dX7_placeOf_9 hl (k := 2) rfl (by decide) rfl (fun ls hl => ?_)
        refine lv_goto (tgt := 2) hx hb dX7_placeOf_12 (by decide) ?_
        exact ih_2 (i + 1) _ _ _ (Nat.lt_of_le_of_ne hi (fun e => c_2 (by rw [e, h7.2, hxv]))) (by omega) hP hR hS (lv_sub hl [1, 2, 0] rfl)
  exact cut_2 _ 0 _ _ _ (by omega) (Nat.lt_succ_self _) hP hR hS (lv_sub hl [1, 2, 0] rfl)
set_option maxHeartbeats 4000000 in
set_option maxRecDepth 100000 in
theorem k_X7_placeOf_10 (l : Launch) (D : va_G) (cI : ClassId) (ad : Nat → Nat) (hinj : mInj ad) (S : St) (hR : RS S) (n : Nat) (hn7 : n ≤ 7) (v : Nat) (x : Int) (hxv : x = ↑v) (hv : v < n) (hp : prm n (S 10)) : Met l yX7_placeOf (Cond.code yX7_placeOf cX7_placeOf 3 (some .int) :: lwT) ({ frames := 0, cells := 0, slots := 0, locals := 0 }) (gPc D (mW cI ad) (mE D cI) S [.ref (ad 10), .int (zI (x))]) (va_Qi (fun (r : Int32) (S' : St) => S' = S ∧ r = zI ↑(pl n (S 10) v)) (gB D (mW cI ad)) (mA ad)) 0 0 (mA ad) := by
  refine Met.ofW (cc := cX7_placeOf) (maxL := 3) (ret := (some .int)) (by decide) rfl ?_
  intro p e s m args below meth c s₁ B hml hv
  obtain ⟨rfl, hP, hE⟩ := hv
  have hx := B.exec
  have hb := B.bytes
  have hr := B.returns
  have hts := atoms_spec (ws := Cond.code yX7_placeOf cX7_placeOf 3 (some .int) :: lwT) B.pre
  have hT := fun w (h : w ∈ lwT) => hts w (List.mem_cons_of_mem _ h)
  have hsub : ∀ w ∈ lwT, w ∈ (Cond.code yX7_placeOf cX7_placeOf 3 (some .int) :: lwT) := fun w h => List.mem_cons_of_mem _ h
  have hown : s.vm.findClass RX7 = some m.cls := findClass_of_methodNamed B.named
  have hlocks := B.notSynchronized
  have hK : va_K D vwCl [(cI, .int)] s := hE
  have hS : va_S (mA ad) s.heap s.heap [] := va_S.rf
  have h7 := pl_at hp hv
  have h8 := pl_first hp hv
  have hl := lv_entry ([.ref (ad 10), .int (zI (x))]) (n := 3) (Nat.le_of_ble_eq_true rfl)
  rw [lg_entry_eq]
  generalize (lg_sl ([.ref (ad 10), .int (zI (x))]) ++ List.replicate (3 - (lg_sl ([.ref (ad 10), .int (zI (x))])).length) Slot.unset).toArray = ls at hl ⊢
  have hl : lv_has ls 3 [(0, .ref (ad 10)), (1, .int (zI (x)))] := hl
  refine z_iconst hx hb dX7_placeOf_0 ?_
  refine lv_istore_n (lv' := [(2, .int (zI (0))), (0, .ref (ad 10)), (1, .int (zI (x)))]) hx hb dX7_placeOf_1 rfl hl (by decide) rfl (fun ls hl => ?_)
  have cut_2 : ∀ (k9 : Nat) (i : Nat) (H : Heap) (locs : List Loc) (ls : Array Slot), (i ≤ pl n (S 10) v) → (7 - i) < k9 → va_P D vwCl (mW cI ad S) H → RS S → va_S (mA ad) s.heap H locs → lv_has ls 3 [(0, .ref (ad 10)), (1, .int (zI (x))), (2, .int (zI (↑i)))] → W p l e (headSpec (Cond.code yX7_placeOf cX7_placeOf 3 (some .int) :: lwT) ({ frames := 0, cells := 0, slots := 0, locals := 0 })).room s m ([.ref (ad 10), .int (zI (x))] : List Value).toArray below meth c H locs 0 0 (MQ below (va_Qi (fun (r : Int32) (S' : St) => S' = S ∧ r = zI ↑(pl n (S 10) v)) (gB D (mW cI ad)) (mA ad)) ([.ref (ad 10), .int (zI (x))] : List Value).toArray s 0 0 (mA ad)) (F0 m 2 ls []) := by
    intro k9
    induction k9 with
    | zero =>
      intro i H locs ls hi hk9 hP hR hS hl
      exact absurd hk9 (Nat.not_lt_zero _)
    | succ k9 ih_2 =>
      intro i H locs ls hi hk9 hP hR hS hl
      refine lv_aload_n hx hb dX7_placeOf_2 rfl (lv_at hl 0 rfl) ?_
      refine lv_iload_n hx hb dX7_placeOf_3 rfl (lv_at hl 2 rfl) ?_
      have g_1 : -2147483648 ≤ S 10 i ∧ S 10 i < 2147483648 := hR 10 i (by decide)
      refine z_ald (f := S 10) hx hb hK hP 6 0 rfl rfl (by omega) (by omega) (by decide) (j := i) rfl dX7_placeOf_4 ?_
      refine lv_iload_n hx hb dX7_placeOf_5 rfl (lv_at hl 1 rfl) ?_
      refine z_icmp_eq (tgt := 15) hx hb (by omega) (by omega) (by omega) (by omega) dX7_placeOf_6 (by decide) (fun c_2 => ?_) (fun c_2 => ?_)
      · have h9 : True := trivial
        refine lv_iload_n hx hb dX7_placeOf_15 rfl (lv_at hl 2 rfl) ?_
        exact g_iret (S1 := S) (v := zI (↑i)) hx hb hr hlocks hP hR hS (⟨rfl, by rw [show i = pl n (S 10) v from Nat.le_antisymm hi (Nat.not_lt.mp (fun g => h8 i g (by omega)))]⟩) dX7_placeOf_16
      · have h9 : True := trivial
        refine z_iinc (lv' := [(2, .int (zI (↑i + 1))), (0, .ref (ad 10)), (1, .int (zI (x)))]) hx hb dX7_placeOf_9 hl (k := 2) rfl (by decide) rfl (fun ls hl => ?_)
        refine lv_goto (tgt := 2) hx hb dX7_placeOf_12 (by decide) ?_
        exact ih_2 (i + 1) _ _ _ (Nat.lt_of_le_of_ne hi (fun e => c_2 (by rw [e, h7.2, hxv]))) (by omega) hP hR hS (lv_sub hl [1, 2, 0] rfl)
  exact cut_2 _ 0 _ _ _ (by omega) (Nat.lt_succ_self _) hP hR hS (lv_sub hl [1, 2, 0] rfl)
set_option maxHeartbeats 4000000 in
set_option maxRecDepth 100000 in
theorem k_X7_placeOf_11 (l : Launch) (D : va_G) (cI : ClassId) (ad : Nat → Nat) (hinj : mInj ad) (S : St) (hR : RS S) (n : Nat) (hn7 : n ≤ 7) (v : Nat) (x : Int) (hxv : x = ↑v) (hv : v < n) (hp : prm n (S 11)) : Met l yX7_placeOf (Cond.code yX7_placeOf cX7_placeOf 3 (some .int) :: lwT) ({ frames := 0, cells := 0, slots := 0, locals := 0 }) (gPc D (mW cI ad) (mE D cI) S [.ref (ad 11), .int (zI (x))]) (va_Qi (fun (r : Int32) (S' : St) => S' = S ∧ r = zI ↑(pl n (S 11) v)) (gB D (mW cI ad)) (mA ad)) 0 0 (mA ad) := by
  refine Met.ofW (cc := cX7_placeOf) (maxL := 3) (ret := (some .int)) (by decide) rfl ?_
  intro p e s m args below meth c s₁ B hml hv
  obtain ⟨rfl, hP, hE⟩ := hv
  have hx := B.exec
  have hb := B.bytes
  have hr := B.returns
  have hts := atoms_spec (ws := Cond.code yX7_placeOf cX7_placeOf 3 (some .int) :: lwT) B.pre
  have hT := fun w (h : w ∈ lwT) => hts w (List.mem_cons_of_mem _ h)
  have hsub : ∀ w ∈ lwT, w ∈ (Cond.code yX7_placeOf cX7_placeOf 3 (some .int) :: lwT) := fun w h => List.mem_cons_of_mem _ h
  have hown : s.vm.findClass RX7 = some m.cls := findClass_of_methodNamed B.named
  have hlocks := B.notSynchronized
  have hK : va_K D vwCl [(cI, .int)] s := hE
  have hS : va_S (mA ad) s.heap s.heap [] := va_S.rf
  have h7 := pl_at hp hv
  have h8 := pl_first hp hv
  have hl := lv_entry ([.ref (ad 11), .int (zI (x))]) (n := 3) (Nat.le_of_ble_eq_true rfl)
  rw [lg_entry_eq]
  generalize (lg_sl ([.ref (ad 11), .int (zI (x))]) ++ List.replicate (3 - (lg_sl ([.ref (ad 11), .int (zI (x))])).length) Slot.unset).toArray = ls at hl ⊢
  have hl : lv_has ls 3 [(0, .ref (ad 11)), (1, .int (zI (x)))] := hl
  refine z_iconst hx hb dX7_placeOf_0 ?_
  refine lv_istore_n (lv' := [(2, .int (zI (0))), (0, .ref (ad 11)), (1, .int (zI (x)))]) hx hb dX7_placeOf_1 rfl hl (by decide) rfl (fun ls hl => ?_)
  have cut_2 : ∀ (k9 : Nat) (i : Nat) (H : Heap) (locs : List Loc) (ls : Array Slot), (i ≤ pl n (S 11) v) → (7 - i) < k9 → va_P D vwCl (mW cI ad S) H → RS S → va_S (mA ad) s.heap H locs → lv_has ls 3 [(0, .ref (ad 11)), (1, .int (zI (x))), (2, .int (zI (↑i)))] → W p l e (headSpec (Cond.code yX7_placeOf cX7_placeOf 3 (some .int) :: lwT) ({ frames := 0, cells := 0, slots := 0, locals := 0 })).room s m ([.ref (ad 11), .int (zI (x))] : List Value).toArray below meth c H locs 0 0 (MQ below (va_Qi (fun (r : Int32) (S' : St) => S' = S ∧ r = zI ↑(pl n (S 11) v)) (gB D (mW cI ad)) (mA ad)) ([.ref (ad 11), .int (zI (x))] : List Value).toArray s 0 0 (mA ad)) (F0 m 2 ls []) := by
    intro k9
    induction k9 with
    | zero =>
      intro i H locs ls hi hk9 hP hR hS hl
      exact absurd hk9 (Nat.not_lt_zero _)
    | succ k9 ih_2 =>
      intro i H locs ls hi hk9 hP hR hS hl
      refine lv_aload_n hx hb dX7_placeOf_2 rfl (lv_at hl 0 rfl) ?_
      refine lv_iload_n hx hb dX7_placeOf_3 rfl (lv_at hl 2 rfl) ?_
      have g_1 : -2147483648 ≤ S 11 i ∧ S 11 i < 2147483648 := hR 11 i (by decide)
      refine z_ald (f := S 11) hx hb hK hP 7 0 rfl rfl (by omega) (by omega) (by decide) (j := i) rfl dX7_placeOf_4 ?_
      refine lv_iload_n hx hb dX7_placeOf_5 rfl (lv_at hl 1 rfl) ?_
      refine z_icmp_eq (tgt := 15) hx hb (by omega) (by omega) (by omega) (by omega) dX7_placeOf_6 (by decide) (fun c_2 => ?_) (fun c_2 => ?_)
      · have h9 : True := trivial
        refine lv_iload_n hx hb dX7_placeOf_15 rfl (lv_at hl 2 rfl) ?_
        exact g_iret (S1 := S) (v := zI (↑i)) hx hb hr hlocks hP hR hS (⟨rfl, by rw [show i = pl n (S 11) v from Nat.le_antisymm hi (Nat.not_lt.mp (fun g => h8 i g (by omega)))]⟩) dX7_placeOf_16
      · have h9 : True := trivial
        refine z_iinc (lv' := [(2, .int (zI (↑i + 1))), (0, .ref (ad 11)), (1, .int (zI (x)))]) hx hb dX7_placeOf_9 hl (k := 2) rfl (by decide) rfl (fun ls hl => ?_)
        refine lv_goto (tgt := 2) hx hb dX7_placeOf_12 (by decide) ?_
        exact ih_2 (i + 1) _ _ _ (Nat.lt_of_le_of_ne hi (fun e => c_2 (by rw [e, h7.2, hxv]))) (by omega) hP hR hS (lv_sub hl [1, 2, 0] rfl)
  exact cut_2 _ 0 _ _ _ (by omega) (Nat.lt_succ_self _) hP hR hS (lv_sub hl [1, 2, 0] rfl)
set_option maxHeartbeats 4000000 in
set_option maxRecDepth 100000 in
theorem k_X7_placeOf_18 (l : Launch) (D : va_G) (cI : ClassId) (ad : Nat → Nat) (hinj : mInj ad) (S : St) (hR : RS S) (n : Nat) (hn7 : n ≤ 7) (v : Nat) (x : Int) (hxv : x = ↑v) (hv : v < n) (hp : prm n (S 18)) : Met l yX7_placeOf (Cond.code yX7_placeOf cX7_placeOf 3 (some .int) :: lwT) ({ frames := 0, cells := 0, slots := 0, locals := 0 }) (gPc D (mW cI ad) (mE D cI) S [.ref (ad 18), .int (zI (x))]) (va_Qi (fun (r : Int32) (S' : St) => S' = S ∧ r = zI ↑(pl n (S 18) v)) (gB D (mW cI ad)) (mA ad)) 0 0 (mA ad) := by
  refine Met.ofW (cc := cX7_placeOf) (maxL := 3) (ret := (some .int)) (by decide) rfl ?_
  intro p e s m args below meth c s₁ B hml hv
  obtain ⟨rfl, hP, hE⟩ := hv
  have hx := B.exec
  have hb := B.bytes
  have hr := B.returns
  have hts := atoms_spec (ws := Cond.code yX7_placeOf cX7_placeOf 3 (some .int) :: lwT) B.pre
  have hT := fun w (h : w ∈ lwT) => hts w (List.mem_cons_of_mem _ h)
  have hsub : ∀ w ∈ lwT, w ∈ (Cond.code yX7_placeOf cX7_placeOf 3 (some .int) :: lwT) := fun w h => List.mem_cons_of_mem _ h
  have hown : s.vm.findClass RX7 = some m.cls := findClass_of_methodNamed B.named
  have hlocks := B.notSynchronized
  have hK : va_K D vwCl [(cI, .int)] s := hE
  have hS : va_S (mA ad) s.heap s.heap [] := va_S.rf
  have h7 := pl_at hp hv
  have h8 := pl_first hp hv
  have hl := lv_entry ([.ref (ad 18), .int (zI (x))]) (n := 3) (Nat.le_of_ble_eq_true rfl)
  rw [lg_entry_eq]
  generalize (lg_sl ([.ref (ad 18), .int (zI (x))]) ++ List.replicate (3 - (lg_sl ([.ref (ad 18), .int (zI (x))])).length) Slot.unset).toArray = ls at hl ⊢
  have hl : lv_has ls 3 [(0, .ref (ad 18)), (1, .int (zI (x)))] := hl
  refine z_iconst hx hb dX7_placeOf_0 ?_
  refine lv_istore_n (lv' := [(2, .int (zI (0))), (0, .ref (ad 18)), (1, .int (zI (x)))]) hx hb dX7_placeOf_1 rfl hl (by decide) rfl (fun ls hl => ?_)
  have cut_2 : ∀ (k9 : Nat) (i : Nat) (H : Heap) (locs : List Loc) (ls : Array Slot), (i ≤ pl n (S 18) v) → (7 - i) < k9 → va_P D vwCl (mW cI ad S) H → RS S → va_S (mA ad) s.heap H locs → lv_has ls 3 [(0, .ref (ad 18)), (1, .int (zI (x))), (2, .int (zI (↑i)))] → W p l e (headSpec (Cond.code yX7_placeOf cX7_placeOf 3 (some .int) :: lwT) ({ frames := 0, cells := 0, slots := 0, locals := 0 })).room s m ([.ref (ad 18), .int (zI (x))] : List Value).toArray below meth c H locs 0 0 (MQ below (va_Qi (fun (r : Int32) (S' : St) => S' = S ∧ r = zI ↑(pl n (S 18) v)) (gB D (mW cI ad)) (mA ad)) ([.ref (ad 18), .int (zI (x))] : List Value).toArray s 0 0 (mA ad)) (F0 m 2 ls []) := by
    intro k9
    induction k9 with
    | zero =>
      intro i H locs ls hi hk9 hP hR hS hl
      exact absurd hk9 (Nat.not_lt_zero _)
    | succ k9 ih_2 =>
      intro i H locs ls hi hk9 hP hR hS hl
      refine lv_aload_n hx hb dX7_placeOf_2 rfl (lv_at hl 0 rfl) ?_
      refine lv_iload_n hx hb dX7_placeOf_3 rfl (lv_at hl 2 rfl) ?_
      have g_1 : -2147483648 ≤ S 18 i ∧ S 18 i < 2147483648 := hR 18 i (by decide)
      refine z_ald (f := S 18) hx hb hK hP 11 0 rfl rfl (by omega) (by omega) (by decide) (j := i) rfl dX7_placeOf_4 ?_
      refine lv_iload_n hx hb dX7_placeOf_5 rfl (lv_at hl 1 rfl) ?_
      refine z_icmp_eq (tgt := 15) hx hb (by omega) (by omega) (by omega) (by omega) dX7_placeOf_6 (by decide) (fun c_2 => ?_) (fun c_2 => ?_)
      · have h9 : True := trivial
        refine lv_iload_n hx hb dX7_placeOf_15 rfl (lv_at hl 2 rfl) ?_
        exact g_iret (S1 := S) (v := zI (↑i)) hx hb hr hlocks hP hR hS (⟨rfl, by rw [show i = pl n (S 18) v from Nat.le_antisymm hi (Nat.not_lt.mp (fun g => h8 i g (by omega)))]⟩) dX7_placeOf_16
      · have h9 : True := trivial
        refine z_iinc (lv' := [(2, .int (zI (↑i + 1))), (0, .ref (ad 18)), (1, .int (zI (x)))]) hx hb dX7_placeOf_9 hl (k := 2) rfl (by decide) rfl (fun ls hl => ?_)
        refine lv_goto (tgt := 2) hx hb dX7_placeOf_12 (by decide) ?_
        exact ih_2 (i + 1) _ _ _ (Nat.lt_of_le_of_ne hi (fun e => c_2 (by rw [e, h7.2, hxv]))) (by omega) hP hR hS (lv_sub hl [1, 2, 0] rfl)
  exact cut_2 _ 0 _ _ _ (by omega) (Nat.lt_succ_self _) hP hR hS (lv_sub hl [1, 2, 0] rfl)
set_option maxHeartbeats 4000000 in
set_option maxRecDepth 100000 in
theorem k_X7_isSticky (l : Launch) (D : va_G) (cI : ClassId) (ad : Nat → Nat) (hinj : mInj ad) (S : St) (hR : RS S) (x : Int) (hx0 : 0 ≤ x) (hx7 : x < 7) : Met l yX7_isSticky (Cond.code yX7_isSticky cX7_isSticky 2 (some .boolean) :: lwT) ({ frames := 0, cells := 0, slots := 0, locals := 0 }) (gPc D (mW cI ad) (mE D cI) S [.ref (ad 26), .int (zI (x))]) (va_Qi (fun (r : Int32) (S' : St) => S' = S ∧ r = zI (b2 (pB (skP (S 5 x.toNat))))) (gB D (mW cI ad)) (mA ad)) 0 0 (mA ad) := by
  refine Met.ofW (cc := cX7_isSticky) (maxL := 2) (ret := (some .boolean)) (by decide) rfl ?_
  intro p e s m args below meth c s₁ B hml hv
  obtain ⟨rfl, hP, hE⟩ := hv
  have hx := B.exec
  have hb := B.bytes
  have hr := B.returns
  have hts := atoms_spec (ws := Cond.code yX7_isSticky cX7_isSticky 2 (some .boolean) :: lwT) B.pre
  have hT := fun w (h : w ∈ lwT) => hts w (List.mem_cons_of_mem _ h)
  have hsub : ∀ w ∈ lwT, w ∈ (Cond.code yX7_isSticky cX7_isSticky 2 (some .boolean) :: lwT) := fun w h => List.mem_cons_of_mem _ h
  have hown : s.vm.findClass RX7 = some m.cls := findClass_of_methodNamed B.named
  have hlocks := B.notSynchronized
  have hK : va_K D vwCl [(cI, .int)] s := hE
  have hS : va_S (mA ad) s.heap s.heap [] := va_S.rf
  have hl := lv_entry ([.ref (ad 26), .int (zI (x))]) (n := 2) (Nat.le_of_ble_eq_true rfl)
  rw [lg_entry_eq]
  generalize (lg_sl ([.ref (ad 26), .int (zI (x))]) ++ List.replicate (2 - (lg_sl ([.ref (ad 26), .int (zI (x))])).length) Slot.unset).toArray = ls at hl ⊢
  have hl : lv_has ls 2 [(0, .ref (ad 26)), (1, .int (zI (x)))] := hl
  refine lv_aload_n hx hb dX7_isSticky_0 rfl (lv_at hl 0 rfl) ?_
  refine va_get (D := D) (ci := 7) (v := .ref (ad 5)) (C := RX7) (T := TX7) (N := 26) hx hb hT inX7 hown hK hP 0 rfl rfl 5 (by decide) (hT _ q_677) (fun _ h9 => h9) rfl dX7_isSticky_1 ?_
  refine lv_iload_n hx hb dX7_isSticky_4 rfl (lv_at hl 1 rfl) ?_
  have g_1 : -2147483648 ≤ S 5 (x).toNat ∧ S 5 (x).toNat < 2147483648 := hR 5 ((x).toNat) (by decide)
  refine z_ald (f := S 5) hx hb hK hP 2 0 rfl rfl (by omega) (by omega) (by decide) (j := (x).toNat) rfl dX7_isSticky_5 ?_
  refine z_iconst hx hb dX7_isSticky_6 ?_
  refine z_icmp_eq (tgt := 20) hx hb (by omega) (by omega) (by omega) (by omega) dX7_isSticky_7 (by decide) (fun c_2 => ?_) (fun c_2 => ?_)
  · have h9 : True := trivial
    refine z_iconst hx hb dX7_isSticky_20 ?_
    refine lv_goto (tgt := 25) hx hb dX7_isSticky_21 (by decide) ?_
    exact g_zret (S1 := S) (bo := true) hx hb hr hlocks hP hR hS (⟨rfl, pT (by unfold skP; omega)⟩) dX7_isSticky_25
  · have h9 : True := trivial
    refine lv_aload_n hx hb dX7_isSticky_10 rfl (lv_at hl 0 rfl) ?_
    refine va_get (D := D) (ci := 7) (v := .ref (ad 5)) (C := RX7) (T := TX7) (N := 26) hx hb hT inX7 hown hK hP 0 rfl rfl 5 (by decide) (hT _ q_677) (fun _ h9 => h9) rfl dX7_isSticky_11 ?_
    refine lv_iload_n hx hb dX7_isSticky_14 rfl (lv_at hl 1 rfl) ?_
    refine z_ald (f := S 5) hx hb hK hP 2 0 rfl rfl (by omega) (by omega) (by decide) (j := (x).toNat) rfl dX7_isSticky_15 ?_
    refine z_iconst hx hb dX7_isSticky_16 ?_
    refine z_icmp_ne (tgt := 24) hx hb (by omega) (by omega) (by omega) (by omega) dX7_isSticky_17 (by decide) (fun c_3 => ?_) (fun c_3 => ?_)
    · have h9 : True := trivial
      refine z_iconst hx hb dX7_isSticky_24 ?_
      exact g_zret (S1 := S) (bo := false) hx hb hr hlocks hP hR hS (⟨rfl, pF (by unfold skP; omega)⟩) dX7_isSticky_25
    · have h9 : True := trivial
      refine z_iconst hx hb dX7_isSticky_20 ?_
      refine lv_goto (tgt := 25) hx hb dX7_isSticky_21 (by decide) ?_
      exact g_zret (S1 := S) (bo := true) hx hb hr hlocks hP hR hS (⟨rfl, pT (by unfold skP; omega)⟩) dX7_isSticky_25
set_option maxHeartbeats 4000000 in
set_option maxRecDepth 100000 in
theorem k_X7_thick (l : Launch) (D : va_G) (cI : ClassId) (ad : Nat → Nat) (hinj : mInj ad) (S : St) (hR : RS S) (x : Int) (hx0 : 0 ≤ x) (hx7 : x < 7) : Met l yX7_thick (Cond.code yX7_thick cX7_thick 2 (some .int) :: lwT) ({ frames := 0, cells := 0, slots := 0, locals := 0 }) (gPc D (mW cI ad) (mE D cI) S [.ref (ad 26), .int (zI (x))]) (va_Qi (fun (r : Int32) (S' : St) => S' = S ∧ r = zI (thk (S 5 x.toNat))) (gB D (mW cI ad)) (mA ad)) 0 0 (mA ad) := by
  refine Met.ofW (cc := cX7_thick) (maxL := 2) (ret := (some .int)) (by decide) rfl ?_
  intro p e s m args below meth c s₁ B hml hv
  obtain ⟨rfl, hP, hE⟩ := hv
  have hx := B.exec
  have hb := B.bytes
  have hr := B.returns
  have hts := atoms_spec (ws := Cond.code yX7_thick cX7_thick 2 (some .int) :: lwT) B.pre
  have hT := fun w (h : w ∈ lwT) => hts w (List.mem_cons_of_mem _ h)
  have hsub : ∀ w ∈ lwT, w ∈ (Cond.code yX7_thick cX7_thick 2 (some .int) :: lwT) := fun w h => List.mem_cons_of_mem _ h
  have hown : s.vm.findClass RX7 = some m.cls := findClass_of_methodNamed B.named
  have hlocks := B.notSynchronized
  have hK : va_K D vwCl [(cI, .int)] s := hE
  have hS : va_S (mA ad) s.heap s.heap [] := va_S.rf
  have hl := lv_entry ([.ref (ad 26), .int (zI (x))]) (n := 2) (Nat.le_of_ble_eq_true rfl)
  rw [lg_entry_eq]
  generalize (lg_sl ([.ref (ad 26), .int (zI (x))]) ++ List.replicate (2 - (lg_sl ([.ref (ad 26), .int (zI (x))])).length) Slot.unset).toArray = ls at hl ⊢
  have hl : lv_has ls 2 [(0, .ref (ad 26)), (1, .int (zI (x)))] := hl
  refine lv_aload_n hx hb dX7_thick_0 rfl (lv_at hl 0 rfl) ?_
  refine va_get (D := D) (ci := 7) (v := .ref (ad 5)) (C := RX7) (T := TX7) (N := 26) hx hb hT inX7 hown hK hP 0 rfl rfl 5 (by decide) (hT _ q_677) (fun _ h9 => h9) rfl dX7_thick_1 ?_
  refine lv_iload_n hx hb dX7_thick_4 rfl (lv_at hl 1 rfl) ?_
  have g_1 : -2147483648 ≤ S 5 (x).toNat ∧ S 5 (x).toNat < 2147483648 := hR 5 ((x).toNat) (by decide)
  refine z_ald (f := S 5) hx hb hK hP 2 0 rfl rfl (by omega) (by omega) (by decide) (j := (x).toNat) rfl dX7_thick_5 ?_
  refine z_iconst hx hb dX7_thick_6 ?_
  refine z_icmp_eq (tgt := 20) hx hb (by omega) (by omega) (by omega) (by omega) dX7_thick_7 (by decide) (fun c_2 => ?_) (fun c_2 => ?_)
  · have h9 : True := trivial
    refine z_iconst hx hb dX7_thick_20 ?_
    refine lv_goto (tgt := 25) hx hb dX7_thick_21 (by decide) ?_
    exact g_iret (S1 := S) (v := zI (3)) hx hb hr hlocks hP hR hS (⟨rfl, by unfold thk; split <;> first | rfl | omega⟩) dX7_thick_25
  · have h9 : True := trivial
    refine lv_aload_n hx hb dX7_thick_10 rfl (lv_at hl 0 rfl) ?_
    refine va_get (D := D) (ci := 7) (v := .ref (ad 5)) (C := RX7) (T := TX7) (N := 26) hx hb hT inX7 hown hK hP 0 rfl rfl 5 (by decide) (hT _ q_677) (fun _ h9 => h9) rfl dX7_thick_11 ?_
    refine lv_iload_n hx hb dX7_thick_14 rfl (lv_at hl 1 rfl) ?_
    refine z_ald (f := S 5) hx hb hK hP 2 0 rfl rfl (by omega) (by omega) (by decide) (j := (x).toNat) rfl dX7_thick_15 ?_
    refine z_iconst hx hb dX7_thick_16 ?_
    refine z_icmp_ne (tgt := 24) hx hb (by omega) (by omega) (by omega) (by omega) dX7_thick_17 (by decide) (fun c_3 => ?_) (fun c_3 => ?_)
    · have h9 : True := trivial
      refine z_iconst hx hb dX7_thick_24 ?_
      exact g_iret (S1 := S) (v := zI (1)) hx hb hr hlocks hP hR hS (⟨rfl, by unfold thk; split <;> first | rfl | omega⟩) dX7_thick_25
    · have h9 : True := trivial
      refine z_iconst hx hb dX7_thick_20 ?_
      refine lv_goto (tgt := 25) hx hb dX7_thick_21 (by decide) ?_
      exact g_iret (S1 := S) (v := zI (3)) hx hb hr hlocks hP hR hS (⟨rfl, by unfold thk; split <;> first | rfl | omega⟩) dX7_thick_25
set_option maxHeartbeats 4000000 in
set_option maxRecDepth 100000 in
theorem k_X7_isRight_6 (l : Launch) (D : va_G) (cI : ClassId) (ad : Nat → Nat) (hinj : mInj ad) (S : St) (hR : RS S) (n : Nat) (hn : S 2 0 = ↑n) (hn7 : n ≤ 7) (hp : prm n (S 6)) (q : Nat) (x : Int) (hxq : x = ↑q) (hq : q < n) : Met l yX7_isRight (Cond.code yX7_isRight cX7_isRight 5 (some .boolean) :: lwT) ({ frames := 1, cells := 0, slots := 0, locals := 21 }) (gPc D (mW cI ad) (mE D cI) S [.ref (ad 26), .ref (ad 6), .int (zI (x))]) (va_Qi (fun (r : Int32) (S' : St) => S' = S ∧ r = zI (b2 (pB (rgP n (S 5) (S 6) q)))) (gB D (mW cI ad)) (mA ad)) 0 0 (mA ad) := by
  refine Met.ofW (cc := cX7_isRight) (maxL := 5) (ret := (some .boolean)) (by decide) rfl ?_
  intro p e s m args below meth c s₁ B hml hv
  obtain ⟨rfl, hP, hE⟩ := hv
  have hx := B.exec
  have hb := B.bytes
  have hr := B.returns
  have hts := atoms_spec (ws := Cond.code yX7_isRight cX7_isRight 5 (some .boolean) :: lwT) B.pre
  have hT := fun w (h : w ∈ lwT) => hts w (List.mem_cons_of_mem _ h)
  have hsub : ∀ w ∈ lwT, w ∈ (Cond.code yX7_isRight cX7_isRight 5 (some .boolean) :: lwT) := fun w h => List.mem_cons_of_mem _ h
  have hown : s.vm.findClass RX7 = some m.cls := findClass_of_methodNamed B.named
  have hlocks := B.notSynchronized
  have hK : va_K D vwCl [(cI, .int)] s := hE
  have hS : va_S (mA ad) s.heap s.heap [] := va_S.rf
  have p1 := hp.1 q hq
  have hl := lv_entry ([.ref (ad 26), .ref (ad 6), .int (zI (x))]) (n := 5) (Nat.le_of_ble_eq_true rfl)
  rw [lg_entry_eq]
  generalize (lg_sl ([.ref (ad 26), .ref (ad 6), .int (zI (x))]) ++ List.replicate (5 - (lg_sl ([.ref (ad 26), .ref (ad 6), .int (zI (x))])).length) Slot.unset).toArray = ls at hl ⊢
  have hl : lv_has ls 5 [(0, .ref (ad 26)), (1, .ref (ad 6)), (2, .int (zI (x)))] := hl
  have cut_19 : ∀ (o : Bool) (H : Heap) (locs : List Loc) (ls : Array Slot), (o = pB (otP n q)) → va_P D vwCl (mW cI ad S) H → RS S → va_S (mA ad) s.heap H locs → lv_has ls 5 [(0, .ref (ad 26)), (1, .ref (ad 6)), (2, .int (zI (x)))] → W p l e (headSpec (Cond.code yX7_isRight cX7_isRight 5 (some .boolean) :: lwT) ({ frames := 1, cells := 0, slots := 0, locals := 21 })).room s m ([.ref (ad 26), .ref (ad 6), .int (zI (x))] : List Value).toArray below meth c H locs 0 0 (MQ below (va_Qi (fun (r : Int32) (S' : St) => S' = S ∧ r = zI (b2 (pB (rgP n (S 5) (S 6) q)))) (gB D (mW cI ad)) (mA ad)) ([.ref (ad 26), .ref (ad 6), .int (zI (x))] : List Value).toArray s 0 0 (mA ad)) (F0 m 19 ls [.int (zI (b2 (o)))]) := by
    intro o H locs ls ho hP hR hS hl
    refine lv_istore_n (lv' := [(3, .int (zI (b2 (o)))), (0, .ref (ad 26)), (1, .ref (ad 6)), (2, .int (zI (x)))]) hx hb dX7_isRight_19 rfl hl (by decide) rfl (fun ls hl => ?_)
    have cut_63 : ∀ (o2 : Bool) (H : Heap) (locs : List Loc) (ls : Array Slot), (o2 = pB (stP n (S 5) (S 6) q)) → va_P D vwCl (mW cI ad S) H → RS S → va_S (mA ad) s.heap H locs → lv_has ls 5 [(0, .ref (ad 26)), (1, .ref (ad 6)), (2, .int (zI (x))), (3, .int (zI (b2 (o))))] → W p l e (headSpec (Cond.code yX7_isRight cX7_isRight 5 (some .boolean) :: lwT) ({ frames := 1, cells := 0, slots := 0, locals := 21 })).room s m ([.ref (ad 26), .ref (ad 6), .int (zI (x))] : List Value).toArray below meth c H locs 0 0 (MQ below (va_Qi (fun (r : Int32) (S' : St) => S' = S ∧ r = zI (b2 (pB (rgP n (S 5) (S 6) q)))) (gB D (mW cI ad)) (mA ad)) ([.ref (ad 26), .ref (ad 6), .int (zI (x))] : List Value).toArray s 0 0 (mA ad)) (F0 m 63 ls [.int (zI (b2 (o2)))]) := by
      intro o2 H locs ls ho2 hP hR hS hl
      refine lv_istore (lv' := [(4, .int (zI (b2 (o2)))), (0, .ref (ad 26)), (1, .ref (ad 6)), (2, .int (zI (x))), (3, .int (zI (b2 (o))))]) hx hb dX7_isRight_63 hl (by decide) rfl (fun ls hl => ?_)
      refine lv_aload_n hx hb dX7_isRight_65 rfl (lv_at hl 1 rfl) ?_
      refine va_get (D := D) (ci := 7) (v := .ref (ad 5)) (C := RX7) (T := TX7) (N := 26) hx hb hT inX7 hown hK hP 0 rfl rfl 5 (by decide) (hT _ q_677) (fun _ h9 => h9) rfl dX7_isRight_66 ?_
      refine lv_aload_n hx hb dX7_isRight_69 rfl (lv_at hl 2 rfl) ?_
      refine lv_iload_n hx hb dX7_isRight_70 rfl (lv_at hl 3 rfl) ?_
      have g_1 : -2147483648 ≤ S 6 (x).toNat ∧ S 6 (x).toNat < 2147483648 := hR 6 ((x).toNat) (by decide)
      refine z_ald (f := S 6) hx hb hK hP 3 0 rfl rfl (by omega) (by omega) (by decide) (j := (x).toNat) rfl dX7_isRight_71 ?_
      refine z_top (b := (S 6) q) (by rw [show x.toNat = q by omega]) ?_
      have g_2 : -2147483648 ≤ S 5 ((S 6) q).toNat ∧ S 5 ((S 6) q).toNat < 2147483648 := hR 5 (((S 6) q).toNat) (by decide)
      refine z_ald (f := S 5) hx hb hK hP 2 0 rfl rfl (by omega) (by omega) (by decide) (j := ((S 6) q).toNat) rfl dX7_isRight_72 ?_
      rcases (show ((S 5 ((S 6) q).toNat) < 2 ∨ 4 < (S 5 ((S 6) q).toNat)) ∨ (S 5 ((S 6) q).toNat) = 2 ∨ (S 5 ((S 6) q).toNat) = 3 ∨ (S 5 ((S 6) q).toNat) = 4 by omega) with c_3 | c_3 | c_3 | c_3
      · refine z_tabOut hx hb (by omega) (by omega) dX7_isRight_73 c_3 (tgt := 128) (by decide) ?_
        refine z_iconst hx hb dX7_isRight_128 ?_
        exact g_zret (S1 := S) (bo := true) hx hb hr hlocks hP hR hS (⟨rfl, pT ⟨fun e => by omega, fun e => by omega, fun e => by omega⟩⟩) dX7_isRight_129
      · refine z_tabIn hx hb c_3 (by decide) (by decide) dX7_isRight_73 (by decide) (by decide) (off := 29) (by decide) (tgt := 102) (by decide) ?_
        refine lv_iload hx hb dX7_isRight_102 (lv_at hl 0 rfl) ?_
        refine z_ifneB (tgt := 111) hx hb dX7_isRight_104 (by decide) (fun c_4 => ?_) (fun c_4 => ?_)
        · have h9 : True := trivial
          refine z_iconst hx hb dX7_isRight_111 ?_
          exact g_zret (S1 := S) (bo := false) hx hb hr hlocks hP hR hS (⟨rfl, pF (fun h => h.2.1 (by omega) (pB_t.mp (by rw [← ho2]; assumption)))⟩) dX7_isRight_112
        · have h9 : True := trivial
          refine z_iconst hx hb dX7_isRight_107 ?_
          refine lv_goto (tgt := 112) hx hb dX7_isRight_108 (by decide) ?_
          exact g_zret (S1 := S) (bo := true) hx hb hr hlocks hP hR hS (⟨rfl, pT ⟨fun e => by omega, fun _ => pB_f.mp (by rw [← ho2]; assumption), fun e => by omega⟩⟩) dX7_isRight_112
      · refine z_tabIn hx hb c_3 (by decide) (by decide) dX7_isRight_73 (by decide) (by decide) (off := 27) (by decide) (tgt := 100) (by decide) ?_
        refine lv_iload_n hx hb dX7_isRight_100 rfl (lv_at hl 4 rfl) ?_
        exact g_zret (S1 := S) (bo := o) hx hb hr hlocks hP hR hS (⟨rfl, by rw [ho]; exact congrArg (fun b => zI (b2 b)) (pB_c ⟨fun h => ⟨fun _ => h, fun e => by omega, fun e => by omega⟩, fun h => h.1 (by omega)⟩)⟩) dX7_isRight_101
      · refine z_tabIn hx hb c_3 (by decide) (by decide) dX7_isRight_73 (by decide) (by decide) (off := 40) (by decide) (tgt := 113) (by decide) ?_
        refine lv_iload hx hb dX7_isRight_113 (lv_at hl 0 rfl) ?_
        refine z_ifneB (tgt := 126) hx hb dX7_isRight_115 (by decide) (fun c_5 => ?_) (fun c_5 => ?_)
        · have h9 : True := trivial
          refine z_iconst hx hb dX7_isRight_126 ?_
          exact g_zret (S1 := S) (bo := false) hx hb hr hlocks hP hR hS (⟨rfl, pF (fun h => (h.2.2 (by omega)).1 (pB_t.mp (by rw [← ho2]; assumption)))⟩) dX7_isRight_127
        · have h9 : True := trivial
          refine lv_iload_n hx hb dX7_isRight_118 rfl (lv_at hl 4 rfl) ?_
          refine z_ifneB (tgt := 126) hx hb dX7_isRight_119 (by decide) (fun c_6 => ?_) (fun c_6 => ?_)
          · have h9 : True := trivial
            refine z_iconst hx hb dX7_isRight_126 ?_
            exact g_zret (S1 := S) (bo := false) hx hb hr hlocks hP hR hS (⟨rfl, pF (fun h => (h.2.2 (by omega)).2 (pB_t.mp (by rw [← ho]; assumption)))⟩) dX7_isRight_127
          · have h9 : True := trivial
            refine z_iconst hx hb dX7_isRight_122 ?_
            refine lv_goto (tgt := 127) hx hb dX7_isRight_123 (by decide) ?_
            exact g_zret (S1 := S) (bo := true) hx hb hr hlocks hP hR hS (⟨rfl, pT ⟨fun e => by omega, fun e => by omega, fun _ => ⟨pB_f.mp (by rw [← ho2]; assumption), pB_f.mp (by rw [← ho]; assumption)⟩⟩⟩) dX7_isRight_127
    have cut_36 : ∀ (H : Heap) (locs : List Loc) (ls : Array Slot), (¬ (0 < q ∧ skP (S 5 ((S 6) (q - 1)).toNat))) → va_P D vwCl (mW cI ad S) H → RS S → va_S (mA ad) s.heap H locs → lv_has ls 5 [(0, .ref (ad 26)), (1, .ref (ad 6)), (2, .int (zI (x))), (3, .int (zI (b2 (o))))] → W p l e (headSpec (Cond.code yX7_isRight cX7_isRight 5 (some .boolean) :: lwT) ({ frames := 1, cells := 0, slots := 0, locals := 21 })).room s m ([.ref (ad 26), .ref (ad 6), .int (zI (x))] : List Value).toArray below meth c H locs 0 0 (MQ below (va_Qi (fun (r : Int32) (S' : St) => S' = S ∧ r = zI (b2 (pB (rgP n (S 5) (S 6) q)))) (gB D (mW cI ad)) (mA ad)) ([.ref (ad 26), .ref (ad 6), .int (zI (x))] : List Value).toArray s 0 0 (mA ad)) (F0 m 36 ls []) := by
      intro H locs ls h36 hP hR hS hl
      refine lv_iload_n hx hb dX7_isRight_36 rfl (lv_at hl 2 rfl) ?_
      refine lv_aload_n hx hb dX7_isRight_37 rfl (lv_at hl 0 rfl) ?_
      have g_7 : -2147483648 ≤ S 2 0 ∧ S 2 0 < 2147483648 := hR 2 0 (by decide)
      refine va_get (D := D) (ci := 7) (v := .int (zI (S 2 0))) (C := RX7) (T := TX7) (N := 26) hx hb hT inX7 hown hK hP 0 rfl rfl 2 (by decide) (hT _ q_674) (fun _ h9 => h9) rfl dX7_isRight_38 ?_
      refine z_iconst hx hb dX7_isRight_41 ?_
      refine z_isub hx hb dX7_isRight_42 ?_
      refine z_icmp_ge (tgt := 62) hx hb (by omega) (by omega) (by omega) (by omega) dX7_isRight_43 (by decide) (fun c_8 => ?_) (fun c_8 => ?_)
      · have h9 : True := trivial
        refine z_iconst hx hb dX7_isRight_62 ?_
        exact cut_63 false _ _ _ (qF (fun h => h.elim h36 (fun g => by omega))) hP hR hS (lv_sub hl [0, 1, 2, 3] rfl)
      · have h9 : True := trivial
        refine lv_aload_n hx hb dX7_isRight_46 rfl (lv_at hl 0 rfl) ?_
        refine lv_aload_n hx hb dX7_isRight_47 rfl (lv_at hl 1 rfl) ?_
        refine lv_iload_n hx hb dX7_isRight_48 rfl (lv_at hl 2 rfl) ?_
        refine z_iconst hx hb dX7_isRight_49 ?_
        refine z_iadd hx hb dX7_isRight_50 ?_
        have p3 := hp.1 (q + 1) (by omega)
        have g_9 : -2147483648 ≤ S 6 (x + 1).toNat ∧ S 6 (x + 1).toNat < 2147483648 := hR 6 ((x + 1).toNat) (by decide)
        refine z_ald (f := S 6) hx hb hK hP 3 0 rfl rfl (by omega) (by omega) (by decide) (j := (x + 1).toNat) rfl dX7_isRight_51 ?_
        refine z_top (b := (S 6) (q + 1)) (by rw [show (x + 1).toNat = q + 1 by omega]) ?_
        refine g_callVi (As := [.int (zI ((S 6) (q + 1)))]) (rest := []) ⟨hx, hb, hml, hown, hts⟩ (k_X7_isSticky l D cI ad hinj S hR ((S 6) (q + 1)) (by omega) (by omega)) (cwV 1 hts (gV hsub q_878 q_880 q_sX7_isSticky q_8 q_881) rfl rfl rfl hdX7_isSticky ⟨Nat.le_of_ble_eq_true rfl, Nat.le_of_ble_eq_true rfl⟩) (mEb D cI) (mEk D cI (mA ad)) hE (va_recv (ci := 7) (q0 := 0) hK hP rfl rfl) hP hS rfl hl.1 rfl (Nat.le_of_ble_eq_true rfl) dX7_isRight_52 ⟨Nat.le_of_ble_eq_true rfl, Nat.le_of_ble_eq_true rfl⟩ (fun r_10 S_11 H locs hq_12 hP hR hS _ => ?_)
        obtain ⟨hs9, rfl⟩ := hq_12
        obtain rfl := hs9.symm
        refine z_top (b := b2 (pB (skP (S 5 ((S 6) (q + 1)).toNat)))) rfl ?_
        refine z_ifeqB (tgt := 62) hx hb dX7_isRight_55 (by decide) (fun c_13 => ?_) (fun c_13 => ?_)
        · have h9 : True := trivial
          refine z_iconst hx hb dX7_isRight_62 ?_
          exact cut_63 false _ _ _ (qF (fun h => h.elim h36 (fun g => pB_f.mp c_13 g.2))) hP hR hS (lv_sub hl [0, 1, 2, 3] rfl)
        · have h9 : True := trivial
          refine z_iconst hx hb dX7_isRight_58 ?_
          refine lv_goto (tgt := 63) hx hb dX7_isRight_59 (by decide) ?_
          exact cut_63 true _ _ _ (qT (Or.inr ⟨by omega, pB_t.mp c_13⟩)) hP hR hS (lv_sub hl [0, 1, 2, 3] rfl)
    refine lv_iload_n hx hb dX7_isRight_20 rfl (lv_at hl 3 rfl) ?_
    refine z_if_le (tgt := 36) hx hb (by omega) (by omega) dX7_isRight_21 (by decide) (fun c_14 => ?_) (fun c_14 => ?_)
    · have h9 : True := trivial
      exact cut_36 _ _ _ (fun h => by omega) hP hR hS (lv_sub hl [1, 2, 3, 0] rfl)
    · have h9 : True := trivial
      refine lv_aload_n hx hb dX7_isRight_24 rfl (lv_at hl 1 rfl) ?_
      refine lv_aload_n hx hb dX7_isRight_25 rfl (lv_at hl 2 rfl) ?_
      refine lv_iload_n hx hb dX7_isRight_26 rfl (lv_at hl 3 rfl) ?_
      refine z_iconst hx hb dX7_isRight_27 ?_
      refine z_isub hx hb dX7_isRight_28 ?_
      have p2 := hp.1 (q - 1) (by omega)
      have g_15 : -2147483648 ≤ S 6 (x - 1).toNat ∧ S 6 (x - 1).toNat < 2147483648 := hR 6 ((x - 1).toNat) (by decide)
      refine z_ald (f := S 6) hx hb hK hP 3 0 rfl rfl (by omega) (by omega) (by decide) (j := (x - 1).toNat) rfl dX7_isRight_29 ?_
      refine z_top (b := (S 6) (q - 1)) (by rw [show (x - 1).toNat = q - 1 by omega]) ?_
      refine g_callVi (As := [.int (zI ((S 6) (q - 1)))]) (rest := []) ⟨hx, hb, hml, hown, hts⟩ (k_X7_isSticky l D cI ad hinj S hR ((S 6) (q - 1)) (by omega) (by omega)) (cwV 1 hts (gV hsub q_878 q_880 q_sX7_isSticky q_8 q_881) rfl rfl rfl hdX7_isSticky ⟨Nat.le_of_ble_eq_true rfl, Nat.le_of_ble_eq_true rfl⟩) (mEb D cI) (mEk D cI (mA ad)) hE (va_recv (ci := 7) (q0 := 0) hK hP rfl rfl) hP hS rfl hl.1 rfl (Nat.le_of_ble_eq_true rfl) dX7_isRight_30 ⟨Nat.le_of_ble_eq_true rfl, Nat.le_of_ble_eq_true rfl⟩ (fun r_16 S_17 H locs hq_18 hP hR hS _ => ?_)
      obtain ⟨hs9, rfl⟩ := hq_18
      obtain rfl := hs9.symm
      refine z_top (b := b2 (pB (skP (S 5 ((S 6) (q - 1)).toNat)))) rfl ?_
      refine z_ifneB (tgt := 58) hx hb dX7_isRight_33 (by decide) (fun c_19 => ?_) (fun c_19 => ?_)
      · have h9 : True := trivial
        refine z_iconst hx hb dX7_isRight_58 ?_
        refine lv_goto (tgt := 63) hx hb dX7_isRight_59 (by decide) ?_
        exact cut_63 true _ _ _ (qT (Or.inl ⟨by omega, pB_t.mp c_19⟩)) hP hR hS (lv_sub hl [1, 2, 3, 0] rfl)
      · have h9 : True := trivial
        exact cut_36 _ _ _ (fun h => pB_f.mp c_19 h.2) hP hR hS (lv_sub hl [1, 2, 3, 0] rfl)
  refine lv_iload_n hx hb dX7_isRight_0 rfl (lv_at hl 2 rfl) ?_
  refine z_if_eq (tgt := 14) hx hb (by omega) (by omega) dX7_isRight_1 (by decide) (fun c_20 => ?_) (fun c_20 => ?_)
  · have h9 : True := trivial
    refine z_iconst hx hb dX7_isRight_14 ?_
    refine lv_goto (tgt := 19) hx hb dX7_isRight_15 (by decide) ?_
    exact cut_19 true _ _ _ (qT (by unfold otP; omega)) hP hR hS (lv_sub hl [0, 1, 2] rfl)
  · have h9 : True := trivial
    refine lv_iload_n hx hb dX7_isRight_4 rfl (lv_at hl 2 rfl) ?_
    refine lv_aload_n hx hb dX7_isRight_5 rfl (lv_at hl 0 rfl) ?_
    have g_21 : -2147483648 ≤ S 2 0 ∧ S 2 0 < 2147483648 := hR 2 0 (by decide)
    refine va_get (D := D) (ci := 7) (v := .int (zI (S 2 0))) (C := RX7) (T := TX7) (N := 26) hx hb hT inX7 hown hK hP 0 rfl rfl 2 (by decide) (hT _ q_674) (fun _ h9 => h9) rfl dX7_isRight_6 ?_
    refine z_iconst hx hb dX7_isRight_9 ?_
    refine z_isub hx hb dX7_isRight_10 ?_
    refine z_icmp_ne (tgt := 18) hx hb (by omega) (by omega) (by omega) (by omega) dX7_isRight_11 (by decide) (fun c_22 => ?_) (fun c_22 => ?_)
    · have h9 : True := trivial
      refine z_iconst hx hb dX7_isRight_18 ?_
      exact cut_19 false _ _ _ (qF (by unfold otP; omega)) hP hR hS (lv_sub hl [0, 1, 2] rfl)
    · have h9 : True := trivial
      refine z_iconst hx hb dX7_isRight_14 ?_
      refine lv_goto (tgt := 19) hx hb dX7_isRight_15 (by decide) ?_
      exact cut_19 true _ _ _ (qT (by unfold otP; omega)) hP hR hS (lv_sub hl [0, 1, 2] rfl)
set_option maxHeartbeats 4000000 in
set_option maxRecDepth 100000 in
theorem k_X7_rightMany_6 (l : Launch) (D : va_G) (cI : ClassId) (ad : Nat → Nat) (hinj : mInj ad) (S : St) (hR : RS S) (n : Nat) (hn : S 2 0 = ↑n) (hn7 : n ≤ 7) (hp : prm n (S 6)) : Met l yX7_rightMany (Cond.code yX7_rightMany cX7_rightMany 4 (some .int) :: lwT) ({ frames := 2, cells := 0, slots := 0, locals := 45 }) (gPc D (mW cI ad) (mE D cI) S [.ref (ad 26), .ref (ad 6)]) (va_Qi (fun (r : Int32) (S' : St) => S' = S ∧ r = zI (cnt (fun q => pB (rgP n (S 5) (S 6) q)) n)) (gB D (mW cI ad)) (mA ad)) 0 0 (mA ad) := by
  refine Met.ofW (cc := cX7_rightMany) (maxL := 4) (ret := (some .int)) (by decide) rfl ?_
  intro p e s m args below meth c s₁ B hml hv
  obtain ⟨rfl, hP, hE⟩ := hv
  have hx := B.exec
  have hb := B.bytes
  have hr := B.returns
  have hts := atoms_spec (ws := Cond.code yX7_rightMany cX7_rightMany 4 (some .int) :: lwT) B.pre
  have hT := fun w (h : w ∈ lwT) => hts w (List.mem_cons_of_mem _ h)
  have hsub : ∀ w ∈ lwT, w ∈ (Cond.code yX7_rightMany cX7_rightMany 4 (some .int) :: lwT) := fun w h => List.mem_cons_of_mem _ h
  have hown : s.vm.findClass RX7 = some m.cls := findClass_of_methodNamed B.named
  have hlocks := B.notSynchronized
  have hK : va_K D vwCl [(cI, .int)] s := hE
  have hS : va_S (mA ad) s.heap s.heap [] := va_S.rf
  have hl := lv_entry ([.ref (ad 26), .ref (ad 6)]) (n := 4) (Nat.le_of_ble_eq_true rfl)
  rw [lg_entry_eq]
  generalize (lg_sl ([.ref (ad 26), .ref (ad 6)]) ++ List.replicate (4 - (lg_sl ([.ref (ad 26), .ref (ad 6)])).length) Slot.unset).toArray = ls at hl ⊢
  have hl : lv_has ls 4 [(0, .ref (ad 26)), (1, .ref (ad 6))] := hl
  refine z_iconst hx hb dX7_rightMany_0 ?_
  refine lv_istore_n (lv' := [(2, .int (zI (0))), (0, .ref (ad 26)), (1, .ref (ad 6))]) hx hb dX7_rightMany_1 rfl hl (by decide) rfl (fun ls hl => ?_)
  refine z_iconst hx hb dX7_rightMany_2 ?_
  refine lv_istore_n (lv' := [(3, .int (zI (0))), (2, .int (zI (0))), (0, .ref (ad 26)), (1, .ref (ad 6))]) hx hb dX7_rightMany_3 rfl hl (by decide) rfl (fun ls hl => ?_)
  have cut_4 : ∀ (k9 : Nat) (i : Nat) (x : Int) (H : Heap) (locs : List Loc) (ls : Array Slot), (i ≤ n) → (x = cnt (fun q => pB (rgP n (S 5) (S 6) q)) i) → (n - i) < k9 → va_P D vwCl (mW cI ad S) H → RS S → va_S (mA ad) s.heap H locs → lv_has ls 4 [(0, .ref (ad 26)), (1, .ref (ad 6)), (2, .int (zI (x))), (3, .int (zI (↑i)))] → W p l e (headSpec (Cond.code yX7_rightMany cX7_rightMany 4 (some .int) :: lwT) ({ frames := 2, cells := 0, slots := 0, locals := 45 })).room s m ([.ref (ad 26), .ref (ad 6)] : List Value).toArray below meth c H locs 0 0 (MQ below (va_Qi (fun (r : Int32) (S' : St) => S' = S ∧ r = zI (cnt (fun q => pB (rgP n (S 5) (S 6) q)) n)) (gB D (mW cI ad)) (mA ad)) ([.ref (ad 26), .ref (ad 6)] : List Value).toArray s 0 0 (mA ad)) (F0 m 4 ls []) := by
    intro k9
    induction k9 with
    | zero =>
      intro i x H locs ls hi hxx hk9 hP hR hS hl
      exact absurd hk9 (Nat.not_lt_zero _)
    | succ k9 ih_4 =>
      intro i x H locs ls hi hxx hk9 hP hR hS hl
      refine lv_iload_n hx hb dX7_rightMany_4 rfl (lv_at hl 3 rfl) ?_
      refine lv_aload_n hx hb dX7_rightMany_5 rfl (lv_at hl 0 rfl) ?_
      have g_1 : -2147483648 ≤ S 2 0 ∧ S 2 0 < 2147483648 := hR 2 0 (by decide)
      refine va_get (D := D) (ci := 7) (v := .int (zI (S 2 0))) (C := RX7) (T := TX7) (N := 26) hx hb hT inX7 hown hK hP 0 rfl rfl 2 (by decide) (hT _ q_674) (fun _ h9 => h9) rfl dX7_rightMany_6 ?_
      refine z_icmp_ge (tgt := 35) hx hb (by omega) (by omega) (by omega) (by omega) dX7_rightMany_9 (by decide) (fun c_2 => ?_) (fun c_2 => ?_)
      · have h9 : True := trivial
        refine lv_iload_n hx hb dX7_rightMany_35 rfl (lv_at hl 2 rfl) ?_
        exact g_iret (S1 := S) (v := zI (x)) hx hb hr hlocks hP hR hS (⟨rfl, by rw [hxx, show i = n by omega]⟩) dX7_rightMany_36
      · have h9 : True := trivial
        refine lv_iload_n hx hb dX7_rightMany_12 rfl (lv_at hl 2 rfl) ?_
        refine lv_aload_n hx hb dX7_rightMany_13 rfl (lv_at hl 0 rfl) ?_
        refine lv_aload_n hx hb dX7_rightMany_14 rfl (lv_at hl 1 rfl) ?_
        refine lv_iload_n hx hb dX7_rightMany_15 rfl (lv_at hl 3 rfl) ?_
        refine g_callVi (As := [.ref (ad 6), .int (zI (↑i))]) (rest := [.int (zI (x))]) ⟨hx, hb, hml, hown, hts⟩ (k_X7_isRight_6 l D cI ad hinj S hR n (by omega) hn7 hp i ↑i (by omega) (by omega)) (cwV 2 hts (gV hsub q_874 q_876 q_sX7_isRight q_8 q_877) rfl rfl rfl hdX7_isRight ⟨Nat.le_of_ble_eq_true rfl, Nat.le_of_ble_eq_true rfl⟩) (mEb D cI) (mEk D cI (mA ad)) hE (va_recv (ci := 7) (q0 := 0) hK hP rfl rfl) hP hS rfl hl.1 rfl (Nat.le_of_ble_eq_true rfl) dX7_rightMany_16 ⟨Nat.le_of_ble_eq_true rfl, Nat.le_of_ble_eq_true rfl⟩ (fun r_3 S_4 H locs hq_5 hP hR hS _ => ?_)
        obtain ⟨hs9, rfl⟩ := hq_5
        obtain rfl := hs9.symm
        refine z_top (b := b2 (pB (rgP n (S 5) (S 6) i))) rfl ?_
        refine z_ifeqB (tgt := 26) hx hb dX7_rightMany_19 (by decide) (fun c_6 => ?_) (fun c_6 => ?_)
        · have h9 : True := trivial
          refine z_iconst hx hb dX7_rightMany_26 ?_
          refine z_iadd hx hb dX7_rightMany_27 ?_
          refine lv_istore_n (lv' := [(2, .int (zI (x + 0))), (0, .ref (ad 26)), (1, .ref (ad 6)), (3, .int (zI (↑i)))]) hx hb dX7_rightMany_28 rfl hl (by decide) rfl (fun ls hl => ?_)
          refine z_iinc (lv' := [(3, .int (zI (↑i + 1))), (2, .int (zI (x + 0))), (0, .ref (ad 26)), (1, .ref (ad 6))]) hx hb dX7_rightMany_29 hl (k := 3) rfl (by decide) rfl (fun ls hl => ?_)
          refine lv_goto (tgt := 4) hx hb dX7_rightMany_32 (by decide) ?_
          exact ih_4 (i + 1) (x + 0) _ _ _ (by omega) (cnt_f (P := fun q => pB (rgP n (S 5) (S 6) q)) c_6 hxx) (by omega) hP hR hS (lv_sub hl [2, 3, 1, 0] rfl)
        · have h9 : True := trivial
          refine z_iconst hx hb dX7_rightMany_22 ?_
          refine lv_goto (tgt := 27) hx hb dX7_rightMany_23 (by decide) ?_
          refine z_iadd hx hb dX7_rightMany_27 ?_
          refine lv_istore_n (lv' := [(2, .int (zI (x + 1))), (0, .ref (ad 26)), (1, .ref (ad 6)), (3, .int (zI (↑i)))]) hx hb dX7_rightMany_28 rfl hl (by decide) rfl (fun ls hl => ?_)
          refine z_iinc (lv' := [(3, .int (zI (↑i + 1))), (2, .int (zI (x + 1))), (0, .ref (ad 26)), (1, .ref (ad 6))]) hx hb dX7_rightMany_29 hl (k := 3) rfl (by decide) rfl (fun ls hl => ?_)
          refine lv_goto (tgt := 4) hx hb dX7_rightMany_32 (by decide) ?_
          exact ih_4 (i + 1) (x + 1) _ _ _ (by omega) (cnt_t (P := fun q => pB (rgP n (S 5) (S 6) q)) c_6 hxx) (by omega) hP hR hS (lv_sub hl [2, 3, 1, 0] rfl)
  exact cut_4 _ 0 0 _ _ _ (by omega) (rfl) (Nat.lt_succ_self _) hP hR hS (lv_sub hl [2, 3, 1, 0] rfl)
set_option maxHeartbeats 4000000 in
set_option maxRecDepth 100000 in
theorem k_X7_isFit_6 (l : Launch) (D : va_G) (cI : ClassId) (ad : Nat → Nat) (hinj : mInj ad) (S : St) (hR : RS S) (n : Nat) (hn : S 2 0 = ↑n) (hn7 : n ≤ 7) (hp : prm n (S 6)) : Met l yX7_isFit (Cond.code yX7_isFit cX7_isFit 2 (some .boolean) :: lwT) ({ frames := 3, cells := 0, slots := 0, locals := 68 }) (gPc D (mW cI ad) (mE D cI) S [.ref (ad 26), .ref (ad 6)]) (va_Qi (fun (r : Int32) (S' : St) => S' = S ∧ r = zI (b2 (pB (fitP n (S 5) (S 6))))) (gB D (mW cI ad)) (mA ad)) 0 0 (mA ad) := by
  refine Met.ofW (cc := cX7_isFit) (maxL := 2) (ret := (some .boolean)) (by decide) rfl ?_
  intro p e s m args below meth c s₁ B hml hv
  obtain ⟨rfl, hP, hE⟩ := hv
  have hx := B.exec
  have hb := B.bytes
  have hr := B.returns
  have hts := atoms_spec (ws := Cond.code yX7_isFit cX7_isFit 2 (some .boolean) :: lwT) B.pre
  have hT := fun w (h : w ∈ lwT) => hts w (List.mem_cons_of_mem _ h)
  have hsub : ∀ w ∈ lwT, w ∈ (Cond.code yX7_isFit cX7_isFit 2 (some .boolean) :: lwT) := fun w h => List.mem_cons_of_mem _ h
  have hown : s.vm.findClass RX7 = some m.cls := findClass_of_methodNamed B.named
  have hlocks := B.notSynchronized
  have hK : va_K D vwCl [(cI, .int)] s := hE
  have hS : va_S (mA ad) s.heap s.heap [] := va_S.rf
  have hl := lv_entry ([.ref (ad 26), .ref (ad 6)]) (n := 2) (Nat.le_of_ble_eq_true rfl)
  rw [lg_entry_eq]
  generalize (lg_sl ([.ref (ad 26), .ref (ad 6)]) ++ List.replicate (2 - (lg_sl ([.ref (ad 26), .ref (ad 6)])).length) Slot.unset).toArray = ls at hl ⊢
  have hl : lv_has ls 2 [(0, .ref (ad 26)), (1, .ref (ad 6))] := hl
  refine lv_aload_n hx hb dX7_isFit_0 rfl (lv_at hl 0 rfl) ?_
  refine lv_aload_n hx hb dX7_isFit_1 rfl (lv_at hl 1 rfl) ?_
  refine g_callVi (As := [.ref (ad 6)]) (rest := []) ⟨hx, hb, hml, hown, hts⟩ (k_X7_rightMany_6 l D cI ad hinj S hR n hn hn7 hp) (cwV 1 hts (gV hsub q_870 q_872 q_sX7_rightMany q_8 q_873) rfl rfl rfl hdX7_rightMany ⟨Nat.le_of_ble_eq_true rfl, Nat.le_of_ble_eq_true rfl⟩) (mEb D cI) (mEk D cI (mA ad)) hE (va_recv (ci := 7) (q0 := 0) hK hP rfl rfl) hP hS rfl hl.1 rfl (Nat.le_of_ble_eq_true rfl) dX7_isFit_2 ⟨Nat.le_of_ble_eq_true rfl, Nat.le_of_ble_eq_true rfl⟩ (fun r_1 S_2 H locs hq_3 hP hR hS _ => ?_)
  obtain ⟨hs9, rfl⟩ := hq_3
  obtain rfl := hs9.symm
  refine z_top (b := cnt (fun q => pB (rgP n (S 5) (S 6) q)) n) rfl ?_
  have h7 := cnt_r (fun q => pB (rgP n (S 5) (S 6) q)) n
  have h8 := cnt_all (fun q => pB (rgP n (S 5) (S 6) q)) n
  refine lv_aload_n hx hb dX7_isFit_5 rfl (lv_at hl 0 rfl) ?_
  have g_4 : -2147483648 ≤ S 2 0 ∧ S 2 0 < 2147483648 := hR 2 0 (by decide)
  refine va_get (D := D) (ci := 7) (v := .int (zI (S 2 0))) (C := RX7) (T := TX7) (N := 26) hx hb hT inX7 hown hK hP 0 rfl rfl 2 (by decide) (hT _ q_674) (fun _ h9 => h9) rfl dX7_isFit_6 ?_
  refine z_icmp_ne (tgt := 16) hx hb (by omega) (by omega) (by omega) (by omega) dX7_isFit_9 (by decide) (fun c_5 => ?_) (fun c_5 => ?_)
  · have h9 : True := trivial
    refine z_iconst hx hb dX7_isFit_16 ?_
    exact g_zret (S1 := S) (bo := false) hx hb hr hlocks hP hR hS (⟨rfl, pF (fun h => c_5 (by rw [hn]; exact h8.mpr (fun p hp9 => pB_t.mpr (h p hp9))))⟩) dX7_isFit_17
  · have h9 : True := trivial
    refine z_iconst hx hb dX7_isFit_12 ?_
    refine lv_goto (tgt := 17) hx hb dX7_isFit_13 (by decide) ?_
    exact g_zret (S1 := S) (bo := true) hx hb hr hlocks hP hR hS (⟨rfl, pT (fun p hp9 => pB_t.mp (h8.mp (by omega) p hp9))⟩) dX7_isFit_17
set_option maxHeartbeats 4000000 in
set_option maxRecDepth 100000 in
theorem k_X7_isRight_10 (l : Launch) (D : va_G) (cI : ClassId) (ad : Nat → Nat) (hinj : mInj ad) (S : St) (hR : RS S) (n : Nat) (hn : S 2 0 = ↑n) (hn7 : n ≤ 7) (hp : prm n (S 10)) (q : Nat) (x : Int) (hxq : x = ↑q) (hq : q < n) : Met l yX7_isRight (Cond.code yX7_isRight cX7_isRight 5 (some .boolean) :: lwT) ({ frames := 1, cells := 0, slots := 0, locals := 21 }) (gPc D (mW cI ad) (mE D cI) S [.ref (ad 26), .ref (ad 10), .int (zI (x))]) (va_Qi (fun (r : Int32) (S' : St) => S' = S ∧ r = zI (b2 (pB (rgP n (S 5) (S 10) q)))) (gB D (mW cI ad)) (mA ad)) 0 0 (mA ad) := by
  refine Met.ofW (cc := cX7_isRight) (maxL := 5) (ret := (some .boolean)) (by decide) rfl ?_
  intro p e s m args below meth c s₁ B hml hv
  obtain ⟨rfl, hP, hE⟩ := hv
  have hx := B.exec
  have hb := B.bytes
  have hr := B.returns
  have hts := atoms_spec (ws := Cond.code yX7_isRight cX7_isRight 5 (some .boolean) :: lwT) B.pre
  have hT := fun w (h : w ∈ lwT) => hts w (List.mem_cons_of_mem _ h)
  have hsub : ∀ w ∈ lwT, w ∈ (Cond.code yX7_isRight cX7_isRight 5 (some .boolean) :: lwT) := fun w h => List.mem_cons_of_mem _ h
  have hown : s.vm.findClass RX7 = some m.cls := findClass_of_methodNamed B.named
  have hlocks := B.notSynchronized
  have hK : va_K D vwCl [(cI, .int)] s := hE
  have hS : va_S (mA ad) s.heap s.heap [] := va_S.rf
  have p1 := hp.1 q hq
  have hl := lv_entry ([.ref (ad 26), .ref (ad 10), .int (zI (x))]) (n := 5) (Nat.le_of_ble_eq_true rfl)
  rw [lg_entry_eq]
  generalize (lg_sl ([.ref (ad 26), .ref (ad 10), .int (zI (x))]) ++ List.replicate (5 - (lg_sl ([.ref (ad 26), .ref (ad 10), .int (zI (x))])).length) Slot.unset).toArray = ls at hl ⊢
  have hl : lv_has ls 5 [(0, .ref (ad 26)), (1, .ref (ad 10)), (2, .int (zI (x)))] := hl
  have cut_19 : ∀ (o : Bool) (H : Heap) (locs : List Loc) (ls : Array Slot), (o = pB (otP n q)) → va_P D vwCl (mW cI ad S) H → RS S → va_S (mA ad) s.heap H locs → lv_has ls 5 [(0, .ref (ad 26)), (1, .ref (ad 10)), (2, .int (zI (x)))] → W p l e (headSpec (Cond.code yX7_isRight cX7_isRight 5 (some .boolean) :: lwT) ({ frames := 1, cells := 0, slots := 0, locals := 21 })).room s m ([.ref (ad 26), .ref (ad 10), .int (zI (x))] : List Value).toArray below meth c H locs 0 0 (MQ below (va_Qi (fun (r : Int32) (S' : St) => S' = S ∧ r = zI (b2 (pB (rgP n (S 5) (S 10) q)))) (gB D (mW cI ad)) (mA ad)) ([.ref (ad 26), .ref (ad 10), .int (zI (x))] : List Value).toArray s 0 0 (mA ad)) (F0 m 19 ls [.int (zI (b2 (o)))]) := by
    intro o H locs ls ho hP hR hS hl
    refine lv_istore_n (lv' := [(3, .int (zI (b2 (o)))), (0, .ref (ad 26)), (1, .ref (ad 10)), (2, .int (zI (x)))]) hx hb dX7_isRight_19 rfl hl (by decide) rfl (fun ls hl => ?_)
    have cut_63 : ∀ (o2 : Bool) (H : Heap) (locs : List Loc) (ls : Array Slot), (o2 = pB (stP n (S 5) (S 10) q)) → va_P D vwCl (mW cI ad S) H → RS S → va_S (mA ad) s.heap H locs → lv_has ls 5 [(0, .ref (ad 26)), (1, .ref (ad 10)), (2, .int (zI (x))), (3, .int (zI (b2 (o))))] → W p l e (headSpec (Cond.code yX7_isRight cX7_isRight 5 (some .boolean) :: lwT) ({ frames := 1, cells := 0, slots := 0, locals := 21 })).room s m ([.ref (ad 26), .ref (ad 10), .int (zI (x))] : List Value).toArray below meth c H locs 0 0 (MQ below (va_Qi (fun (r : Int32) (S' : St) => S' = S ∧ r = zI (b2 (pB (rgP n (S 5) (S 10) q)))) (gB D (mW cI ad)) (mA ad)) ([.ref (ad 26), .ref (ad 10), .int (zI (x))] : List Value).toArray s 0 0 (mA ad)) (F0 m 63 ls [.int (zI (b2 (o2)))]) := by
      intro o2 H locs ls ho2 hP hR hS hl
      refine lv_istore (lv' := [(4, .int (zI (b2 (o2)))), (0, .ref (ad 26)), (1, .ref (ad 10)), (2, .int (zI (x))), (3, .int (zI (b2 (o))))]) hx hb dX7_isRight_63 hl (by decide) rfl (fun ls hl => ?_)
      refine lv_aload_n hx hb dX7_isRight_65 rfl (lv_at hl 1 rfl) ?_
      refine va_get (D := D) (ci := 7) (v := .ref (ad 5)) (C := RX7) (T := TX7) (N := 26) hx hb hT inX7 hown hK hP 0 rfl rfl 5 (by decide) (hT _ q_677) (fun _ h9 => h9) rfl dX7_isRight_66 ?_
      refine lv_aload_n hx hb dX7_isRight_69 rfl (lv_at hl 2 rfl) ?_
      refine lv_iload_n hx hb dX7_isRight_70 rfl (lv_at hl 3 rfl) ?_
      have g_1 : -2147483648 ≤ S 10 (x).toNat ∧ S 10 (x).toNat < 2147483648 := hR 10 ((x).toNat) (by decide)
      refine z_ald (f := S 10) hx hb hK hP 6 0 rfl rfl (by omega) (by omega) (by decide) (j := (x).toNat) rfl dX7_isRight_71 ?_
      refine z_top (b := (S 10) q) (by rw [show x.toNat = q by omega]) ?_
      have g_2 : -2147483648 ≤ S 5 ((S 10) q).toNat ∧ S 5 ((S 10) q).toNat < 2147483648 := hR 5 (((S 10) q).toNat) (by decide)
      refine z_ald (f := S 5) hx hb hK hP 2 0 rfl rfl (by omega) (by omega) (by decide) (j := ((S 10) q).toNat) rfl dX7_isRight_72 ?_
      rcases (show ((S 5 ((S 10) q).toNat) < 2 ∨ 4 < (S 5 ((S 10) q).toNat)) ∨ (S 5 ((S 10) q).toNat) = 2 ∨ (S 5 ((S 10) q).toNat) = 3 ∨ (S 5 ((S 10) q).toNat) = 4 by omega) with c_3 | c_3 | c_3 | c_3
      · refine z_tabOut hx hb (by omega) (by omega) dX7_isRight_73 c_3 (tgt := 128) (by decide) ?_
        refine z_iconst hx hb dX7_isRight_128 ?_
        exact g_zret (S1 := S) (bo := true) hx hb hr hlocks hP hR hS (⟨rfl, pT ⟨fun e => by omega, fun e => by omega, fun e => by omega⟩⟩) dX7_isRight_129
      · refine z_tabIn hx hb c_3 (by decide) (by decide) dX7_isRight_73 (by decide) (by decide) (off := 29) (by decide) (tgt := 102) (by decide) ?_
        refine lv_iload hx hb dX7_isRight_102 (lv_at hl 0 rfl) ?_
        refine z_ifneB (tgt := 111) hx hb dX7_isRight_104 (by decide) (fun c_4 => ?_) (fun c_4 => ?_)
        · have h9 : True := trivial
          refine z_iconst hx hb dX7_isRight_111 ?_
          exact g_zret (S1 := S) (bo := false) hx hb hr hlocks hP hR hS (⟨rfl, pF (fun h => h.2.1 (by omega) (pB_t.mp (by rw [← ho2]; assumption)))⟩) dX7_isRight_112
        · have h9 : True := trivial
          refine z_iconst hx hb dX7_isRight_107 ?_
          refine lv_goto (tgt := 112) hx hb dX7_isRight_108 (by decide) ?_
          exact g_zret (S1 := S) (bo := true) hx hb hr hlocks hP hR hS (⟨rfl, pT ⟨fun e => by omega, fun _ => pB_f.mp (by rw [← ho2]; assumption), fun e => by omega⟩⟩) dX7_isRight_112
      · refine z_tabIn hx hb c_3 (by decide) (by decide) dX7_isRight_73 (by decide) (by decide) (off := 27) (by decide) (tgt := 100) (by decide) ?_
        refine lv_iload_n hx hb dX7_isRight_100 rfl (lv_at hl 4 rfl) ?_
        exact g_zret (S1 := S) (bo := o) hx hb hr hlocks hP hR hS (⟨rfl, by rw [ho]; exact congrArg (fun b => zI (b2 b)) (pB_c ⟨fun h => ⟨fun _ => h, fun e => by omega, fun e => by omega⟩, fun h => h.1 (by omega)⟩)⟩) dX7_isRight_101
      · refine z_tabIn hx hb c_3 (by decide) (by decide) dX7_isRight_73 (by decide) (by decide) (off := 40) (by decide) (tgt := 113) (by decide) ?_
        refine lv_iload hx hb dX7_isRight_113 (lv_at hl 0 rfl) ?_
        refine z_ifneB (tgt := 126) hx hb dX7_isRight_115 (by decide) (fun c_5 => ?_) (fun c_5 => ?_)
        · have h9 : True := trivial
          refine z_iconst hx hb dX7_isRight_126 ?_
          exact g_zret (S1 := S) (bo := false) hx hb hr hlocks hP hR hS (⟨rfl, pF (fun h => (h.2.2 (by omega)).1 (pB_t.mp (by rw [← ho2]; assumption)))⟩) dX7_isRight_127
        · have h9 : True := trivial
          refine lv_iload_n hx hb dX7_isRight_118 rfl (lv_at hl 4 rfl) ?_
          refine z_ifneB (tgt := 126) hx hb dX7_isRight_119 (by decide) (fun c_6 => ?_) (fun c_6 => ?_)
          · have h9 : True := trivial
            refine z_iconst hx hb dX7_isRight_126 ?_
            exact g_zret (S1 := S) (bo := false) hx hb hr hlocks hP hR hS (⟨rfl, pF (fun h => (h.2.2 (by omega)).2 (pB_t.mp (by rw [← ho]; assumption)))⟩) dX7_isRight_127
          · have h9 : True := trivial
            refine z_iconst hx hb dX7_isRight_122 ?_
            refine lv_goto (tgt := 127) hx hb dX7_isRight_123 (by decide) ?_
            exact g_zret (S1 := S) (bo := true) hx hb hr hlocks hP hR hS (⟨rfl, pT ⟨fun e => by omega, fun e => by omega, fun _ => ⟨pB_f.mp (by rw [← ho2]; assumption), pB_f.mp (by rw [← ho]; assumption)⟩⟩⟩) dX7_isRight_127
    have cut_36 : ∀ (H : Heap) (locs : List Loc) (ls : Array Slot), (¬ (0 < q ∧ skP (S 5 ((S 10) (q - 1)).toNat))) → va_P D vwCl (mW cI ad S) H → RS S → va_S (mA ad) s.heap H locs → lv_has ls 5 [(0, .ref (ad 26)), (1, .ref (ad 10)), (2, .int (zI (x))), (3, .int (zI (b2 (o))))] → W p l e (headSpec (Cond.code yX7_isRight cX7_isRight 5 (some .boolean) :: lwT) ({ frames := 1, cells := 0, slots := 0, locals := 21 })).room s m ([.ref (ad 26), .ref (ad 10), .int (zI (x))] : List Value).toArray below meth c H locs 0 0 (MQ below (va_Qi (fun (r : Int32) (S' : St) => S' = S ∧ r = zI (b2 (pB (rgP n (S 5) (S 10) q)))) (gB D (mW cI ad)) (mA ad)) ([.ref (ad 26), .ref (ad 10), .int (zI (x))] : List Value).toArray s 0 0 (mA ad)) (F0 m 36 ls []) := by
      intro H locs ls h36 hP hR hS hl
      refine lv_iload_n hx hb dX7_isRight_36 rfl (lv_at hl 2 rfl) ?_
      refine lv_aload_n hx hb dX7_isRight_37 rfl (lv_at hl 0 rfl) ?_
      have g_7 : -2147483648 ≤ S 2 0 ∧ S 2 0 < 2147483648 := hR 2 0 (by decide)
      refine va_get (D := D) (ci := 7) (v := .int (zI (S 2 0))) (C := RX7) (T := TX7) (N := 26) hx hb hT inX7 hown hK hP 0 rfl rfl 2 (by decide) (hT _ q_674) (fun _ h9 => h9) rfl dX7_isRight_38 ?_
      refine z_iconst hx hb dX7_isRight_41 ?_
      refine z_isub hx hb dX7_isRight_42 ?_
      refine z_icmp_ge (tgt := 62) hx hb (by omega) (by omega) (by omega) (by omega) dX7_isRight_43 (by decide) (fun c_8 => ?_) (fun c_8 => ?_)
      · have h9 : True := trivial
        refine z_iconst hx hb dX7_isRight_62 ?_
        exact cut_63 false _ _ _ (qF (fun h => h.elim h36 (fun g => by omega))) hP hR hS (lv_sub hl [0, 1, 2, 3] rfl)
      · have h9 : True := trivial
        refine lv_aload_n hx hb dX7_isRight_46 rfl (lv_at hl 0 rfl) ?_
        refine lv_aload_n hx hb dX7_isRight_47 rfl (lv_at hl 1 rfl) ?_
        refine lv_iload_n hx hb dX7_isRight_48 rfl (lv_at hl 2 rfl) ?_
        refine z_iconst hx hb dX7_isRight_49 ?_
        refine z_iadd hx hb dX7_isRight_50 ?_
        have p3 := hp.1 (q + 1) (by omega)
        have g_9 : -2147483648 ≤ S 10 (x + 1).toNat ∧ S 10 (x + 1).toNat < 2147483648 := hR 10 ((x + 1).toNat) (by decide)
        refine z_ald (f := S 10) hx hb hK hP 6 0 rfl rfl (by omega) (by omega) (by decide) (j := (x + 1).toNat) rfl dX7_isRight_51 ?_
        refine z_top (b := (S 10) (q + 1)) (by rw [show (x + 1).toNat = q + 1 by omega]) ?_
        refine g_callVi (As := [.int (zI ((S 10) (q + 1)))]) (rest := []) ⟨hx, hb, hml, hown, hts⟩ (k_X7_isSticky l D cI ad hinj S hR ((S 10) (q + 1)) (by omega) (by omega)) (cwV 1 hts (gV hsub q_878 q_880 q_sX7_isSticky q_8 q_881) rfl rfl rfl hdX7_isSticky ⟨Nat.le_of_ble_eq_true rfl, Nat.le_of_ble_eq_true rfl⟩) (mEb D cI) (mEk D cI (mA ad)) hE (va_recv (ci := 7) (q0 := 0) hK hP rfl rfl) hP hS rfl hl.1 rfl (Nat.le_of_ble_eq_true rfl) dX7_isRight_52 ⟨Nat.le_of_ble_eq_true rfl, Nat.le_of_ble_eq_true rfl⟩ (fun r_10 S_11 H locs hq_12 hP hR hS _ => ?_)
        obtain ⟨hs9, rfl⟩ := hq_12
        obtain rfl := hs9.symm
        refine z_top (b := b2 (pB (skP (S 5 ((S 10) (q + 1)).toNat)))) rfl ?_
        refine z_ifeqB (tgt := 62) hx hb dX7_isRight_55 (by decide) (fun c_13 => ?_) (fun c_13 => ?_)
        · have h9 : True := trivial
          refine z_iconst hx hb dX7_isRight_62 ?_
          exact cut_63 false _ _ _ (qF (fun h => h.elim h36 (fun g => pB_f.mp c_13 g.2))) hP hR hS (lv_sub hl [0, 1, 2, 3] rfl)
        · have h9 : True := trivial
          refine z_iconst hx hb dX7_isRight_58 ?_
          refine lv_goto (tgt := 63) hx hb dX7_isRight_59 (by decide) ?_
          exact cut_63 true _ _ _ (qT (Or.inr ⟨by omega, pB_t.mp c_13⟩)) hP hR hS (lv_sub hl [0, 1, 2, 3] rfl)
    refine lv_iload_n hx hb dX7_isRight_20 rfl (lv_at hl 3 rfl) ?_
    refine z_if_le (tgt := 36) hx hb (by omega) (by omega) dX7_isRight_21 (by decide) (fun c_14 => ?_) (fun c_14 => ?_)
    · have h9 : True := trivial
      exact cut_36 _ _ _ (fun h => by omega) hP hR hS (lv_sub hl [1, 2, 3, 0] rfl)
    · have h9 : True := trivial
      refine lv_aload_n hx hb dX7_isRight_24 rfl (lv_at hl 1 rfl) ?_
      refine lv_aload_n hx hb dX7_isRight_25 rfl (lv_at hl 2 rfl) ?_
      refine lv_iload_n hx hb dX7_isRight_26 rfl (lv_at hl 3 rfl) ?_
      refine z_iconst hx hb dX7_isRight_27 ?_
      refine z_isub hx hb dX7_isRight_28 ?_
      have p2 := hp.1 (q - 1) (by omega)
      have g_15 : -2147483648 ≤ S 10 (x - 1).toNat ∧ S 10 (x - 1).toNat < 2147483648 := hR 10 ((x - 1).toNat) (by decide)
      refine z_ald (f := S 10) hx hb hK hP 6 0 rfl rfl (by omega) (by omega) (by decide) (j := (x - 1).toNat) rfl dX7_isRight_29 ?_
      refine z_top (b := (S 10) (q - 1)) (by rw [show (x - 1).toNat = q - 1 by omega]) ?_
      refine g_callVi (As := [.int (zI ((S 10) (q - 1)))]) (rest := []) ⟨hx, hb, hml, hown, hts⟩ (k_X7_isSticky l D cI ad hinj S hR ((S 10) (q - 1)) (by omega) (by omega)) (cwV 1 hts (gV hsub q_878 q_880 q_sX7_isSticky q_8 q_881) rfl rfl rfl hdX7_isSticky ⟨Nat.le_of_ble_eq_true rfl, Nat.le_of_ble_eq_true rfl⟩) (mEb D cI) (mEk D cI (mA ad)) hE (va_recv (ci := 7) (q0 := 0) hK hP rfl rfl) hP hS rfl hl.1 rfl (Nat.le_of_ble_eq_true rfl) dX7_isRight_30 ⟨Nat.le_of_ble_eq_true rfl, Nat.le_of_ble_eq_true rfl⟩ (fun r_16 S_17 H locs hq_18 hP hR hS _ => ?_)
      obtain ⟨hs9, rfl⟩ := hq_18
      obtain rfl := hs9.symm
      refine z_top (b := b2 (pB (skP (S 5 ((S 10) (q - 1)).toNat)))) rfl ?_
      refine z_ifneB (tgt := 58) hx hb dX7_isRight_33 (by decide) (fun c_19 => ?_) (fun c_19 => ?_)
      · have h9 : True := trivial
        refine z_iconst hx hb dX7_isRight_58 ?_
        refine lv_goto (tgt := 63) hx hb dX7_isRight_59 (by decide) ?_
        exact cut_63 true _ _ _ (qT (Or.inl ⟨by omega, pB_t.mp c_19⟩)) hP hR hS (lv_sub hl [1, 2, 3, 0] rfl)
      · have h9 : True := trivial
        exact cut_36 _ _ _ (fun h => pB_f.mp c_19 h.2) hP hR hS (lv_sub hl [1, 2, 3, 0] rfl)
  refine lv_iload_n hx hb dX7_isRight_0 rfl (lv_at hl 2 rfl) ?_
  refine z_if_eq (tgt := 14) hx hb (by omega) (by omega) dX7_isRight_1 (by decide) (fun c_20 => ?_) (fun c_20 => ?_)
  · have h9 : True := trivial
    refine z_iconst hx hb dX7_isRight_14 ?_
    refine lv_goto (tgt := 19) hx hb dX7_isRight_15 (by decide) ?_
    exact cut_19 true _ _ _ (qT (by unfold otP; omega)) hP hR hS (lv_sub hl [0, 1, 2] rfl)
  · have h9 : True := trivial
    refine lv_iload_n hx hb dX7_isRight_4 rfl (lv_at hl 2 rfl) ?_
    refine lv_aload_n hx hb dX7_isRight_5 rfl (lv_at hl 0 rfl) ?_
    have g_21 : -2147483648 ≤ S 2 0 ∧ S 2 0 < 2147483648 := hR 2 0 (by decide)
    refine va_get (D := D) (ci := 7) (v := .int (zI (S 2 0))) (C := RX7) (T := TX7) (N := 26) hx hb hT inX7 hown hK hP 0 rfl rfl 2 (by decide) (hT _ q_674) (fun _ h9 => h9) rfl dX7_isRight_6 ?_
    refine z_iconst hx hb dX7_isRight_9 ?_
    refine z_isub hx hb dX7_isRight_10 ?_
    refine z_icmp_ne (tgt := 18) hx hb (by omega) (by omega) (by omega) (by omega) dX7_isRight_11 (by decide) (fun c_22 => ?_) (fun c_22 => ?_)
    · have h9 : True := trivial
      refine z_iconst hx hb dX7_isRight_18 ?_
      exact cut_19 false _ _ _ (qF (by unfold otP; omega)) hP hR hS (lv_sub hl [0, 1, 2] rfl)
    · have h9 : True := trivial
      refine z_iconst hx hb dX7_isRight_14 ?_
      refine lv_goto (tgt := 19) hx hb dX7_isRight_15 (by decide) ?_
      exact cut_19 true _ _ _ (qT (by unfold otP; omega)) hP hR hS (lv_sub hl [0, 1, 2] rfl)
set_option maxHeartbeats 4000000 in
set_option maxRecDepth 100000 in
theorem k_X7_rightMany_10 (l : Launch) (D : va_G) (cI : ClassId) (ad : Nat → Nat) (hinj : mInj ad) (S : St) (hR : RS S) (n : Nat) (hn : S 2 0 = ↑n) (hn7 : n ≤ 7) (hp : prm n (S 10)) : Met l yX7_rightMany (Cond.code yX7_rightMany cX7_rightMany 4 (some .int) :: lwT) ({ frames := 2, cells := 0, slots := 0, locals := 45 }) (gPc D (mW cI ad) (mE D cI) S [.ref (ad 26), .ref (ad 10)]) (va_Qi (fun (r : Int32) (S' : St) => S' = S ∧ r = zI (cnt (fun q => pB (rgP n (S 5) (S 10) q)) n)) (gB D (mW cI ad)) (mA ad)) 0 0 (mA ad) := by
  refine Met.ofW (cc := cX7_rightMany) (maxL := 4) (ret := (some .int)) (by decide) rfl ?_
  intro p e s m args below meth c s₁ B hml hv
  obtain ⟨rfl, hP, hE⟩ := hv
  have hx := B.exec
  have hb := B.bytes
  have hr := B.returns
  have hts := atoms_spec (ws := Cond.code yX7_rightMany cX7_rightMany 4 (some .int) :: lwT) B.pre
  have hT := fun w (h : w ∈ lwT) => hts w (List.mem_cons_of_mem _ h)
  have hsub : ∀ w ∈ lwT, w ∈ (Cond.code yX7_rightMany cX7_rightMany 4 (some .int) :: lwT) := fun w h => List.mem_cons_of_mem _ h
  have hown : s.vm.findClass RX7 = some m.cls := findClass_of_methodNamed B.named
  have hlocks := B.notSynchronized
  have hK : va_K D vwCl [(cI, .int)] s := hE
  have hS : va_S (mA ad) s.heap s.heap [] := va_S.rf
  have hl := lv_entry ([.ref (ad 26), .ref (ad 10)]) (n := 4) (Nat.le_of_ble_eq_true rfl)
  rw [lg_entry_eq]
  generalize (lg_sl ([.ref (ad 26), .ref (ad 10)]) ++ List.replicate (4 - (lg_sl ([.ref (ad 26), .ref (ad 10)])).length) Slot.unset).toArray = ls at hl ⊢
  have hl : lv_has ls 4 [(0, .ref (ad 26)), (1, .ref (ad 10))] := hl
  refine z_iconst hx hb dX7_rightMany_0 ?_
  refine lv_istore_n (lv' := [(2, .int (zI (0))), (0, .ref (ad 26)), (1, .ref (ad 10))]) hx hb dX7_rightMany_1 rfl hl (by decide) rfl (fun ls hl => ?_)
  refine z_iconst hx hb dX7_rightMany_2 ?_
  refine lv_istore_n (lv' := [(3, .int (zI (0))), (2, .int (zI (0))), (0, .ref (ad 26)), (1, .ref (ad 10))]) hx hb dX7_rightMany_3 rfl hl (by decide) rfl (fun ls hl => ?_)
  have cut_4 : ∀ (k9 : Nat) (i : Nat) (x : Int) (H : Heap) (locs : List Loc) (ls : Array Slot), (i ≤ n) → (x = cnt (fun q => pB (rgP n (S 5) (S 10) q)) i) → (n - i) < k9 → va_P D vwCl (mW cI ad S) H → RS S → va_S (mA ad) s.heap H locs → lv_has ls 4 [(0, .ref (ad 26)), (1, .ref (ad 10)), (2, .int (zI (x))), (3, .int (zI (↑i)))] → W p l e (headSpec (Cond.code yX7_rightMany cX7_rightMany 4 (some .int) :: lwT) ({ frames := 2, cells := 0, slots := 0, locals := 45 })).room s m ([.ref (ad 26), .ref (ad 10)] : List Value).toArray below meth c H locs 0 0 (MQ below (va_Qi (fun (r : Int32) (S' : St) => S' = S ∧ r = zI (cnt (fun q => pB (rgP n (S 5) (S 10) q)) n)) (gB D (mW cI ad)) (mA ad)) ([.ref (ad 26), .ref (ad 10)] : List Value).toArray s 0 0 (mA ad)) (F0 m 4 ls []) := by
    intro k9
    induction k9 with
    | zero =>
      intro i x H locs ls hi hxx hk9 hP hR hS hl
      exact absurd hk9 (Nat.not_lt_zero _)
    | succ k9 ih_4 =>
      intro i x H locs ls hi hxx hk9 hP hR hS hl
      refine lv_iload_n hx hb dX7_rightMany_4 rfl (lv_at hl 3 rfl) ?_
      refine lv_aload_n hx hb dX7_rightMany_5 rfl (lv_at hl 0 rfl) ?_
      have g_1 : -2147483648 ≤ S 2 0 ∧ S 2 0 < 2147483648 := hR 2 0 (by decide)
      refine va_get (D := D) (ci := 7) (v := .int (zI (S 2 0))) (C := RX7) (T := TX7) (N := 26) hx hb hT inX7 hown hK hP 0 rfl rfl 2 (by decide) (hT _ q_674) (fun _ h9 => h9) rfl dX7_rightMany_6 ?_
      refine z_icmp_ge (tgt := 35) hx hb (by omega) (by omega) (by omega) (by omega) dX7_rightMany_9 (by decide) (fun c_2 => ?_) (fun c_2 => ?_)
      · have h9 : True := trivial
        refine lv_iload_n hx hb dX7_rightMany_35 rfl (lv_at hl 2 rfl) ?_
        exact g_iret (S1 := S) (v := zI (x)) hx hb hr hlocks hP hR hS (⟨rfl, by rw [hxx, show i = n by omega]⟩) dX7_rightMany_36
      · have h9 : True := trivial
        refine lv_iload_n hx hb dX7_rightMany_12 rfl (lv_at hl 2 rfl) ?_
        refine lv_aload_n hx hb dX7_rightMany_13 rfl (lv_at hl 0 rfl) ?_
        refine lv_aload_n hx hb dX7_rightMany_14 rfl (lv_at hl 1 rfl) ?_
        refine lv_iload_n hx hb dX7_rightMany_15 rfl (lv_at hl 3 rfl) ?_
        refine g_callVi (As := [.ref (ad 10), .int (zI (↑i))]) (rest := [.int (zI (x))]) ⟨hx, hb, hml, hown, hts⟩ (k_X7_isRight_10 l D cI ad hinj S hR n (by omega) hn7 hp i ↑i (by omega) (by omega)) (cwV 2 hts (gV hsub q_874 q_876 q_sX7_isRight q_8 q_877) rfl rfl rfl hdX7_isRight ⟨Nat.le_of_ble_eq_true rfl, Nat.le_of_ble_eq_true rfl⟩) (mEb D cI) (mEk D cI (mA ad)) hE (va_recv (ci := 7) (q0 := 0) hK hP rfl rfl) hP hS rfl hl.1 rfl (Nat.le_of_ble_eq_true rfl) dX7_rightMany_16 ⟨Nat.le_of_ble_eq_true rfl, Nat.le_of_ble_eq_true rfl⟩ (fun r_3 S_4 H locs hq_5 hP hR hS _ => ?_)
        obtain ⟨hs9, rfl⟩ := hq_5
        obtain rfl := hs9.symm
        refine z_top (b := b2 (pB (rgP n (S 5) (S 10) i))) rfl ?_
        refine z_ifeqB (tgt := 26) hx hb dX7_rightMany_19 (by decide) (fun c_6 => ?_) (fun c_6 => ?_)
        · have h9 : True := trivial
          refine z_iconst hx hb dX7_rightMany_26 ?_
          refine z_iadd hx hb dX7_rightMany_27 ?_
          refine lv_istore_n (lv' := [(2, .int (zI (x + 0))), (0, .ref (ad 26)), (1, .ref (ad 10)), (3, .int (zI (↑i)))]) hx hb dX7_rightMany_28 rfl hl (by decide) rfl (fun ls hl => ?_)
          refine z_iinc (lv' := [(3, .int (zI (↑i + 1))), (2, .int (zI (x + 0))), (0, .ref (ad 26)), (1, .ref (ad 10))]) hx hb dX7_rightMany_29 hl (k := 3) rfl (by decide) rfl (fun ls hl => ?_)
          refine lv_goto (tgt := 4) hx hb dX7_rightMany_32 (by decide) ?_
          exact ih_4 (i + 1) (x + 0) _ _ _ (by omega) (cnt_f (P := fun q => pB (rgP n (S 5) (S 10) q)) c_6 hxx) (by omega) hP hR hS (lv_sub hl [2, 3, 1, 0] rfl)
        · have h9 : True := trivial
          refine z_iconst hx hb dX7_rightMany_22 ?_
          refine lv_goto (tgt := 27) hx hb dX7_rightMany_23 (by decide) ?_
          refine z_iadd hx hb dX7_rightMany_27 ?_
          refine lv_istore_n (lv' := [(2, .int (zI (x + 1))), (0, .ref (ad 26)), (1, .ref (ad 10)), (3, .int (zI (↑i)))]) hx hb dX7_rightMany_28 rfl hl (by decide) rfl (fun ls hl => ?_)
          refine z_iinc (lv' := [(3, .int (zI (↑i + 1))), (2, .int (zI (x + 1))), (0, .ref (ad 26)), (1, .ref (ad 10))]) hx hb dX7_rightMany_29 hl (k := 3) rfl (by decide) rfl (fun ls hl => ?_)
          refine lv_goto (tgt := 4) hx hb dX7_rightMany_32 (by decide) ?_
          exact ih_4 (i + 1) (x + 1) _ _ _ (by omega) (cnt_t (P := fun q => pB (rgP n (S 5) (S 10) q)) c_6 hxx) (by omega) hP hR hS (lv_sub hl [2, 3, 1, 0] rfl)
  exact cut_4 _ 0 0 _ _ _ (by omega) (rfl) (Nat.lt_succ_self _) hP hR hS (lv_sub hl [2, 3, 1, 0] rfl)
set_option maxHeartbeats 4000000 in
set_option maxRecDepth 100000 in
theorem k_X7_isFit_10 (l : Launch) (D : va_G) (cI : ClassId) (ad : Nat → Nat) (hinj : mInj ad) (S : St) (hR : RS S) (n : Nat) (hn : S 2 0 = ↑n) (hn7 : n ≤ 7) (hp : prm n (S 10)) : Met l yX7_isFit (Cond.code yX7_isFit cX7_isFit 2 (some .boolean) :: lwT) ({ frames := 3, cells := 0, slots := 0, locals := 68 }) (gPc D (mW cI ad) (mE D cI) S [.ref (ad 26), .ref (ad 10)]) (va_Qi (fun (r : Int32) (S' : St) => S' = S ∧ r = zI (b2 (pB (fitP n (S 5) (S 10))))) (gB D (mW cI ad)) (mA ad)) 0 0 (mA ad) := by
  refine Met.ofW (cc := cX7_isFit) (maxL := 2) (ret := (some .boolean)) (by decide) rfl ?_
  intro p e s m args below meth c s₁ B hml hv
  obtain ⟨rfl, hP, hE⟩ := hv
  have hx := B.exec
  have hb := B.bytes
  have hr := B.returns
  have hts := atoms_spec (ws := Cond.code yX7_isFit cX7_isFit 2 (some .boolean) :: lwT) B.pre
  have hT := fun w (h : w ∈ lwT) => hts w (List.mem_cons_of_mem _ h)
  have hsub : ∀ w ∈ lwT, w ∈ (Cond.code yX7_isFit cX7_isFit 2 (some .boolean) :: lwT) := fun w h => List.mem_cons_of_mem _ h
  have hown : s.vm.findClass RX7 = some m.cls := findClass_of_methodNamed B.named
  have hlocks := B.notSynchronized
  have hK : va_K D vwCl [(cI, .int)] s := hE
  have hS : va_S (mA ad) s.heap s.heap [] := va_S.rf
  have hl := lv_entry ([.ref (ad 26), .ref (ad 10)]) (n := 2) (Nat.le_of_ble_eq_true rfl)
  rw [lg_entry_eq]
  generalize (lg_sl ([.ref (ad 26), .ref (ad 10)]) ++ List.replicate (2 - (lg_sl ([.ref (ad 26), .ref (ad 10)])).length) Slot.unset).toArray = ls at hl ⊢
  have hl : lv_has ls 2 [(0, .ref (ad 26)), (1, .ref (ad 10))] := hl
  refine lv_aload_n hx hb dX7_isFit_0 rfl (lv_at hl 0 rfl) ?_
  refine lv_aload_n hx hb dX7_isFit_1 rfl (lv_at hl 1 rfl) ?_
  refine g_callVi (As := [.ref (ad 10)]) (rest := []) ⟨hx, hb, hml, hown, hts⟩ (k_X7_rightMany_10 l D cI ad hinj S hR n hn hn7 hp) (cwV 1 hts (gV hsub q_870 q_872 q_sX7_rightMany q_8 q_873) rfl rfl rfl hdX7_rightMany ⟨Nat.le_of_ble_eq_true rfl, Nat.le_of_ble_eq_true rfl⟩) (mEb D cI) (mEk D cI (mA ad)) hE (va_recv (ci := 7) (q0 := 0) hK hP rfl rfl) hP hS rfl hl.1 rfl (Nat.le_of_ble_eq_true rfl) dX7_isFit_2 ⟨Nat.le_of_ble_eq_true rfl, Nat.le_of_ble_eq_true rfl⟩ (fun r_1 S_2 H locs hq_3 hP hR hS _ => ?_)
  obtain ⟨hs9, rfl⟩ := hq_3
  obtain rfl := hs9.symm
  refine z_top (b := cnt (fun q => pB (rgP n (S 5) (S 10) q)) n) rfl ?_
  have h7 := cnt_r (fun q => pB (rgP n (S 5) (S 10) q)) n
  have h8 := cnt_all (fun q => pB (rgP n (S 5) (S 10) q)) n
  refine lv_aload_n hx hb dX7_isFit_5 rfl (lv_at hl 0 rfl) ?_
  have g_4 : -2147483648 ≤ S 2 0 ∧ S 2 0 < 2147483648 := hR 2 0 (by decide)
  refine va_get (D := D) (ci := 7) (v := .int (zI (S 2 0))) (C := RX7) (T := TX7) (N := 26) hx hb hT inX7 hown hK hP 0 rfl rfl 2 (by decide) (hT _ q_674) (fun _ h9 => h9) rfl dX7_isFit_6 ?_
  refine z_icmp_ne (tgt := 16) hx hb (by omega) (by omega) (by omega) (by omega) dX7_isFit_9 (by decide) (fun c_5 => ?_) (fun c_5 => ?_)
  · have h9 : True := trivial
    refine z_iconst hx hb dX7_isFit_16 ?_
    exact g_zret (S1 := S) (bo := false) hx hb hr hlocks hP hR hS (⟨rfl, pF (fun h => c_5 (by rw [hn]; exact h8.mpr (fun p hp9 => pB_t.mpr (h p hp9))))⟩) dX7_isFit_17
  · have h9 : True := trivial
    refine z_iconst hx hb dX7_isFit_12 ?_
    refine lv_goto (tgt := 17) hx hb dX7_isFit_13 (by decide) ?_
    exact g_zret (S1 := S) (bo := true) hx hb hr hlocks hP hR hS (⟨rfl, pT (fun p hp9 => pB_t.mp (h8.mp (by omega) p hp9))⟩) dX7_isFit_17
