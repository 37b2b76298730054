set_option maxHeartbeats 4000000 in
set_option maxRecDepth 100000 in
theorem k_X5_hasWaxAt (l : Launch) (D : va_G) (cI cZ : ClassId) (ad : Nat → Nat) (az av : Nat) (hinj : cInj ad) (S : St) (hR : RS S) (n N : Nat) (t : Nat → Int) (hT9 : cTab n N t S) (k : Nat) (x : Int) (hxk : x = ↑k) (hkN : k < N) (y : Int) (hyr : -1 ≤ y ∧ y ≤ 7) : Met l yX5_hasWaxAt (Cond.code yX5_hasWaxAt cX5_hasWaxAt 4 (some .boolean) :: lwT) ({ frames := 3, cells := 0, slots := 0, locals := 63 }) (gPc D (cW cI cZ ad) (cE D cI cZ ad az av) S [.ref (ad 45), .int (zI (x)), .int (zI (y))]) (va_Qi (fun (r : Int32) (S' : St) => S' = S ∧ r = zI (b2 (pB ((0 ≤ y ∧ y < n) ∧ skP (S 7 (dgF n (t k) y.toNat).toNat))))) (gB D (cW cI cZ ad)) (cA ad)) 0 0 (cA ad) := by
  refine Met.ofW (cc := cX5_hasWaxAt) (maxL := 4) (ret := (some .boolean)) (by decide) rfl ?_
  intro p e s m args below meth c s₁ B hml hv
  obtain ⟨rfl, hP, hE⟩ := hv
  have hx := B.exec
  have hb := B.bytes
  have hr := B.returns
  have hts := atoms_spec (ws := Cond.code yX5_hasWaxAt cX5_hasWaxAt 4 (some .boolean) :: lwT) B.pre
  have hT := fun w (h : w ∈ lwT) => hts w (List.mem_cons_of_mem _ h)
  have hsub : ∀ w ∈ lwT, w ∈ (Cond.code yX5_hasWaxAt cX5_hasWaxAt 4 (some .boolean) :: lwT) := fun w h => List.mem_cons_of_mem _ h
  have hown : s.vm.findClass RX5 = some m.cls := findClass_of_methodNamed B.named
  have hlocks := B.notSynchronized
  have hK : va_K D vwCl [(cI, .int), (cZ, .boolean)] s := hE.1
  have hS : va_S (cA ad) s.heap s.heap [] := va_S.rf
  have hT8 := hT9
  obtain ⟨⟨hn, hN, hn7, hN4⟩, hn0, hO9, hso, htb⟩ := hT9
  have hnz : n ≠ 0 := fun e => by have := hn0 e; omega
  have hO := hO9 hnz
  obtain ⟨a1, a2, a3⟩ := hO.2.1 k hkN
  obtain ⟨w, hw⟩ : ∃ w, w = laF n N t x y := ⟨_, rfl⟩
  have hw1 : (0 ≤ y ∧ y < n) → w = dgF n (t k) y.toNat ∧ 0 ≤ w ∧ w < n := fun h => by have h7 := a2.1 y.toNat (by omega); rw [hw]; unfold laF; rw [if_pos (by omega), show x.toNat = k by omega]; omega
  have hw2 : ¬ (0 ≤ y ∧ y < n) → w = -1 := fun h => by rw [hw]; unfold laF; rw [if_neg (by omega)]
  have hl := lv_entry ([.ref (ad 45), .int (zI (x)), .int (zI (y))]) (n := 4) (Nat.le_of_ble_eq_true rfl)
  rw [lg_entry_eq]
  generalize (lg_sl ([.ref (ad 45), .int (zI (x)), .int (zI (y))]) ++ List.replicate (4 - (lg_sl ([.ref (ad 45), .int (zI (x)), .int (zI (y))])).length) Slot.unset).toArray = ls at hl ⊢
  have hl : lv_has ls 4 [(0, .ref (ad 45)), (1, .int (zI (x))), (2, .int (zI (y)))] := hl
  refine lv_aload_n hx hb dX5_hasWaxAt_0 rfl (lv_at hl 0 rfl) ?_
  refine va_get (D := D) (ci := 5) (v := .ref (ad 42)) (C := RX5) (T := TX5) (N := 5) hx hb hT inX5 hown hK hP 5 rfl rfl 1 (by decide) (hT _ q_114) (fun _ h9 => h9) rfl dX5_hasWaxAt_1 ?_
  refine lv_iload_n hx hb dX5_hasWaxAt_4 rfl (lv_at hl 1 rfl) ?_
  refine lv_iload_n hx hb dX5_hasWaxAt_5 rfl (lv_at hl 2 rfl) ?_
  refine g_callVi (As := [.int (zI (x)), .int (zI (y))]) (rest := []) ⟨hx, hb, hml, hown, hts⟩ (k_X0_leafAt l D cI cZ ad az av hinj S hR n N t hT8 x y (by omega) (by omega) (by omega) (by omega)) (cwV 2 hts (gV hsub q_370 q_371 q_372 q_3 q_373) rfl rfl rfl hdX0_leafAt ⟨Nat.le_of_ble_eq_true rfl, Nat.le_of_ble_eq_true rfl⟩) (cEb D cI cZ ad az av) (cEk D cI cZ ad az av) hE (va_recv (ci := 0) (q0 := 2) hK hP rfl rfl) hP hS rfl hl.1 rfl (Nat.le_of_ble_eq_true rfl) dX5_hasWaxAt_6 ⟨Nat.le_of_ble_eq_true rfl, Nat.le_of_ble_eq_true rfl⟩ (fun r_1 S_2 H locs hq_3 hP hR hS _ => ?_)
  obtain ⟨hs9, rfl⟩ := hq_3
  obtain rfl := hs9.symm
  refine z_top (b := laF n N t x y) rfl ?_
  have hwr : w = -1 ∨ (0 ≤ w ∧ w < n) := (Classical.em (0 ≤ y ∧ y < n)).elim (fun h => Or.inr (hw1 h).2) (fun h => Or.inl (hw2 h))
  refine z_top (b := w) (hw.symm) ?_
  refine lv_istore_n (lv' := [(3, .int (zI (w))), (0, .ref (ad 45)), (1, .int (zI (x))), (2, .int (zI (y)))]) hx hb dX5_hasWaxAt_9 rfl hl (by decide) rfl (fun ls hl => ?_)
  refine lv_iload_n hx hb dX5_hasWaxAt_10 rfl (lv_at hl 0 rfl) ?_
  refine z_iconst hx hb dX5_hasWaxAt_11 ?_
  refine z_icmp_eq (tgt := 32) hx hb (by omega) (by omega) (by omega) (by omega) dX5_hasWaxAt_12 (by decide) (fun c_4 => ?_) (fun c_4 => ?_)
  · have h9 : True := trivial
    refine z_iconst hx hb dX5_hasWaxAt_32 ?_
    exact g_zret (S1 := S) (bo := false) hx hb hr hlocks hP hR hS (⟨rfl, pF (fun h => by have := hw1 h.1; omega)⟩) dX5_hasWaxAt_33
  · have h9 : True := trivial
    refine lv_aload_n hx hb dX5_hasWaxAt_15 rfl (lv_at hl 1 rfl) ?_
    refine va_get (D := D) (ci := 5) (v := .ref (ad 7)) (C := RX5) (T := TX5) (N := 5) hx hb hT inX5 hown hK hP 5 rfl rfl 2 (by decide) (hT _ q_115) (fun _ h9 => h9) rfl dX5_hasWaxAt_16 ?_
    refine lv_iload_n hx hb dX5_hasWaxAt_19 rfl (lv_at hl 0 rfl) ?_
    have g_5 : -2147483648 ≤ S 7 (w).toNat ∧ S 7 (w).toNat < 2147483648 := hR 7 ((w).toNat) (by decide)
    refine z_ald (f := S 7) hx hb hK hP 12 0 rfl rfl (by omega) (by omega) (by decide) (j := (w).toNat) rfl dX5_hasWaxAt_20 ?_
    refine z_iconst hx hb dX5_hasWaxAt_21 ?_
    refine s_callNi (As := [.int (zI (S 7 (w).toNat)), .int (zI (2))]) (rest := []) ⟨hx, hb, hml, hown, hts⟩ (k_X6_isOfKind l (S 7 (w).toNat) 2 (by omega) (by omega) (by omega) (by omega)) ⟨va_cnB 2 hts (gI hsub q_365) rfl rfl rfl hE.2.1 (hT _ q_1) hdX6_isOfKind.2 ⟨Nat.le_of_ble_eq_true rfl, Nat.le_of_ble_eq_true rfl⟩, hT _ q_364, trivial⟩ rfl hl.1 rfl (Nat.le_of_ble_eq_true rfl) dX5_hasWaxAt_22 ⟨Nat.le_of_ble_eq_true rfl, Nat.le_of_ble_eq_true rfl⟩ (fun r_6 hq_8 => ?_)
    rw [hq_8]
    refine z_ifeqB (tgt := 32) hx hb dX5_hasWaxAt_25 (by decide) (fun c_9 => ?_) (fun c_9 => ?_)
    · have h9 : True := trivial
      refine z_iconst hx hb dX5_hasWaxAt_32 ?_
      exact g_zret (S1 := S) (bo := false) hx hb hr hlocks hP hR hS (⟨rfl, pF (fun h => pB_f.mp c_9 (okP2.mpr (by rw [(hw1 h.1).1]; exact h.2)))⟩) dX5_hasWaxAt_33
    · have h9 : True := trivial
      refine z_iconst hx hb dX5_hasWaxAt_28 ?_
      refine lv_goto (tgt := 33) hx hb dX5_hasWaxAt_29 (by decide) ?_
      exact g_zret (S1 := S) (bo := true) hx hb hr hlocks hP hR hS (⟨rfl, pT ⟨Classical.byContradiction (fun h => by have := hw2 h; omega), by have h7 := okP2.mp (pB_t.mp c_9); rw [(hw1 (Classical.byContradiction (fun h => by have := hw2 h; omega))).1] at h7; exact h7⟩⟩) dX5_hasWaxAt_33
set_option maxHeartbeats 4000000 in
set_option maxRecDepth 100000 in
theorem k_X5_isContent (l : Launch) (D : va_G) (cI cZ : ClassId) (ad : Nat → Nat) (az av : Nat) (hinj : cInj ad) (S : St) (hR : RS S) (n N : Nat) (t : Nat → Int) (hT9 : cTab n N t S) (k : Nat) (x : Int) (hxk : x = ↑k) (hkN : k < N) (v : Nat) (y : Int) (hyv : y = ↑v) (hv : v < n) : Met l yX5_isContent (Cond.code yX5_isContent cX5_isContent 5 (some .boolean) :: lwT) ({ frames := 4, cells := 0, slots := 0, locals := 86 }) (gPc D (cW cI cZ ad) (cE D cI cZ ad az av) S [.ref (ad 45), .int (zI (x)), .int (zI (y))]) (va_Qi (fun (r : Int32) (S' : St) => S' = S ∧ r = zI (b2 (pB (rgP n (S 7) (dgF n (t k)) (pl n (dgF n (t k)) v))))) (gB D (cW cI cZ ad)) (cA ad)) 0 0 (cA ad) := by
  refine Met.ofW (cc := cX5_isContent) (maxL := 5) (ret := (some .boolean)) (by decide) rfl ?_
  intro p e s m args below meth c s₁ B hml hv
  obtain ⟨rfl, hP, hE⟩ := hv
  have hx := B.exec
  have hb := B.bytes
  have hr := B.returns
  have hts := atoms_spec (ws := Cond.code yX5_isContent cX5_isContent 5 (some .boolean) :: lwT) B.pre
  have hT := fun w (h : w ∈ lwT) => hts w (List.mem_cons_of_mem _ h)
  have hsub : ∀ w ∈ lwT, w ∈ (Cond.code yX5_isContent cX5_isContent 5 (some .boolean) :: lwT) := fun w h => List.mem_cons_of_mem _ h
  have hown : s.vm.findClass RX5 = some m.cls := findClass_of_methodNamed B.named
  have hlocks := B.notSynchronized
  have hK : va_K D vwCl [(cI, .int), (cZ, .boolean)] s := hE.1
  have hS : va_S (cA ad) s.heap s.heap [] := va_S.rf
  have hT8 := hT9
  obtain ⟨⟨hn, hN, hn7, hN4⟩, hn0, hO9, hso, htb⟩ := hT9
  have hnz : n ≠ 0 := fun e => by have := hn0 e; omega
  have hO := hO9 hnz
  obtain ⟨a1, a2, a3⟩ := hO.2.1 k hkN
  have hpl := pl_at a2 hv
  obtain ⟨p9, hp9⟩ : ∃ p9, p9 = pl n (dgF n (t k)) v := ⟨_, rfl⟩
  rw [← hp9] at hpl
  have hr7 : -2147483648 ≤ S 7 v ∧ S 7 v < 2147483648 := hR 7 v (by decide)
  have hkv : S 7 (dgF n (t k) p9).toNat = S 7 v := by rw [hpl.2]; rfl
  have hl := lv_entry ([.ref (ad 45), .int (zI (x)), .int (zI (y))]) (n := 5) (Nat.le_of_ble_eq_true rfl)
  rw [lg_entry_eq]
  generalize (lg_sl ([.ref (ad 45), .int (zI (x)), .int (zI (y))]) ++ List.replicate (5 - (lg_sl ([.ref (ad 45), .int (zI (x)), .int (zI (y))])).length) Slot.unset).toArray = ls at hl ⊢
  have hl : lv_has ls 5 [(0, .ref (ad 45)), (1, .int (zI (x))), (2, .int (zI (y)))] := hl
  refine lv_aload_n hx hb dX5_isContent_0 rfl (lv_at hl 0 rfl) ?_
  refine va_get (D := D) (ci := 5) (v := .ref (ad 42)) (C := RX5) (T := TX5) (N := 5) hx hb hT inX5 hown hK hP 5 rfl rfl 1 (by decide) (hT _ q_114) (fun _ h9 => h9) rfl dX5_isContent_1 ?_
  refine lv_iload_n hx hb dX5_isContent_4 rfl (lv_at hl 1 rfl) ?_
  refine lv_iload_n hx hb dX5_isContent_5 rfl (lv_at hl 2 rfl) ?_
  refine g_callVi (As := [.int (zI (x)), .int (zI (y))]) (rest := []) ⟨hx, hb, hml, hown, hts⟩ (k_X0_placeOf l D cI cZ ad az av hinj S hR n N t hT8 x y (by omega) (by omega) (by omega) (by omega)) (cwV 2 hts (gV hsub q_359 q_360 q_361 q_3 q_362) rfl rfl rfl hdX0_placeOf ⟨Nat.le_of_ble_eq_true rfl, Nat.le_of_ble_eq_true rfl⟩) (cEb D cI cZ ad az av) (cEk D cI cZ ad az av) hE (va_recv (ci := 0) (q0 := 2) hK hP rfl rfl) hP hS rfl hl.1 rfl (Nat.le_of_ble_eq_true rfl) dX5_isContent_6 ⟨Nat.le_of_ble_eq_true rfl, Nat.le_of_ble_eq_true rfl⟩ (fun r_1 S_2 H locs hq_3 hP hR hS _ => ?_)
  obtain ⟨hs9, rfl⟩ := hq_3
  obtain rfl := hs9.symm
  refine z_top (b := plV n N t x y) rfl ?_
  refine z_top (b := ↑p9) (by unfold plV; rw [if_pos (by omega), show x.toNat = k by omega, show y.toNat = v by omega, hp9]) ?_
  refine lv_istore_n (lv' := [(3, .int (zI (↑p9))), (0, .ref (ad 45)), (1, .int (zI (x))), (2, .int (zI (y)))]) hx hb dX5_isContent_9 rfl hl (by decide) rfl (fun ls hl => ?_)
  refine lv_iload_n hx hb dX5_isContent_10 rfl (lv_at hl 0 rfl) ?_
  refine z_iconst hx hb dX5_isContent_11 ?_
  refine z_icmp_ne (tgt := 17) hx hb (by omega) (by omega) (by omega) (by omega) dX5_isContent_12 (by decide) (fun c_4 => ?_) (fun c_4 => ?_)
  · have h9 : True := trivial
    have cut_39 : ∀ (o : Bool) (H : Heap) (locs : List Loc) (ls : Array Slot), (o = pB (otP n p9)) → va_P D vwCl (cW cI cZ ad S) H → RS S → va_S (cA ad) s.heap H locs → lv_has ls 5 [(0, .ref (ad 45)), (1, .int (zI (x))), (2, .int (zI (y))), (3, .int (zI (↑p9)))] → W p l e (headSpec (Cond.code yX5_isContent cX5_isContent 5 (some .boolean) :: lwT) ({ frames := 4, cells := 0, slots := 0, locals := 86 })).room s m ([.ref (ad 45), .int (zI (x)), .int (zI (y))] : List Value).toArray below meth c H locs 0 0 (MQ below (va_Qi (fun (r : Int32) (S' : St) => S' = S ∧ r = zI (b2 (pB (rgP n (S 7) (dgF n (t k)) (pl n (dgF n (t k)) v))))) (gB D (cW cI cZ ad)) (cA ad)) ([.ref (ad 45), .int (zI (x)), .int (zI (y))] : List Value).toArray s 0 0 (cA ad)) (F0 m 39 ls [.int (zI (b2 (o)))]) := by
      intro o H locs ls ho hP hR hS hl
      refine lv_istore (lv' := [(4, .int (zI (b2 (o)))), (0, .ref (ad 45)), (1, .int (zI (x))), (2, .int (zI (y))), (3, .int (zI (↑p9)))]) hx hb dX5_isContent_39 hl (by decide) rfl (fun ls hl => ?_)
      refine lv_aload_n hx hb dX5_isContent_41 rfl (lv_at hl 1 rfl) ?_
      refine va_get (D := D) (ci := 5) (v := .ref (ad 7)) (C := RX5) (T := TX5) (N := 5) hx hb hT inX5 hown hK hP 5 rfl rfl 2 (by decide) (hT _ q_115) (fun _ h9 => h9) rfl dX5_isContent_42 ?_
      refine lv_iload_n hx hb dX5_isContent_45 rfl (lv_at hl 3 rfl) ?_
      have g_5 : -2147483648 ≤ S 7 (y).toNat ∧ S 7 (y).toNat < 2147483648 := hR 7 ((y).toNat) (by decide)
      refine z_ald (f := S 7) hx hb hK hP 12 0 rfl rfl (by omega) (by omega) (by decide) (j := (y).toNat) rfl dX5_isContent_46 ?_
      refine z_top (b := S 7 v) (by rw [show y.toNat = v by omega]) ?_
      refine z_iconst hx hb dX5_isContent_47 ?_
      refine z_icmp_ne (tgt := 54) hx hb (by omega) (by omega) (by omega) (by omega) dX5_isContent_48 (by decide) (fun c_6 => ?_) (fun c_6 => ?_)
      · have h9 : True := trivial
        have cut_71 : ∀ (H : Heap) (locs : List Loc) (ls : Array Slot), (¬ S 7 v = 3) → (S 7 v = 4 → ¬ otP n p9) → va_P D vwCl (cW cI cZ ad S) H → RS S → va_S (cA ad) s.heap H locs → lv_has ls 5 [(0, .ref (ad 45)), (1, .int (zI (x))), (2, .int (zI (y))), (3, .int (zI (↑p9)))] → W p l e (headSpec (Cond.code yX5_isContent cX5_isContent 5 (some .boolean) :: lwT) ({ frames := 4, cells := 0, slots := 0, locals := 86 })).room s m ([.ref (ad 45), .int (zI (x)), .int (zI (y))] : List Value).toArray below meth c H locs 0 0 (MQ below (va_Qi (fun (r : Int32) (S' : St) => S' = S ∧ r = zI (b2 (pB (rgP n (S 7) (dgF n (t k)) (pl n (dgF n (t k)) v))))) (gB D (cW cI cZ ad)) (cA ad)) ([.ref (ad 45), .int (zI (x)), .int (zI (y))] : List Value).toArray s 0 0 (cA ad)) (F0 m 71 ls []) := by
          intro H locs ls h3 h4 hP hR hS hl
          refine lv_aload_n hx hb dX5_isContent_71 rfl (lv_at hl 0 rfl) ?_
          refine va_get (D := D) (ci := 5) (v := .ref (ad 7)) (C := RX5) (T := TX5) (N := 5) hx hb hT inX5 hown hK hP 5 rfl rfl 2 (by decide) (hT _ q_115) (fun _ h9 => h9) rfl dX5_isContent_72 ?_
          refine lv_iload_n hx hb dX5_isContent_75 rfl (lv_at hl 2 rfl) ?_
          have g_7 : -2147483648 ≤ S 7 (y).toNat ∧ S 7 (y).toNat < 2147483648 := hR 7 ((y).toNat) (by decide)
          refine z_ald (f := S 7) hx hb hK hP 12 0 rfl rfl (by omega) (by omega) (by decide) (j := (y).toNat) rfl dX5_isContent_76 ?_
          refine z_top (b := S 7 v) (by rw [show y.toNat = v by omega]) ?_
          refine z_iconst hx hb dX5_isContent_77 ?_
          refine s_callNi (As := [.int (zI (S 7 v)), .int (zI (2))]) (rest := []) ⟨hx, hb, hml, hown, hts⟩ (k_X6_isOfKind l (S 7 v) 2 (by omega) (by omega) (by omega) (by omega)) ⟨va_cnB 2 hts (gI hsub q_365) rfl rfl rfl hE.2.1 (hT _ q_1) hdX6_isOfKind.2 ⟨Nat.le_of_ble_eq_true rfl, Nat.le_of_ble_eq_true rfl⟩, hT _ q_364, trivial⟩ rfl hl.1 rfl (Nat.le_of_ble_eq_true rfl) dX5_isContent_78 ⟨Nat.le_of_ble_eq_true rfl, Nat.le_of_ble_eq_true rfl⟩ (fun r_8 hq_10 => ?_)
          rw [hq_10]
          refine z_ifeqB (tgt := 106) hx hb dX5_isContent_81 (by decide) (fun c_11 => ?_) (fun c_11 => ?_)
          · have h9 : True := trivial
            refine z_iconst hx hb dX5_isContent_106 ?_
            refine lv_goto (tgt := 111) hx hb dX5_isContent_107 (by decide) ?_
            exact g_zret (S1 := S) (bo := true) hx hb hr hlocks hP hR hS (⟨rfl, by rw [← hp9]; exact pT ⟨fun e => by omega, fun e => absurd (Or.inl (hkv ▸ e)) (fun g => pB_f.mp c_11 (okP2.mpr g)), fun e => absurd (Or.inr (hkv ▸ e)) (fun g => pB_f.mp c_11 (okP2.mpr g))⟩⟩) dX5_isContent_111
          · have h9 : True := trivial
            refine lv_aload_n hx hb dX5_isContent_84 rfl (lv_at hl 0 rfl) ?_
            refine lv_iload_n hx hb dX5_isContent_85 rfl (lv_at hl 1 rfl) ?_
            refine lv_iload_n hx hb dX5_isContent_86 rfl (lv_at hl 3 rfl) ?_
            refine z_iconst hx hb dX5_isContent_87 ?_
            refine z_isub hx hb dX5_isContent_88 ?_
            refine g_callVi (As := [.int (zI (x)), .int (zI (↑p9 - 1))]) (rest := []) ⟨hx, hb, hml, hown, hts⟩ (k_X5_hasWaxAt l D cI cZ ad az av hinj S hR n N t hT8 k x (by omega) hkN (↑p9 - 1) (by omega)) (cwV 2 hts (gV hsub q_366 q_368 q_sX5_hasWaxAt q_5 q_369) rfl rfl rfl hdX5_hasWaxAt ⟨Nat.le_of_ble_eq_true rfl, Nat.le_of_ble_eq_true rfl⟩) (cEb D cI cZ ad az av) (cEk D cI cZ ad az av) hE (va_recv (ci := 5) (q0 := 5) hK hP rfl rfl) hP hS rfl hl.1 rfl (Nat.le_of_ble_eq_true rfl) dX5_isContent_89 ⟨Nat.le_of_ble_eq_true rfl, Nat.le_of_ble_eq_true rfl⟩ (fun r_12 S_13 H locs hq_14 hP hR hS _ => ?_)
            obtain ⟨hs9, rfl⟩ := hq_14
            obtain rfl := hs9.symm
            refine z_top (b := b2 (pB (((0 : Int) ≤ (↑p9 - 1) ∧ ((↑p9 - 1) : Int) < ↑n) ∧ skP (S 7 (dgF n (t k) (↑p9 - 1 : Int).toNat).toNat)))) rfl ?_
            refine z_ifneB (tgt := 110) hx hb dX5_isContent_92 (by decide) (fun c_15 => ?_) (fun c_15 => ?_)
            · have h9 : True := trivial
              refine z_iconst hx hb dX5_isContent_110 ?_
              exact g_zret (S1 := S) (bo := false) hx hb hr hlocks hP hR hS (⟨rfl, by rw [← hp9]; exact pF (content_f hkv (okP2.mp (pB_t.mp c_11)) (Or.inl (by have h7 := pB_t.mp c_15; rw [show (↑p9 - 1 : Int).toNat = p9 - 1 by omega] at h7; exact ⟨by omega, h7.2⟩)))⟩) dX5_isContent_111
            · have h9 : True := trivial
              refine lv_aload_n hx hb dX5_isContent_95 rfl (lv_at hl 0 rfl) ?_
              refine lv_iload_n hx hb dX5_isContent_96 rfl (lv_at hl 1 rfl) ?_
              refine lv_iload_n hx hb dX5_isContent_97 rfl (lv_at hl 3 rfl) ?_
              refine z_iconst hx hb dX5_isContent_98 ?_
              refine z_iadd hx hb dX5_isContent_99 ?_
              refine g_callVi (As := [.int (zI (x)), .int (zI (↑p9 + 1))]) (rest := []) ⟨hx, hb, hml, hown, hts⟩ (k_X5_hasWaxAt l D cI cZ ad az av hinj S hR n N t hT8 k x (by omega) hkN (↑p9 + 1) (by omega)) (cwV 2 hts (gV hsub q_366 q_368 q_sX5_hasWaxAt q_5 q_369) rfl rfl rfl hdX5_hasWaxAt ⟨Nat.le_of_ble_eq_true rfl, Nat.le_of_ble_eq_true rfl⟩) (cEb D cI cZ ad az av) (cEk D cI cZ ad az av) hE (va_recv (ci := 5) (q0 := 5) hK hP rfl rfl) hP hS rfl hl.1 rfl (Nat.le_of_ble_eq_true rfl) dX5_isContent_100 ⟨Nat.le_of_ble_eq_true rfl, Nat.le_of_ble_eq_true rfl⟩ (fun r_16 S_17 H locs hq_18 hP hR hS _ => ?_)
              obtain ⟨hs9, rfl⟩ := hq_18
              obtain rfl := hs9.symm
              refine z_top (b := b2 (pB (((0 : Int) ≤ (↑p9 + 1) ∧ ((↑p9 + 1) : Int) < ↑n) ∧ skP (S 7 (dgF n (t k) (↑p9 + 1 : Int).toNat).toNat)))) rfl ?_
              refine z_ifneB (tgt := 110) hx hb dX5_isContent_103 (by decide) (fun c_19 => ?_) (fun c_19 => ?_)
              · have h9 : True := trivial
                refine z_iconst hx hb dX5_isContent_110 ?_
                exact g_zret (S1 := S) (bo := false) hx hb hr hlocks hP hR hS (⟨rfl, by rw [← hp9]; exact pF (content_f hkv (okP2.mp (pB_t.mp c_11)) (Or.inr (by have h7 := pB_t.mp c_19; rw [show (↑p9 + 1 : Int).toNat = p9 + 1 by omega] at h7; exact ⟨by omega, h7.2⟩)))⟩) dX5_isContent_111
              · have h9 : True := trivial
                refine z_iconst hx hb dX5_isContent_106 ?_
                refine lv_goto (tgt := 111) hx hb dX5_isContent_107 (by decide) ?_
                exact g_zret (S1 := S) (bo := true) hx hb hr hlocks hP hR hS (⟨rfl, by rw [← hp9]; exact pT (content_t h4 hkv h3 (fun h => pB_f.mp c_15 ⟨by omega, by rw [show (↑p9 - 1 : Int).toNat = p9 - 1 by omega]; exact h.2⟩) (fun h => pB_f.mp c_19 ⟨by omega, by rw [show (↑p9 + 1 : Int).toNat = p9 + 1 by omega]; exact h.2⟩))⟩) dX5_isContent_111
        refine lv_aload_n hx hb dX5_isContent_54 rfl (lv_at hl 1 rfl) ?_
        refine va_get (D := D) (ci := 5) (v := .ref (ad 7)) (C := RX5) (T := TX5) (N := 5) hx hb hT inX5 hown hK hP 5 rfl rfl 2 (by decide) (hT _ q_115) (fun _ h9 => h9) rfl dX5_isContent_55 ?_
        refine lv_iload_n hx hb dX5_isContent_58 rfl (lv_at hl 3 rfl) ?_
        refine z_ald (f := S 7) hx hb hK hP 12 0 rfl rfl (by omega) (by omega) (by decide) (j := (y).toNat) rfl dX5_isContent_59 ?_
        refine z_top (b := S 7 v) (by rw [show y.toNat = v by omega]) ?_
        refine z_iconst hx hb dX5_isContent_60 ?_
        refine z_icmp_ne (tgt := 71) hx hb (by omega) (by omega) (by omega) (by omega) dX5_isContent_61 (by decide) (fun c_20 => ?_) (fun c_20 => ?_)
        · have h9 : True := trivial
          exact cut_71 _ _ _ (by omega) (fun e => absurd e (by omega)) hP hR hS (lv_sub hl [1, 2, 3, 4] rfl)
        · have h9 : True := trivial
          refine lv_iload hx hb dX5_isContent_64 (lv_at hl 0 rfl) ?_
          refine z_ifeqB (tgt := 71) hx hb dX5_isContent_66 (by decide) (fun c_21 => ?_) (fun c_21 => ?_)
          · have h9 : True := trivial
            exact cut_71 _ _ _ (by omega) (fun _ => pB_f.mp (by rw [← ho]; exact c_21)) hP hR hS (lv_sub hl [1, 2, 3, 4] rfl)
          · have h9 : True := trivial
            refine z_iconst hx hb dX5_isContent_69 ?_
            exact g_zret (S1 := S) (bo := false) hx hb hr hlocks hP hR hS (⟨rfl, by rw [← hp9]; exact pF (fun h => (h.2.2 (by omega)).2 (pB_t.mp (by rw [← ho]; exact c_21)))⟩) dX5_isContent_70
      · have h9 : True := trivial
        refine lv_iload hx hb dX5_isContent_51 (lv_at hl 0 rfl) ?_
        exact g_zret (S1 := S) (bo := o) hx hb hr hlocks hP hR hS (⟨rfl, by rw [← hp9]; exact by rw [ho]; exact congrArg (fun b => zI (b2 b)) (pB_c ⟨fun h => ⟨fun _ => h, fun e => by omega, fun e => by omega⟩, fun h => h.1 (by omega)⟩)⟩) dX5_isContent_53
    refine lv_iload_n hx hb dX5_isContent_17 rfl (lv_at hl 0 rfl) ?_
    refine z_if_eq (tgt := 34) hx hb (by omega) (by omega) dX5_isContent_18 (by decide) (fun c_22 => ?_) (fun c_22 => ?_)
    · have h9 : True := trivial
      refine z_iconst hx hb dX5_isContent_34 ?_
      refine lv_goto (tgt := 39) hx hb dX5_isContent_35 (by decide) ?_
      exact cut_39 true _ _ _ (qT (by unfold otP; omega)) hP hR hS (lv_sub hl [1, 2, 3, 0] rfl)
    · have h9 : True := trivial
      refine lv_iload_n hx hb dX5_isContent_21 rfl (lv_at hl 0 rfl) ?_
      refine lv_aload_n hx hb dX5_isContent_22 rfl (lv_at hl 1 rfl) ?_
      refine va_get (D := D) (ci := 5) (v := .ref (ad 42)) (C := RX5) (T := TX5) (N := 5) hx hb hT inX5 hown hK hP 5 rfl rfl 1 (by decide) (hT _ q_114) (fun _ h9 => h9) rfl dX5_isContent_23 ?_
      have g_23 : -2147483648 ≤ S 2 0 ∧ S 2 0 < 2147483648 := hR 2 0 (by decide)
      refine va_get (D := D) (ci := 0) (v := .int (zI (S 2 0))) (C := RX0) (T := TX0) (N := 5) hx hb hT inX0 hown hK hP 2 rfl rfl 0 (by decide) (hT _ q_49) (fun _ h9 => h9) rfl dX5_isContent_26 ?_
      refine z_iconst hx hb dX5_isContent_29 ?_
      refine z_isub hx hb dX5_isContent_30 ?_
      refine z_icmp_ne (tgt := 38) hx hb (by omega) (by omega) (by omega) (by omega) dX5_isContent_31 (by decide) (fun c_24 => ?_) (fun c_24 => ?_)
      · have h9 : True := trivial
        refine z_iconst hx hb dX5_isContent_38 ?_
        exact cut_39 false _ _ _ (qF (by unfold otP; omega)) hP hR hS (lv_sub hl [1, 2, 3, 0] rfl)
      · have h9 : True := trivial
        refine z_iconst hx hb dX5_isContent_34 ?_
        refine lv_goto (tgt := 39) hx hb dX5_isContent_35 (by decide) ?_
        exact cut_39 true _ _ _ (qT (by unfold otP; omega)) hP hR hS (lv_sub hl [1, 2, 3, 0] rfl)
  · exact False.elim (by omega)
set_option maxHeartbeats 4000000 in
set_option maxRecDepth 100000 in
theorem k_X5_areAllContent (l : Launch) (D : va_G) (cI cZ : ClassId) (ad : Nat → Nat) (az av : Nat) (hinj : cInj ad) (S : St) (hR : RS S) (n N : Nat) (t : Nat → Int) (hT9 : cTab n N t S) (k : Nat) (x : Int) (hxk : x = ↑k) (hkN : k < N) : Met l yX5_areAllContent (Cond.code yX5_areAllContent cX5_areAllContent 3 (some .boolean) :: lwT) ({ frames := 5, cells := 0, slots := 0, locals := 110 }) (gPc D (cW cI cZ ad) (cE D cI cZ ad az av) S [.ref (ad 45), .int (zI (x))]) (va_Qi (fun (r : Int32) (S' : St) => S' = S ∧ r = zI (b2 (pB (ftP n (S 7) t k)))) (gB D (cW cI cZ ad)) (cA ad)) 0 0 (cA ad) := by
  refine Met.ofW (cc := cX5_areAllContent) (maxL := 3) (ret := (some .boolean)) (by decide) rfl ?_
  intro p e s m args below meth c s₁ B hml hv
  obtain ⟨rfl, hP, hE⟩ := hv
  have hx := B.exec
  have hb := B.bytes
  have hr := B.returns
  have hts := atoms_spec (ws := Cond.code yX5_areAllContent cX5_areAllContent 3 (some .boolean) :: lwT) B.pre
  have hT := fun w (h : w ∈ lwT) => hts w (List.mem_cons_of_mem _ h)
  have hsub : ∀ w ∈ lwT, w ∈ (Cond.code yX5_areAllContent cX5_areAllContent 3 (some .boolean) :: lwT) := fun w h => List.mem_cons_of_mem _ h
  have hown : s.vm.findClass RX5 = some m.cls := findClass_of_methodNamed B.named
  have hlocks := B.notSynchronized
  have hK : va_K D vwCl [(cI, .int), (cZ, .boolean)] s := hE.1
  have hS : va_S (cA ad) s.heap s.heap [] := va_S.rf
  have hT8 := hT9
  obtain ⟨⟨hn, hN, hn7, hN4⟩, hn0, hO9, hso, htb⟩ := hT9
  have hnz : n ≠ 0 := fun e => by have := hn0 e; omega
  have hO := hO9 hnz
  obtain ⟨a1, a2, a3⟩ := hO.2.1 k hkN
  have hl := lv_entry ([.ref (ad 45), .int (zI (x))]) (n := 3) (Nat.le_of_ble_eq_true rfl)
  rw [lg_entry_eq]
  generalize (lg_sl ([.ref (ad 45), .int (zI (x))]) ++ List.replicate (3 - (lg_sl ([.ref (ad 45), .int (zI (x))])).length) Slot.unset).toArray = ls at hl ⊢
  have hl : lv_has ls 3 [(0, .ref (ad 45)), (1, .int (zI (x)))] := hl
  refine z_iconst hx hb dX5_areAllContent_0 ?_
  refine lv_istore_n (lv' := [(2, .int (zI (0))), (0, .ref (ad 45)), (1, .int (zI (x)))]) hx hb dX5_areAllContent_1 rfl hl (by decide) rfl (fun ls hl => ?_)
  have cut_2 : ∀ (k9 : Nat) (i : Nat) (H : Heap) (locs : List Loc) (ls : Array Slot), (i ≤ n) → (∀ v, v < i → rgP n (S 7) (dgF n (t k)) (pl n (dgF n (t k)) v)) → (n - i) < k9 → va_P D vwCl (cW cI cZ ad S) H → RS S → va_S (cA ad) s.heap H locs → lv_has ls 3 [(0, .ref (ad 45)), (1, .int (zI (x))), (2, .int (zI (↑i)))] → W p l e (headSpec (Cond.code yX5_areAllContent cX5_areAllContent 3 (some .boolean) :: lwT) ({ frames := 5, cells := 0, slots := 0, locals := 110 })).room s m ([.ref (ad 45), .int (zI (x))] : List Value).toArray below meth c H locs 0 0 (MQ below (va_Qi (fun (r : Int32) (S' : St) => S' = S ∧ r = zI (b2 (pB (ftP n (S 7) t k)))) (gB D (cW cI cZ ad)) (cA ad)) ([.ref (ad 45), .int (zI (x))] : List Value).toArray s 0 0 (cA ad)) (F0 m 2 ls []) := by
    intro k9
    induction k9 with
    | zero =>
      intro i H locs ls hi hf hk9 hP hR hS hl
      exact absurd hk9 (Nat.not_lt_zero _)
    | succ k9 ih_2 =>
      intro i H locs ls hi hf hk9 hP hR hS hl
      refine lv_iload_n hx hb dX5_areAllContent_2 rfl (lv_at hl 2 rfl) ?_
      refine lv_aload_n hx hb dX5_areAllContent_3 rfl (lv_at hl 0 rfl) ?_
      refine va_get (D := D) (ci := 5) (v := .ref (ad 42)) (C := RX5) (T := TX5) (N := 5) hx hb hT inX5 hown hK hP 5 rfl rfl 1 (by decide) (hT _ q_114) (fun _ h9 => h9) rfl dX5_areAllContent_4 ?_
      have g_1 : -2147483648 ≤ S 2 0 ∧ S 2 0 < 2147483648 := hR 2 0 (by decide)
      refine va_get (D := D) (ci := 0) (v := .int (zI (S 2 0))) (C := RX0) (T := TX0) (N := 5) hx hb hT inX0 hown hK hP 2 rfl rfl 0 (by decide) (hT _ q_49) (fun _ h9 => h9) rfl dX5_areAllContent_7 ?_
      refine z_icmp_ge (tgt := 30) hx hb (by omega) (by omega) (by omega) (by omega) dX5_areAllContent_10 (by decide) (fun c_2 => ?_) (fun c_2 => ?_)
      · have h9 : True := trivial
        refine z_iconst hx hb dX5_areAllContent_30 ?_
        exact g_zret (S1 := S) (bo := true) hx hb hr hlocks hP hR hS (⟨rfl, pT ((fit_pl a2).mpr (fun v hv => hf v (by omega)))⟩) dX5_areAllContent_31
      · have h9 : True := trivial
        refine lv_aload_n hx hb dX5_areAllContent_13 rfl (lv_at hl 0 rfl) ?_
        refine lv_iload_n hx hb dX5_areAllContent_14 rfl (lv_at hl 1 rfl) ?_
        refine lv_iload_n hx hb dX5_areAllContent_15 rfl (lv_at hl 2 rfl) ?_
        refine g_callVi (As := [.int (zI (x)), .int (zI (↑i))]) (rest := []) ⟨hx, hb, hml, hown, hts⟩ (k_X5_isContent l D cI cZ ad az av hinj S hR n N t hT8 k x (by omega) hkN i ↑i (by omega) (by omega)) (cwV 2 hts (gV hsub q_355 q_356 q_357 q_5 q_358) rfl rfl rfl hdX5_isContent ⟨Nat.le_of_ble_eq_true rfl, Nat.le_of_ble_eq_true rfl⟩) (cEb D cI cZ ad az av) (cEk D cI cZ ad az av) hE (va_recv (ci := 5) (q0 := 5) hK hP rfl rfl) hP hS rfl hl.1 rfl (Nat.le_of_ble_eq_true rfl) dX5_areAllContent_16 ⟨Nat.le_of_ble_eq_true rfl, Nat.le_of_ble_eq_true rfl⟩ (fun r_3 S_4 H locs hq_5 hP hR hS _ => ?_)
        obtain ⟨hs9, rfl⟩ := hq_5
        obtain rfl := hs9.symm
        refine z_top (b := b2 (pB (rgP n (S 7) (dgF n (t k)) (pl n (dgF n (t k)) i)))) rfl ?_
        refine z_ifneB (tgt := 24) hx hb dX5_areAllContent_19 (by decide) (fun c_6 => ?_) (fun c_6 => ?_)
        · have h9 : True := trivial
          refine z_iinc (lv' := [(2, .int (zI (↑i + 1))), (0, .ref (ad 45)), (1, .int (zI (x)))]) hx hb dX5_areAllContent_24 hl (k := 2) rfl (by decide) rfl (fun ls hl => ?_)
          refine lv_goto (tgt := 2) hx hb dX5_areAllContent_27 (by decide) ?_
          exact ih_2 (i + 1) _ _ _ (by omega) (lt_s hf (pB_t.mp c_6)) (by omega) hP hR hS (lv_sub hl [1, 2, 0] rfl)
        · have h9 : True := trivial
          refine z_iconst hx hb dX5_areAllContent_22 ?_
          exact g_zret (S1 := S) (bo := false) hx hb hr hlocks hP hR hS (⟨rfl, pF (fun h => pB_f.mp c_6 ((fit_pl a2).mp h i (by omega)))⟩) dX5_areAllContent_23
  exact cut_2 _ 0 _ _ _ (by omega) (fun j h => absurd h (Nat.not_lt_zero j)) (Nat.lt_succ_self _) hP hR hS (lv_sub hl [1, 2, 0] rfl)
