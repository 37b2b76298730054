set_option maxHeartbeats 4000000 in
set_option maxRecDepth 100000 in
theorem k_X1_isPossible (l : Launch) (D : va_G) (cI cZ : ClassId) (ad : Nat → Nat) (az av : Nat) (hinj : cInj ad) (S : St) (hR : RS S) (n N : Nat) (t : Nat → Int) (hT9 : cTab n N t S) (m9 : Nat) (hse : seOK n m9 S) (k : Nat) (x : Int) (hxk : x = ↑k) (hkN : k < N) : Met l yX1_isPossible (Cond.code yX1_isPossible cX1_isPossible 4 (some .boolean) :: lwT) ({ frames := 1, cells := 0, slots := 0, locals := 22 }) (gPc D (cW cI cZ ad) (cE D cI cZ ad az av) S [.ref (ad 47), .int (zI (x))]) (va_Qi (fun (r : Int32) (S' : St) => S' = S ∧ r = zI (b2 (pB (lkC n (dgF n (t k)) (S 11) (S 12) (S 13) m9)))) (gB D (cW cI cZ ad)) (cA ad)) 0 0 (cA ad) := by
  refine Met.ofW (cc := cX1_isPossible) (maxL := 4) (ret := (some .boolean)) (by decide) rfl ?_
  intro p e s m args below meth c s₁ B hml hv
  obtain ⟨rfl, hP, hE⟩ := hv
  have hx := B.exec
  have hb := B.bytes
  have hr := B.returns
  have hts := atoms_spec (ws := Cond.code yX1_isPossible cX1_isPossible 4 (some .boolean) :: lwT) B.pre
  have hT := fun w (h : w ∈ lwT) => hts w (List.mem_cons_of_mem _ h)
  have hsub : ∀ w ∈ lwT, w ∈ (Cond.code yX1_isPossible cX1_isPossible 4 (some .boolean) :: lwT) := fun w h => List.mem_cons_of_mem _ h
  have hown : s.vm.findClass RX1 = some m.cls := findClass_of_methodNamed B.named
  have hlocks := B.notSynchronized
  have hK : va_K D vwCl [(cI, .int), (cZ, .boolean)] s := hE.1
  have hS : va_S (cA ad) s.heap s.heap [] := va_S.rf
  have hT8 := hT9
  obtain ⟨⟨hn, hN, hn7, hN4⟩, hn0, hO9, hso, htb⟩ := hT9
  have hnz : n ≠ 0 := fun e => by have := hn0 e; omega
  have hO := hO9 hnz
  obtain ⟨a1, a2, a3⟩ := hO.2.1 k hkN
  obtain ⟨hm9, hm6, hsa⟩ := hse
  have hl := lv_entry ([.ref (ad 47), .int (zI (x))]) (n := 4) (Nat.le_of_ble_eq_true rfl)
  rw [lg_entry_eq]
  generalize (lg_sl ([.ref (ad 47), .int (zI (x))]) ++ List.replicate (4 - (lg_sl ([.ref (ad 47), .int (zI (x))])).length) Slot.unset).toArray = ls at hl ⊢
  have hl : lv_has ls 4 [(0, .ref (ad 47)), (1, .int (zI (x)))] := hl
  refine z_iconst hx hb dX1_isPossible_0 ?_
  refine lv_istore_n (lv' := [(2, .int (zI (0))), (0, .ref (ad 47)), (1, .int (zI (x)))]) hx hb dX1_isPossible_1 rfl hl (by decide) rfl (fun ls hl => ?_)
  have cut_2 : ∀ (k9 : Nat) (i : Nat) (H : Heap) (locs : List Loc) (ls : Array Slot), (i ≤ m9) → (lkC n (dgF n (t k)) (S 11) (S 12) (S 13) i) → (m9 - i) < k9 → va_P D vwCl (cW cI cZ ad S) H → RS S → va_S (cA ad) s.heap H locs → lv_has ls 4 [(0, .ref (ad 47)), (1, .int (zI (x))), (2, .int (zI (↑i)))] → W p l e (headSpec (Cond.code yX1_isPossible cX1_isPossible 4 (some .boolean) :: lwT) ({ frames := 1, cells := 0, slots := 0, locals := 22 })).room s m ([.ref (ad 47), .int (zI (x))] : List Value).toArray below meth c H locs 0 0 (MQ below (va_Qi (fun (r : Int32) (S' : St) => S' = S ∧ r = zI (b2 (pB (lkC n (dgF n (t k)) (S 11) (S 12) (S 13) m9)))) (gB D (cW cI cZ ad)) (cA ad)) ([.ref (ad 47), .int (zI (x))] : List Value).toArray s 0 0 (cA ad)) (F0 m 2 ls []) := by
    intro k9
    induction k9 with
    | zero =>
      intro i H locs ls hi hl9 hk9 hP hR hS hl
      exact absurd hk9 (Nat.not_lt_zero _)
    | succ k9 ih_2 =>
      intro i H locs ls hi hl9 hk9 hP hR hS hl
      refine lv_iload_n hx hb dX1_isPossible_2 rfl (lv_at hl 2 rfl) ?_
      refine lv_aload_n hx hb dX1_isPossible_3 rfl (lv_at hl 0 rfl) ?_
      refine va_get (D := D) (ci := 1) (v := .ref (ad 43)) (C := RX1) (T := TX1) (N := 3) hx hb hT inX1 hown hK hP 7 rfl rfl 1 (by decide) (hT _ q_167) (fun _ h9 => h9) rfl dX1_isPossible_4 ?_
      have g_1 : -2147483648 ≤ S 10 0 ∧ S 10 0 < 2147483648 := hR 10 0 (by decide)
      refine va_get (D := D) (ci := 4) (v := .int (zI (S 10 0))) (C := RX4) (T := TX4) (N := 7) hx hb hT inX4 hown hK hP 3 rfl rfl 3 (by decide) (hT _ q_82) (fun _ h9 => h9) rfl dX1_isPossible_7 ?_
      refine z_icmp_ge (tgt := 69) hx hb (by omega) (by omega) (by omega) (by omega) dX1_isPossible_10 (by decide) (fun c_2 => ?_) (fun c_2 => ?_)
      · have h9 : True := trivial
        refine z_iconst hx hb dX1_isPossible_69 ?_
        exact g_zret (S1 := S) (bo := true) hx hb hr hlocks hP hR hS (⟨rfl, pT ((show i = m9 by omega) ▸ hl9)⟩) dX1_isPossible_70
      · have h9 : True := trivial
        have hs7 := hsa i (by omega)
        refine lv_aload_n hx hb dX1_isPossible_13 rfl (lv_at hl 0 rfl) ?_
        refine va_get (D := D) (ci := 1) (v := .ref (ad 42)) (C := RX1) (T := TX1) (N := 3) hx hb hT inX1 hown hK hP 7 rfl rfl 0 (by decide) (hT _ q_166) (fun _ h9 => h9) rfl dX1_isPossible_14 ?_
        refine lv_iload_n hx hb dX1_isPossible_17 rfl (lv_at hl 1 rfl) ?_
        refine lv_aload_n hx hb dX1_isPossible_18 rfl (lv_at hl 0 rfl) ?_
        refine va_get (D := D) (ci := 1) (v := .ref (ad 43)) (C := RX1) (T := TX1) (N := 3) hx hb hT inX1 hown hK hP 7 rfl rfl 1 (by decide) (hT _ q_167) (fun _ h9 => h9) rfl dX1_isPossible_19 ?_
        refine va_get (D := D) (ci := 4) (v := .ref (ad 11)) (C := RX4) (T := TX4) (N := 7) hx hb hT inX4 hown hK hP 3 rfl rfl 4 (by decide) (hT _ q_85) (fun _ h9 => h9) rfl dX1_isPossible_22 ?_
        refine lv_iload_n hx hb dX1_isPossible_25 rfl (lv_at hl 2 rfl) ?_
        have g_3 : -2147483648 ≤ S 11 i ∧ S 11 i < 2147483648 := hR 11 i (by decide)
        refine z_ald (f := S 11) hx hb hK hP 13 0 rfl rfl (by omega) (by omega) (by decide) (j := i) rfl dX1_isPossible_26 ?_
        refine g_callVi (As := [.int (zI (x)), .int (zI (S 11 i))]) (rest := []) ⟨hx, hb, hml, hown, hts⟩ (k_X0_placeOf l D cI cZ ad az av hinj S hR n N t hT8 x (S 11 i) (by omega) (by omega) (by omega) (by omega)) (cwV 2 hts (gV hsub q_589 q_360 q_361 q_3 q_362) rfl rfl rfl hdX0_placeOf ⟨Nat.le_of_ble_eq_true rfl, Nat.le_of_ble_eq_true rfl⟩) (cEb D cI cZ ad az av) (cEk D cI cZ ad az av) hE (va_recv (ci := 0) (q0 := 2) hK hP rfl rfl) hP hS rfl hl.1 rfl (Nat.le_of_ble_eq_true rfl) dX1_isPossible_27 ⟨Nat.le_of_ble_eq_true rfl, Nat.le_of_ble_eq_true rfl⟩ (fun r_4 S_5 H locs hq_6 hP hR hS _ => ?_)
        obtain ⟨hs9, rfl⟩ := hq_6
        obtain rfl := hs9.symm
        refine z_top (b := plV n N t x (S 11 i)) rfl ?_
        have hpl := pl_lt a2 (v := (S 11 i).toNat) (by omega)
        refine z_top (b := ↑(pl n (dgF n (t k)) (S 11 i).toNat)) (by unfold plV; rw [if_pos (by omega), show x.toNat = k by omega]) ?_
        refine lv_aload_n hx hb dX1_isPossible_30 rfl (lv_at hl 0 rfl) ?_
        refine va_get (D := D) (ci := 1) (v := .ref (ad 43)) (C := RX1) (T := TX1) (N := 3) hx hb hT inX1 hown hK hP 7 rfl rfl 1 (by decide) (hT _ q_167) (fun _ h9 => h9) rfl dX1_isPossible_31 ?_
        refine va_get (D := D) (ci := 4) (v := .ref (ad 12)) (C := RX4) (T := TX4) (N := 7) hx hb hT inX4 hown hK hP 3 rfl rfl 5 (by decide) (hT _ q_87) (fun _ h9 => h9) rfl dX1_isPossible_34 ?_
        refine lv_iload_n hx hb dX1_isPossible_37 rfl (lv_at hl 2 rfl) ?_
        have g_7 : -2147483648 ≤ S 12 i ∧ S 12 i < 2147483648 := hR 12 i (by decide)
        refine z_ald (f := S 12) hx hb hK hP 14 0 rfl rfl (by omega) (by omega) (by decide) (j := i) rfl dX1_isPossible_38 ?_
        refine z_icmp_ge (tgt := 46) hx hb (by omega) (by omega) (by omega) (by omega) dX1_isPossible_39 (by decide) (fun c_8 => ?_) (fun c_8 => ?_)
        · have h9 : True := trivial
          refine z_iconst hx hb dX1_isPossible_46 ?_
          refine lv_istore_n (lv' := [(3, .int (zI (0))), (0, .ref (ad 47)), (1, .int (zI (x))), (2, .int (zI (↑i)))]) hx hb dX1_isPossible_47 rfl hl (by decide) rfl (fun ls hl => ?_)
          refine lv_iload_n hx hb dX1_isPossible_48 rfl (lv_at hl 0 rfl) ?_
          refine lv_aload_n hx hb dX1_isPossible_49 rfl (lv_at hl 1 rfl) ?_
          refine va_get (D := D) (ci := 1) (v := .ref (ad 43)) (C := RX1) (T := TX1) (N := 3) hx hb hT inX1 hown hK hP 7 rfl rfl 1 (by decide) (hT _ q_167) (fun _ h9 => h9) rfl dX1_isPossible_50 ?_
          refine va_get (D := D) (ci := 4) (v := .ref (ad 13)) (C := RX4) (T := TX4) (N := 7) hx hb hT inX4 hown hK hP 3 rfl rfl 6 (by decide) (hT _ q_89) (fun _ h9 => h9) rfl dX1_isPossible_53 ?_
          refine lv_iload_n hx hb dX1_isPossible_56 rfl (lv_at hl 3 rfl) ?_
          have g_9 : -2147483648 ≤ S 13 i ∧ S 13 i < 2147483648 := hR 13 i (by decide)
          refine z_zald (f := S 13) hx hb hK hP 15 1 rfl rfl (by omega) (by omega) (by decide) (j := i) rfl dX1_isPossible_57 ?_
          refine z_icmp_eq (tgt := 63) hx hb (by omega) (by omega) (by omega) (by omega) dX1_isPossible_58 (by decide) (fun c_10 => ?_) (fun c_10 => ?_)
          · have h9 : True := trivial
            refine z_iinc (lv' := [(2, .int (zI (↑i + 1))), (3, .int (zI (0))), (0, .ref (ad 47)), (1, .int (zI (x)))]) hx hb dX1_isPossible_63 hl (k := 3) rfl (by decide) rfl (fun ls hl => ?_)
            refine lv_goto (tgt := 2) hx hb dX1_isPossible_66 (by decide) ?_
            exact ih_2 (i + 1) _ _ _ (by omega) (lkC_s.mpr ⟨hl9, by omega⟩) (by omega) hP hR hS (lv_sub hl [2, 3, 0] rfl)
          · have h9 : True := trivial
            refine z_iconst hx hb dX1_isPossible_61 ?_
            exact g_zret (S1 := S) (bo := false) hx hb hr hlocks hP hR hS (⟨rfl, pF (fun h => by have := h i (by omega); omega)⟩) dX1_isPossible_62
        · have h9 : True := trivial
          refine z_iconst hx hb dX1_isPossible_42 ?_
          refine lv_goto (tgt := 47) hx hb dX1_isPossible_43 (by decide) ?_
          refine lv_istore_n (lv' := [(3, .int (zI (1))), (0, .ref (ad 47)), (1, .int (zI (x))), (2, .int (zI (↑i)))]) hx hb dX1_isPossible_47 rfl hl (by decide) rfl (fun ls hl => ?_)
          refine lv_iload_n hx hb dX1_isPossible_48 rfl (lv_at hl 0 rfl) ?_
          refine lv_aload_n hx hb dX1_isPossible_49 rfl (lv_at hl 1 rfl) ?_
          refine va_get (D := D) (ci := 1) (v := .ref (ad 43)) (C := RX1) (T := TX1) (N := 3) hx hb hT inX1 hown hK hP 7 rfl rfl 1 (by decide) (hT _ q_167) (fun _ h9 => h9) rfl dX1_isPossible_50 ?_
          refine va_get (D := D) (ci := 4) (v := .ref (ad 13)) (C := RX4) (T := TX4) (N := 7) hx hb hT inX4 hown hK hP 3 rfl rfl 6 (by decide) (hT _ q_89) (fun _ h9 => h9) rfl dX1_isPossible_53 ?_
          refine lv_iload_n hx hb dX1_isPossible_56 rfl (lv_at hl 3 rfl) ?_
          have g_11 : -2147483648 ≤ S 13 i ∧ S 13 i < 2147483648 := hR 13 i (by decide)
          refine z_zald (f := S 13) hx hb hK hP 15 1 rfl rfl (by omega) (by omega) (by decide) (j := i) rfl dX1_isPossible_57 ?_
          refine z_icmp_eq (tgt := 63) hx hb (by omega) (by omega) (by omega) (by omega) dX1_isPossible_58 (by decide) (fun c_12 => ?_) (fun c_12 => ?_)
          · have h9 : True := trivial
            refine z_iinc (lv' := [(2, .int (zI (↑i + 1))), (3, .int (zI (1))), (0, .ref (ad 47)), (1, .int (zI (x)))]) hx hb dX1_isPossible_63 hl (k := 3) rfl (by decide) rfl (fun ls hl => ?_)
            refine lv_goto (tgt := 2) hx hb dX1_isPossible_66 (by decide) ?_
            exact ih_2 (i + 1) _ _ _ (by omega) (lkC_s.mpr ⟨hl9, by omega⟩) (by omega) hP hR hS (lv_sub hl [2, 3, 0] rfl)
          · have h9 : True := trivial
            refine z_iconst hx hb dX1_isPossible_61 ?_
            exact g_zret (S1 := S) (bo := false) hx hb hr hlocks hP hR hS (⟨rfl, pF (fun h => by have := h i (by omega); omega)⟩) dX1_isPossible_62
  exact cut_2 _ 0 _ _ _ (by omega) (fun a h => absurd h (Nat.not_lt_zero a)) (Nat.lt_succ_self _) hP hR hS (lv_sub hl [1, 2, 0] rfl)
set_option maxHeartbeats 4000000 in
set_option maxRecDepth 100000 in
theorem k_X1_countPossible (l : Launch) (D : va_G) (cI cZ : ClassId) (ad : Nat → Nat) (az av : Nat) (hinj : cInj ad) (S : St) (hR : RS S) (n N : Nat) (t : Nat → Int) (hT9 : cTab n N t S) (m9 : Nat) (hse : seOK n m9 S) : Met l yX1_countPossible (Cond.code yX1_countPossible cX1_countPossible 3 (some .int) :: lwT) ({ frames := 2, cells := 0, slots := 0, locals := 45 }) (gPc D (cW cI cZ ad) (cE D cI cZ ad az av) S [.ref (ad 47)]) (va_Qi (fun (r : Int32) (S' : St) => S' = S ∧ r = zI (cnt (fun k => pB (lkC n (dgF n (t k)) (S 11) (S 12) (S 13) m9)) N)) (gB D (cW cI cZ ad)) (cA ad)) 0 0 (cA ad) := by
  refine Met.ofW (cc := cX1_countPossible) (maxL := 3) (ret := (some .int)) (by decide) rfl ?_
  intro p e s m args below meth c s₁ B hml hv
  obtain ⟨rfl, hP, hE⟩ := hv
  have hx := B.exec
  have hb := B.bytes
  have hr := B.returns
  have hts := atoms_spec (ws := Cond.code yX1_countPossible cX1_countPossible 3 (some .int) :: lwT) B.pre
  have hT := fun w (h : w ∈ lwT) => hts w (List.mem_cons_of_mem _ h)
  have hsub : ∀ w ∈ lwT, w ∈ (Cond.code yX1_countPossible cX1_countPossible 3 (some .int) :: lwT) := fun w h => List.mem_cons_of_mem _ h
  have hown : s.vm.findClass RX1 = some m.cls := findClass_of_methodNamed B.named
  have hlocks := B.notSynchronized
  have hK : va_K D vwCl [(cI, .int), (cZ, .boolean)] s := hE.1
  have hS : va_S (cA ad) s.heap s.heap [] := va_S.rf
  have hT8 := hT9
  obtain ⟨⟨hn, hN, hn7, hN4⟩, hn0, hO9, hso, htb⟩ := hT9
  have hl := lv_entry ([.ref (ad 47)]) (n := 3) (Nat.le_of_ble_eq_true rfl)
  rw [lg_entry_eq]
  generalize (lg_sl ([.ref (ad 47)]) ++ List.replicate (3 - (lg_sl ([.ref (ad 47)])).length) Slot.unset).toArray = ls at hl ⊢
  have hl : lv_has ls 3 [(0, .ref (ad 47))] := hl
  refine z_iconst hx hb dX1_countPossible_0 ?_
  refine lv_istore_n (lv' := [(1, .int (zI (0))), (0, .ref (ad 47))]) hx hb dX1_countPossible_1 rfl hl (by decide) rfl (fun ls hl => ?_)
  refine z_iconst hx hb dX1_countPossible_2 ?_
  refine lv_istore_n (lv' := [(2, .int (zI (0))), (1, .int (zI (0))), (0, .ref (ad 47))]) hx hb dX1_countPossible_3 rfl hl (by decide) rfl (fun ls hl => ?_)
  have cut_4 : ∀ (k9 : Nat) (i : Nat) (y : Int) (H : Heap) (locs : List Loc) (ls : Array Slot), (i ≤ N) → (y = cnt (fun k => pB (lkC n (dgF n (t k)) (S 11) (S 12) (S 13) m9)) i) → (N - i) < k9 → va_P D vwCl (cW cI cZ ad S) H → RS S → va_S (cA ad) s.heap H locs → lv_has ls 3 [(0, .ref (ad 47)), (1, .int (zI (y))), (2, .int (zI (↑i)))] → W p l e (headSpec (Cond.code yX1_countPossible cX1_countPossible 3 (some .int) :: lwT) ({ frames := 2, cells := 0, slots := 0, locals := 45 })).room s m ([.ref (ad 47)] : List Value).toArray below meth c H locs 0 0 (MQ below (va_Qi (fun (r : Int32) (S' : St) => S' = S ∧ r = zI (cnt (fun k => pB (lkC n (dgF n (t k)) (S 11) (S 12) (S 13) m9)) N)) (gB D (cW cI cZ ad)) (cA ad)) ([.ref (ad 47)] : List Value).toArray s 0 0 (cA ad)) (F0 m 4 ls []) := by
    intro k9
    induction k9 with
    | zero =>
      intro i y H locs ls hi hy hk9 hP hR hS hl
      exact absurd hk9 (Nat.not_lt_zero _)
    | succ k9 ih_4 =>
      intro i y H locs ls hi hy hk9 hP hR hS hl
      refine lv_iload_n hx hb dX1_countPossible_4 rfl (lv_at hl 2 rfl) ?_
      refine lv_aload_n hx hb dX1_countPossible_5 rfl (lv_at hl 0 rfl) ?_
      refine va_get (D := D) (ci := 1) (v := .ref (ad 42)) (C := RX1) (T := TX1) (N := 3) hx hb hT inX1 hown hK hP 7 rfl rfl 0 (by decide) (hT _ q_166) (fun _ h9 => h9) rfl dX1_countPossible_6 ?_
      have g_1 : -2147483648 ≤ S 3 0 ∧ S 3 0 < 2147483648 := hR 3 0 (by decide)
      refine va_get (D := D) (ci := 0) (v := .int (zI (S 3 0))) (C := RX0) (T := TX0) (N := 5) hx hb hT inX0 hown hK hP 2 rfl rfl 1 (by decide) (hT _ q_52) (fun _ h9 => h9) rfl dX1_countPossible_9 ?_
      refine z_icmp_ge (tgt := 32) hx hb (by omega) (by omega) (by omega) (by omega) dX1_countPossible_12 (by decide) (fun c_2 => ?_) (fun c_2 => ?_)
      · have h9 : True := trivial
        refine lv_iload_n hx hb dX1_countPossible_32 rfl (lv_at hl 1 rfl) ?_
        exact g_iret (S1 := S) (v := zI (y)) hx hb hr hlocks hP hR hS (⟨rfl, by rw [hy, show i = N by omega]⟩) dX1_countPossible_33
      · have h9 : True := trivial
        refine lv_aload_n hx hb dX1_countPossible_15 rfl (lv_at hl 0 rfl) ?_
        refine lv_iload_n hx hb dX1_countPossible_16 rfl (lv_at hl 2 rfl) ?_
        refine g_callVi (As := [.int (zI (↑i))]) (rest := []) ⟨hx, hb, hml, hown, hts⟩ (k_X1_isPossible l D cI cZ ad az av hinj S hR n N t hT8 m9 hse i ↑i (by omega) (by omega)) (cwV 1 hts (gV hsub q_585 q_587 q_sX1_isPossible q_7 q_588) rfl rfl rfl hdX1_isPossible ⟨Nat.le_of_ble_eq_true rfl, Nat.le_of_ble_eq_true rfl⟩) (cEb D cI cZ ad az av) (cEk D cI cZ ad az av) hE (va_recv (ci := 1) (q0 := 7) hK hP rfl rfl) hP hS rfl hl.1 rfl (Nat.le_of_ble_eq_true rfl) dX1_countPossible_17 ⟨Nat.le_of_ble_eq_true rfl, Nat.le_of_ble_eq_true rfl⟩ (fun r_3 S_4 H locs hq_5 hP hR hS _ => ?_)
        obtain ⟨hs9, rfl⟩ := hq_5
        obtain rfl := hs9.symm
        refine z_top (b := b2 (pB (lkC n (dgF n (t i)) (S 11) (S 12) (S 13) m9))) rfl ?_
        refine z_ifeqB (tgt := 26) hx hb dX1_countPossible_20 (by decide) (fun c_6 => ?_) (fun c_6 => ?_)
        · have h9 : True := trivial
          refine z_iinc (lv' := [(2, .int (zI (↑i + 1))), (0, .ref (ad 47)), (1, .int (zI (y)))]) hx hb dX1_countPossible_26 hl (k := 2) rfl (by decide) rfl (fun ls hl => ?_)
          refine lv_goto (tgt := 4) hx hb dX1_countPossible_29 (by decide) ?_
          exact ih_4 (i + 1) y _ _ _ (by omega) ((Int.add_zero y).symm.trans (cnt_f (P := (fun k => pB (lkC n (dgF n (t k)) (S 11) (S 12) (S 13) m9))) c_6 hy)) (by omega) hP hR hS (lv_sub hl [1, 2, 0] rfl)
        · have h9 : True := trivial
          refine z_iinc (lv' := [(1, .int (zI (y + 1))), (0, .ref (ad 47)), (2, .int (zI (↑i)))]) hx hb dX1_countPossible_23 hl (k := 1) rfl (by decide) rfl (fun ls hl => ?_)
          refine z_iinc (lv' := [(2, .int (zI (↑i + 1))), (1, .int (zI (y + 1))), (0, .ref (ad 47))]) hx hb dX1_countPossible_26 hl (k := 2) rfl (by decide) rfl (fun ls hl => ?_)
          refine lv_goto (tgt := 4) hx hb dX1_countPossible_29 (by decide) ?_
          exact ih_4 (i + 1) (y + 1) _ _ _ (by omega) (cnt_t (P := (fun k => pB (lkC n (dgF n (t k)) (S 11) (S 12) (S 13) m9))) c_6 hy) (by omega) hP hR hS (lv_sub hl [2, 1, 0] rfl)
  exact cut_4 _ 0 0 _ _ _ (by omega) (rfl) (Nat.lt_succ_self _) hP hR hS (lv_sub hl [2, 1, 0] rfl)
set_option maxHeartbeats 4000000 in
set_option maxRecDepth 100000 in
theorem k_X4_addSeen (l : Launch) (D : va_G) (cI cZ : ClassId) (ad : Nat → Nat) (az av : Nat) (hinj : cInj ad) (S : St) (hR : RS S) (m9 : Nat) (hm9 : S 10 0 = ↑m9) (hm6 : m9 < 6) (x y z : Int) (hx1 : -2147483648 ≤ x) (hx2 : x < 2147483648) (hy1 : -2147483648 ≤ y) (hy2 : y < 2147483648) (hz : z = 0 ∨ z = 1) : Met l yX4_addSeen (Cond.code yX4_addSeen cX4_addSeen 4 none :: lwT) ({ frames := 0, cells := 0, slots := 0, locals := 0 }) (gPc D (cW cI cZ ad) (cE D cI cZ ad az av) S [.ref (ad 43), .int (zI (x)), .int (zI (y)), .int (zI (z))]) (va_Qv (fun (S' : St) => S' = sA (sA (sA (sA S 11 (uZ (S 11) m9 x)) 12 (uZ (S 12) m9 y)) 13 (uZ (S 13) m9 z)) 10 (fun _ => ↑m9 + 1)) (gB D (cW cI cZ ad)) (cA ad)) 0 0 (cA ad) := by
  refine Met.ofW (cc := cX4_addSeen) (maxL := 4) (ret := none) (by decide) rfl ?_
  intro p e s m args below meth c s₁ B hml hv
  obtain ⟨rfl, hP, hE⟩ := hv
  have hx := B.exec
  have hb := B.bytes
  have hr := B.returns
  have hts := atoms_spec (ws := Cond.code yX4_addSeen cX4_addSeen 4 none :: lwT) B.pre
  have hT := fun w (h : w ∈ lwT) => hts w (List.mem_cons_of_mem _ h)
  have hsub : ∀ w ∈ lwT, w ∈ (Cond.code yX4_addSeen cX4_addSeen 4 none :: lwT) := fun w h => List.mem_cons_of_mem _ h
  have hown : s.vm.findClass RX4 = some m.cls := findClass_of_methodNamed B.named
  have hlocks := B.notSynchronized
  have hK : va_K D vwCl [(cI, .int), (cZ, .boolean)] s := hE.1
  have hS : va_S (cA ad) s.heap s.heap [] := va_S.rf
  have hl := lv_entry ([.ref (ad 43), .int (zI (x)), .int (zI (y)), .int (zI (z))]) (n := 4) (Nat.le_of_ble_eq_true rfl)
  rw [lg_entry_eq]
  generalize (lg_sl ([.ref (ad 43), .int (zI (x)), .int (zI (y)), .int (zI (z))]) ++ List.replicate (4 - (lg_sl ([.ref (ad 43), .int (zI (x)), .int (zI (y)), .int (zI (z))])).length) Slot.unset).toArray = ls at hl ⊢
  have hl : lv_has ls 4 [(0, .ref (ad 43)), (1, .int (zI (x))), (2, .int (zI (y))), (3, .int (zI (z)))] := hl
  refine lv_aload_n hx hb dX4_addSeen_0 rfl (lv_at hl 0 rfl) ?_
  have g_1 : -2147483648 ≤ S 10 0 ∧ S 10 0 < 2147483648 := hR 10 0 (by decide)
  refine va_get (D := D) (ci := 4) (v := .int (zI (S 10 0))) (C := RX4) (T := TX4) (N := 7) hx hb hT inX4 hown hK hP 3 rfl rfl 3 (by decide) (hT _ q_81) (fun _ h9 => h9) rfl dX4_addSeen_1 ?_
  refine z_bipush hx hb dX4_addSeen_4 (by decide) ?_
  refine z_icmp_lt (tgt := 10) hx hb (by omega) (by omega) (by omega) (by omega) dX4_addSeen_6 (by decide) (fun c_2 => ?_) (fun c_2 => ?_)
  · have h9 : True := trivial
    refine lv_aload_n hx hb dX4_addSeen_10 rfl (lv_at hl 0 rfl) ?_
    refine va_get (D := D) (ci := 4) (v := .ref (ad 11)) (C := RX4) (T := TX4) (N := 7) hx hb hT inX4 hown hK hP 3 rfl rfl 4 (by decide) (hT _ q_84) (fun _ h9 => h9) rfl dX4_addSeen_11 ?_
    refine lv_aload_n hx hb dX4_addSeen_14 rfl (lv_at hl 0 rfl) ?_
    refine va_get (D := D) (ci := 4) (v := .int (zI (S 10 0))) (C := RX4) (T := TX4) (N := 7) hx hb hT inX4 hown hK hP 3 rfl rfl 3 (by decide) (hT _ q_81) (fun _ h9 => h9) rfl dX4_addSeen_15 ?_
    refine lv_iload_n hx hb dX4_addSeen_18 rfl (lv_at hl 1 rfl) ?_
    refine z_ast (f := S 11) (i := S 10 0) (v := x) hx hb hK hP (cD hinj cI cZ _) hS 13 0 rfl rfl (by omega) (by omega) (by decide) dX4_addSeen_19 (fun H locs hP hS => ?_)
    have hP : va_P D vwCl (cW cI cZ ad (sA S 11 (uZ (S 11) (S 10 0).toNat x))) H := hP
    have hR : RS (sA S 11 (uZ (S 11) (S 10 0).toNat x)) := hR.put (by omega) (by omega)
    refine lv_aload_n hx hb dX4_addSeen_20 rfl (lv_at hl 0 rfl) ?_
    refine va_get (D := D) (ci := 4) (v := .ref (ad 12)) (C := RX4) (T := TX4) (N := 7) hx hb hT inX4 hown hK hP 3 rfl rfl 5 (by decide) (hT _ q_86) (fun _ h9 => h9) rfl dX4_addSeen_21 ?_
    refine lv_aload_n hx hb dX4_addSeen_24 rfl (lv_at hl 0 rfl) ?_
    refine va_get (D := D) (ci := 4) (v := .int (zI (S 10 0))) (C := RX4) (T := TX4) (N := 7) hx hb hT inX4 hown hK hP 3 rfl rfl 3 (by decide) (hT _ q_81) (fun _ h9 => h9) rfl dX4_addSeen_25 ?_
    refine lv_iload_n hx hb dX4_addSeen_28 rfl (lv_at hl 2 rfl) ?_
    refine z_ast (f := (sA S 11 (uZ (S 11) (S 10 0).toNat x)) 12) (i := S 10 0) (v := y) hx hb hK hP (cD hinj cI cZ _) hS 14 0 rfl rfl (by omega) (by omega) (by decide) dX4_addSeen_29 (fun H locs hP hS => ?_)
    have hP : va_P D vwCl (cW cI cZ ad (sA (sA S 11 (uZ (S 11) (S 10 0).toNat x)) 12 (uZ (S 12) (S 10 0).toNat y))) H := hP
    have hR : RS (sA (sA S 11 (uZ (S 11) (S 10 0).toNat x)) 12 (uZ (S 12) (S 10 0).toNat y)) := hR.put (by omega) (by omega)
    refine lv_aload_n hx hb dX4_addSeen_30 rfl (lv_at hl 0 rfl) ?_
    refine va_get (D := D) (ci := 4) (v := .ref (ad 13)) (C := RX4) (T := TX4) (N := 7) hx hb hT inX4 hown hK hP 3 rfl rfl 6 (by decide) (hT _ q_88) (fun _ h9 => h9) rfl dX4_addSeen_31 ?_
    refine lv_aload_n hx hb dX4_addSeen_34 rfl (lv_at hl 0 rfl) ?_
    refine va_get (D := D) (ci := 4) (v := .int (zI (S 10 0))) (C := RX4) (T := TX4) (N := 7) hx hb hT inX4 hown hK hP 3 rfl rfl 3 (by decide) (hT _ q_81) (fun _ h9 => h9) rfl dX4_addSeen_35 ?_
    refine lv_iload_n hx hb dX4_addSeen_38 rfl (lv_at hl 3 rfl) ?_
    refine z_zast (f := (sA (sA S 11 (uZ (S 11) (S 10 0).toNat x)) 12 (uZ (S 12) (S 10 0).toNat y)) 13) (i := S 10 0) (v := z) hx hb hK hP (cD hinj cI cZ _) hS 15 1 rfl rfl (hz) (by omega) (by omega) (by decide) dX4_addSeen_39 (fun H locs hP hS => ?_)
    have hP : va_P D vwCl (cW cI cZ ad (sA (sA (sA S 11 (uZ (S 11) (S 10 0).toNat x)) 12 (uZ (S 12) (S 10 0).toNat y)) 13 (uZ (S 13) (S 10 0).toNat z))) H := hP
    have hR : RS (sA (sA (sA S 11 (uZ (S 11) (S 10 0).toNat x)) 12 (uZ (S 12) (S 10 0).toNat y)) 13 (uZ (S 13) (S 10 0).toNat z)) := hR.put (by omega) (by omega)
    refine lv_aload_n hx hb dX4_addSeen_40 rfl (lv_at hl 0 rfl) ?_
    refine lv_dup hx hb dX4_addSeen_41 rfl ?_
    refine va_get (D := D) (ci := 4) (v := .int (zI (S 10 0))) (C := RX4) (T := TX4) (N := 7) hx hb hT inX4 hown hK hP 3 rfl rfl 3 (by decide) (hT _ q_81) (fun _ h9 => h9) rfl dX4_addSeen_42 ?_
    refine z_iconst hx hb dX4_addSeen_45 ?_
    refine z_iadd hx hb dX4_addSeen_46 ?_
    refine va_put (D := D) (ci := 4) (v := .int (zI ((S 10 0) + 1))) (ty := .int) (C := RX4) (T := TX4) (N := 7) hx hb hT inX4 tyX4 tyX4_ok nmX4 hown hK hP (cD hinj cI cZ _) hS 3 rfl rfl 3 (by decide) (hT _ q_81) (fun _ h9 => h9) rfl (by decide +kernel) rfl rfl (Nat.le_of_ble_eq_true rfl) dX4_addSeen_47 (fun H locs hP _ hS => ?_)
    have hP : va_P D vwCl (cW cI cZ ad (sA (sA (sA (sA S 11 (uZ (S 11) (S 10 0).toNat x)) 12 (uZ (S 12) (S 10 0).toNat y)) 13 (uZ (S 13) (S 10 0).toNat z)) 10 (fun _ => (S 10 0) + 1))) H := hP
    have hR : RS (sA (sA (sA (sA S 11 (uZ (S 11) (S 10 0).toNat x)) 12 (uZ (S 12) (S 10 0).toNat y)) 13 (uZ (S 13) (S 10 0).toNat z)) 10 (fun _ => (S 10 0) + 1)) := hR.one (by omega) (by omega)
    exact g_vret (S1 := sA (sA (sA (sA S 11 (uZ (S 11) (S 10 0).toNat x)) 12 (uZ (S 12) (S 10 0).toNat y)) 13 (uZ (S 13) (S 10 0).toNat z)) 10 (fun _ => (S 10 0) + 1)) hx hb hr hlocks hP hR hS (by rw [show (S 10 0).toNat = m9 by omega, hm9]) dX4_addSeen_50
  · exact False.elim (by omega)
set_option maxHeartbeats 4000000 in
set_option maxRecDepth 100000 in
theorem k_X4_copyFrom_43 (l : Launch) (D : va_G) (cI cZ : ClassId) (ad : Nat → Nat) (az av : Nat) (hinj : cInj ad) (S : St) (hR : RS S) (hth : ∀ j, j < 6 → S 20 j = 0 ∨ S 20 j = 1) : Met l yX4_copyFrom (Cond.code yX4_copyFrom cX4_copyFrom 3 none :: lwT) ({ frames := 0, cells := 0, slots := 0, locals := 0 }) (gPc D (cW cI cZ ad) (cE D cI cZ ad az av) S [.ref (ad 43), .ref (ad 44)]) (va_Qv (fun (S' : St) => ∃ e7 e8 e9 e10 e11 e12 e13, S' = sA (sA (sA (sA (sA (sA (sA S 7 e7) 8 e8) 9 e9) 10 e10) 11 e11) 12 e12) 13 e13 ∧ (∀ j, j < 7 → e7 j = S 14 j) ∧ e8 0 = S 15 0 ∧ e9 0 = S 16 0 ∧ e10 0 = S 17 0 ∧ (∀ j, j < 6 → e11 j = S 18 j) ∧ (∀ j, j < 6 → e12 j = S 19 j) ∧ (∀ j, j < 6 → e13 j = S 20 j)) (gB D (cW cI cZ ad)) (cA ad)) 0 0 (cA ad) := by
  refine Met.ofW (cc := cX4_copyFrom) (maxL := 3) (ret := none) (by decide) rfl ?_
  intro p e s m args below meth c s₁ B hml hv
  obtain ⟨rfl, hP, hE⟩ := hv
  have hx := B.exec
  have hb := B.bytes
  have hr := B.returns
  have hts := atoms_spec (ws := Cond.code yX4_copyFrom cX4_copyFrom 3 none :: lwT) B.pre
  have hT := fun w (h : w ∈ lwT) => hts w (List.mem_cons_of_mem _ h)
  have hsub : ∀ w ∈ lwT, w ∈ (Cond.code yX4_copyFrom cX4_copyFrom 3 none :: lwT) := fun w h => List.mem_cons_of_mem _ h
  have hown : s.vm.findClass RX4 = some m.cls := findClass_of_methodNamed B.named
  have hlocks := B.notSynchronized
  have hK : va_K D vwCl [(cI, .int), (cZ, .boolean)] s := hE.1
  have hS : va_S (cA ad) s.heap s.heap [] := va_S.rf
  have hl := lv_entry ([.ref (ad 43), .ref (ad 44)]) (n := 3) (Nat.le_of_ble_eq_true rfl)
  rw [lg_entry_eq]
  generalize (lg_sl ([.ref (ad 43), .ref (ad 44)]) ++ List.replicate (3 - (lg_sl ([.ref (ad 43), .ref (ad 44)])).length) Slot.unset).toArray = ls at hl ⊢
  have hl : lv_has ls 3 [(0, .ref (ad 43)), (1, .ref (ad 44))] := hl
  refine z_iconst hx hb dX4_copyFrom_0 ?_
  refine lv_istore_n (lv' := [(2, .int (zI (0))), (0, .ref (ad 43)), (1, .ref (ad 44))]) hx hb dX4_copyFrom_1 rfl hl (by decide) rfl (fun ls hl => ?_)
  have cut_2 : ∀ (k9 : Nat) (i : Nat) (g0 : Nat → Int) (H : Heap) (locs : List Loc) (ls : Array Slot), (i ≤ 7) → (∀ j, j < i → g0 j = S 14 j) → (7 - i) < k9 → va_P D vwCl (cW cI cZ ad (sA S 7 g0)) H → RS (sA S 7 g0) → va_S (cA ad) s.heap H locs → lv_has ls 3 [(0, .ref (ad 43)), (1, .ref (ad 44)), (2, .int (zI (↑i)))] → W p l e (headSpec (Cond.code yX4_copyFrom cX4_copyFrom 3 none :: lwT) ({ frames := 0, cells := 0, slots := 0, locals := 0 })).room s m ([.ref (ad 43), .ref (ad 44)] : List Value).toArray below meth c H locs 0 0 (MQ below (va_Qv (fun (S' : St) => ∃ e7 e8 e9 e10 e11 e12 e13, S' = sA (sA (sA (sA (sA (sA (sA S 7 e7) 8 e8) 9 e9) 10 e10) 11 e11) 12 e12) 13 e13 ∧ (∀ j, j < 7 → e7 j = S 14 j) ∧ e8 0 = S 15 0 ∧ e9 0 = S 16 0 ∧ e10 0 = S 17 0 ∧ (∀ j, j < 6 → e11 j = S 18 j) ∧ (∀ j, j < 6 → e12 j = S 19 j) ∧ (∀ j, j < 6 → e13 j = S 20 j)) (gB D (cW cI cZ ad)) (cA ad)) ([.ref (ad 43), .ref (ad 44)] : List Value).toArray s 0 0 (cA ad)) (F0 m 2 ls []) := by
    intro k9
    induction k9 with
    | zero =>
      intro i g0 H locs ls hi h0 hk9 hP hR hS hl
      exact absurd hk9 (Nat.not_lt_zero _)
    | succ k9 ih_2 =>
      intro i g0 H locs ls hi h0 hk9 hP hR hS hl
      refine lv_iload_n hx hb dX4_copyFrom_2 rfl (lv_at hl 2 rfl) ?_
      refine z_bipush hx hb dX4_copyFrom_3 (by decide) ?_
      refine z_icmp_ge (tgt := 26) hx hb (by omega) (by omega) (by omega) (by omega) dX4_copyFrom_5 (by decide) (fun c_1 => ?_) (fun c_1 => ?_)
      · have h9 : True := trivial
        refine lv_aload_n hx hb dX4_copyFrom_26 rfl (lv_at hl 0 rfl) ?_
        refine lv_aload_n hx hb dX4_copyFrom_27 rfl (lv_at hl 1 rfl) ?_
        have g_2 : -2147483648 ≤ S 15 0 ∧ S 15 0 < 2147483648 := hR 15 0 (by decide)
        refine va_get (D := D) (ci := 4) (v := .int (zI (S 15 0))) (C := RX4) (T := TX4) (N := 7) hx hb hT inX4 hown hK hP 4 rfl rfl 1 (by decide) (hT _ q_77) (fun _ h9 => h9) rfl dX4_copyFrom_28 ?_
        refine va_put (D := D) (ci := 4) (v := .int (zI (S 15 0))) (ty := .int) (C := RX4) (T := TX4) (N := 7) hx hb hT inX4 tyX4 tyX4_ok nmX4 hown hK hP (cD hinj cI cZ _) hS 3 rfl rfl 1 (by decide) (hT _ q_77) (fun _ h9 => h9) rfl (by decide +kernel) rfl rfl (Nat.le_of_ble_eq_true rfl) dX4_copyFrom_31 (fun H locs hP _ hS => ?_)
        have hP : va_P D vwCl (cW cI cZ ad (sA (sA S 7 g0) 8 (fun _ => S 15 0))) H := hP
        have hR : RS (sA (sA S 7 g0) 8 (fun _ => S 15 0)) := hR.one (by omega) (by omega)
        refine lv_aload_n hx hb dX4_copyFrom_34 rfl (lv_at hl 0 rfl) ?_
        refine lv_aload_n hx hb dX4_copyFrom_35 rfl (lv_at hl 1 rfl) ?_
        have g_3 : -2147483648 ≤ S 16 0 ∧ S 16 0 < 2147483648 := hR 16 0 (by decide)
        refine va_get (D := D) (ci := 4) (v := .int (zI (S 16 0))) (C := RX4) (T := TX4) (N := 7) hx hb hT inX4 hown hK hP 4 rfl rfl 2 (by decide) (hT _ q_79) (fun _ h9 => h9) rfl dX4_copyFrom_36 ?_
        refine va_put (D := D) (ci := 4) (v := .int (zI (S 16 0))) (ty := .int) (C := RX4) (T := TX4) (N := 7) hx hb hT inX4 tyX4 tyX4_ok nmX4 hown hK hP (cD hinj cI cZ _) hS 3 rfl rfl 2 (by decide) (hT _ q_79) (fun _ h9 => h9) rfl (by decide +kernel) rfl rfl (Nat.le_of_ble_eq_true rfl) dX4_copyFrom_39 (fun H locs hP _ hS => ?_)
        have hP : va_P D vwCl (cW cI cZ ad (sA (sA (sA S 7 g0) 8 (fun _ => S 15 0)) 9 (fun _ => S 16 0))) H := hP
        have hR : RS (sA (sA (sA S 7 g0) 8 (fun _ => S 15 0)) 9 (fun _ => S 16 0)) := hR.one (by omega) (by omega)
        refine lv_aload_n hx hb dX4_copyFrom_42 rfl (lv_at hl 0 rfl) ?_
        refine lv_aload_n hx hb dX4_copyFrom_43 rfl (lv_at hl 1 rfl) ?_
        have g_4 : -2147483648 ≤ S 17 0 ∧ S 17 0 < 2147483648 := hR 17 0 (by decide)
        refine va_get (D := D) (ci := 4) (v := .int (zI (S 17 0))) (C := RX4) (T := TX4) (N := 7) hx hb hT inX4 hown hK hP 4 rfl rfl 3 (by decide) (hT _ q_81) (fun _ h9 => h9) rfl dX4_copyFrom_44 ?_
        refine va_put (D := D) (ci := 4) (v := .int (zI (S 17 0))) (ty := .int) (C := RX4) (T := TX4) (N := 7) hx hb hT inX4 tyX4 tyX4_ok nmX4 hown hK hP (cD hinj cI cZ _) hS 3 rfl rfl 3 (by decide) (hT _ q_81) (fun _ h9 => h9) rfl (by decide +kernel) rfl rfl (Nat.le_of_ble_eq_true rfl) dX4_copyFrom_47 (fun H locs hP _ hS => ?_)
        have hP : va_P D vwCl (cW cI cZ ad (sA (sA (sA (sA S 7 g0) 8 (fun _ => S 15 0)) 9 (fun _ => S 16 0)) 10 (fun _ => S 17 0))) H := hP
        have hR : RS (sA (sA (sA (sA S 7 g0) 8 (fun _ => S 15 0)) 9 (fun _ => S 16 0)) 10 (fun _ => S 17 0)) := hR.one (by omega) (by omega)
        refine z_iconst hx hb dX4_copyFrom_50 ?_
        refine lv_istore_n (lv' := [(2, .int (zI (0))), (0, .ref (ad 43)), (1, .ref (ad 44))]) hx hb dX4_copyFrom_51 rfl hl (by decide) rfl (fun ls hl => ?_)
        have cut_52 : ∀ (k9 : Nat) (j9 : Nat) (g4 : Nat → Int) (g5 : Nat → Int) (g6 : Nat → Int) (H : Heap) (locs : List Loc) (ls : Array Slot), (j9 ≤ 6) → (∀ j, j < j9 → g4 j = S 18 j) → (∀ j, j < j9 → g5 j = S 19 j) → (∀ j, j < j9 → g6 j = S 20 j) → (6 - j9) < k9 → va_P D vwCl (cW cI cZ ad (sA (sA (sA (sA (sA (sA (sA S 7 g0) 8 (fun _ => S 15 0)) 9 (fun _ => S 16 0)) 10 (fun _ => S 17 0)) 11 g4) 12 g5) 13 g6)) H → RS (sA (sA (sA (sA (sA (sA (sA S 7 g0) 8 (fun _ => S 15 0)) 9 (fun _ => S 16 0)) 10 (fun _ => S 17 0)) 11 g4) 12 g5) 13 g6) → va_S (cA ad) s.heap H locs → lv_has ls 3 [(0, .ref (ad 43)), (1, .ref (ad 44)), (2, .int (zI (↑j9)))] → W p l e (headSpec (Cond.code yX4_copyFrom cX4_copyFrom 3 none :: lwT) ({ frames := 0, cells := 0, slots := 0, locals := 0 })).room s m ([.ref (ad 43), .ref (ad 44)] : List Value).toArray below meth c H locs 0 0 (MQ below (va_Qv (fun (S' : St) => ∃ e7 e8 e9 e10 e11 e12 e13, S' = sA (sA (sA (sA (sA (sA (sA S 7 e7) 8 e8) 9 e9) 10 e10) 11 e11) 12 e12) 13 e13 ∧ (∀ j, j < 7 → e7 j = S 14 j) ∧ e8 0 = S 15 0 ∧ e9 0 = S 16 0 ∧ e10 0 = S 17 0 ∧ (∀ j, j < 6 → e11 j = S 18 j) ∧ (∀ j, j < 6 → e12 j = S 19 j) ∧ (∀ j, j < 6 → e13 j = S 20 j)) (gB D (cW cI cZ ad)) (cA ad)) ([.ref (ad 43), .ref (ad 44)] : List Value).toArray s 0 0 (cA ad)) (F0 m 52 ls []) := by
          intro k9
          induction k9 with
          | zero =>
            intro j9 g4 g5 g6 H locs ls hj h4 h5 h6 hk9 hP hR hS hl
            exact absurd hk9 (Nat.not_lt_zero _)
          | succ k9 ih_52 =>
            intro j9 g4 g5 g6 H locs ls hj h4 h5 h6 hk9 hP hR hS hl
            refine lv_iload_n hx hb dX4_copyFrom_52 rfl (lv_at hl 2 rfl) ?_
            refine z_bipush hx hb dX4_copyFrom_53 (by decide) ?_
            refine z_icmp_ge (tgt := 100) hx hb (by omega) (by omega) (by omega) (by omega) dX4_copyFrom_55 (by decide) (fun c_5 => ?_) (fun c_5 => ?_)
            · have h9 : True := trivial
              exact g_vret (S1 := sA (sA (sA (sA (sA (sA (sA S 7 g0) 8 (fun _ => S 15 0)) 9 (fun _ => S 16 0)) 10 (fun _ => S 17 0)) 11 g4) 12 g5) 13 g6) hx hb hr hlocks hP hR hS (⟨_, _, _, _, _, _, _, rfl, fun j hj => h0 j (by omega), rfl, rfl, rfl, fun j hj => h4 j (by omega), fun j hj => h5 j (by omega), fun j hj => h6 j (by omega)⟩) dX4_copyFrom_100
            · have h9 : True := trivial
              refine lv_aload_n hx hb dX4_copyFrom_58 rfl (lv_at hl 0 rfl) ?_
              refine va_get (D := D) (ci := 4) (v := .ref (ad 11)) (C := RX4) (T := TX4) (N := 7) hx hb hT inX4 hown hK hP 3 rfl rfl 4 (by decide) (hT _ q_84) (fun _ h9 => h9) rfl dX4_copyFrom_59 ?_
              refine lv_iload_n hx hb dX4_copyFrom_62 rfl (lv_at hl 2 rfl) ?_
              refine lv_aload_n hx hb dX4_copyFrom_63 rfl (lv_at hl 1 rfl) ?_
              refine va_get (D := D) (ci := 4) (v := .ref (ad 18)) (C := RX4) (T := TX4) (N := 7) hx hb hT inX4 hown hK hP 4 rfl rfl 4 (by decide) (hT _ q_84) (fun _ h9 => h9) rfl dX4_copyFrom_64 ?_
              refine lv_iload_n hx hb dX4_copyFrom_67 rfl (lv_at hl 2 rfl) ?_
              have g_6 : -2147483648 ≤ S 18 j9 ∧ S 18 j9 < 2147483648 := hR 18 j9 (by decide)
              refine z_ald (f := S 18) hx hb hK hP 17 0 rfl rfl (by omega) (by omega) (by decide) (j := j9) rfl dX4_copyFrom_68 ?_
              refine z_ast (f := (sA (sA (sA (sA (sA (sA (sA S 7 g0) 8 (fun _ => S 15 0)) 9 (fun _ => S 16 0)) 10 (fun _ => S 17 0)) 11 g4) 12 g5) 13 g6) 11) (i := ↑j9) (v := S 18 j9) hx hb hK hP (cD hinj cI cZ _) hS 13 0 rfl rfl (by omega) (by omega) (by decide) dX4_copyFrom_69 (fun H locs hP hS => ?_)
              have hP : va_P D vwCl (cW cI cZ ad (sA (sA (sA (sA (sA (sA (sA (sA S 7 g0) 8 (fun _ => S 15 0)) 9 (fun _ => S 16 0)) 10 (fun _ => S 17 0)) 11 g4) 12 g5) 13 g6) 11 (uZ g4 j9 (S 18 j9)))) H := hP
              have hR : RS (sA (sA (sA (sA (sA (sA (sA (sA S 7 g0) 8 (fun _ => S 15 0)) 9 (fun _ => S 16 0)) 10 (fun _ => S 17 0)) 11 g4) 12 g5) 13 g6) 11 (uZ g4 j9 (S 18 j9))) := hR.put (by omega) (by omega)
              refine lv_aload_n hx hb dX4_copyFrom_70 rfl (lv_at hl 0 rfl) ?_
              refine va_get (D := D) (ci := 4) (v := .ref (ad 12)) (C := RX4) (T := TX4) (N := 7) hx hb hT inX4 hown hK hP 3 rfl rfl 5 (by decide) (hT _ q_86) (fun _ h9 => h9) rfl dX4_copyFrom_71 ?_
              refine lv_iload_n hx hb dX4_copyFrom_74 rfl (lv_at hl 2 rfl) ?_
              refine lv_aload_n hx hb dX4_copyFrom_75 rfl (lv_at hl 1 rfl) ?_
              refine va_get (D := D) (ci := 4) (v := .ref (ad 19)) (C := RX4) (T := TX4) (N := 7) hx hb hT inX4 hown hK hP 4 rfl rfl 5 (by decide) (hT _ q_86) (fun _ h9 => h9) rfl dX4_copyFrom_76 ?_
              refine lv_iload_n hx hb dX4_copyFrom_79 rfl (lv_at hl 2 rfl) ?_
              have g_7 : -2147483648 ≤ S 19 j9 ∧ S 19 j9 < 2147483648 := hR 19 j9 (by decide)
              refine z_ald (f := S 19) hx hb hK hP 18 0 rfl rfl (by omega) (by omega) (by decide) (j := j9) rfl dX4_copyFrom_80 ?_
              refine z_ast (f := (sA (sA (sA (sA (sA (sA (sA (sA S 7 g0) 8 (fun _ => S 15 0)) 9 (fun _ => S 16 0)) 10 (fun _ => S 17 0)) 11 g4) 12 g5) 13 g6) 11 (uZ g4 j9 (S 18 j9))) 12) (i := ↑j9) (v := S 19 j9) hx hb hK hP (cD hinj cI cZ _) hS 14 0 rfl rfl (by omega) (by omega) (by decide) dX4_copyFrom_81 (fun H locs hP hS => ?_)
              have hP : va_P D vwCl (cW cI cZ ad (sA (sA (sA (sA (sA (sA (sA (sA (sA S 7 g0) 8 (fun _ => S 15 0)) 9 (fun _ => S 16 0)) 10 (fun _ => S 17 0)) 11 g4) 12 g5) 13 g6) 11 (uZ g4 j9 (S 18 j9))) 12 (uZ g5 j9 (S 19 j9)))) H := hP
              have hR : RS (sA (sA (sA (sA (sA (sA (sA (sA (sA S 7 g0) 8 (fun _ => S 15 0)) 9 (fun _ => S 16 0)) 10 (fun _ => S 17 0)) 11 g4) 12 g5) 13 g6) 11 (uZ g4 j9 (S 18 j9))) 12 (uZ g5 j9 (S 19 j9))) := hR.put (by omega) (by omega)
              refine lv_aload_n hx hb dX4_copyFrom_82 rfl (lv_at hl 0 rfl) ?_
              refine va_get (D := D) (ci := 4) (v := .ref (ad 13)) (C := RX4) (T := TX4) (N := 7) hx hb hT inX4 hown hK hP 3 rfl rfl 6 (by decide) (hT _ q_88) (fun _ h9 => h9) rfl dX4_copyFrom_83 ?_
              refine lv_iload_n hx hb dX4_copyFrom_86 rfl (lv_at hl 2 rfl) ?_
              refine lv_aload_n hx hb dX4_copyFrom_87 rfl (lv_at hl 1 rfl) ?_
              refine va_get (D := D) (ci := 4) (v := .ref (ad 20)) (C := RX4) (T := TX4) (N := 7) hx hb hT inX4 hown hK hP 4 rfl rfl 6 (by decide) (hT _ q_88) (fun _ h9 => h9) rfl dX4_copyFrom_88 ?_
              refine lv_iload_n hx hb dX4_copyFrom_91 rfl (lv_at hl 2 rfl) ?_
              have g_8 : -2147483648 ≤ S 20 j9 ∧ S 20 j9 < 2147483648 := hR 20 j9 (by decide)
              refine z_zald (f := S 20) hx hb hK hP 19 1 rfl rfl (by omega) (by omega) (by decide) (j := j9) rfl dX4_copyFrom_92 ?_
              refine z_zast (f := (sA (sA (sA (sA (sA (sA (sA (sA (sA S 7 g0) 8 (fun _ => S 15 0)) 9 (fun _ => S 16 0)) 10 (fun _ => S 17 0)) 11 g4) 12 g5) 13 g6) 11 (uZ g4 j9 (S 18 j9))) 12 (uZ g5 j9 (S 19 j9))) 13) (i := ↑j9) (v := S 20 j9) hx hb hK hP (cD hinj cI cZ _) hS 15 1 rfl rfl (hth j9 (by omega)) (by omega) (by omega) (by decide) dX4_copyFrom_93 (fun H locs hP hS => ?_)
              have hP : va_P D vwCl (cW cI cZ ad (sA (sA (sA (sA (sA (sA (sA (sA (sA (sA S 7 g0) 8 (fun _ => S 15 0)) 9 (fun _ => S 16 0)) 10 (fun _ => S 17 0)) 11 g4) 12 g5) 13 g6) 11 (uZ g4 j9 (S 18 j9))) 12 (uZ g5 j9 (S 19 j9))) 13 (uZ g6 j9 (S 20 j9)))) H := hP
              have hR : RS (sA (sA (sA (sA (sA (sA (sA (sA (sA (sA S 7 g0) 8 (fun _ => S 15 0)) 9 (fun _ => S 16 0)) 10 (fun _ => S 17 0)) 11 g4) 12 g5) 13 g6) 11 (uZ g4 j9 (S 18 j9))) 12 (uZ g5 j9 (S 19 j9))) 13 (uZ g6 j9 (S 20 j9))) := hR.put (by omega) (by omega)
              refine z_iinc (lv' := [(2, .int (zI (↑j9 + 1))), (0, .ref (ad 43)), (1, .ref (ad 44))]) hx hb dX4_copyFrom_94 hl (k := 2) rfl (by decide) rfl (fun ls hl => ?_)
              refine lv_goto (tgt := 52) hx hb dX4_copyFrom_97 (by decide) ?_
              have hSe_9 : sA (sA (sA (sA (sA (sA (sA (sA (sA (sA S 7 g0) 8 (fun _ => S 15 0)) 9 (fun _ => S 16 0)) 10 (fun _ => S 17 0)) 11 g4) 12 g5) 13 g6) 11 (uZ g4 j9 (S 18 j9))) 12 (uZ g5 j9 (S 19 j9))) 13 (uZ g6 j9 (S 20 j9)) = sA (sA (sA (sA (sA (sA (sA S 7 g0) 8 (fun _ => S 15 0)) 9 (fun _ => S 16 0)) 10 (fun _ => S 17 0)) 11 (uZ g4 j9 (S 18 j9))) 12 (uZ g5 j9 (S 19 j9))) 13 (uZ g6 j9 (S 20 j9)) := by
                funext k8
                by_cases e80 : k8 = 7
                · subst e80; first | rfl | (funext j8; rfl)
                by_cases e81 : k8 = 8
                · subst e81; funext j8; first | rfl | exact hsc_8 j8
                by_cases e82 : k8 = 9
                · subst e82; funext j8; first | rfl | exact hsc_9 j8
                by_cases e83 : k8 = 10
                · subst e83; funext j8; first | rfl | exact hsc_10 j8
                by_cases e84 : k8 = 11
                · subst e84; first | rfl | (funext j8; rfl)
                by_cases e85 : k8 = 12
                · subst e85; first | rfl | (funext j8; rfl)
                by_cases e86 : k8 = 13
                · subst e86; first | rfl | (funext j8; rfl)
                simp [sA, e80, e81, e82, e83, e84, e85, e86]
              rw [hSe_9] at hP hR
              exact ih_52 (j9 + 1) (uZ g4 j9 (S 18 j9)) (uZ g5 j9 (S 19 j9)) (uZ g6 j9 (S 20 j9)) _ _ _ (by omega) (fun j hj => by unfold uZ; split <;> first | (rename_i e9; rw [e9]) | exact h4 j (by omega)) (fun j hj => by unfold uZ; split <;> first | (rename_i e9; rw [e9]) | exact h5 j (by omega)) (fun j hj => by unfold uZ; split <;> first | (rename_i e9; rw [e9]) | exact h6 j (by omega)) (by omega) hP hR hS (lv_sub hl [1, 2, 0] rfl)
        have hSe_10 : sA (sA (sA (sA S 7 g0) 8 (fun _ => S 15 0)) 9 (fun _ => S 16 0)) 10 (fun _ => S 17 0) = sA (sA (sA (sA (sA (sA (sA S 7 g0) 8 (fun _ => S 15 0)) 9 (fun _ => S 16 0)) 10 (fun _ => S 17 0)) 11 (S 11)) 12 (S 12)) 13 (S 13) := by
          funext k8
          by_cases e80 : k8 = 7
          · subst e80; first | rfl | (funext j8; rfl)
          by_cases e81 : k8 = 8
          · subst e81; funext j8; first | rfl | exact hsc_8 j8
          by_cases e82 : k8 = 9
          · subst e82; funext j8; first | rfl | exact hsc_9 j8
          by_cases e83 : k8 = 10
          · subst e83; funext j8; first | rfl | exact hsc_10 j8
          by_cases e84 : k8 = 11
          · subst e84; first | rfl | (funext j8; rfl)
          by_cases e85 : k8 = 12
          · subst e85; first | rfl | (funext j8; rfl)
          by_cases e86 : k8 = 13
          · subst e86; first | rfl | (funext j8; rfl)
          simp [sA, e80, e81, e82, e83, e84, e85, e86]
        rw [hSe_10] at hP hR
        exact cut_52 _ 0 (S 11) (S 12) (S 13) _ _ _ (by omega) (fun j h => absurd h (Nat.not_lt_zero j)) (fun j h => absurd h (Nat.not_lt_zero j)) (fun j h => absurd h (Nat.not_lt_zero j)) (Nat.lt_succ_self _) hP hR hS (lv_sub hl [1, 2, 0] rfl)
      · have h9 : True := trivial
        refine lv_aload_n hx hb dX4_copyFrom_8 rfl (lv_at hl 0 rfl) ?_
        refine va_get (D := D) (ci := 4) (v := .ref (ad 7)) (C := RX4) (T := TX4) (N := 7) hx hb hT inX4 hown hK hP 3 rfl rfl 0 (by decide) (hT _ q_75) (fun _ h9 => h9) rfl dX4_copyFrom_9 ?_
        refine lv_iload_n hx hb dX4_copyFrom_12 rfl (lv_at hl 2 rfl) ?_
        refine lv_aload_n hx hb dX4_copyFrom_13 rfl (lv_at hl 1 rfl) ?_
        refine va_get (D := D) (ci := 4) (v := .ref (ad 14)) (C := RX4) (T := TX4) (N := 7) hx hb hT inX4 hown hK hP 4 rfl rfl 0 (by decide) (hT _ q_75) (fun _ h9 => h9) rfl dX4_copyFrom_14 ?_
        refine lv_iload_n hx hb dX4_copyFrom_17 rfl (lv_at hl 2 rfl) ?_
        have g_11 : -2147483648 ≤ S 14 i ∧ S 14 i < 2147483648 := hR 14 i (by decide)
        refine z_ald (f := S 14) hx hb hK hP 16 0 rfl rfl (by omega) (by omega) (by decide) (j := i) rfl dX4_copyFrom_18 ?_
        refine z_ast (f := (sA S 7 g0) 7) (i := ↑i) (v := S 14 i) hx hb hK hP (cD hinj cI cZ _) hS 12 0 rfl rfl (by omega) (by omega) (by decide) dX4_copyFrom_19 (fun H locs hP hS => ?_)
        have hP : va_P D vwCl (cW cI cZ ad (sA S 7 (uZ g0 i (S 14 i)))) H := hP
        have hR : RS (sA S 7 (uZ g0 i (S 14 i))) := hR.put' (by omega) (by omega)
        refine z_iinc (lv' := [(2, .int (zI (↑i + 1))), (0, .ref (ad 43)), (1, .ref (ad 44))]) hx hb dX4_copyFrom_20 hl (k := 2) rfl (by decide) rfl (fun ls hl => ?_)
        refine lv_goto (tgt := 2) hx hb dX4_copyFrom_23 (by decide) ?_
        exact ih_2 (i + 1) (uZ g0 i (S 14 i)) _ _ _ (by omega) (fun j hj => by unfold uZ; split <;> first | (rename_i e9; rw [e9]) | exact h0 j (by omega)) (by omega) hP hR hS (lv_sub hl [1, 2, 0] rfl)
  have hSe_12 : S = sA S 7 (S 7) := by
    funext k8
    by_cases e80 : k8 = 7
    · subst e80; first | rfl | (funext j8; rfl)
    simp [sA, e80]
  rw [hSe_12] at hP hR
  exact cut_2 _ 0 (S 7) _ _ _ (by omega) (fun j h => absurd h (Nat.not_lt_zero j)) (Nat.lt_succ_self _) hP hR hS (lv_sub hl [1, 2, 0] rfl)
set_option maxHeartbeats 4000000 in
set_option maxRecDepth 100000 in
theorem k_X4_copyFrom_44 (l : Launch) (D : va_G) (cI cZ : ClassId) (ad : Nat → Nat) (az av : Nat) (hinj : cInj ad) (S : St) (hR : RS S) (hth : ∀ j, j < 6 → S 13 j = 0 ∨ S 13 j = 1) : Met l yX4_copyFrom (Cond.code yX4_copyFrom cX4_copyFrom 3 none :: lwT) ({ frames := 0, cells := 0, slots := 0, locals := 0 }) (gPc D (cW cI cZ ad) (cE D cI cZ ad az av) S [.ref (ad 44), .ref (ad 43)]) (va_Qv (fun (S' : St) => ∃ e14 e15 e16 e17 e18 e19 e20, S' = sA (sA (sA (sA (sA (sA (sA S 14 e14) 15 e15) 16 e16) 17 e17) 18 e18) 19 e19) 20 e20 ∧ (∀ j, j < 7 → e14 j = S 7 j) ∧ e15 0 = S 8 0 ∧ e16 0 = S 9 0 ∧ e17 0 = S 10 0 ∧ (∀ j, j < 6 → e18 j = S 11 j) ∧ (∀ j, j < 6 → e19 j = S 12 j) ∧ (∀ j, j < 6 → e20 j = S 13 j)) (gB D (cW cI cZ ad)) (cA ad)) 0 0 (cA ad) := by
  refine Met.ofW (cc := cX4_copyFrom) (maxL := 3) (ret := none) (by decide) rfl ?_
  intro p e s m args below meth c s₁ B hml hv
  obtain ⟨rfl, hP, hE⟩ := hv
  have hx := B.exec
  have hb := B.bytes
  have hr := B.returns
  have hts := atoms_spec (ws := Cond.code yX4_copyFrom cX4_copyFrom 3 none :: lwT) B.pre
  have hT := fun w (h : w ∈ lwT) => hts w (List.mem_cons_of_mem _ h)
  have hsub : ∀ w ∈ lwT, w ∈ (Cond.code yX4_copyFrom cX4_copyFrom 3 none :: lwT) := fun w h => List.mem_cons_of_mem _ h
  have hown : s.vm.findClass RX4 = some m.cls := findClass_of_methodNamed B.named
  have hlocks := B.notSynchronized
  have hK : va_K D vwCl [(cI, .int), (cZ, .boolean)] s := hE.1
  have hS : va_S (cA ad) s.heap s.heap [] := va_S.rf
  have hl := lv_entry ([.ref (ad 44), .ref (ad 43)]) (n := 3) (Nat.le_of_ble_eq_true rfl)
  rw [lg_entry_eq]
  generalize (lg_sl ([.ref (ad 44), .ref (ad 43)]) ++ List.replicate (3 - (lg_sl ([.ref (ad 44), .ref (ad 43)])).length) Slot.unset).toArray = ls at hl ⊢
  have hl : lv_has ls 3 [(0, .ref (ad 44)), (1, .ref (ad 43))] := hl
  refine z_iconst hx hb dX4_copyFrom_0 ?_
  refine lv_istore_n (lv' := [(2, .int (zI (0))), (0, .ref (ad 44)), (1, .ref (ad 43))]) hx hb dX4_copyFrom_1 rfl hl (by decide) rfl (fun ls hl => ?_)
  have cut_2 : ∀ (k9 : Nat) (i : Nat) (g0 : Nat → Int) (H : Heap) (locs : List Loc) (ls : Array Slot), (i ≤ 7) → (∀ j, j < i → g0 j = S 7 j) → (7 - i) < k9 → va_P D vwCl (cW cI cZ ad (sA S 14 g0)) H → RS (sA S 14 g0) → va_S (cA ad) s.heap H locs → lv_has ls 3 [(0, .ref (ad 44)), (1, .ref (ad 43)), (2, .int (zI (↑i)))] → W p l e (headSpec (Cond.code yX4_copyFrom cX4_copyFrom 3 none :: lwT) ({ frames := 0, cells := 0, slots := 0, locals := 0 })).room s m ([.ref (ad 44), .ref (ad 43)] : List Value).toArray below meth c H locs 0 0 (MQ below (va_Qv (fun (S' : St) => ∃ e14 e15 e16 e17 e18 e19 e20, S' = sA (sA (sA (sA (sA (sA (sA S 14 e14) 15 e15) 16 e16) 17 e17) 18 e18) 19 e19) 20 e20 ∧ (∀ j, j < 7 → e14 j = S 7 j) ∧ e15 0 = S 8 0 ∧ e16 0 = S 9 0 ∧ e17 0 = S 10 0 ∧ (∀ j, j < 6 → e18 j = S 11 j) ∧ (∀ j, j < 6 → e19 j = S 12 j) ∧ (∀ j, j < 6 → e20 j = S 13 j)) (gB D (cW cI cZ ad)) (cA ad)) ([.ref (ad 44), .ref (ad 43)] : List Value).toArray s 0 0 (cA ad)) (F0 m 2 ls []) := by
    intro k9
    induction k9 with
    | zero =>
      intro i g0 H locs ls hi h0 hk9 hP hR hS hl
      exact absurd hk9 (Nat.not_lt_zero _)
    | succ k9 ih_2 =>
      intro i g0 H locs ls hi h0 hk9 hP hR hS hl
      refine lv_iload_n hx hb dX4_copyFrom_2 rfl (lv_at hl 2 rfl) ?_
      refine z_bipush hx hb dX4_copyFrom_3 (by decide) ?_
      refine z_icmp_ge (tgt := 26) hx hb (by omega) (by omega) (by omega) (by omega) dX4_copyFrom_5 (by decide) (fun c_1 => ?_) (fun c_1 => ?_)
      · have h9 : True := trivial
        refine lv_aload_n hx hb dX4_copyFrom_26 rfl (lv_at hl 0 rfl) ?_
        refine lv_aload_n hx hb dX4_copyFrom_27 rfl (lv_at hl 1 rfl) ?_
        have g_2 : -2147483648 ≤ S 8 0 ∧ S 8 0 < 2147483648 := hR 8 0 (by decide)
        refine va_get (D := D) (ci := 4) (v := .int (zI (S 8 0))) (C := RX4) (T := TX4) (N := 7) hx hb hT inX4 hown hK hP 3 rfl rfl 1 (by decide) (hT _ q_77) (fun _ h9 => h9) rfl dX4_copyFrom_28 ?_
        refine va_put (D := D) (ci := 4) (v := .int (zI (S 8 0))) (ty := .int) (C := RX4) (T := TX4) (N := 7) hx hb hT inX4 tyX4 tyX4_ok nmX4 hown hK hP (cD hinj cI cZ _) hS 4 rfl rfl 1 (by decide) (hT _ q_77) (fun _ h9 => h9) rfl (by decide +kernel) rfl rfl (Nat.le_of_ble_eq_true rfl) dX4_copyFrom_31 (fun H locs hP _ hS => ?_)
        have hP : va_P D vwCl (cW cI cZ ad (sA (sA S 14 g0) 15 (fun _ => S 8 0))) H := hP
        have hR : RS (sA (sA S 14 g0) 15 (fun _ => S 8 0)) := hR.one (by omega) (by omega)
        refine lv_aload_n hx hb dX4_copyFrom_34 rfl (lv_at hl 0 rfl) ?_
        refine lv_aload_n hx hb dX4_copyFrom_35 rfl (lv_at hl 1 rfl) ?_
        have g_3 : -2147483648 ≤ S 9 0 ∧ S 9 0 < 2147483648 := hR 9 0 (by decide)
        refine va_get (D := D) (ci := 4) (v := .int (zI (S 9 0))) (C := RX4) (T := TX4) (N := 7) hx hb hT inX4 hown hK hP 3 rfl rfl 2 (by decide) (hT _ q_79) (fun _ h9 => h9) rfl dX4_copyFrom_36 ?_
        refine va_put (D := D) (ci := 4) (v := .int (zI (S 9 0))) (ty := .int) (C := RX4) (T := TX4) (N := 7) hx hb hT inX4 tyX4 tyX4_ok nmX4 hown hK hP (cD hinj cI cZ _) hS 4 rfl rfl 2 (by decide) (hT _ q_79) (fun _ h9 => h9) rfl (by decide +kernel) rfl rfl (Nat.le_of_ble_eq_true rfl) dX4_copyFrom_39 (fun H locs hP _ hS => ?_)
        have hP : va_P D vwCl (cW cI cZ ad (sA (sA (sA S 14 g0) 15 (fun _ => S 8 0)) 16 (fun _ => S 9 0))) H := hP
        have hR : RS (sA (sA (sA S 14 g0) 15 (fun _ => S 8 0)) 16 (fun _ => S 9 0)) := hR.one (by omega) (by omega)
        refine lv_aload_n hx hb dX4_copyFrom_42 rfl (lv_at hl 0 rfl) ?_
        refine lv_aload_n hx hb dX4_copyFrom_43 rfl (lv_at hl 1 rfl) ?_
        have g_4 : -2147483648 ≤ S 10 0 ∧ S 10 0 < 2147483648 := hR 10 0 (by decide)
        refine va_get (D := D) (ci := 4) (v := .int (zI (S 10 0))) (C := RX4) (T := TX4) (N := 7) hx hb hT inX4 hown hK hP 3 rfl rfl 3 (by decide) (hT _ q_81) (fun _ h9 => h9) rfl dX4_copyFrom_44 ?_
        refine va_put (D := D) (ci := 4) (v := .int (zI (S 10 0))) (ty := .int) (C := RX4) (T := TX4) (N := 7) hx hb hT inX4 tyX4 tyX4_ok nmX4 hown hK hP (cD hinj cI cZ _) hS 4 rfl rfl 3 (by decide) (hT _ q_81) (fun _ h9 => h9) rfl (by decide +kernel) rfl rfl (Nat.le_of_ble_eq_true rfl) dX4_copyFrom_47 (fun H locs hP _ hS => ?_)
        have hP : va_P D vwCl (cW cI cZ ad (sA (sA (sA (sA S 14 g0) 15 (fun _ => S 8 0)) 16 (fun _ => S 9 0)) 17 (fun _ => S 10 0))) H := hP
        have hR : RS (sA (sA (sA (sA S 14 g0) 15 (fun _ => S 8 0)) 16 (fun _ => S 9 0)) 17 (fun _ => S 10 0)) := hR.one (by omega) (by omega)
        refine z_iconst hx hb dX4_copyFrom_50 ?_
        refine lv_istore_n (lv' := [(2, .int (zI (0))), (0, .ref (ad 44)), (1, .ref (ad 43))]) hx hb dX4_copyFrom_51 rfl hl (by decide) rfl (fun ls hl => ?_)
        have cut_52 : ∀ (k9 : Nat) (j9 : Nat) (g4 : Nat → Int) (g5 : Nat → Int) (g6 : Nat → Int) (H : Heap) (locs : List Loc) (ls : Array Slot), (j9 ≤ 6) → (∀ j, j < j9 → g4 j = S 11 j) → (∀ j, j < j9 → g5 j = S 12 j) → (∀ j, j < j9 → g6 j = S 13 j) → (6 - j9) < k9 → va_P D vwCl (cW cI cZ ad (sA (sA (sA (sA (sA (sA (sA S 14 g0) 15 (fun _ => S 8 0)) 16 (fun _ => S 9 0)) 17 (fun _ => S 10 0)) 18 g4) 19 g5) 20 g6)) H → RS (sA (sA (sA (sA (sA (sA (sA S 14 g0) 15 (fun _ => S 8 0)) 16 (fun _ => S 9 0)) 17 (fun _ => S 10 0)) 18 g4) 19 g5) 20 g6) → va_S (cA ad) s.heap H locs → lv_has ls 3 [(0, .ref (ad 44)), (1, .ref (ad 43)), (2, .int (zI (↑j9)))] → W p l e (headSpec (Cond.code yX4_copyFrom cX4_copyFrom 3 none :: lwT) ({ frames := 0, cells := 0, slots := 0, locals := 0 })).room s m ([.ref (ad 44), .ref (ad 43)] : List Value).toArray below meth c H locs 0 0 (MQ below (va_Qv (fun (S' : St) => ∃ e14 e15 e16 e17 e18 e19 e20, S' = sA (sA (sA (sA (sA (sA (sA S 14 e14) 15 e15) 16 e16) 17 e17) 18 e18) 19 e19) 20 e20 ∧ (∀ j, j < 7 → e14 j = S 7 j) ∧ e15 0 = S 8 0 ∧ e16 0 = S 9 0 ∧ e17 0 = S 10 0 ∧ (∀ j, j < 6 → e18 j = S 11 j) ∧ (∀ j, j < 6 → e19 j = S 12 j) ∧ (∀ j, j < 6 → e20 j = S 13 j)) (gB D (cW cI cZ ad)) (cA ad)) ([.ref (ad 44), .ref (ad 43)] : List Value).toArray s 0 0 (cA ad)) (F0 m 52 ls []) := by
          intro k9
          induction k9 with
          | zero =>
            intro j9 g4 g5 g6 H locs ls hj h4 h5 h6 hk9 hP hR hS hl
            exact absurd hk9 (Nat.not_lt_zero _)
          | succ k9 ih_52 =>
            intro j9 g4 g5 g6 H locs ls hj h4 h5 h6 hk9 hP hR hS hl
            refine lv_iload_n hx hb dX4_copyFrom_52 rfl (lv_at hl 2 rfl) ?_
            refine z_bipush hx hb dX4_copyFrom_53 (by decide) ?_
            refine z_icmp_ge (tgt := 100) hx hb (by omega) (by omega) (by omega) (by omega) dX4_copyFrom_55 (by decide) (fun c_5 => ?_) (fun c_5 => ?_)
            · have h9 : True := trivial
              exact g_vret (S1 := sA (sA (sA (sA (sA (sA (sA S 14 g0) 15 (fun _ => S 8 0)) 16 (fun _ => S 9 0)) 17 (fun _ => S 10 0)) 18 g4) 19 g5) 20 g6) hx hb hr hlocks hP hR hS (⟨_, _, _, _, _, _, _, rfl, fun j hj => h0 j (by omega), rfl, rfl, rfl, fun j hj => h4 j (by omega), fun j hj => h5 j (by omega), fun j hj => h6 j (by omega)⟩) dX4_copyFrom_100
            · have h9 : True := trivial
              refine lv_aload_n hx hb dX4_copyFrom_58 rfl (lv_at hl 0 rfl) ?_
              refine va_get (D := D) (ci := 4) (v := .ref (ad 18)) (C := RX4) (T := TX4) (N := 7) hx hb hT inX4 hown hK hP 4 rfl rfl 4 (by decide) (hT _ q_84) (fun _ h9 => h9) rfl dX4_copyFrom_59 ?_
              refine lv_iload_n hx hb dX4_copyFrom_62 rfl (lv_at hl 2 rfl) ?_
              refine lv_aload_n hx hb dX4_copyFrom_63 rfl (lv_at hl 1 rfl) ?_
              refine va_get (D := D) (ci := 4) (v := .ref (ad 11)) (C := RX4) (T := TX4) (N := 7) hx hb hT inX4 hown hK hP 3 rfl rfl 4 (by decide) (hT _ q_84) (fun _ h9 => h9) rfl dX4_copyFrom_64 ?_
              refine lv_iload_n hx hb dX4_copyFrom_67 rfl (lv_at hl 2 rfl) ?_
              have g_6 : -2147483648 ≤ S 11 j9 ∧ S 11 j9 < 2147483648 := hR 11 j9 (by decide)
              refine z_ald (f := S 11) hx hb hK hP 13 0 rfl rfl (by omega) (by omega) (by decide) (j := j9) rfl dX4_copyFrom_68 ?_
              refine z_ast (f := (sA (sA (sA (sA (sA (sA (sA S 14 g0) 15 (fun _ => S 8 0)) 16 (fun _ => S 9 0)) 17 (fun _ => S 10 0)) 18 g4) 19 g5) 20 g6) 18) (i := ↑j9) (v := S 11 j9) hx hb hK hP (cD hinj cI cZ _) hS 17 0 rfl rfl (by omega) (by omega) (by decide) dX4_copyFrom_69 (fun H locs hP hS => ?_)
              have hP : va_P D vwCl (cW cI cZ ad (sA (sA (sA (sA (sA (sA (sA (sA S 14 g0) 15 (fun _ => S 8 0)) 16 (fun _ => S 9 0)) 17 (fun _ => S 10 0)) 18 g4) 19 g5) 20 g6) 18 (uZ g4 j9 (S 11 j9)))) H := hP
              have hR : RS (sA (sA (sA (sA (sA (sA (sA (sA S 14 g0) 15 (fun _ => S 8 0)) 16 (fun _ => S 9 0)) 17 (fun _ => S 10 0)) 18 g4) 19 g5) 20 g6) 18 (uZ g4 j9 (S 11 j9))) := hR.put (by omega) (by omega)
              refine lv_aload_n hx hb dX4_copyFrom_70 rfl (lv_at hl 0 rfl) ?_
              refine va_get (D := D) (ci := 4) (v := .ref (ad 19)) (C := RX4) (T := TX4) (N := 7) hx hb hT inX4 hown hK hP 4 rfl rfl 5 (by decide) (hT _ q_86) (fun _ h9 => h9) rfl dX4_copyFrom_71 ?_
              refine lv_iload_n hx hb dX4_copyFrom_74 rfl (lv_at hl 2 rfl) ?_
              refine lv_aload_n hx hb dX4_copyFrom_75 rfl (lv_at hl 1 rfl) ?_
              refine va_get (D := D) (ci := 4) (v := .ref (ad 12)) (C := RX4) (T := TX4) (N := 7) hx hb hT inX4 hown hK hP 3 rfl rfl 5 (by decide) (hT _ q_86) (fun _ h9 => h9) rfl dX4_copyFrom_76 ?_
              refine lv_iload_n hx hb dX4_copyFrom_79 rfl (lv_at hl 2 rfl) ?_
              have g_7 : -2147483648 ≤ S 12 j9 ∧ S 12 j9 < 2147483648 := hR 12 j9 (by decide)
              refine z_ald (f := S 12) hx hb hK hP 14 0 rfl rfl (by omega) (by omega) (by decide) (j := j9) rfl dX4_copyFrom_80 ?_
              refine z_ast (f := (sA (sA (sA (sA (sA (sA (sA (sA S 14 g0) 15 (fun _ => S 8 0)) 16 (fun _ => S 9 0)) 17 (fun _ => S 10 0)) 18 g4) 19 g5) 20 g6) 18 (uZ g4 j9 (S 11 j9))) 19) (i := ↑j9) (v := S 12 j9) hx hb hK hP (cD hinj cI cZ _) hS 18 0 rfl rfl (by omega) (by omega) (by decide) dX4_copyFrom_81 (fun H locs hP hS => ?_)
              have hP : va_P D vwCl (cW cI cZ ad (sA (sA (sA (sA (sA (sA (sA (sA (sA S 14 g0) 15 (fun _ => S 8 0)) 16 (fun _ => S 9 0)) 17 (fun _ => S 10 0)) 18 g4) 19 g5) 20 g6) 18 (uZ g4 j9 (S 11 j9))) 19 (uZ g5 j9 (S 12 j9)))) H := hP
              have hR : RS (sA (sA (sA (sA (sA (sA (sA (sA (sA S 14 g0) 15 (fun _ => S 8 0)) 16 (fun _ => S 9 0)) 17 (fun _ => S 10 0)) 18 g4) 19 g5) 20 g6) 18 (uZ g4 j9 (S 11 j9))) 19 (uZ g5 j9 (S 12 j9))) := hR.put (by omega) (by omega)
              refine lv_aload_n hx hb dX4_copyFrom_82 rfl (lv_at hl 0 rfl) ?_
              refine va_get (D := D) (ci := 4) (v := .ref (ad 20)) (C := RX4) (T := TX4) (N := 7) hx hb hT inX4 hown hK hP 4 rfl rfl 6 (by decide) (hT _ q_88) (fun _ h9 => h9) rfl dX4_copyFrom_83 ?_
              refine lv_iload_n hx hb dX4_copyFrom_86 rfl (lv_at hl 2 rfl) ?_
              refine lv_aload_n hx hb dX4_copyFrom_87 rfl (lv_at hl 1 rfl) ?_
              refine va_get (D := D) (ci := 4) (v := .ref (ad 13)) (C := RX4) (T := TX4) (N := 7) hx hb hT inX4 hown hK hP 3 rfl rfl 6 (by decide) (hT _ q_88) (fun _ h9 => h9) rfl dX4_copyFrom_88 ?_
              refine lv_iload_n hx hb dX4_copyFrom_91 rfl (lv_at hl 2 rfl) ?_
              have g_8 : -2147483648 ≤ S 13 j9 ∧ S 13 j9 < 2147483648 := hR 13 j9 (by decide)
              refine z_zald (f := S 13) hx hb hK hP 15 1 rfl rfl (by omega) (by omega) (by decide) (j := j9) rfl dX4_copyFrom_92 ?_
              refine z_zast (f := (sA (sA (sA (sA (sA (sA (sA (sA (sA S 14 g0) 15 (fun _ => S 8 0)) 16 (fun _ => S 9 0)) 17 (fun _ => S 10 0)) 18 g4) 19 g5) 20 g6) 18 (uZ g4 j9 (S 11 j9))) 19 (uZ g5 j9 (S 12 j9))) 20) (i := ↑j9) (v := S 13 j9) hx hb hK hP (cD hinj cI cZ _) hS 19 1 rfl rfl (hth j9 (by omega)) (by omega) (by omega) (by decide) dX4_copyFrom_93 (fun H locs hP hS => ?_)
              have hP : va_P D vwCl (cW cI cZ ad (sA (sA (sA (sA (sA (sA (sA (sA (sA (sA S 14 g0) 15 (fun _ => S 8 0)) 16 (fun _ => S 9 0)) 17 (fun _ => S 10 0)) 18 g4) 19 g5) 20 g6) 18 (uZ g4 j9 (S 11 j9))) 19 (uZ g5 j9 (S 12 j9))) 20 (uZ g6 j9 (S 13 j9)))) H := hP
              have hR : RS (sA (sA (sA (sA (sA (sA (sA (sA (sA (sA S 14 g0) 15 (fun _ => S 8 0)) 16 (fun _ => S 9 0)) 17 (fun _ => S 10 0)) 18 g4) 19 g5) 20 g6) 18 (uZ g4 j9 (S 11 j9))) 19 (uZ g5 j9 (S 12 j9))) 20 (uZ g6 j9 (S 13 j9))) := hR.put (by omega) (by omega)
              refine z_iinc (lv' := [(2, .int (zI (↑j9 + 1))), (0, .ref (ad 44)), (1, .ref (ad 43))]) hx hb dX4_copyFrom_94 hl (k := 2) rfl (by decide) rfl (fun ls hl => ?_)
              refine lv_goto (tgt := 52) hx hb dX4_copyFrom_97 (by decide) ?_
              have hSe_9 : sA (sA (sA (sA (sA (sA (sA (sA (sA (sA S 14 g0) 15 (fun _ => S 8 0)) 16 (fun _ => S 9 0)) 17 (fun _ => S 10 0)) 18 g4) 19 g5) 20 g6) 18 (uZ g4 j9 (S 11 j9))) 19 (uZ g5 j9 (S 12 j9))) 20 (uZ g6 j9 (S 13 j9)) = sA (sA (sA (sA (sA (sA (sA S 14 g0) 15 (fun _ => S 8 0)) 16 (fun _ => S 9 0)) 17 (fun _ => S 10 0)) 18 (uZ g4 j9 (S 11 j9))) 19 (uZ g5 j9 (S 12 j9))) 20 (uZ g6 j9 (S 13 j9)) := by
                funext k8
                by_cases e80 : k8 = 14
                · subst e80; first | rfl | (funext j8; rfl)
                by_cases e81 : k8 = 15
                · subst e81; funext j8; first | rfl | exact hsc_15 j8
                by_cases e82 : k8 = 16
                · subst e82; funext j8; first | rfl | exact hsc_16 j8
                by_cases e83 : k8 = 17
                · subst e83; funext j8; first | rfl | exact hsc_17 j8
                by_cases e84 : k8 = 18
                · subst e84; first | rfl | (funext j8; rfl)
                by_cases e85 : k8 = 19
                · subst e85; first | rfl | (funext j8; rfl)
                by_cases e86 : k8 = 20
                · subst e86; first | rfl | (funext j8; rfl)
                simp [sA, e80, e81, e82, e83, e84, e85, e86]
              rw [hSe_9] at hP hR
              exact ih_52 (j9 + 1) (uZ g4 j9 (S 11 j9)) (uZ g5 j9 (S 12 j9)) (uZ g6 j9 (S 13 j9)) _ _ _ (by omega) (fun j hj => by unfold uZ; split <;> first | (rename_i e9; rw [e9]) | exact h4 j (by omega)) (fun j hj => by unfold uZ; split <;> first | (rename_i e9; rw [e9]) | exact h5 j (by omega)) (fun j hj => by unfold uZ; split <;> first | (rename_i e9; rw [e9]) | exact h6 j (by omega)) (by omega) hP hR hS (lv_sub hl [1, 2, 0] rfl)
        have hSe_10 : sA (sA (sA (sA S 14 g0) 15 (fun _ => S 8 0)) 16 (fun _ => S 9 0)) 17 (fun _ => S 10 0) = sA (sA (sA (sA (sA (sA (sA S 14 g0) 15 (fun _ => S 8 0)) 16 (fun _ => S 9 0)) 17 (fun _ => S 10 0)) 18 (S 18)) 19 (S 19)) 20 (S 20) := by
          funext k8
          by_cases e80 : k8 = 14
          · subst e80; first | rfl | (funext j8; rfl)
          by_cases e81 : k8 = 15
          · subst e81; funext j8; first | rfl | exact hsc_15 j8
          by_cases e82 : k8 = 16
          · subst e82; funext j8; first | rfl | exact hsc_16 j8
          by_cases e83 : k8 = 17
          · subst e83; funext j8; first | rfl | exact hsc_17 j8
          by_cases e84 : k8 = 18
          · subst e84; first | rfl | (funext j8; rfl)
          by_cases e85 : k8 = 19
          · subst e85; first | rfl | (funext j8; rfl)
          by_cases e86 : k8 = 20
          · subst e86; first | rfl | (funext j8; rfl)
          simp [sA, e80, e81, e82, e83, e84, e85, e86]
        rw [hSe_10] at hP hR
        exact cut_52 _ 0 (S 18) (S 19) (S 20) _ _ _ (by omega) (fun j h => absurd h (Nat.not_lt_zero j)) (fun j h => absurd h (Nat.not_lt_zero j)) (fun j h => absurd h (Nat.not_lt_zero j)) (Nat.lt_succ_self _) hP hR hS (lv_sub hl [1, 2, 0] rfl)
      · have h9 : True := trivial
        refine lv_aload_n hx hb dX4_copyFrom_8 rfl (lv_at hl 0 rfl) ?_
        refine va_get (D := D) (ci := 4) (v := .ref (ad 14)) (C := RX4) (T := TX4) (N := 7) hx hb hT inX4 hown hK hP 4 rfl rfl 0 (by decide) (hT _ q_75) (fun _ h9 => h9) rfl dX4_copyFrom_9 ?_
        refine lv_iload_n hx hb dX4_copyFrom_12 rfl (lv_at hl 2 rfl) ?_
        refine lv_aload_n hx hb dX4_copyFrom_13 rfl (lv_at hl 1 rfl) ?_
        refine va_get (D := D) (ci := 4) (v := .ref (ad 7)) (C := RX4) (T := TX4) (N := 7) hx hb hT inX4 hown hK hP 3 rfl rfl 0 (by decide) (hT _ q_75) (fun _ h9 => h9) rfl dX4_copyFrom_14 ?_
        refine lv_iload_n hx hb dX4_copyFrom_17 rfl (lv_at hl 2 rfl) ?_
        have g_11 : -2147483648 ≤ S 7 i ∧ S 7 i < 2147483648 := hR 7 i (by decide)
        refine z_ald (f := S 7) hx hb hK hP 12 0 rfl rfl (by omega) (by omega) (by decide) (j := i) rfl dX4_copyFrom_18 ?_
        refine z_ast (f := (sA S 14 g0) 14) (i := ↑i) (v := S 7 i) hx hb hK hP (cD hinj cI cZ _) hS 16 0 rfl rfl (by omega) (by omega) (by decide) dX4_copyFrom_19 (fun H locs hP hS => ?_)
        have hP : va_P D vwCl (cW cI cZ ad (sA S 14 (uZ g0 i (S 7 i)))) H := hP
        have hR : RS (sA S 14 (uZ g0 i (S 7 i))) := hR.put' (by omega) (by omega)
        refine z_iinc (lv' := [(2, .int (zI (↑i + 1))), (0, .ref (ad 44)), (1, .ref (ad 43))]) hx hb dX4_copyFrom_20 hl (k := 2) rfl (by decide) rfl (fun ls hl => ?_)
        refine lv_goto (tgt := 2) hx hb dX4_copyFrom_23 (by decide) ?_
        exact ih_2 (i + 1) (uZ g0 i (S 7 i)) _ _ _ (by omega) (fun j hj => by unfold uZ; split <;> first | (rename_i e9; rw [e9]) | exact h0 j (by omega)) (by omega) hP hR hS (lv_sub hl [1, 2, 0] rfl)
  have hSe_12 : S = sA S 14 (S 14) := by
    funext k8
    by_cases e80 : k8 = 14
    · subst e80; first | rfl | (funext j8; rfl)
    simp [sA, e80]
  rw [hSe_12] at hP hR
  exact cut_2 _ 0 (S 14) _ _ _ (by omega) (fun j h => absurd h (Nat.not_lt_zero j)) (Nat.lt_succ_self _) hP hR hS (lv_sub hl [1, 2, 0] rfl)
set_option maxHeartbeats 4000000 in
set_option maxRecDepth 100000 in
theorem k_X2_add (l : Launch) (D : va_G) (cI cZ : ClassId) (ad : Nat → Nat) (az av : Nat) (hinj : cInj ad) (S : St) (hR : RS S) (sz : Nat) (hsz : S 1 0 = ↑sz) (hsz9 : sz < 9) (x : Int) (hx1 : -2147483648 ≤ x) (hx2 : x < 2147483648) : Met l yX2_add (Cond.code yX2_add cX2_add 2 none :: lwT) ({ frames := 0, cells := 0, slots := 0, locals := 0 }) (gPc D (cW cI cZ ad) (cE D cI cZ ad az av) S [.ref (ad 41), .int (zI (x))]) (va_Qv (fun (S' : St) => S' = sA (sA S 0 (uZ (S 0) sz x)) 1 (fun _ => ↑sz + 1)) (gB D (cW cI cZ ad)) (cA ad)) 0 0 (cA ad) := by
  refine Met.ofW (cc := cX2_add) (maxL := 2) (ret := none) (by decide) rfl ?_
  intro p e s m args below meth c s₁ B hml hv
  obtain ⟨rfl, hP, hE⟩ := hv
  have hx := B.exec
  have hb := B.bytes
  have hr := B.returns
  have hts := atoms_spec (ws := Cond.code yX2_add cX2_add 2 none :: lwT) B.pre
  have hT := fun w (h : w ∈ lwT) => hts w (List.mem_cons_of_mem _ h)
  have hsub : ∀ w ∈ lwT, w ∈ (Cond.code yX2_add cX2_add 2 none :: lwT) := fun w h => List.mem_cons_of_mem _ h
  have hown : s.vm.findClass RX2 = some m.cls := findClass_of_methodNamed B.named
  have hlocks := B.notSynchronized
  have hK : va_K D vwCl [(cI, .int), (cZ, .boolean)] s := hE.1
  have hS : va_S (cA ad) s.heap s.heap [] := va_S.rf
  have hl := lv_entry ([.ref (ad 41), .int (zI (x))]) (n := 2) (Nat.le_of_ble_eq_true rfl)
  rw [lg_entry_eq]
  generalize (lg_sl ([.ref (ad 41), .int (zI (x))]) ++ List.replicate (2 - (lg_sl ([.ref (ad 41), .int (zI (x))])).length) Slot.unset).toArray = ls at hl ⊢
  have hl : lv_has ls 2 [(0, .ref (ad 41)), (1, .int (zI (x)))] := hl
  refine lv_aload_n hx hb dX2_add_0 rfl (lv_at hl 0 rfl) ?_
  have g_1 : -2147483648 ≤ S 1 0 ∧ S 1 0 < 2147483648 := hR 1 0 (by decide)
  refine va_get (D := D) (ci := 2) (v := .int (zI (S 1 0))) (C := RX2) (T := TX2) (N := 2) hx hb hT inX2 hown hK hP 1 rfl rfl 1 (by decide) (hT _ q_31) (fun _ h9 => h9) rfl dX2_add_1 ?_
  refine lv_aload_n hx hb dX2_add_4 rfl (lv_at hl 0 rfl) ?_
  refine va_get (D := D) (ci := 2) (v := .ref (ad 0)) (C := RX2) (T := TX2) (N := 2) hx hb hT inX2 hown hK hP 1 rfl rfl 0 (by decide) (hT _ q_29) (fun _ h9 => h9) rfl dX2_add_5 ?_
  refine va_alen hx hb hK hP 8 0 rfl rfl (v := zI 9) rfl dX2_add_8 ?_
  refine z_icmp_lt (tgt := 13) hx hb (by omega) (by omega) (by omega) (by omega) dX2_add_9 (by decide) (fun c_2 => ?_) (fun c_2 => ?_)
  · have h9 : True := trivial
    refine lv_aload_n hx hb dX2_add_13 rfl (lv_at hl 0 rfl) ?_
    refine va_get (D := D) (ci := 2) (v := .ref (ad 0)) (C := RX2) (T := TX2) (N := 2) hx hb hT inX2 hown hK hP 1 rfl rfl 0 (by decide) (hT _ q_29) (fun _ h9 => h9) rfl dX2_add_14 ?_
    refine lv_aload_n hx hb dX2_add_17 rfl (lv_at hl 0 rfl) ?_
    refine va_get (D := D) (ci := 2) (v := .int (zI (S 1 0))) (C := RX2) (T := TX2) (N := 2) hx hb hT inX2 hown hK hP 1 rfl rfl 1 (by decide) (hT _ q_31) (fun _ h9 => h9) rfl dX2_add_18 ?_
    refine lv_iload_n hx hb dX2_add_21 rfl (lv_at hl 1 rfl) ?_
    refine z_ast (f := S 0) (i := S 1 0) (v := x) hx hb hK hP (cD hinj cI cZ _) hS 8 0 rfl rfl (by omega) (by omega) (by decide) dX2_add_22 (fun H locs hP hS => ?_)
    have hP : va_P D vwCl (cW cI cZ ad (sA S 0 (uZ (S 0) (S 1 0).toNat x))) H := hP
    have hR : RS (sA S 0 (uZ (S 0) (S 1 0).toNat x)) := hR.put (by omega) (by omega)
    refine lv_aload_n hx hb dX2_add_23 rfl (lv_at hl 0 rfl) ?_
    refine lv_dup hx hb dX2_add_24 rfl ?_
    refine va_get (D := D) (ci := 2) (v := .int (zI (S 1 0))) (C := RX2) (T := TX2) (N := 2) hx hb hT inX2 hown hK hP 1 rfl rfl 1 (by decide) (hT _ q_31) (fun _ h9 => h9) rfl dX2_add_25 ?_
    refine z_iconst hx hb dX2_add_28 ?_
    refine z_iadd hx hb dX2_add_29 ?_
    refine va_put (D := D) (ci := 2) (v := .int (zI ((S 1 0) + 1))) (ty := .int) (C := RX2) (T := TX2) (N := 2) hx hb hT inX2 tyX2 tyX2_ok nmX2 hown hK hP (cD hinj cI cZ _) hS 1 rfl rfl 1 (by decide) (hT _ q_31) (fun _ h9 => h9) rfl (by decide +kernel) rfl rfl (Nat.le_of_ble_eq_true rfl) dX2_add_30 (fun H locs hP _ hS => ?_)
    have hP : va_P D vwCl (cW cI cZ ad (sA (sA S 0 (uZ (S 0) (S 1 0).toNat x)) 1 (fun _ => (S 1 0) + 1))) H := hP
    have hR : RS (sA (sA S 0 (uZ (S 0) (S 1 0).toNat x)) 1 (fun _ => (S 1 0) + 1)) := hR.one (by omega) (by omega)
    exact g_vret (S1 := sA (sA S 0 (uZ (S 0) (S 1 0).toNat x)) 1 (fun _ => (S 1 0) + 1)) hx hb hr hlocks hP hR hS (by rw [show (S 1 0).toNat = sz by omega, hsz]) dX2_add_33
  · exact False.elim (by omega)
