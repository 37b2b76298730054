set_option maxHeartbeats 4000000 in
set_option maxRecDepth 100000 in
theorem k_X5_widestHinge (l : Launch) (D : va_G) (cI cZ : ClassId) (ad : Nat → Nat) (az av : Nat) (hinj : cInj ad) (S : St) (hR : RS S) (n N : Nat) (t : Nat → Int) (hT9 : cTab n N t S) (k : Nat) (x : Int) (hxk : x = ↑k) (hkN : k < N) : Met l yX5_widestHinge (Cond.code yX5_widestHinge cX5_widestHinge 4 (some .int) :: lwT) ({ frames := 4, cells := 0, slots := 0, locals := 90 }) (gPc D (cW cI cZ ad) (cE D cI cZ ad az av) S [.ref (ad 45), .int (zI (x))]) (va_Qi (fun (r : Int32) (S' : St) => S' = S ∧ r = zI (wmF n (S 7) (dgF n (t k)))) (gB D (cW cI cZ ad)) (cA ad)) 0 0 (cA ad) := by
  refine Met.ofW (cc := cX5_widestHinge) (maxL := 4) (ret := (some .int)) (by decide) rfl ?_
  intro p e s m args below meth c s₁ B hml hv
  obtain ⟨rfl, hP, hE⟩ := hv
  have hx := B.exec
  have hb := B.bytes
  have hr := B.returns
  have hts := atoms_spec (ws := Cond.code yX5_widestHinge cX5_widestHinge 4 (some .int) :: lwT) B.pre
  have hT := fun w (h : w ∈ lwT) => hts w (List.mem_cons_of_mem _ h)
  have hsub : ∀ w ∈ lwT, w ∈ (Cond.code yX5_widestHinge cX5_widestHinge 4 (some .int) :: lwT) := fun w h => List.mem_cons_of_mem _ h
  have hown : s.vm.findClass RX5 = some m.cls := findClass_of_methodNamed B.named
  have hlocks := B.notSynchronized
  have hK : va_K D vwCl [(cI, .int), (cZ, .boolean)] s := hE.1
  have hS : va_S (cA ad) s.heap s.heap [] := va_S.rf
  have hT8 := hT9
  obtain ⟨⟨hn, hN, hn7, hN4⟩, hn0, hO9, hso, htb⟩ := hT9
  have hnz : n ≠ 0 := fun e => by have := hn0 e; omega
  have hO := hO9 hnz
  obtain ⟨a1, a2, a3⟩ := hO.2.1 k hkN
  have hl := lv_entry ([.ref (ad 45), .int (zI (x))]) (n := 4) (Nat.le_of_ble_eq_true rfl)
  rw [lg_entry_eq]
  generalize (lg_sl ([.ref (ad 45), .int (zI (x))]) ++ List.replicate (4 - (lg_sl ([.ref (ad 45), .int (zI (x))])).length) Slot.unset).toArray = ls at hl ⊢
  have hl : lv_has ls 4 [(0, .ref (ad 45)), (1, .int (zI (x)))] := hl
  refine z_iconst hx hb dX5_widestHinge_0 ?_
  refine lv_istore_n (lv' := [(2, .int (zI (0))), (0, .ref (ad 45)), (1, .int (zI (x)))]) hx hb dX5_widestHinge_1 rfl hl (by decide) rfl (fun ls hl => ?_)
  refine z_iconst hx hb dX5_widestHinge_2 ?_
  refine lv_istore_n (lv' := [(3, .int (zI (0))), (2, .int (zI (0))), (0, .ref (ad 45)), (1, .int (zI (x)))]) hx hb dX5_widestHinge_3 rfl hl (by decide) rfl (fun ls hl => ?_)
  have cut_4 : ∀ (k9 : Nat) (i : Nat) (y : Int) (H : Heap) (locs : List Loc) (ls : Array Slot), (i ≤ n - 1) → (0 ≤ y ∧ y ≤ 21) → (y = mxF (wdF n (S 7) (dgF n (t k))) i) → (n - i) < k9 → va_P D vwCl (cW cI cZ ad S) H → RS S → va_S (cA ad) s.heap H locs → lv_has ls 4 [(0, .ref (ad 45)), (1, .int (zI (x))), (2, .int (zI (y))), (3, .int (zI (↑i)))] → W p l e (headSpec (Cond.code yX5_widestHinge cX5_widestHinge 4 (some .int) :: lwT) ({ frames := 4, cells := 0, slots := 0, locals := 90 })).room s m ([.ref (ad 45), .int (zI (x))] : List Value).toArray below meth c H locs 0 0 (MQ below (va_Qi (fun (r : Int32) (S' : St) => S' = S ∧ r = zI (wmF n (S 7) (dgF n (t k)))) (gB D (cW cI cZ ad)) (cA ad)) ([.ref (ad 45), .int (zI (x))] : List Value).toArray s 0 0 (cA ad)) (F0 m 4 ls []) := by
    intro k9
    induction k9 with
    | zero =>
      intro i y H locs ls hi hyr hy hk9 hP hR hS hl
      exact absurd hk9 (Nat.not_lt_zero _)
    | succ k9 ih_4 =>
      intro i y H locs ls hi hyr hy hk9 hP hR hS hl
      refine lv_iload_n hx hb dX5_widestHinge_4 rfl (lv_at hl 3 rfl) ?_
      refine lv_aload_n hx hb dX5_widestHinge_5 rfl (lv_at hl 0 rfl) ?_
      refine va_get (D := D) (ci := 5) (v := .ref (ad 42)) (C := RX5) (T := TX5) (N := 5) hx hb hT inX5 hown hK hP 5 rfl rfl 1 (by decide) (hT _ q_114) (fun _ h9 => h9) rfl dX5_widestHinge_6 ?_
      have g_1 : -2147483648 ≤ S 2 0 ∧ S 2 0 < 2147483648 := hR 2 0 (by decide)
      refine va_get (D := D) (ci := 0) (v := .int (zI (S 2 0))) (C := RX0) (T := TX0) (N := 5) hx hb hT inX0 hown hK hP 2 rfl rfl 0 (by decide) (hT _ q_49) (fun _ h9 => h9) rfl dX5_widestHinge_9 ?_
      refine z_iconst hx hb dX5_widestHinge_12 ?_
      refine z_isub hx hb dX5_widestHinge_13 ?_
      refine z_icmp_ge (tgt := 34) hx hb (by omega) (by omega) (by omega) (by omega) dX5_widestHinge_14 (by decide) (fun c_2 => ?_) (fun c_2 => ?_)
      · have h9 : True := trivial
        refine lv_iload_n hx hb dX5_widestHinge_34 rfl (lv_at hl 2 rfl) ?_
        exact g_iret (S1 := S) (v := zI (y)) hx hb hr hlocks hP hR hS (⟨rfl, by rw [hy, show i = n - 1 by omega]; rfl⟩) dX5_widestHinge_35
      · have h9 : True := trivial
        refine lv_iload_n hx hb dX5_widestHinge_17 rfl (lv_at hl 2 rfl) ?_
        refine lv_aload_n hx hb dX5_widestHinge_18 rfl (lv_at hl 0 rfl) ?_
        refine lv_iload_n hx hb dX5_widestHinge_19 rfl (lv_at hl 1 rfl) ?_
        refine lv_iload_n hx hb dX5_widestHinge_20 rfl (lv_at hl 3 rfl) ?_
        refine g_callVi (As := [.int (zI (x)), .int (zI (↑i))]) (rest := [.int (zI (y))]) ⟨hx, hb, hml, hown, hts⟩ (k_X5_width l D cI cZ ad az av hinj S hR n N t hT8 k x (by omega) hkN i ↑i (by omega) (by omega)) (cwV 2 hts (gV hsub q_381 q_382 q_383 q_5 q_384) rfl rfl rfl hdX5_width ⟨Nat.le_of_ble_eq_true rfl, Nat.le_of_ble_eq_true rfl⟩) (cEb D cI cZ ad az av) (cEk D cI cZ ad az av) hE (va_recv (ci := 5) (q0 := 5) hK hP rfl rfl) hP hS rfl hl.1 rfl (Nat.le_of_ble_eq_true rfl) dX5_widestHinge_21 ⟨Nat.le_of_ble_eq_true rfl, Nat.le_of_ble_eq_true rfl⟩ (fun r_3 S_4 H locs hq_5 hP hR hS _ => ?_)
        obtain ⟨hs9, rfl⟩ := hq_5
        obtain rfl := hs9.symm
        refine z_top (b := wdF n (S 7) (dgF n (t k)) i) rfl ?_
        have hwr := wdF_r n (S 7) (dgF n (t k)) i
        refine z_mmax hx hb (hml.trans hl.1.symm) hown (hT _ q_386) (hT _ q_258) (hT _ q_11) (hT _ q_mmax) (Nat.le_of_ble_eq_true rfl) (Nat.le_of_ble_eq_true rfl) (Nat.le_of_ble_eq_true rfl) (Nat.le_of_ble_eq_true rfl) (by omega) (by omega) (by omega) (by omega) dX5_widestHinge_24 ?_
        refine lv_istore_n (lv' := [(2, .int (zI (if (y : Int) < wdF n (S 7) (dgF n (t k)) i then wdF n (S 7) (dgF n (t k)) i else y))), (0, .ref (ad 45)), (1, .int (zI (x))), (3, .int (zI (↑i)))]) hx hb dX5_widestHinge_27 rfl hl (by decide) rfl (fun ls hl => ?_)
        refine z_iinc (lv' := [(3, .int (zI (↑i + 1))), (2, .int (zI (if (y : Int) < wdF n (S 7) (dgF n (t k)) i then wdF n (S 7) (dgF n (t k)) i else y))), (0, .ref (ad 45)), (1, .int (zI (x)))]) hx hb dX5_widestHinge_28 hl (k := 3) rfl (by decide) rfl (fun ls hl => ?_)
        refine lv_goto (tgt := 4) hx hb dX5_widestHinge_31 (by decide) ?_
        exact ih_4 (i + 1) (if (y : Int) < wdF n (S 7) (dgF n (t k)) i then wdF n (S 7) (dgF n (t k)) i else y) _ _ _ (by omega) (by split <;> omega) (by rw [mxF, ← hy]) (by omega) hP hR hS (lv_sub hl [2, 3, 1, 0] rfl)
  exact cut_4 _ 0 0 _ _ _ (by omega) (by omega) (rfl) (Nat.lt_succ_self _) hP hR hS (lv_sub hl [2, 3, 1, 0] rfl)
set_option maxHeartbeats 4000000 in
set_option maxRecDepth 100000 in
theorem k_X5_judgeAll (l : Launch) (D : va_G) (cI cZ : ClassId) (ad : Nat → Nat) (az av : Nat) (hinj : cInj ad) (S : St) (hR : RS S) (n N : Nat) (t : Nat → Int) (hT9 : cTab n N t S) : Met l yX5_judgeAll (Cond.code yX5_judgeAll cX5_judgeAll 2 none :: lwT) ({ frames := 6, cells := 0, slots := 0, locals := 132 }) (gPc D (cW cI cZ ad) (cE D cI cZ ad az av) S [.ref (ad 45)]) (va_Qv (fun (S' : St) => ∃ e21 e22 e23, S' = sA (sA (sA S 21 e21) 22 e22) 23 e23 ∧ e21 0 = cnt (fun k => pB (ftP n (S 7) t k)) N ∧ (∀ k, k < N → e22 k = b2 (pB (ftP n (S 7) t k)) ∧ e23 k = wmF n (S 7) (dgF n (t k)))) (gB D (cW cI cZ ad)) (cA ad)) 0 0 (cA ad) := by
  refine Met.ofW (cc := cX5_judgeAll) (maxL := 2) (ret := none) (by decide) rfl ?_
  intro p e s m args below meth c s₁ B hml hv
  obtain ⟨rfl, hP, hE⟩ := hv
  have hx := B.exec
  have hb := B.bytes
  have hr := B.returns
  have hts := atoms_spec (ws := Cond.code yX5_judgeAll cX5_judgeAll 2 none :: lwT) B.pre
  have hT := fun w (h : w ∈ lwT) => hts w (List.mem_cons_of_mem _ h)
  have hsub : ∀ w ∈ lwT, w ∈ (Cond.code yX5_judgeAll cX5_judgeAll 2 none :: lwT) := fun w h => List.mem_cons_of_mem _ h
  have hown : s.vm.findClass RX5 = some m.cls := findClass_of_methodNamed B.named
  have hlocks := B.notSynchronized
  have hK : va_K D vwCl [(cI, .int), (cZ, .boolean)] s := hE.1
  have hS : va_S (cA ad) s.heap s.heap [] := va_S.rf
  have hT8 := hT9
  obtain ⟨⟨hn, hN, hn7, hN4⟩, hn0, hO9, hso, htb⟩ := hT9
  have hl := lv_entry ([.ref (ad 45)]) (n := 2) (Nat.le_of_ble_eq_true rfl)
  rw [lg_entry_eq]
  generalize (lg_sl ([.ref (ad 45)]) ++ List.replicate (2 - (lg_sl ([.ref (ad 45)])).length) Slot.unset).toArray = ls at hl ⊢
  have hl : lv_has ls 2 [(0, .ref (ad 45))] := hl
  refine lv_aload_n hx hb dX5_judgeAll_0 rfl (lv_at hl 0 rfl) ?_
  refine z_iconst hx hb dX5_judgeAll_1 ?_
  refine va_put (D := D) (ci := 5) (v := .int (zI (0))) (ty := .int) (C := RX5) (T := TX5) (N := 5) hx hb hT inX5 tyX5 tyX5_ok nmX5 hown hK hP (cD hinj cI cZ _) hS 5 rfl rfl 0 (by decide) (hT _ q_112) (fun _ h9 => h9) rfl (by decide +kernel) rfl rfl (Nat.le_of_ble_eq_true rfl) dX5_judgeAll_2 (fun H locs hP _ hS => ?_)
  have hP : va_P D vwCl (cW cI cZ ad (sA S 21 (fun _ => 0))) H := hP
  have hR : RS (sA S 21 (fun _ => 0)) := hR.one (by omega) (by omega)
  refine z_iconst hx hb dX5_judgeAll_5 ?_
  refine lv_istore_n (lv' := [(1, .int (zI (0))), (0, .ref (ad 45))]) hx hb dX5_judgeAll_6 rfl hl (by decide) rfl (fun ls hl => ?_)
  have cut_7 : ∀ (k9 : Nat) (i : Nat) (fz : Int) (g22 : Nat → Int) (g23 : Nat → Int) (H : Heap) (locs : List Loc) (ls : Array Slot), (i ≤ N) → (fz = cnt (fun k => pB (ftP n (S 7) t k)) i) → (∀ k, k < i → g22 k = b2 (pB (ftP n (S 7) t k)) ∧ g23 k = wmF n (S 7) (dgF n (t k))) → (N - i) < k9 → va_P D vwCl (cW cI cZ ad (sA (sA (sA S 21 (fun _ => fz)) 22 g22) 23 g23)) H → RS (sA (sA (sA S 21 (fun _ => fz)) 22 g22) 23 g23) → va_S (cA ad) s.heap H locs → lv_has ls 2 [(0, .ref (ad 45)), (1, .int (zI (↑i)))] → W p l e (headSpec (Cond.code yX5_judgeAll cX5_judgeAll 2 none :: lwT) ({ frames := 6, cells := 0, slots := 0, locals := 132 })).room s m ([.ref (ad 45)] : List Value).toArray below meth c H locs 0 0 (MQ below (va_Qv (fun (S' : St) => ∃ e21 e22 e23, S' = sA (sA (sA S 21 e21) 22 e22) 23 e23 ∧ e21 0 = cnt (fun k => pB (ftP n (S 7) t k)) N ∧ (∀ k, k < N → e22 k = b2 (pB (ftP n (S 7) t k)) ∧ e23 k = wmF n (S 7) (dgF n (t k)))) (gB D (cW cI cZ ad)) (cA ad)) ([.ref (ad 45)] : List Value).toArray s 0 0 (cA ad)) (F0 m 7 ls []) := by
    intro k9
    induction k9 with
    | zero =>
      intro i fz g22 g23 H locs ls hi hfz hg hk9 hP hR hS hl
      exact absurd hk9 (Nat.not_lt_zero _)
    | succ k9 ih_7 =>
      intro i fz g22 g23 H locs ls hi hfz hg hk9 hP hR hS hl
      have hfr := cnt_r (fun k => pB (ftP n (S 7) t k)) i
      refine lv_iload_n hx hb dX5_judgeAll_7 rfl (lv_at hl 1 rfl) ?_
      refine lv_aload_n hx hb dX5_judgeAll_8 rfl (lv_at hl 0 rfl) ?_
      refine va_get (D := D) (ci := 5) (v := .ref (ad 42)) (C := RX5) (T := TX5) (N := 5) hx hb hT inX5 hown hK hP 5 rfl rfl 1 (by decide) (hT _ q_114) (fun _ h9 => h9) rfl dX5_judgeAll_9 ?_
      have g_1 : -2147483648 ≤ S 3 0 ∧ S 3 0 < 2147483648 := hR 3 0 (by decide)
      refine va_get (D := D) (ci := 0) (v := .int (zI (S 3 0))) (C := RX0) (T := TX0) (N := 5) hx hb hT inX0 hown hK hP 2 rfl rfl 1 (by decide) (hT _ q_53) (fun _ h9 => h9) rfl dX5_judgeAll_12 ?_
      refine z_icmp_ge (tgt := 65) hx hb (by omega) (by omega) (by omega) (by omega) dX5_judgeAll_15 (by decide) (fun c_2 => ?_) (fun c_2 => ?_)
      · have h9 : True := trivial
        exact g_vret (S1 := sA (sA (sA S 21 (fun _ => fz)) 22 g22) 23 g23) hx hb hr hlocks hP hR hS (⟨_, _, _, rfl, by rw [hfz, show i = N by omega], fun k hk => hg k (by omega)⟩) dX5_judgeAll_65
      · have h9 : True := trivial
        refine lv_aload_n hx hb dX5_judgeAll_18 rfl (lv_at hl 0 rfl) ?_
        refine va_get (D := D) (ci := 5) (v := .ref (ad 22)) (C := RX5) (T := TX5) (N := 5) hx hb hT inX5 hown hK hP 5 rfl rfl 3 (by decide) (hT _ q_116) (fun _ h9 => h9) rfl dX5_judgeAll_19 ?_
        refine lv_iload_n hx hb dX5_judgeAll_22 rfl (lv_at hl 1 rfl) ?_
        refine lv_aload_n hx hb dX5_judgeAll_23 rfl (lv_at hl 0 rfl) ?_
        refine lv_iload_n hx hb dX5_judgeAll_24 rfl (lv_at hl 1 rfl) ?_
        have hb7 := b2_r (pB (ftP n (S 7) t i))
        refine g_callVi (As := [.int (zI (↑i))]) (rest := [.int (zI (↑i)), .ref (ad 22)]) ⟨hx, hb, hml, hown, hts⟩ (k_X5_areAllContent l D cI cZ ad az av hinj (sA (sA (sA S 21 (fun _ => fz)) 22 g22) 23 g23) hR n N t hT8 i ↑i (by omega) (by omega)) (cwV 1 hts (gV hsub q_351 q_353 q_sX5_areAllContent q_5 q_354) rfl rfl rfl hdX5_areAllContent ⟨Nat.le_of_ble_eq_true rfl, Nat.le_of_ble_eq_true rfl⟩) (cEb D cI cZ ad az av) (cEk D cI cZ ad az av) hE (va_recv (ci := 5) (q0 := 5) hK hP rfl rfl) hP hS rfl hl.1 rfl (Nat.le_of_ble_eq_true rfl) dX5_judgeAll_25 ⟨Nat.le_of_ble_eq_true rfl, Nat.le_of_ble_eq_true rfl⟩ (fun r_3 S_4 H locs hq_5 hP hR hS _ => ?_)
        obtain ⟨hs9, rfl⟩ := hq_5
        obtain rfl := hs9.symm
        refine z_top (b := b2 (pB (ftP n (S 7) t i))) rfl ?_
        refine z_zast (f := (sA (sA (sA S 21 (fun _ => fz)) 22 g22) 23 g23) 22) (i := ↑i) (v := b2 (pB (ftP n (S 7) t i))) hx hb hK hP (cD hinj cI cZ _) hS 20 1 rfl rfl ((by have := b2_r (pB (ftP n (S 7) t i)); omega)) (by omega) (by omega) (by decide) dX5_judgeAll_28 (fun H locs hP hS => ?_)
        have hP : va_P D vwCl (cW cI cZ ad (sA (sA (sA (sA S 21 (fun _ => fz)) 22 g22) 23 g23) 22 (uZ g22 i (b2 (pB (ftP n (S 7) t i)))))) H := hP
        have hR : RS (sA (sA (sA (sA S 21 (fun _ => fz)) 22 g22) 23 g23) 22 (uZ g22 i (b2 (pB (ftP n (S 7) t i))))) := hR.put (by omega) (by omega)
        refine lv_aload_n hx hb dX5_judgeAll_29 rfl (lv_at hl 0 rfl) ?_
        refine va_get (D := D) (ci := 5) (v := .ref (ad 23)) (C := RX5) (T := TX5) (N := 5) hx hb hT inX5 hown hK hP 5 rfl rfl 4 (by decide) (hT _ q_117) (fun _ h9 => h9) rfl dX5_judgeAll_30 ?_
        refine lv_iload_n hx hb dX5_judgeAll_33 rfl (lv_at hl 1 rfl) ?_
        refine lv_aload_n hx hb dX5_judgeAll_34 rfl (lv_at hl 0 rfl) ?_
        refine lv_iload_n hx hb dX5_judgeAll_35 rfl (lv_at hl 1 rfl) ?_
        refine g_callVi (As := [.int (zI (↑i))]) (rest := [.int (zI (↑i)), .ref (ad 23)]) ⟨hx, hb, hml, hown, hts⟩ (k_X5_widestHinge l D cI cZ ad az av hinj (sA (sA (sA (sA S 21 (fun _ => fz)) 22 g22) 23 g23) 22 (uZ g22 i (b2 (pB (ftP n (S 7) t i))))) hR n N t hT8 i ↑i (by omega) (by omega)) (cwV 1 hts (gV hsub q_377 q_379 q_sX5_widestHinge q_5 q_380) rfl rfl rfl hdX5_widestHinge ⟨Nat.le_of_ble_eq_true rfl, Nat.le_of_ble_eq_true rfl⟩) (cEb D cI cZ ad az av) (cEk D cI cZ ad az av) hE (va_recv (ci := 5) (q0 := 5) hK hP rfl rfl) hP hS rfl hl.1 rfl (Nat.le_of_ble_eq_true rfl) dX5_judgeAll_36 ⟨Nat.le_of_ble_eq_true rfl, Nat.le_of_ble_eq_true rfl⟩ (fun r_6 S_7 H locs hq_8 hP hR hS _ => ?_)
        obtain ⟨hs9, rfl⟩ := hq_8
        obtain rfl := hs9.symm
        refine z_top (b := wmF n (S 7) (dgF n (t i))) rfl ?_
        have hwr := wmF_r n (S 7) (dgF n (t i))
        refine z_ast (f := (sA (sA (sA (sA S 21 (fun _ => fz)) 22 g22) 23 g23) 22 (uZ g22 i (b2 (pB (ftP n (S 7) t i))))) 23) (i := ↑i) (v := wmF n (S 7) (dgF n (t i))) hx hb hK hP (cD hinj cI cZ _) hS 21 0 rfl rfl (by omega) (by omega) (by decide) dX5_judgeAll_39 (fun H locs hP hS => ?_)
        have hP : va_P D vwCl (cW cI cZ ad (sA (sA (sA (sA (sA S 21 (fun _ => fz)) 22 g22) 23 g23) 22 (uZ g22 i (b2 (pB (ftP n (S 7) t i))))) 23 (uZ g23 i (wmF n (S 7) (dgF n (t i)))))) H := hP
        have hR : RS (sA (sA (sA (sA (sA S 21 (fun _ => fz)) 22 g22) 23 g23) 22 (uZ g22 i (b2 (pB (ftP n (S 7) t i))))) 23 (uZ g23 i (wmF n (S 7) (dgF n (t i))))) := hR.put (by omega) (by omega)
        have cut_59 : ∀ (fz2 : Int) (H : Heap) (locs : List Loc) (ls : Array Slot), (fz2 = cnt (fun k => pB (ftP n (S 7) t k)) (i + 1)) → va_P D vwCl (cW cI cZ ad (sA (sA (sA S 21 (fun _ => fz2)) 22 (uZ g22 i (b2 (pB (ftP n (S 7) t i))))) 23 (uZ g23 i (wmF n (S 7) (dgF n (t i)))))) H → RS (sA (sA (sA S 21 (fun _ => fz2)) 22 (uZ g22 i (b2 (pB (ftP n (S 7) t i))))) 23 (uZ g23 i (wmF n (S 7) (dgF n (t i))))) → va_S (cA ad) s.heap H locs → lv_has ls 2 [(0, .ref (ad 45)), (1, .int (zI (↑i)))] → W p l e (headSpec (Cond.code yX5_judgeAll cX5_judgeAll 2 none :: lwT) ({ frames := 6, cells := 0, slots := 0, locals := 132 })).room s m ([.ref (ad 45)] : List Value).toArray below meth c H locs 0 0 (MQ below (va_Qv (fun (S' : St) => ∃ e21 e22 e23, S' = sA (sA (sA S 21 e21) 22 e22) 23 e23 ∧ e21 0 = cnt (fun k => pB (ftP n (S 7) t k)) N ∧ (∀ k, k < N → e22 k = b2 (pB (ftP n (S 7) t k)) ∧ e23 k = wmF n (S 7) (dgF n (t k)))) (gB D (cW cI cZ ad)) (cA ad)) ([.ref (ad 45)] : List Value).toArray s 0 0 (cA ad)) (F0 m 59 ls []) := by
          intro fz2 H locs ls hfz2 hP hR hS hl
          refine z_iinc (lv' := [(1, .int (zI (↑i + 1))), (0, .ref (ad 45))]) hx hb dX5_judgeAll_59 hl (k := 1) rfl (by decide) rfl (fun ls hl => ?_)
          refine lv_goto (tgt := 7) hx hb dX5_judgeAll_62 (by decide) ?_
          exact ih_7 (i + 1) fz2 (uZ g22 i (b2 (pB (ftP n (S 7) t i)))) (uZ g23 i (wmF n (S 7) (dgF n (t i)))) _ _ _ (by omega) (hfz2) (fun a ha => by unfold uZ; split <;> first | (rename_i e9; rw [e9]; exact ⟨rfl, rfl⟩) | exact hg a (by omega)) (by omega) hP hR hS (lv_sub hl [1, 0] rfl)
        refine lv_aload_n hx hb dX5_judgeAll_40 rfl (lv_at hl 0 rfl) ?_
        refine va_get (D := D) (ci := 5) (v := .ref (ad 22)) (C := RX5) (T := TX5) (N := 5) hx hb hT inX5 hown hK hP 5 rfl rfl 3 (by decide) (hT _ q_116) (fun _ h9 => h9) rfl dX5_judgeAll_41 ?_
        refine lv_iload_n hx hb dX5_judgeAll_44 rfl (lv_at hl 1 rfl) ?_
        have g_9 : -2147483648 ≤ (uZ g22 i (b2 (pB (ftP n (S 7) t i)))) i ∧ (uZ g22 i (b2 (pB (ftP n (S 7) t i)))) i < 2147483648 := hR 22 i (by decide)
        refine z_zald (f := uZ g22 i (b2 (pB (ftP n (S 7) t i)))) hx hb hK hP 20 1 rfl rfl (by omega) (by omega) (by decide) (j := i) rfl dX5_judgeAll_45 ?_
        refine z_top (b := b2 (pB (ftP n (S 7) t i))) (uZ_s _ _ _) ?_
        refine z_if_eq (tgt := 59) hx hb (by omega) (by omega) dX5_judgeAll_46 (by decide) (fun c_10 => ?_) (fun c_10 => ?_)
        · have h9 : True := trivial
          have hSe_11 : sA (sA (sA (sA (sA S 21 (fun _ => fz)) 22 g22) 23 g23) 22 (uZ g22 i (b2 (pB (ftP n (S 7) t i))))) 23 (uZ g23 i (wmF n (S 7) (dgF n (t i)))) = sA (sA (sA S 21 (fun _ => fz)) 22 (uZ g22 i (b2 (pB (ftP n (S 7) t i))))) 23 (uZ g23 i (wmF n (S 7) (dgF n (t i)))) := by
            funext k8
            by_cases e80 : k8 = 21
            · subst e80; funext j8; first | rfl | exact hsc_21 j8
            by_cases e81 : k8 = 22
            · subst e81; first | rfl | (funext j8; rfl)
            by_cases e82 : k8 = 23
            · subst e82; first | rfl | (funext j8; rfl)
            simp [sA, e80, e81, e82]
          rw [hSe_11] at hP hR
          exact cut_59 fz _ _ _ ((Int.add_zero fz).symm.trans (cnt_f (P := (fun k => pB (ftP n (S 7) t k))) (b2_0 c_10) hfz)) hP hR hS (lv_sub hl [0, 1] rfl)
        · have h9 : True := trivial
          refine lv_aload_n hx hb dX5_judgeAll_49 rfl (lv_at hl 0 rfl) ?_
          refine lv_dup hx hb dX5_judgeAll_50 rfl ?_
          refine va_get (D := D) (ci := 5) (v := .int (zI (fz))) (C := RX5) (T := TX5) (N := 5) hx hb hT inX5 hown hK hP 5 rfl rfl 0 (by decide) (hT _ q_112) (fun _ h9 => h9) rfl dX5_judgeAll_51 ?_
          refine z_iconst hx hb dX5_judgeAll_54 ?_
          refine z_iadd hx hb dX5_judgeAll_55 ?_
          refine va_put (D := D) (ci := 5) (v := .int (zI (fz + 1))) (ty := .int) (C := RX5) (T := TX5) (N := 5) hx hb hT inX5 tyX5 tyX5_ok nmX5 hown hK hP (cD hinj cI cZ _) hS 5 rfl rfl 0 (by decide) (hT _ q_112) (fun _ h9 => h9) rfl (by decide +kernel) rfl rfl (Nat.le_of_ble_eq_true rfl) dX5_judgeAll_56 (fun H locs hP _ hS => ?_)
          have hP : va_P D vwCl (cW cI cZ ad (sA (sA (sA (sA (sA (sA S 21 (fun _ => fz)) 22 g22) 23 g23) 22 (uZ g22 i (b2 (pB (ftP n (S 7) t i))))) 23 (uZ g23 i (wmF n (S 7) (dgF n (t i))))) 21 (fun _ => fz + 1))) H := hP
          have hR : RS (sA (sA (sA (sA (sA (sA S 21 (fun _ => fz)) 22 g22) 23 g23) 22 (uZ g22 i (b2 (pB (ftP n (S 7) t i))))) 23 (uZ g23 i (wmF n (S 7) (dgF n (t i))))) 21 (fun _ => fz + 1)) := hR.one (by omega) (by omega)
          have hSe_12 : sA (sA (sA (sA (sA (sA S 21 (fun _ => fz)) 22 g22) 23 g23) 22 (uZ g22 i (b2 (pB (ftP n (S 7) t i))))) 23 (uZ g23 i (wmF n (S 7) (dgF n (t i))))) 21 (fun _ => fz + 1) = sA (sA (sA S 21 (fun _ => fz + 1)) 22 (uZ g22 i (b2 (pB (ftP n (S 7) t i))))) 23 (uZ g23 i (wmF n (S 7) (dgF n (t i)))) := by
            funext k8
            by_cases e80 : k8 = 21
            · subst e80; funext j8; first | rfl | exact hsc_21 j8
            by_cases e81 : k8 = 22
            · subst e81; first | rfl | (funext j8; rfl)
            by_cases e82 : k8 = 23
            · subst e82; first | rfl | (funext j8; rfl)
            simp [sA, e80, e81, e82]
          rw [hSe_12] at hP hR
          exact cut_59 (fz + 1) _ _ _ (cnt_t (P := (fun k => pB (ftP n (S 7) t k))) (b2_1 c_10) hfz) hP hR hS (lv_sub hl [0, 1] rfl)
  have hSe_13 : sA S 21 (fun _ => 0) = sA (sA (sA S 21 (fun _ => 0)) 22 (S 22)) 23 (S 23) := by
    funext k8
    by_cases e80 : k8 = 21
    · subst e80; funext j8; first | rfl | exact hsc_21 j8
    by_cases e81 : k8 = 22
    · subst e81; first | rfl | (funext j8; rfl)
    by_cases e82 : k8 = 23
    · subst e82; first | rfl | (funext j8; rfl)
    simp [sA, e80, e81, e82]
  rw [hSe_13] at hP hR
  exact cut_7 _ 0 0 (S 22) (S 23) _ _ _ (by omega) (rfl) (fun j h => absurd h (Nat.not_lt_zero j)) (Nat.lt_succ_self _) hP hR hS (lv_sub hl [1, 0] rfl)
set_option maxHeartbeats 4000000 in
set_option maxRecDepth 100000 in
theorem k_X5_isFit (l : Launch) (D : va_G) (cI cZ : ClassId) (ad : Nat → Nat) (az av : Nat) (hinj : cInj ad) (S : St) (hR : RS S) (n N : Nat) (t : Nat → Int) (hT9 : cTab n N t S) (hV : cVer n N t S) (x : Int) (hx1 : -2147483648 ≤ x) (hx2 : x < 2147483648) : Met l yX5_isFit (Cond.code yX5_isFit cX5_isFit 2 (some .boolean) :: lwT) ({ frames := 0, cells := 0, slots := 0, locals := 0 }) (gPc D (cW cI cZ ad) (cE D cI cZ ad az av) S [.ref (ad 45), .int (zI (x))]) (va_Qi (fun (r : Int32) (S' : St) => S' = S ∧ r = zI (b2 (pB ((0 ≤ x ∧ x < N) ∧ ftP n (S 7) t x.toNat)))) (gB D (cW cI cZ ad)) (cA ad)) 0 0 (cA ad) := by
  refine Met.ofW (cc := cX5_isFit) (maxL := 2) (ret := (some .boolean)) (by decide) rfl ?_
  intro p e s m args below meth c s₁ B hml hv
  obtain ⟨rfl, hP, hE⟩ := hv
  have hx := B.exec
  have hb := B.bytes
  have hr := B.returns
  have hts := atoms_spec (ws := Cond.code yX5_isFit cX5_isFit 2 (some .boolean) :: lwT) B.pre
  have hT := fun w (h : w ∈ lwT) => hts w (List.mem_cons_of_mem _ h)
  have hsub : ∀ w ∈ lwT, w ∈ (Cond.code yX5_isFit cX5_isFit 2 (some .boolean) :: lwT) := fun w h => List.mem_cons_of_mem _ h
  have hown : s.vm.findClass RX5 = some m.cls := findClass_of_methodNamed B.named
  have hlocks := B.notSynchronized
  have hK : va_K D vwCl [(cI, .int), (cZ, .boolean)] s := hE.1
  have hS : va_S (cA ad) s.heap s.heap [] := va_S.rf
  obtain ⟨⟨hn, hN, hn7, hN4⟩, hn0, hO9, hso, htb⟩ := hT9
  have hl := lv_entry ([.ref (ad 45), .int (zI (x))]) (n := 2) (Nat.le_of_ble_eq_true rfl)
  rw [lg_entry_eq]
  generalize (lg_sl ([.ref (ad 45), .int (zI (x))]) ++ List.replicate (2 - (lg_sl ([.ref (ad 45), .int (zI (x))])).length) Slot.unset).toArray = ls at hl ⊢
  have hl : lv_has ls 2 [(0, .ref (ad 45)), (1, .int (zI (x)))] := hl
  refine lv_iload_n hx hb dX5_isFit_0 rfl (lv_at hl 1 rfl) ?_
  refine z_if_lt (tgt := 28) hx hb (by omega) (by omega) dX5_isFit_1 (by decide) (fun c_1 => ?_) (fun c_1 => ?_)
  · have h9 : True := trivial
    refine z_iconst hx hb dX5_isFit_28 ?_
    exact g_zret (S1 := S) (bo := false) hx hb hr hlocks hP hR hS (⟨rfl, pF (fun h => by have := h.1; omega)⟩) dX5_isFit_29
  · have h9 : True := trivial
    refine lv_iload_n hx hb dX5_isFit_4 rfl (lv_at hl 1 rfl) ?_
    refine lv_aload_n hx hb dX5_isFit_5 rfl (lv_at hl 0 rfl) ?_
    refine va_get (D := D) (ci := 5) (v := .ref (ad 42)) (C := RX5) (T := TX5) (N := 5) hx hb hT inX5 hown hK hP 5 rfl rfl 1 (by decide) (hT _ q_114) (fun _ h9 => h9) rfl dX5_isFit_6 ?_
    have g_2 : -2147483648 ≤ S 3 0 ∧ S 3 0 < 2147483648 := hR 3 0 (by decide)
    refine va_get (D := D) (ci := 0) (v := .int (zI (S 3 0))) (C := RX0) (T := TX0) (N := 5) hx hb hT inX0 hown hK hP 2 rfl rfl 1 (by decide) (hT _ q_53) (fun _ h9 => h9) rfl dX5_isFit_9 ?_
    refine z_icmp_ge (tgt := 28) hx hb (by omega) (by omega) (by omega) (by omega) dX5_isFit_12 (by decide) (fun c_3 => ?_) (fun c_3 => ?_)
    · have h9 : True := trivial
      refine z_iconst hx hb dX5_isFit_28 ?_
      exact g_zret (S1 := S) (bo := false) hx hb hr hlocks hP hR hS (⟨rfl, pF (fun h => by have := h.1; omega)⟩) dX5_isFit_29
    · have h9 : True := trivial
      refine lv_aload_n hx hb dX5_isFit_15 rfl (lv_at hl 0 rfl) ?_
      refine va_get (D := D) (ci := 5) (v := .ref (ad 22)) (C := RX5) (T := TX5) (N := 5) hx hb hT inX5 hown hK hP 5 rfl rfl 3 (by decide) (hT _ q_116) (fun _ h9 => h9) rfl dX5_isFit_16 ?_
      have hvk := (hV.2 x.toNat (by omega)).1
      refine lv_iload_n hx hb dX5_isFit_19 rfl (lv_at hl 1 rfl) ?_
      have g_4 : -2147483648 ≤ S 22 (x).toNat ∧ S 22 (x).toNat < 2147483648 := hR 22 ((x).toNat) (by decide)
      refine z_zald (f := S 22) hx hb hK hP 20 1 rfl rfl (by omega) (by omega) (by decide) (j := (x).toNat) rfl dX5_isFit_20 ?_
      have hb7 := b2_r (pB (ftP n (S 7) t x.toNat))
      refine z_top (b := b2 (pB (ftP n (S 7) t x.toNat))) (hvk) ?_
      refine z_if_eq (tgt := 28) hx hb (by omega) (by omega) dX5_isFit_21 (by decide) (fun c_5 => ?_) (fun c_5 => ?_)
      · have h9 : True := trivial
        refine z_iconst hx hb dX5_isFit_28 ?_
        exact g_zret (S1 := S) (bo := false) hx hb hr hlocks hP hR hS (⟨rfl, pF (fun h => pB_f.mp (b2_0 c_5) h.2)⟩) dX5_isFit_29
      · have h9 : True := trivial
        refine z_iconst hx hb dX5_isFit_24 ?_
        refine lv_goto (tgt := 29) hx hb dX5_isFit_25 (by decide) ?_
        exact g_zret (S1 := S) (bo := true) hx hb hr hlocks hP hR hS (⟨rfl, pT ⟨by omega, pB_t.mp (b2_1 c_5)⟩⟩) dX5_isFit_29
set_option maxHeartbeats 4000000 in
set_option maxRecDepth 100000 in
theorem k_X5_widestOf (l : Launch) (D : va_G) (cI cZ : ClassId) (ad : Nat → Nat) (az av : Nat) (hinj : cInj ad) (S : St) (hR : RS S) (n N : Nat) (t : Nat → Int) (hT9 : cTab n N t S) (hV : cVer n N t S) (x : Int) (hx1 : -2147483648 ≤ x) (hx2 : x < 2147483648) : Met l yX5_widestOf (Cond.code yX5_widestOf cX5_widestOf 2 (some .int) :: lwT) ({ frames := 0, cells := 0, slots := 0, locals := 0 }) (gPc D (cW cI cZ ad) (cE D cI cZ ad az av) S [.ref (ad 45), .int (zI (x))]) (va_Qi (fun (r : Int32) (S' : St) => S' = S ∧ r = zI (if 0 ≤ x ∧ x < N then wmF n (S 7) (dgF n (t x.toNat)) else 0)) (gB D (cW cI cZ ad)) (cA ad)) 0 0 (cA ad) := by
  refine Met.ofW (cc := cX5_widestOf) (maxL := 2) (ret := (some .int)) (by decide) rfl ?_
  intro p e s m args below meth c s₁ B hml hv
  obtain ⟨rfl, hP, hE⟩ := hv
  have hx := B.exec
  have hb := B.bytes
  have hr := B.returns
  have hts := atoms_spec (ws := Cond.code yX5_widestOf cX5_widestOf 2 (some .int) :: lwT) B.pre
  have hT := fun w (h : w ∈ lwT) => hts w (List.mem_cons_of_mem _ h)
  have hsub : ∀ w ∈ lwT, w ∈ (Cond.code yX5_widestOf cX5_widestOf 2 (some .int) :: lwT) := fun w h => List.mem_cons_of_mem _ h
  have hown : s.vm.findClass RX5 = some m.cls := findClass_of_methodNamed B.named
  have hlocks := B.notSynchronized
  have hK : va_K D vwCl [(cI, .int), (cZ, .boolean)] s := hE.1
  have hS : va_S (cA ad) s.heap s.heap [] := va_S.rf
  obtain ⟨⟨hn, hN, hn7, hN4⟩, hn0, hO9, hso, htb⟩ := hT9
  have hl := lv_entry ([.ref (ad 45), .int (zI (x))]) (n := 2) (Nat.le_of_ble_eq_true rfl)
  rw [lg_entry_eq]
  generalize (lg_sl ([.ref (ad 45), .int (zI (x))]) ++ List.replicate (2 - (lg_sl ([.ref (ad 45), .int (zI (x))])).length) Slot.unset).toArray = ls at hl ⊢
  have hl : lv_has ls 2 [(0, .ref (ad 45)), (1, .int (zI (x)))] := hl
  refine lv_iload_n hx hb dX5_widestOf_0 rfl (lv_at hl 1 rfl) ?_
  refine z_if_lt (tgt := 24) hx hb (by omega) (by omega) dX5_widestOf_1 (by decide) (fun c_1 => ?_) (fun c_1 => ?_)
  · have h9 : True := trivial
    refine z_iconst hx hb dX5_widestOf_24 ?_
    exact g_iret (S1 := S) (v := zI (0)) hx hb hr hlocks hP hR hS (⟨rfl, by rw [if_neg (by omega)]⟩) dX5_widestOf_25
  · have h9 : True := trivial
    refine lv_iload_n hx hb dX5_widestOf_4 rfl (lv_at hl 1 rfl) ?_
    refine lv_aload_n hx hb dX5_widestOf_5 rfl (lv_at hl 0 rfl) ?_
    refine va_get (D := D) (ci := 5) (v := .ref (ad 42)) (C := RX5) (T := TX5) (N := 5) hx hb hT inX5 hown hK hP 5 rfl rfl 1 (by decide) (hT _ q_114) (fun _ h9 => h9) rfl dX5_widestOf_6 ?_
    have g_2 : -2147483648 ≤ S 3 0 ∧ S 3 0 < 2147483648 := hR 3 0 (by decide)
    refine va_get (D := D) (ci := 0) (v := .int (zI (S 3 0))) (C := RX0) (T := TX0) (N := 5) hx hb hT inX0 hown hK hP 2 rfl rfl 1 (by decide) (hT _ q_53) (fun _ h9 => h9) rfl dX5_widestOf_9 ?_
    refine z_icmp_ge (tgt := 24) hx hb (by omega) (by omega) (by omega) (by omega) dX5_widestOf_12 (by decide) (fun c_3 => ?_) (fun c_3 => ?_)
    · have h9 : True := trivial
      refine z_iconst hx hb dX5_widestOf_24 ?_
      exact g_iret (S1 := S) (v := zI (0)) hx hb hr hlocks hP hR hS (⟨rfl, by rw [if_neg (by omega)]⟩) dX5_widestOf_25
    · have h9 : True := trivial
      refine lv_aload_n hx hb dX5_widestOf_15 rfl (lv_at hl 0 rfl) ?_
      refine va_get (D := D) (ci := 5) (v := .ref (ad 23)) (C := RX5) (T := TX5) (N := 5) hx hb hT inX5 hown hK hP 5 rfl rfl 4 (by decide) (hT _ q_117) (fun _ h9 => h9) rfl dX5_widestOf_16 ?_
      refine lv_iload_n hx hb dX5_widestOf_19 rfl (lv_at hl 1 rfl) ?_
      have g_4 : -2147483648 ≤ S 23 (x).toNat ∧ S 23 (x).toNat < 2147483648 := hR 23 ((x).toNat) (by decide)
      refine z_ald (f := S 23) hx hb hK hP 21 0 rfl rfl (by omega) (by omega) (by decide) (j := (x).toNat) rfl dX5_widestOf_20 ?_
      refine z_top (b := wmF n (S 7) (dgF n (t x.toNat))) ((hV.2 x.toNat (by omega)).2) ?_
      refine lv_goto (tgt := 25) hx hb dX5_widestOf_21 (by decide) ?_
      exact g_iret (S1 := S) (v := zI (wmF n (S 7) (dgF n (t x.toNat)))) hx hb hr hlocks hP hR hS (⟨rfl, by rw [if_pos (by omega)]⟩) dX5_widestOf_25
set_option maxHeartbeats 4000000 in
set_option maxRecDepth 100000 in
theorem k_X5_trimmest (l : Launch) (D : va_G) (cI cZ : ClassId) (ad : Nat → Nat) (az av : Nat) (hinj : cInj ad) (S : St) (hR : RS S) (n N : Nat) (t : Nat → Int) (hT9 : cTab n N t S) (hV : cVer n N t S) : Met l yX5_trimmest (Cond.code yX5_trimmest cX5_trimmest 3 (some .int) :: lwT) ({ frames := 0, cells := 0, slots := 0, locals := 0 }) (gPc D (cW cI cZ ad) (cE D cI cZ ad az av) S [.ref (ad 45)]) (va_Qi (fun (r : Int32) (S' : St) => ∃ x : Int, S' = S ∧ argm (ftP n (S 7) t) (fun k => wmF n (S 7) (dgF n (t k))) N x ∧ r = zI x) (gB D (cW cI cZ ad)) (cA ad)) 0 0 (cA ad) := by
  refine Met.ofW (cc := cX5_trimmest) (maxL := 3) (ret := (some .int)) (by decide) rfl ?_
  intro p e s m args below meth c s₁ B hml hv
  obtain ⟨rfl, hP, hE⟩ := hv
  have hx := B.exec
  have hb := B.bytes
  have hr := B.returns
  have hts := atoms_spec (ws := Cond.code yX5_trimmest cX5_trimmest 3 (some .int) :: lwT) B.pre
  have hT := fun w (h : w ∈ lwT) => hts w (List.mem_cons_of_mem _ h)
  have hsub : ∀ w ∈ lwT, w ∈ (Cond.code yX5_trimmest cX5_trimmest 3 (some .int) :: lwT) := fun w h => List.mem_cons_of_mem _ h
  have hown : s.vm.findClass RX5 = some m.cls := findClass_of_methodNamed B.named
  have hlocks := B.notSynchronized
  have hK : va_K D vwCl [(cI, .int), (cZ, .boolean)] s := hE.1
  have hS : va_S (cA ad) s.heap s.heap [] := va_S.rf
  obtain ⟨⟨hn, hN, hn7, hN4⟩, hn0, hO9, hso, htb⟩ := hT9
  have hl := lv_entry ([.ref (ad 45)]) (n := 3) (Nat.le_of_ble_eq_true rfl)
  rw [lg_entry_eq]
  generalize (lg_sl ([.ref (ad 45)]) ++ List.replicate (3 - (lg_sl ([.ref (ad 45)])).length) Slot.unset).toArray = ls at hl ⊢
  have hl : lv_has ls 3 [(0, .ref (ad 45))] := hl
  refine z_iconst hx hb dX5_trimmest_0 ?_
  refine lv_istore_n (lv' := [(1, .int (zI (-1))), (0, .ref (ad 45))]) hx hb dX5_trimmest_1 rfl hl (by decide) rfl (fun ls hl => ?_)
  refine z_iconst hx hb dX5_trimmest_2 ?_
  refine lv_istore_n (lv' := [(2, .int (zI (0))), (1, .int (zI (-1))), (0, .ref (ad 45))]) hx hb dX5_trimmest_3 rfl hl (by decide) rfl (fun ls hl => ?_)
  have cut_4 : ∀ (k9 : Nat) (i : Nat) (x : Int) (H : Heap) (locs : List Loc) (ls : Array Slot), (i ≤ N) → (argm (ftP n (S 7) t) (fun k => wmF n (S 7) (dgF n (t k))) i x) → (N - i) < k9 → va_P D vwCl (cW cI cZ ad S) H → RS S → va_S (cA ad) s.heap H locs → lv_has ls 3 [(0, .ref (ad 45)), (1, .int (zI (x))), (2, .int (zI (↑i)))] → W p l e (headSpec (Cond.code yX5_trimmest cX5_trimmest 3 (some .int) :: lwT) ({ frames := 0, cells := 0, slots := 0, locals := 0 })).room s m ([.ref (ad 45)] : List Value).toArray below meth c H locs 0 0 (MQ below (va_Qi (fun (r : Int32) (S' : St) => ∃ x : Int, S' = S ∧ argm (ftP n (S 7) t) (fun k => wmF n (S 7) (dgF n (t k))) N x ∧ r = zI x) (gB D (cW cI cZ ad)) (cA ad)) ([.ref (ad 45)] : List Value).toArray s 0 0 (cA ad)) (F0 m 4 ls []) := by
    intro k9
    induction k9 with
    | zero =>
      intro i x H locs ls hi hm hk9 hP hR hS hl
      exact absurd hk9 (Nat.not_lt_zero _)
    | succ k9 ih_4 =>
      intro i x H locs ls hi hm hk9 hP hR hS hl
      have hxr := argm_r hm
      refine lv_iload_n hx hb dX5_trimmest_4 rfl (lv_at hl 2 rfl) ?_
      refine lv_aload_n hx hb dX5_trimmest_5 rfl (lv_at hl 0 rfl) ?_
      refine va_get (D := D) (ci := 5) (v := .ref (ad 42)) (C := RX5) (T := TX5) (N := 5) hx hb hT inX5 hown hK hP 5 rfl rfl 1 (by decide) (hT _ q_114) (fun _ h9 => h9) rfl dX5_trimmest_6 ?_
      have g_1 : -2147483648 ≤ S 3 0 ∧ S 3 0 < 2147483648 := hR 3 0 (by decide)
      refine va_get (D := D) (ci := 0) (v := .int (zI (S 3 0))) (C := RX0) (T := TX0) (N := 5) hx hb hT inX0 hown hK hP 2 rfl rfl 1 (by decide) (hT _ q_53) (fun _ h9 => h9) rfl dX5_trimmest_9 ?_
      refine z_icmp_ge (tgt := 52) hx hb (by omega) (by omega) (by omega) (by omega) dX5_trimmest_12 (by decide) (fun c_2 => ?_) (fun c_2 => ?_)
      · have h9 : True := trivial
        refine lv_iload_n hx hb dX5_trimmest_52 rfl (lv_at hl 1 rfl) ?_
        exact g_iret (S1 := S) (v := zI (x)) hx hb hr hlocks hP hR hS (⟨x, rfl, (show i = N by omega) ▸ hm, rfl⟩) dX5_trimmest_53
      · have h9 : True := trivial
        refine lv_aload_n hx hb dX5_trimmest_15 rfl (lv_at hl 0 rfl) ?_
        refine va_get (D := D) (ci := 5) (v := .ref (ad 22)) (C := RX5) (T := TX5) (N := 5) hx hb hT inX5 hown hK hP 5 rfl rfl 3 (by decide) (hT _ q_116) (fun _ h9 => h9) rfl dX5_trimmest_16 ?_
        refine lv_iload_n hx hb dX5_trimmest_19 rfl (lv_at hl 2 rfl) ?_
        have g_3 : -2147483648 ≤ S 22 i ∧ S 22 i < 2147483648 := hR 22 i (by decide)
        refine z_zald (f := S 22) hx hb hK hP 20 1 rfl rfl (by omega) (by omega) (by decide) (j := i) rfl dX5_trimmest_20 ?_
        have hb7 := b2_r (pB (ftP n (S 7) t i))
        refine z_top (b := b2 (pB (ftP n (S 7) t i))) ((hV.2 i (by omega)).1) ?_
        refine z_if_eq (tgt := 46) hx hb (by omega) (by omega) dX5_trimmest_21 (by decide) (fun c_4 => ?_) (fun c_4 => ?_)
        · have h9 : True := trivial
          refine z_iinc (lv' := [(2, .int (zI (↑i + 1))), (0, .ref (ad 45)), (1, .int (zI (x)))]) hx hb dX5_trimmest_46 hl (k := 2) rfl (by decide) rfl (fun ls hl => ?_)
          refine lv_goto (tgt := 4) hx hb dX5_trimmest_49 (by decide) ?_
          exact ih_4 (i + 1) x _ _ _ (by omega) (argm_s hm (pB_f.mp (b2_0 c_4))) (by omega) hP hR hS (lv_sub hl [1, 2, 0] rfl)
        · have h9 : True := trivial
          refine lv_iload_n hx hb dX5_trimmest_24 rfl (lv_at hl 1 rfl) ?_
          refine z_iconst hx hb dX5_trimmest_25 ?_
          refine z_icmp_eq (tgt := 44) hx hb (by omega) (by omega) (by omega) (by omega) dX5_trimmest_26 (by decide) (fun c_5 => ?_) (fun c_5 => ?_)
          · have h9 : True := trivial
            refine lv_iload_n hx hb dX5_trimmest_44 rfl (lv_at hl 2 rfl) ?_
            refine lv_istore_n (lv' := [(1, .int (zI (↑i))), (0, .ref (ad 45)), (2, .int (zI (↑i)))]) hx hb dX5_trimmest_45 rfl hl (by decide) rfl (fun ls hl => ?_)
            refine z_iinc (lv' := [(2, .int (zI (↑i + 1))), (1, .int (zI (↑i))), (0, .ref (ad 45))]) hx hb dX5_trimmest_46 hl (k := 2) rfl (by decide) rfl (fun ls hl => ?_)
            refine lv_goto (tgt := 4) hx hb dX5_trimmest_49 (by decide) ?_
            exact ih_4 (i + 1) ↑i _ _ _ (by omega) (argm_n hm (pB_t.mp (b2_1 c_4)) (fun b e => by omega)) (by omega) hP hR hS (lv_sub hl [2, 1, 0] rfl)
          · have h9 : True := trivial
            refine lv_aload_n hx hb dX5_trimmest_29 rfl (lv_at hl 0 rfl) ?_
            refine va_get (D := D) (ci := 5) (v := .ref (ad 23)) (C := RX5) (T := TX5) (N := 5) hx hb hT inX5 hown hK hP 5 rfl rfl 4 (by decide) (hT _ q_117) (fun _ h9 => h9) rfl dX5_trimmest_30 ?_
            refine lv_iload_n hx hb dX5_trimmest_33 rfl (lv_at hl 2 rfl) ?_
            have g_6 : -2147483648 ≤ S 23 i ∧ S 23 i < 2147483648 := hR 23 i (by decide)
            refine z_ald (f := S 23) hx hb hK hP 21 0 rfl rfl (by omega) (by omega) (by decide) (j := i) rfl dX5_trimmest_34 ?_
            have hw7 := wmF_r n (S 7) (dgF n (t i))
            refine z_top (b := wmF n (S 7) (dgF n (t i))) ((hV.2 i (by omega)).2) ?_
            refine lv_aload_n hx hb dX5_trimmest_35 rfl (lv_at hl 0 rfl) ?_
            refine va_get (D := D) (ci := 5) (v := .ref (ad 23)) (C := RX5) (T := TX5) (N := 5) hx hb hT inX5 hown hK hP 5 rfl rfl 4 (by decide) (hT _ q_117) (fun _ h9 => h9) rfl dX5_trimmest_36 ?_
            refine lv_iload_n hx hb dX5_trimmest_39 rfl (lv_at hl 1 rfl) ?_
            have g_7 : -2147483648 ≤ S 23 (x).toNat ∧ S 23 (x).toNat < 2147483648 := hR 23 ((x).toNat) (by decide)
            refine z_ald (f := S 23) hx hb hK hP 21 0 rfl rfl (by omega) (by omega) (by decide) (j := (x).toNat) rfl dX5_trimmest_40 ?_
            have hw8 := wmF_r n (S 7) (dgF n (t x.toNat))
            refine z_top (b := wmF n (S 7) (dgF n (t x.toNat))) ((hV.2 x.toNat (by omega)).2) ?_
            refine z_icmp_ge (tgt := 46) hx hb (by omega) (by omega) (by omega) (by omega) dX5_trimmest_41 (by decide) (fun c_8 => ?_) (fun c_8 => ?_)
            · have h9 : True := trivial
              refine z_iinc (lv' := [(2, .int (zI (↑i + 1))), (0, .ref (ad 45)), (1, .int (zI (x)))]) hx hb dX5_trimmest_46 hl (k := 2) rfl (by decide) rfl (fun ls hl => ?_)
              refine lv_goto (tgt := 4) hx hb dX5_trimmest_49 (by decide) ?_
              exact ih_4 (i + 1) x _ _ _ (by omega) (argm_k hm (by omega) (fun b e => (show x.toNat = b by omega) ▸ c_8)) (by omega) hP hR hS (lv_sub hl [1, 2, 0] rfl)
            · have h9 : True := trivial
              refine lv_iload_n hx hb dX5_trimmest_44 rfl (lv_at hl 2 rfl) ?_
              refine lv_istore_n (lv' := [(1, .int (zI (↑i))), (0, .ref (ad 45)), (2, .int (zI (↑i)))]) hx hb dX5_trimmest_45 rfl hl (by decide) rfl (fun ls hl => ?_)
              refine z_iinc (lv' := [(2, .int (zI (↑i + 1))), (1, .int (zI (↑i))), (0, .ref (ad 45))]) hx hb dX5_trimmest_46 hl (k := 2) rfl (by decide) rfl (fun ls hl => ?_)
              refine lv_goto (tgt := 4) hx hb dX5_trimmest_49 (by decide) ?_
              exact ih_4 (i + 1) ↑i _ _ _ (by omega) (argm_n hm (pB_t.mp (b2_1 c_4)) (fun b e => (show x.toNat = b by omega) ▸ c_8)) (by omega) hP hR hS (lv_sub hl [2, 1, 0] rfl)
  exact cut_4 _ 0 (-1) _ _ _ (by omega) (argm_0) (Nat.lt_succ_self _) hP hR hS (lv_sub hl [2, 1, 0] rfl)
set_option maxHeartbeats 4000000 in
set_option maxRecDepth 100000 in
theorem k_X5_fitsWithAbove (l : Launch) (D : va_G) (cI cZ : ClassId) (ad : Nat → Nat) (az av : Nat) (hinj : cInj ad) (S : St) (hR : RS S) (n N : Nat) (t : Nat → Int) (hT9 : cTab n N t S) (hV : cVer n N t S) (u1 u2 : Nat) (x y : Int) (hx1 : x = ↑u1) (hy2 : y = ↑u2) (hu1 : u1 < n) (hu2 : u2 < n) : Met l yX5_fitsWithAbove (Cond.code yX5_fitsWithAbove cX5_fitsWithAbove 5 (some .int) :: lwT) ({ frames := 1, cells := 0, slots := 0, locals := 22 }) (gPc D (cW cI cZ ad) (cE D cI cZ ad az av) S [.ref (ad 45), .int (zI (x)), .int (zI (y))]) (va_Qi (fun (r : Int32) (S' : St) => S' = S ∧ r = zI (cnt (fun k => pB (ftP n (S 7) t k ∧ pl n (dgF n (t k)) u1 < pl n (dgF n (t k)) u2)) N)) (gB D (cW cI cZ ad)) (cA ad)) 0 0 (cA ad) := by
  refine Met.ofW (cc := cX5_fitsWithAbove) (maxL := 5) (ret := (some .int)) (by decide) rfl ?_
  intro p e s m args below meth c s₁ B hml hv
  obtain ⟨rfl, hP, hE⟩ := hv
  have hx := B.exec
  have hb := B.bytes
  have hr := B.returns
  have hts := atoms_spec (ws := Cond.code yX5_fitsWithAbove cX5_fitsWithAbove 5 (some .int) :: lwT) B.pre
  have hT := fun w (h : w ∈ lwT) => hts w (List.mem_cons_of_mem _ h)
  have hsub : ∀ w ∈ lwT, w ∈ (Cond.code yX5_fitsWithAbove cX5_fitsWithAbove 5 (some .int) :: lwT) := fun w h => List.mem_cons_of_mem _ h
  have hown : s.vm.findClass RX5 = some m.cls := findClass_of_methodNamed B.named
  have hlocks := B.notSynchronized
  have hK : va_K D vwCl [(cI, .int), (cZ, .boolean)] s := hE.1
  have hS : va_S (cA ad) s.heap s.heap [] := va_S.rf
  have hT8 := hT9
  obtain ⟨⟨hn, hN, hn7, hN4⟩, hn0, hO9, hso, htb⟩ := hT9
  have hO := hO9 (by omega)
  have hl := lv_entry ([.ref (ad 45), .int (zI (x)), .int (zI (y))]) (n := 5) (Nat.le_of_ble_eq_true rfl)
  rw [lg_entry_eq]
  generalize (lg_sl ([.ref (ad 45), .int (zI (x)), .int (zI (y))]) ++ List.replicate (5 - (lg_sl ([.ref (ad 45), .int (zI (x)), .int (zI (y))])).length) Slot.unset).toArray = ls at hl ⊢
  have hl : lv_has ls 5 [(0, .ref (ad 45)), (1, .int (zI (x))), (2, .int (zI (y)))] := hl
  refine z_iconst hx hb dX5_fitsWithAbove_0 ?_
  refine lv_istore_n (lv' := [(3, .int (zI (0))), (0, .ref (ad 45)), (1, .int (zI (x))), (2, .int (zI (y)))]) hx hb dX5_fitsWithAbove_1 rfl hl (by decide) rfl (fun ls hl => ?_)
  refine z_iconst hx hb dX5_fitsWithAbove_2 ?_
  refine lv_istore (lv' := [(4, .int (zI (0))), (3, .int (zI (0))), (0, .ref (ad 45)), (1, .int (zI (x))), (2, .int (zI (y)))]) hx hb dX5_fitsWithAbove_3 hl (by decide) rfl (fun ls hl => ?_)
  have cut_5 : ∀ (k9 : Nat) (i : Nat) (w : Int) (H : Heap) (locs : List Loc) (ls : Array Slot), (i ≤ N) → (w = cnt (fun k => pB (ftP n (S 7) t k ∧ pl n (dgF n (t k)) u1 < pl n (dgF n (t k)) u2)) i) → (N - i) < k9 → va_P D vwCl (cW cI cZ ad S) H → RS S → va_S (cA ad) s.heap H locs → lv_has ls 5 [(0, .ref (ad 45)), (1, .int (zI (x))), (2, .int (zI (y))), (3, .int (zI (w))), (4, .int (zI (↑i)))] → W p l e (headSpec (Cond.code yX5_fitsWithAbove cX5_fitsWithAbove 5 (some .int) :: lwT) ({ frames := 1, cells := 0, slots := 0, locals := 22 })).room s m ([.ref (ad 45), .int (zI (x)), .int (zI (y))] : List Value).toArray below meth c H locs 0 0 (MQ below (va_Qi (fun (r : Int32) (S' : St) => S' = S ∧ r = zI (cnt (fun k => pB (ftP n (S 7) t k ∧ pl n (dgF n (t k)) u1 < pl n (dgF n (t k)) u2)) N)) (gB D (cW cI cZ ad)) (cA ad)) ([.ref (ad 45), .int (zI (x)), .int (zI (y))] : List Value).toArray s 0 0 (cA ad)) (F0 m 5 ls []) := by
    intro k9
    induction k9 with
    | zero =>
      intro i w H locs ls hi hw hk9 hP hR hS hl
      exact absurd hk9 (Nat.not_lt_zero _)
    | succ k9 ih_5 =>
      intro i w H locs ls hi hw hk9 hP hR hS hl
      refine lv_iload hx hb dX5_fitsWithAbove_5 (lv_at hl 4 rfl) ?_
      refine lv_aload_n hx hb dX5_fitsWithAbove_7 rfl (lv_at hl 0 rfl) ?_
      refine va_get (D := D) (ci := 5) (v := .ref (ad 42)) (C := RX5) (T := TX5) (N := 5) hx hb hT inX5 hown hK hP 5 rfl rfl 1 (by decide) (hT _ q_114) (fun _ h9 => h9) rfl dX5_fitsWithAbove_8 ?_
      have g_1 : -2147483648 ≤ S 3 0 ∧ S 3 0 < 2147483648 := hR 3 0 (by decide)
      refine va_get (D := D) (ci := 0) (v := .int (zI (S 3 0))) (C := RX0) (T := TX0) (N := 5) hx hb hT inX0 hown hK hP 2 rfl rfl 1 (by decide) (hT _ q_53) (fun _ h9 => h9) rfl dX5_fitsWithAbove_11 ?_
      refine z_icmp_ge (tgt := 59) hx hb (by omega) (by omega) (by omega) (by omega) dX5_fitsWithAbove_14 (by decide) (fun c_2 => ?_) (fun c_2 => ?_)
      · have h9 : True := trivial
        refine lv_iload_n hx hb dX5_fitsWithAbove_59 rfl (lv_at hl 3 rfl) ?_
        exact g_iret (S1 := S) (v := zI (w)) hx hb hr hlocks hP hR hS (⟨rfl, by rw [hw, show i = N by omega]⟩) dX5_fitsWithAbove_60
      · have h9 : True := trivial
        refine lv_aload_n hx hb dX5_fitsWithAbove_17 rfl (lv_at hl 0 rfl) ?_
        refine va_get (D := D) (ci := 5) (v := .ref (ad 22)) (C := RX5) (T := TX5) (N := 5) hx hb hT inX5 hown hK hP 5 rfl rfl 3 (by decide) (hT _ q_116) (fun _ h9 => h9) rfl dX5_fitsWithAbove_18 ?_
        refine lv_iload hx hb dX5_fitsWithAbove_21 (lv_at hl 4 rfl) ?_
        have g_3 : -2147483648 ≤ S 22 i ∧ S 22 i < 2147483648 := hR 22 i (by decide)
        refine z_zald (f := S 22) hx hb hK hP 20 1 rfl rfl (by omega) (by omega) (by decide) (j := i) rfl dX5_fitsWithAbove_23 ?_
        have hb7 := b2_r (pB (ftP n (S 7) t i))
        refine z_top (b := b2 (pB (ftP n (S 7) t i))) ((hV.2 i (by omega)).1) ?_
        refine z_if_eq (tgt := 53) hx hb (by omega) (by omega) dX5_fitsWithAbove_24 (by decide) (fun c_4 => ?_) (fun c_4 => ?_)
        · have h9 : True := trivial
          refine z_iinc (lv' := [(4, .int (zI (↑i + 1))), (0, .ref (ad 45)), (1, .int (zI (x))), (2, .int (zI (y))), (3, .int (zI (w)))]) hx hb dX5_fitsWithAbove_53 hl (k := 4) rfl (by decide) rfl (fun ls hl => ?_)
          refine lv_goto (tgt := 5) hx hb dX5_fitsWithAbove_56 (by decide) ?_
          exact ih_5 (i + 1) w _ _ _ (by omega) ((Int.add_zero w).symm.trans (cnt_f (P := (fun k => pB (ftP n (S 7) t k ∧ pl n (dgF n (t k)) u1 < pl n (dgF n (t k)) u2))) (pB_f.mpr (fun h => pB_f.mp (b2_0 c_4) h.1)) hw)) (by omega) hP hR hS (lv_sub hl [1, 2, 3, 4, 0] rfl)
        · have h9 : True := trivial
          refine lv_aload_n hx hb dX5_fitsWithAbove_27 rfl (lv_at hl 0 rfl) ?_
          refine va_get (D := D) (ci := 5) (v := .ref (ad 42)) (C := RX5) (T := TX5) (N := 5) hx hb hT inX5 hown hK hP 5 rfl rfl 1 (by decide) (hT _ q_114) (fun _ h9 => h9) rfl dX5_fitsWithAbove_28 ?_
          refine lv_iload hx hb dX5_fitsWithAbove_31 (lv_at hl 4 rfl) ?_
          refine lv_iload_n hx hb dX5_fitsWithAbove_33 rfl (lv_at hl 1 rfl) ?_
          refine g_callVi (As := [.int (zI (↑i)), .int (zI (x))]) (rest := []) ⟨hx, hb, hml, hown, hts⟩ (k_X0_placeOf l D cI cZ ad az av hinj S hR n N t hT8 ↑i x (by omega) (by omega) (by omega) (by omega)) (cwV 2 hts (gV hsub q_359 q_360 q_361 q_3 q_362) rfl rfl rfl hdX0_placeOf ⟨Nat.le_of_ble_eq_true rfl, Nat.le_of_ble_eq_true rfl⟩) (cEb D cI cZ ad az av) (cEk D cI cZ ad az av) hE (va_recv (ci := 0) (q0 := 2) hK hP rfl rfl) hP hS rfl hl.1 rfl (Nat.le_of_ble_eq_true rfl) dX5_fitsWithAbove_34 ⟨Nat.le_of_ble_eq_true rfl, Nat.le_of_ble_eq_true rfl⟩ (fun r_5 S_6 H locs hq_7 hP hR hS _ => ?_)
          obtain ⟨hs9, rfl⟩ := hq_7
          obtain rfl := hs9.symm
          refine z_top (b := plV n N t ↑i x) rfl ?_
          have hl1 := pl_lt (hO.2.1 i (by omega)).2.1 hu1
          refine z_top (b := ↑(pl n (dgF n (t i)) u1)) (by unfold plV; rw [if_pos (by omega), show (↑i : Int).toNat = i by omega, show x.toNat = u1 by omega]) ?_
          refine lv_aload_n hx hb dX5_fitsWithAbove_37 rfl (lv_at hl 0 rfl) ?_
          refine va_get (D := D) (ci := 5) (v := .ref (ad 42)) (C := RX5) (T := TX5) (N := 5) hx hb hT inX5 hown hK hP 5 rfl rfl 1 (by decide) (hT _ q_114) (fun _ h9 => h9) rfl dX5_fitsWithAbove_38 ?_
          refine lv_iload hx hb dX5_fitsWithAbove_41 (lv_at hl 4 rfl) ?_
          refine lv_iload_n hx hb dX5_fitsWithAbove_43 rfl (lv_at hl 2 rfl) ?_
          refine g_callVi (As := [.int (zI (↑i)), .int (zI (y))]) (rest := [.int (zI (↑(pl n (dgF n (t i)) u1)))]) ⟨hx, hb, hml, hown, hts⟩ (k_X0_placeOf l D cI cZ ad az av hinj S hR n N t hT8 ↑i y (by omega) (by omega) (by omega) (by omega)) (cwV 2 hts (gV hsub q_359 q_360 q_361 q_3 q_362) rfl rfl rfl hdX0_placeOf ⟨Nat.le_of_ble_eq_true rfl, Nat.le_of_ble_eq_true rfl⟩) (cEb D cI cZ ad az av) (cEk D cI cZ ad az av) hE (va_recv (ci := 0) (q0 := 2) hK hP rfl rfl) hP hS rfl hl.1 rfl (Nat.le_of_ble_eq_true rfl) dX5_fitsWithAbove_44 ⟨Nat.le_of_ble_eq_true rfl, Nat.le_of_ble_eq_true rfl⟩ (fun r_8 S_9 H locs hq_10 hP hR hS _ => ?_)
          obtain ⟨hs9, rfl⟩ := hq_10
          obtain rfl := hs9.symm
          refine z_top (b := plV n N t ↑i y) rfl ?_
          have hl2 := pl_lt (hO.2.1 i (by omega)).2.1 hu2
          refine z_top (b := ↑(pl n (dgF n (t i)) u2)) (by unfold plV; rw [if_pos (by omega), show (↑i : Int).toNat = i by omega, show y.toNat = u2 by omega]) ?_
          refine z_icmp_ge (tgt := 53) hx hb (by omega) (by omega) (by omega) (by omega) dX5_fitsWithAbove_47 (by decide) (fun c_11 => ?_) (fun c_11 => ?_)
          · have h9 : True := trivial
            refine z_iinc (lv' := [(4, .int (zI (↑i + 1))), (0, .ref (ad 45)), (1, .int (zI (x))), (2, .int (zI (y))), (3, .int (zI (w)))]) hx hb dX5_fitsWithAbove_53 hl (k := 4) rfl (by decide) rfl (fun ls hl => ?_)
            refine lv_goto (tgt := 5) hx hb dX5_fitsWithAbove_56 (by decide) ?_
            exact ih_5 (i + 1) w _ _ _ (by omega) ((Int.add_zero w).symm.trans (cnt_f (P := (fun k => pB (ftP n (S 7) t k ∧ pl n (dgF n (t k)) u1 < pl n (dgF n (t k)) u2))) (pB_f.mpr (fun h => by have := h.2; omega)) hw)) (by omega) hP hR hS (lv_sub hl [1, 2, 3, 4, 0] rfl)
          · have h9 : True := trivial
            refine z_iinc (lv' := [(3, .int (zI (w + 1))), (0, .ref (ad 45)), (1, .int (zI (x))), (2, .int (zI (y))), (4, .int (zI (↑i)))]) hx hb dX5_fitsWithAbove_50 hl (k := 3) rfl (by decide) rfl (fun ls hl => ?_)
            refine z_iinc (lv' := [(4, .int (zI (↑i + 1))), (3, .int (zI (w + 1))), (0, .ref (ad 45)), (1, .int (zI (x))), (2, .int (zI (y)))]) hx hb dX5_fitsWithAbove_53 hl (k := 4) rfl (by decide) rfl (fun ls hl => ?_)
            refine lv_goto (tgt := 5) hx hb dX5_fitsWithAbove_56 (by decide) ?_
            exact ih_5 (i + 1) (w + 1) _ _ _ (by omega) (cnt_t (P := (fun k => pB (ftP n (S 7) t k ∧ pl n (dgF n (t k)) u1 < pl n (dgF n (t k)) u2))) (pB_t.mpr ⟨pB_t.mp (b2_1 c_4), by omega⟩) hw) (by omega) hP hR hS (lv_sub hl [2, 3, 4, 1, 0] rfl)
  exact cut_5 _ 0 0 _ _ _ (by omega) (rfl) (Nat.lt_succ_self _) hP hR hS (lv_sub hl [2, 3, 4, 1, 0] rfl)
