set_option maxHeartbeats 4000000 in
set_option maxRecDepth 100000 in
theorem k_X0_addBelow_0 (l : Launch) (D : va_G) (cI cZ : ClassId) (ad : Nat → Nat) (az av : Nat) (hinj : cInj ad) (S : St) (hR : RS S) (n : Nat) (hn : S 2 0 = ↑n) (hn7 : n ≤ 7) (o : List Nat) (hpn : ∀ v, v < n → S 6 v = (pnN o v : Int) - 1) (hol : o.length ≤ 7) (sz : Nat) (hsz : S 3 0 = ↑sz) (dd : Nat) (hdd : dd ≤ 0) (hg : gdO n o) (hlen : o.length + dd = n) (hcap : sz + (dfs n dd o).length ≤ 462) (x y : Int) (hx9 : x = ↑o.length) (hy9 : y = cdO o) : Met l yX0_addBelow (Cond.code yX0_addBelow cX0_addBelow 4 none :: lwT) ({ frames := 1, cells := 0, slots := 0, locals := 23 }) (gPc D (cW cI cZ ad) (cE D cI cZ ad az av) S [.ref (ad 42), .int (zI (x)), .int (zI (y))]) (va_Qv (fun (S' : St) => ∃ e3 e4 e5 e6, S' = sA (sA (sA (sA S 3 e3) 4 e4) 5 e5) 6 e6 ∧ (∀ v, v < n → e6 v = S 6 v) ∧ e3 0 = ↑sz + ↑(dfs n dd o).length ∧ appd n sz (dfs n dd o) (S 4) (S 5) e4 e5) (gB D (cW cI cZ ad)) (cA ad)) 0 0 (cA ad) := by
  refine Met.ofW (cc := cX0_addBelow) (maxL := 4) (ret := none) (by decide) rfl ?_
  intro p e s m args below meth c s₁ B hml hv
  obtain ⟨rfl, hP, hE⟩ := hv
  have hx := B.exec
  have hb := B.bytes
  have hr := B.returns
  have hts := atoms_spec (ws := Cond.code yX0_addBelow cX0_addBelow 4 none :: lwT) B.pre
  have hT := fun w (h : w ∈ lwT) => hts w (List.mem_cons_of_mem _ h)
  have hsub : ∀ w ∈ lwT, w ∈ (Cond.code yX0_addBelow cX0_addBelow 4 none :: lwT) := fun w h => List.mem_cons_of_mem _ h
  have hown : s.vm.findClass RX0 = some m.cls := findClass_of_methodNamed B.named
  have hlocks := B.notSynchronized
  have hK : va_K D vwCl [(cI, .int), (cZ, .boolean)] s := hE.1
  have hS : va_S (cA ad) s.heap s.heap [] := va_S.rf
  have hl := lv_entry ([.ref (ad 42), .int (zI (x)), .int (zI (y))]) (n := 4) (Nat.le_of_ble_eq_true rfl)
  rw [lg_entry_eq]
  generalize (lg_sl ([.ref (ad 42), .int (zI (x)), .int (zI (y))]) ++ List.replicate (4 - (lg_sl ([.ref (ad 42), .int (zI (x)), .int (zI (y))])).length) Slot.unset).toArray = ls at hl ⊢
  have hl : lv_has ls 4 [(0, .ref (ad 42)), (1, .int (zI (x))), (2, .int (zI (y)))] := hl
  have hcr := cdO_r hn7 hg
  refine lv_iload_n hx hb dX0_addBelow_0 rfl (lv_at hl 1 rfl) ?_
  refine lv_aload_n hx hb dX0_addBelow_1 rfl (lv_at hl 0 rfl) ?_
  have g_1 : -2147483648 ≤ S 2 0 ∧ S 2 0 < 2147483648 := hR 2 0 (by decide)
  refine va_get (D := D) (ci := 0) (v := .int (zI (S 2 0))) (C := RX0) (T := TX0) (N := 5) hx hb hT inX0 hown hK hP 2 rfl rfl 0 (by decide) (hT _ q_45) (fun _ h9 => h9) rfl dX0_addBelow_2 ?_
  refine z_icmp_lt (tgt := 14) hx hb (by omega) (by omega) (by omega) (by omega) dX0_addBelow_5 (by decide) (fun c_2 => ?_) (fun c_2 => ?_)
  · exact False.elim (by omega)
  · have h9 : True := trivial
    refine lv_aload_n hx hb dX0_addBelow_8 rfl (lv_at hl 0 rfl) ?_
    refine lv_iload_n hx hb dX0_addBelow_9 rfl (lv_at hl 2 rfl) ?_
    refine g_callVv (As := [.int (zI (y))]) (rest := []) ⟨hx, hb, hml, hown, hts⟩ (k_X0_keep l D cI cZ ad az av hinj S hR n hn hn7 o hpn hol sz hsz (by rw [show dd = 0 by omega] at hcap; exact hcap) hg (by omega) y (hy9)) (cwV 1 hts (gV hsub q_328 q_330 q_sX0_keep q_3 q_331) rfl rfl rfl hdX0_keep ⟨Nat.le_of_ble_eq_true rfl, Nat.le_of_ble_eq_true rfl⟩) (cEb D cI cZ ad az av) (cEk D cI cZ ad az av) hE (va_recv (ci := 0) (q0 := 2) hK hP rfl rfl) hP hS rfl hl.1 rfl (Nat.le_of_ble_eq_true rfl) dX0_addBelow_10 ⟨Nat.le_of_ble_eq_true rfl, Nat.le_of_ble_eq_true rfl⟩ (fun S_4 H locs hq_5 hP hR hS _ => ?_)
    obtain rfl := hq_5
    have hP : va_P D vwCl (cW cI cZ ad (sA (sA (sA S 4 (uZ (S 4) sz (cdO o))) 5 (uZ (S 5) sz (plO n o))) 3 (fun _ => ↑sz + 1))) H := hP
    have hR : RS (sA (sA (sA S 4 (uZ (S 4) sz (cdO o))) 5 (uZ (S 5) sz (plO n o))) 3 (fun _ => ↑sz + 1)) := hR
    have hSe_6 : sA (sA (sA S 4 (uZ (S 4) sz (cdO o))) 5 (uZ (S 5) sz (plO n o))) 3 (fun _ => ↑sz + 1) = sA (sA (sA (sA S 3 (fun _ => ↑sz + 1)) 4 (uZ (S 4) sz (cdO o))) 5 (uZ (S 5) sz (plO n o))) 6 (S 6) := by
      funext k8
      by_cases e80 : k8 = 3
      · subst e80; first | rfl | (funext j8; rfl)
      by_cases e81 : k8 = 4
      · subst e81; first | rfl | (funext j8; rfl)
      by_cases e82 : k8 = 5
      · subst e82; first | rfl | (funext j8; rfl)
      by_cases e83 : k8 = 6
      · subst e83; first | rfl | (funext j8; rfl)
      simp [sA, e80, e81, e82, e83]
    rw [hSe_6] at hP hR
    exact g_vret (S1 := sA (sA (sA (sA S 3 (fun _ => ↑sz + 1)) 4 (uZ (S 4) sz (cdO o))) 5 (uZ (S 5) sz (plO n o))) 6 (S 6)) hx hb hr hlocks hP hR hS (⟨_, _, _, _, rfl, fun v hv => rfl, by rw [show dd = 0 by omega]; rfl, by rw [show dd = 0 by omega]; exact appd_one n sz o _ _⟩) dX0_addBelow_13
set_option maxHeartbeats 4000000 in
set_option maxRecDepth 100000 in
theorem k_X0_addBelow_1 (l : Launch) (D : va_G) (cI cZ : ClassId) (ad : Nat → Nat) (az av : Nat) (hinj : cInj ad) (S : St) (hR : RS S) (n : Nat) (hn : S 2 0 = ↑n) (hn7 : n ≤ 7) (o : List Nat) (hpn : ∀ v, v < n → S 6 v = (pnN o v : Int) - 1) (hol : o.length ≤ 7) (sz : Nat) (hsz : S 3 0 = ↑sz) (dd : Nat) (hdd : dd ≤ 1) (hg : gdO n o) (hlen : o.length + dd = n) (hcap : sz + (dfs n dd o).length ≤ 462) (x y : Int) (hx9 : x = ↑o.length) (hy9 : y = cdO o) : Met l yX0_addBelow (Cond.code yX0_addBelow cX0_addBelow 4 none :: lwT) ({ frames := 3, cells := 0, slots := 0, locals := 69 }) (gPc D (cW cI cZ ad) (cE D cI cZ ad az av) S [.ref (ad 42), .int (zI (x)), .int (zI (y))]) (va_Qv (fun (S' : St) => ∃ e3 e4 e5 e6, S' = sA (sA (sA (sA S 3 e3) 4 e4) 5 e5) 6 e6 ∧ (∀ v, v < n → e6 v = S 6 v) ∧ e3 0 = ↑sz + ↑(dfs n dd o).length ∧ appd n sz (dfs n dd o) (S 4) (S 5) e4 e5) (gB D (cW cI cZ ad)) (cA ad)) 0 0 (cA ad) := by
  refine Met.ofW (cc := cX0_addBelow) (maxL := 4) (ret := none) (by decide) rfl ?_
  intro p e s m args below meth c s₁ B hml hv
  obtain ⟨rfl, hP, hE⟩ := hv
  have hx := B.exec
  have hb := B.bytes
  have hr := B.returns
  have hts := atoms_spec (ws := Cond.code yX0_addBelow cX0_addBelow 4 none :: lwT) B.pre
  have hT := fun w (h : w ∈ lwT) => hts w (List.mem_cons_of_mem _ h)
  have hsub : ∀ w ∈ lwT, w ∈ (Cond.code yX0_addBelow cX0_addBelow 4 none :: lwT) := fun w h => List.mem_cons_of_mem _ h
  have hown : s.vm.findClass RX0 = some m.cls := findClass_of_methodNamed B.named
  have hlocks := B.notSynchronized
  have hK : va_K D vwCl [(cI, .int), (cZ, .boolean)] s := hE.1
  have hS : va_S (cA ad) s.heap s.heap [] := va_S.rf
  have hl := lv_entry ([.ref (ad 42), .int (zI (x)), .int (zI (y))]) (n := 4) (Nat.le_of_ble_eq_true rfl)
  rw [lg_entry_eq]
  generalize (lg_sl ([.ref (ad 42), .int (zI (x)), .int (zI (y))]) ++ List.replicate (4 - (lg_sl ([.ref (ad 42), .int (zI (x)), .int (zI (y))])).length) Slot.unset).toArray = ls at hl ⊢
  have hl : lv_has ls 4 [(0, .ref (ad 42)), (1, .int (zI (x))), (2, .int (zI (y)))] := hl
  have hcr := cdO_r hn7 hg
  refine lv_iload_n hx hb dX0_addBelow_0 rfl (lv_at hl 1 rfl) ?_
  refine lv_aload_n hx hb dX0_addBelow_1 rfl (lv_at hl 0 rfl) ?_
  have g_1 : -2147483648 ≤ S 2 0 ∧ S 2 0 < 2147483648 := hR 2 0 (by decide)
  refine va_get (D := D) (ci := 0) (v := .int (zI (S 2 0))) (C := RX0) (T := TX0) (N := 5) hx hb hT inX0 hown hK hP 2 rfl rfl 0 (by decide) (hT _ q_45) (fun _ h9 => h9) rfl dX0_addBelow_2 ?_
  refine z_icmp_lt (tgt := 14) hx hb (by omega) (by omega) (by omega) (by omega) dX0_addBelow_5 (by decide) (fun c_2 => ?_) (fun c_2 => ?_)
  · have h9 : True := trivial
    have hd0 : dd ≠ 0 := by omega
    have hds := dfs_p n o hd0
    have hol7 : o.length < 7 := by omega
    refine z_iconst hx hb dX0_addBelow_14 ?_
    refine lv_istore_n (lv' := [(3, .int (zI (0))), (0, .ref (ad 42)), (1, .int (zI (x))), (2, .int (zI (y)))]) hx hb dX0_addBelow_15 rfl hl (by decide) rfl (fun ls hl => ?_)
    have cut_16 : ∀ (k9 : Nat) (i : Nat) (z3 : Int) (g4 : Nat → Int) (g5 : Nat → Int) (g6 : Nat → Int) (H : Heap) (locs : List Loc) (ls : Array Slot), (i ≤ n) → (z3 = ↑sz + ↑(dfsW n (dfs n (dd - 1)) o i).length) → (appd n sz (dfsW n (dfs n (dd - 1)) o i) (S 4) (S 5) g4 g5) → (∀ v, v < n → g6 v = S 6 v) → (n - i) < k9 → va_P D vwCl (cW cI cZ ad (sA (sA (sA (sA S 3 (fun _ => z3)) 4 g4) 5 g5) 6 g6)) H → RS (sA (sA (sA (sA S 3 (fun _ => z3)) 4 g4) 5 g5) 6 g6) → va_S (cA ad) s.heap H locs → lv_has ls 4 [(0, .ref (ad 42)), (1, .int (zI (x))), (2, .int (zI (y))), (3, .int (zI (↑i)))] → W p l e (headSpec (Cond.code yX0_addBelow cX0_addBelow 4 none :: lwT) ({ frames := 3, cells := 0, slots := 0, locals := 69 })).room s m ([.ref (ad 42), .int (zI (x)), .int (zI (y))] : List Value).toArray below meth c H locs 0 0 (MQ below (va_Qv (fun (S' : St) => ∃ e3 e4 e5 e6, S' = sA (sA (sA (sA S 3 e3) 4 e4) 5 e5) 6 e6 ∧ (∀ v, v < n → e6 v = S 6 v) ∧ e3 0 = ↑sz + ↑(dfs n dd o).length ∧ appd n sz (dfs n dd o) (S 4) (S 5) e4 e5) (gB D (cW cI cZ ad)) (cA ad)) ([.ref (ad 42), .int (zI (x)), .int (zI (y))] : List Value).toArray s 0 0 (cA ad)) (F0 m 16 ls []) := by
      intro k9
      induction k9 with
      | zero =>
        intro i z3 g4 g5 g6 H locs ls hi hz3 ha h6 hk9 hP hR hS hl
        exact absurd hk9 (Nat.not_lt_zero _)
      | succ k9 ih_16 =>
        intro i z3 g4 g5 g6 H locs ls hi hz3 ha h6 hk9 hP hR hS hl
        refine lv_iload_n hx hb dX0_addBelow_16 rfl (lv_at hl 3 rfl) ?_
        refine lv_aload_n hx hb dX0_addBelow_17 rfl (lv_at hl 0 rfl) ?_
        have g_3 : -2147483648 ≤ S 2 0 ∧ S 2 0 < 2147483648 := hR 2 0 (by decide)
        refine va_get (D := D) (ci := 0) (v := .int (zI (S 2 0))) (C := RX0) (T := TX0) (N := 5) hx hb hT inX0 hown hK hP 2 rfl rfl 0 (by decide) (hT _ q_45) (fun _ h9 => h9) rfl dX0_addBelow_18 ?_
        refine z_icmp_ge (tgt := 70) hx hb (by omega) (by omega) (by omega) (by omega) dX0_addBelow_21 (by decide) (fun c_4 => ?_) (fun c_4 => ?_)
        · have h9 : True := trivial
          exact g_vret (S1 := sA (sA (sA (sA S 3 (fun _ => z3)) 4 g4) 5 g5) 6 g6) hx hb hr hlocks hP hR hS (⟨_, _, _, _, rfl, h6, by rw [show i = n by omega] at hz3; rw [hds]; exact hz3, by rw [show i = n by omega] at ha; rw [hds]; exact ha⟩) dX0_addBelow_70
        · have h9 : True := trivial
          refine lv_aload_n hx hb dX0_addBelow_24 rfl (lv_at hl 0 rfl) ?_
          refine lv_iload_n hx hb dX0_addBelow_25 rfl (lv_at hl 3 rfl) ?_
          refine g_callVi (As := [.int (zI (↑i))]) (rest := []) ⟨hx, hb, hml, hown, hts⟩ (k_X0_canComeNext l D cI cZ ad az av hinj (sA (sA (sA (sA S 3 (fun _ => z3)) 4 g4) 5 g5) 6 g6) hR n hn hn7 o (fun v hv => (h6 v hv).trans (hpn v hv)) hol i ↑i (by omega) (by omega)) (cwV 1 hts (gV hsub q_332 q_334 q_sX0_canComeNext q_3 q_335) rfl rfl rfl hdX0_canComeNext ⟨Nat.le_of_ble_eq_true rfl, Nat.le_of_ble_eq_true rfl⟩) (cEb D cI cZ ad az av) (cEk D cI cZ ad az av) hE (va_recv (ci := 0) (q0 := 2) hK hP rfl rfl) hP hS rfl hl.1 rfl (Nat.le_of_ble_eq_true rfl) dX0_addBelow_26 ⟨Nat.le_of_ble_eq_true rfl, Nat.le_of_ble_eq_true rfl⟩ (fun r_5 S_6 H locs hq_7 hP hR hS _ => ?_)
          obtain ⟨hs9, rfl⟩ := hq_7
          obtain rfl := hs9.symm
          refine z_top (b := b2 (okN n o i)) rfl ?_
          refine z_ifneB (tgt := 35) hx hb dX0_addBelow_29 (by decide) (fun c_8 => ?_) (fun c_8 => ?_)
          · have h9 : True := trivial
            have hok := c_8
            have hp0 := okN_n hok
            have hcap2 := dfsW_cap (F := dfs n (dd - 1)) hok (by omega)
            rw [← hds] at hcap2
            refine lv_aload_n hx hb dX0_addBelow_35 rfl (lv_at hl 0 rfl) ?_
            refine va_get (D := D) (ci := 0) (v := .ref (ad 6)) (C := RX0) (T := TX0) (N := 5) hx hb hT inX0 hown hK hP 2 rfl rfl 4 (by decide) (hT _ q_57) (fun _ h9 => h9) rfl dX0_addBelow_36 ?_
            refine lv_iload_n hx hb dX0_addBelow_39 rfl (lv_at hl 3 rfl) ?_
            refine lv_iload_n hx hb dX0_addBelow_40 rfl (lv_at hl 1 rfl) ?_
            refine z_ast (f := (sA (sA (sA (sA S 3 (fun _ => z3)) 4 g4) 5 g5) 6 g6) 6) (i := ↑i) (v := x) hx hb hK hP (cD hinj cI cZ _) hS 11 0 rfl rfl (by omega) (by omega) (by decide) dX0_addBelow_41 (fun H locs hP hS => ?_)
            have hP : va_P D vwCl (cW cI cZ ad (sA (sA (sA (sA S 3 (fun _ => z3)) 4 g4) 5 g5) 6 (uZ g6 i x))) H := hP
            have hR : RS (sA (sA (sA (sA S 3 (fun _ => z3)) 4 g4) 5 g5) 6 (uZ g6 i x)) := hR.put' (by omega) (by omega)
            refine lv_aload_n hx hb dX0_addBelow_42 rfl (lv_at hl 0 rfl) ?_
            refine lv_iload_n hx hb dX0_addBelow_43 rfl (lv_at hl 1 rfl) ?_
            refine z_iconst hx hb dX0_addBelow_44 ?_
            refine z_iadd hx hb dX0_addBelow_45 ?_
            refine lv_iload_n hx hb dX0_addBelow_46 rfl (lv_at hl 2 rfl) ?_
            refine lv_iload_n hx hb dX0_addBelow_47 rfl (lv_at hl 3 rfl) ?_
            refine lv_iload_n hx hb dX0_addBelow_48 rfl (lv_at hl 1 rfl) ?_
            refine s_callSi (As := [.int (zI (x))]) (rest := [.int (zI (↑i)), .int (zI (y)), .int (zI (x + 1)), .ref (ad 42)]) ⟨hx, hb, hml, hown, hts⟩ (k_X0_shiftOf l (o.length) x (by omega) (by omega)) (cwS 1 hts (gS hsub q_344 q_345 q_3 q_346) rfl rfl rfl hdX0_shiftOf ⟨Nat.le_of_ble_eq_true rfl, Nat.le_of_ble_eq_true rfl⟩) rfl hl.1 rfl (Nat.le_of_ble_eq_true rfl) dX0_addBelow_49 ⟨Nat.le_of_ble_eq_true rfl, Nat.le_of_ble_eq_true rfl⟩ (fun r_9 hq_11 => ?_)
            rw [hq_11]
            have hpw := pw2 (3 * (6 - o.length)) (by omega)
            have hpw3 : (2 : Int) ^ (3 * (6 - o.length) + 3) = 2 ^ (3 * (6 - o.length)) * 8 := by rw [Int.pow_add]; rfl
            have hb0 : 0 ≤ (↑i : Int) * 2 ^ (3 * (6 - o.length)) := Int.mul_nonneg (by omega) (by omega)
            have hb1 : (↑i : Int) * 2 ^ (3 * (6 - o.length)) < 2 ^ (3 * (6 - o.length) + 3) := by rw [hpw3, Int.mul_comm]; exact Int.mul_lt_mul_of_pos_left (by omega) (by omega)
            have hw21 := pw2 (3 * (6 - o.length) + 3) (by omega)
            refine z_ishl hx hb (3 * (6 - o.length)) (by omega) (by omega) (by omega) (by omega) dX0_addBelow_52 ?_
            refine z_iorS hx hb (3 * (6 - o.length) + 3) (by omega) (by rw [hy9]; exact cdO_mod hol7) (by omega) (by omega) dX0_addBelow_53 ?_
            refine g_callSv (As := [.ref (ad 42), .int (zI (x + 1)), .int (zI (y + (↑i * 2 ^ (3 * (6 - o.length)))))]) (rest := []) ⟨hx, hb, hml, hown, hts⟩ (k_X0_addBelow_0 l D cI cZ ad az av hinj (sA (sA (sA (sA S 3 (fun _ => z3)) 4 g4) 5 g5) 6 (uZ g6 i x)) hR n hn hn7 (o ++ [i]) (pn_up (fun v hv => (h6 v hv).trans (hpn v hv)) hp0 hx9) (by rw [List.length_append, List.length_singleton]; omega) (sz + (dfsW n (dfs n (dd - 1)) o i).length) (show z3 = ((sz + (dfsW n (dfs n (dd - 1)) o i).length : Nat) : Int) by omega) (dd - 1) (by omega) (gdO_snoc hg (by omega) hp0) (by rw [List.length_append, List.length_singleton]; omega) (by omega) (x + 1) (y + (↑i * 2 ^ (3 * (6 - o.length)))) (by rw [List.length_append, List.length_singleton]; omega) (by rw [hy9]; exact cdO_snoc hol7)) (cwS 3 hts (gS hsub q_325 q_326 q_3 q_327) rfl rfl rfl hdX0_addBelow ⟨Nat.le_of_ble_eq_true rfl, Nat.le_of_ble_eq_true rfl⟩) (cEb D cI cZ ad az av) (cEk D cI cZ ad az av) hE hP hS rfl hl.1 rfl (Nat.le_of_ble_eq_true rfl) dX0_addBelow_54 ⟨Nat.le_of_ble_eq_true rfl, Nat.le_of_ble_eq_true rfl⟩ (fun S_13 H locs hq_14 hP hR hS _ => ?_)
            obtain ⟨e_15, e_16, e_17, e_18, rfl, hq6_19, hq3_20, hqa_21⟩ := hq_14
            have hq6 := hq6_19
            refine lv_aload_n hx hb dX0_addBelow_57 rfl (lv_at hl 0 rfl) ?_
            refine va_get (D := D) (ci := 0) (v := .ref (ad 6)) (C := RX0) (T := TX0) (N := 5) hx hb hT inX0 hown hK hP 2 rfl rfl 4 (by decide) (hT _ q_57) (fun _ h9 => h9) rfl dX0_addBelow_58 ?_
            refine lv_iload_n hx hb dX0_addBelow_61 rfl (lv_at hl 3 rfl) ?_
            refine z_iconst hx hb dX0_addBelow_62 ?_
            refine z_ast (f := (sA (sA (sA (sA (sA (sA (sA (sA S 3 (fun _ => z3)) 4 g4) 5 g5) 6 (uZ g6 i x)) 3 e_15) 4 e_16) 5 e_17) 6 e_18) 6) (i := ↑i) (v := -1) hx hb hK hP (cD hinj cI cZ _) hS 11 0 rfl rfl (by omega) (by omega) (by decide) dX0_addBelow_63 (fun H locs hP hS => ?_)
            have hP : va_P D vwCl (cW cI cZ ad (sA (sA (sA (sA (sA (sA (sA (sA S 3 (fun _ => z3)) 4 g4) 5 g5) 6 (uZ g6 i x)) 3 e_15) 4 e_16) 5 e_17) 6 (uZ e_18 i (-1)))) H := hP
            have hR : RS (sA (sA (sA (sA (sA (sA (sA (sA S 3 (fun _ => z3)) 4 g4) 5 g5) 6 (uZ g6 i x)) 3 e_15) 4 e_16) 5 e_17) 6 (uZ e_18 i (-1))) := hR.put' (by omega) (by omega)
            refine z_iinc (lv' := [(3, .int (zI (↑i + 1))), (0, .ref (ad 42)), (1, .int (zI (x))), (2, .int (zI (y)))]) hx hb dX0_addBelow_64 hl (k := 3) rfl (by decide) rfl (fun ls hl => ?_)
            refine lv_goto (tgt := 16) hx hb dX0_addBelow_67 (by decide) ?_
            have hP : va_P D vwCl (cW cI cZ ad (sA (sA (sA (sA (sA (sA (sA (sA (sA S 3 (fun _ => z3)) 4 g4) 5 g5) 6 (uZ g6 i x)) 3 e_15) 4 e_16) 5 e_17) 6 (uZ e_18 i (-1))) 3 (fun _ => e_15 0))) _ := hP
            have hR : RS (sA (sA (sA (sA (sA (sA (sA (sA (sA S 3 (fun _ => z3)) 4 g4) 5 g5) 6 (uZ g6 i x)) 3 e_15) 4 e_16) 5 e_17) 6 (uZ e_18 i (-1))) 3 (fun _ => e_15 0)) := hR.one (hR 3 0 (by decide)).1 (hR 3 0 (by decide)).2
            have hSe_22 : sA (sA (sA (sA (sA (sA (sA (sA (sA S 3 (fun _ => z3)) 4 g4) 5 g5) 6 (uZ g6 i x)) 3 e_15) 4 e_16) 5 e_17) 6 (uZ e_18 i (-1))) 3 (fun _ => e_15 0) = sA (sA (sA (sA S 3 (fun _ => e_15 0)) 4 e_16) 5 e_17) 6 (uZ e_18 i (-1)) := by
              funext k8
              by_cases e80 : k8 = 3
              · subst e80; funext j8; first | rfl | exact hsc_3 j8
              by_cases e81 : k8 = 4
              · subst e81; first | rfl | (funext j8; rfl)
              by_cases e82 : k8 = 5
              · subst e82; first | rfl | (funext j8; rfl)
              by_cases e83 : k8 = 6
              · subst e83; first | rfl | (funext j8; rfl)
              simp [sA, e80, e81, e82, e83]
            rw [hSe_22] at hP hR
            exact ih_16 (i + 1) (e_15 0) e_16 e_17 (uZ e_18 i (-1)) _ _ _ (by omega) (by have h7 := hq3_20; rw [dfsW_t hok, List.length_append]; omega) (by rw [dfsW_t hok]; exact appd_app ha hqa_21) (pn_bk hpn hp0 (by omega) h6 hq6_19) (by omega) hP hR hS (lv_sub hl [1, 2, 3, 0] rfl)
          · have h9 : True := trivial
            refine lv_goto (tgt := 64) hx hb dX0_addBelow_32 (by decide) ?_
            refine z_iinc (lv' := [(3, .int (zI (↑i + 1))), (0, .ref (ad 42)), (1, .int (zI (x))), (2, .int (zI (y)))]) hx hb dX0_addBelow_64 hl (k := 3) rfl (by decide) rfl (fun ls hl => ?_)
            refine lv_goto (tgt := 16) hx hb dX0_addBelow_67 (by decide) ?_
            exact ih_16 (i + 1) z3 g4 g5 g6 _ _ _ (by omega) (by rw [dfsW_f c_8]; exact hz3) (by rw [dfsW_f c_8]; exact ha) (h6) (by omega) hP hR hS (lv_sub hl [1, 2, 3, 0] rfl)
    have hP : va_P D vwCl (cW cI cZ ad (sA S 3 (fun _ => S 3 0))) _ := hP
    have hR : RS (sA S 3 (fun _ => S 3 0)) := hR.one (hR 3 0 (by decide)).1 (hR 3 0 (by decide)).2
    have hSe_23 : sA S 3 (fun _ => S 3 0) = sA (sA (sA (sA S 3 (fun _ => S 3 0)) 4 (S 4)) 5 (S 5)) 6 (S 6) := by
      funext k8
      by_cases e80 : k8 = 3
      · subst e80; funext j8; first | rfl | exact hsc_3 j8
      by_cases e81 : k8 = 4
      · subst e81; first | rfl | (funext j8; rfl)
      by_cases e82 : k8 = 5
      · subst e82; first | rfl | (funext j8; rfl)
      by_cases e83 : k8 = 6
      · subst e83; first | rfl | (funext j8; rfl)
      simp [sA, e80, e81, e82, e83]
    rw [hSe_23] at hP hR
    exact cut_16 _ 0 (S 3 0) (S 4) (S 5) (S 6) _ _ _ (by omega) (by rw [hsz]; exact (Int.add_zero _).symm) (appd_nil _ _ _ _) (fun v hv => rfl) (Nat.lt_succ_self _) hP hR hS (lv_sub hl [1, 2, 3, 0] rfl)
  · have h9 : True := trivial
    refine lv_aload_n hx hb dX0_addBelow_8 rfl (lv_at hl 0 rfl) ?_
    refine lv_iload_n hx hb dX0_addBelow_9 rfl (lv_at hl 2 rfl) ?_
    refine g_callVv (As := [.int (zI (y))]) (rest := []) ⟨hx, hb, hml, hown, hts⟩ (k_X0_keep l D cI cZ ad az av hinj S hR n hn hn7 o hpn hol sz hsz (by rw [show dd = 0 by omega] at hcap; exact hcap) hg (by omega) y (hy9)) (cwV 1 hts (gV hsub q_328 q_330 q_sX0_keep q_3 q_331) rfl rfl rfl hdX0_keep ⟨Nat.le_of_ble_eq_true rfl, Nat.le_of_ble_eq_true rfl⟩) (cEb D cI cZ ad az av) (cEk D cI cZ ad az av) hE (va_recv (ci := 0) (q0 := 2) hK hP rfl rfl) hP hS rfl hl.1 rfl (Nat.le_of_ble_eq_true rfl) dX0_addBelow_10 ⟨Nat.le_of_ble_eq_true rfl, Nat.le_of_ble_eq_true rfl⟩ (fun S_25 H locs hq_26 hP hR hS _ => ?_)
    obtain rfl := hq_26
    have hP : va_P D vwCl (cW cI cZ ad (sA (sA (sA S 4 (uZ (S 4) sz (cdO o))) 5 (uZ (S 5) sz (plO n o))) 3 (fun _ => ↑sz + 1))) H := hP
    have hR : RS (sA (sA (sA S 4 (uZ (S 4) sz (cdO o))) 5 (uZ (S 5) sz (plO n o))) 3 (fun _ => ↑sz + 1)) := hR
    have hSe_27 : sA (sA (sA S 4 (uZ (S 4) sz (cdO o))) 5 (uZ (S 5) sz (plO n o))) 3 (fun _ => ↑sz + 1) = sA (sA (sA (sA S 3 (fun _ => ↑sz + 1)) 4 (uZ (S 4) sz (cdO o))) 5 (uZ (S 5) sz (plO n o))) 6 (S 6) := by
      funext k8
      by_cases e80 : k8 = 3
      · subst e80; first | rfl | (funext j8; rfl)
      by_cases e81 : k8 = 4
      · subst e81; first | rfl | (funext j8; rfl)
      by_cases e82 : k8 = 5
      · subst e82; first | rfl | (funext j8; rfl)
      by_cases e83 : k8 = 6
      · subst e83; first | rfl | (funext j8; rfl)
      simp [sA, e80, e81, e82, e83]
    rw [hSe_27] at hP hR
    exact g_vret (S1 := sA (sA (sA (sA S 3 (fun _ => ↑sz + 1)) 4 (uZ (S 4) sz (cdO o))) 5 (uZ (S 5) sz (plO n o))) 6 (S 6)) hx hb hr hlocks hP hR hS (⟨_, _, _, _, rfl, fun v hv => rfl, by rw [show dd = 0 by omega]; rfl, by rw [show dd = 0 by omega]; exact appd_one n sz o _ _⟩) dX0_addBelow_13
set_option maxHeartbeats 4000000 in
set_option maxRecDepth 100000 in
theorem k_X0_addBelow_2 (l : Launch) (D : va_G) (cI cZ : ClassId) (ad : Nat → Nat) (az av : Nat) (hinj : cInj ad) (S : St) (hR : RS S) (n : Nat) (hn : S 2 0 = ↑n) (hn7 : n ≤ 7) (o : List Nat) (hpn : ∀ v, v < n → S 6 v = (pnN o v : Int) - 1) (hol : o.length ≤ 7) (sz : Nat) (hsz : S 3 0 = ↑sz) (dd : Nat) (hdd : dd ≤ 2) (hg : gdO n o) (hlen : o.length + dd = n) (hcap : sz + (dfs n dd o).length ≤ 462) (x y : Int) (hx9 : x = ↑o.length) (hy9 : y = cdO o) : Met l yX0_addBelow (Cond.code yX0_addBelow cX0_addBelow 4 none :: lwT) ({ frames := 4, cells := 0, slots := 0, locals := 92 }) (gPc D (cW cI cZ ad) (cE D cI cZ ad az av) S [.ref (ad 42), .int (zI (x)), .int (zI (y))]) (va_Qv (fun (S' : St) => ∃ e3 e4 e5 e6, S' = sA (sA (sA (sA S 3 e3) 4 e4) 5 e5) 6 e6 ∧ (∀ v, v < n → e6 v = S 6 v) ∧ e3 0 = ↑sz + ↑(dfs n dd o).length ∧ appd n sz (dfs n dd o) (S 4) (S 5) e4 e5) (gB D (cW cI cZ ad)) (cA ad)) 0 0 (cA ad) := by
  refine Met.ofW (cc := cX0_addBelow) (maxL := 4) (ret := none) (by decide) rfl ?_
  intro p e s m args below meth c s₁ B hml hv
  obtain ⟨rfl, hP, hE⟩ := hv
  have hx := B.exec
  have hb := B.bytes
  have hr := B.returns
  have hts := atoms_spec (ws := Cond.code yX0_addBelow cX0_addBelow 4 none :: lwT) B.pre
  have hT := fun w (h : w ∈ lwT) => hts w (List.mem_cons_of_mem _ h)
  have hsub : ∀ w ∈ lwT, w ∈ (Cond.code yX0_addBelow cX0_addBelow 4 none :: lwT) := fun w h => List.mem_cons_of_mem _ h
  have hown : s.vm.findClass RX0 = some m.cls := findClass_of_methodNamed B.named
  have hlocks := B.notSynchronized
  have hK : va_K D vwCl [(cI, .int), (cZ, .boolean)] s := hE.1
  have hS : va_S (cA ad) s.heap s.heap [] := va_S.rf
  have hl := lv_entry ([.ref (ad 42), .int (zI (x)), .int (zI (y))]) (n := 4) (Nat.le_of_ble_eq_true rfl)
  rw [lg_entry_eq]
  generalize (lg_sl ([.ref (ad 42), .int (zI (x)), .int (zI (y))]) ++ List.replicate (4 - (lg_sl ([.ref (ad 42), .int (zI (x)), .int (zI (y))])).length) Slot.unset).toArray = ls at hl ⊢
  have hl : lv_has ls 4 [(0, .ref (ad 42)), (1, .int (zI (x))), (2, .int (zI (y)))] := hl
  have hcr := cdO_r hn7 hg
  refine lv_iload_n hx hb dX0_addBelow_0 rfl (lv_at hl 1 rfl) ?_
  refine lv_aload_n hx hb dX0_addBelow_1 rfl (lv_at hl 0 rfl) ?_
  have g_1 : -2147483648 ≤ S 2 0 ∧ S 2 0 < 2147483648 := hR 2 0 (by decide)
  refine va_get (D := D) (ci := 0) (v := .int (zI (S 2 0))) (C := RX0) (T := TX0) (N := 5) hx hb hT inX0 hown hK hP 2 rfl rfl 0 (by decide) (hT _ q_45) (fun _ h9 => h9) rfl dX0_addBelow_2 ?_
  refine z_icmp_lt (tgt := 14) hx hb (by omega) (by omega) (by omega) (by omega) dX0_addBelow_5 (by decide) (fun c_2 => ?_) (fun c_2 => ?_)
  · have h9 : True := trivial
    have hd0 : dd ≠ 0 := by omega
    have hds := dfs_p n o hd0
    have hol7 : o.length < 7 := by omega
    refine z_iconst hx hb dX0_addBelow_14 ?_
    refine lv_istore_n (lv' := [(3, .int (zI (0))), (0, .ref (ad 42)), (1, .int (zI (x))), (2, .int (zI (y)))]) hx hb dX0_addBelow_15 rfl hl (by decide) rfl (fun ls hl => ?_)
    have cut_16 : ∀ (k9 : Nat) (i : Nat) (z3 : Int) (g4 : Nat → Int) (g5 : Nat → Int) (g6 : Nat → Int) (H : Heap) (locs : List Loc) (ls : Array Slot), (i ≤ n) → (z3 = ↑sz + ↑(dfsW n (dfs n (dd - 1)) o i).length) → (appd n sz (dfsW n (dfs n (dd - 1)) o i) (S 4) (S 5) g4 g5) → (∀ v, v < n → g6 v = S 6 v) → (n - i) < k9 → va_P D vwCl (cW cI cZ ad (sA (sA (sA (sA S 3 (fun _ => z3)) 4 g4) 5 g5) 6 g6)) H → RS (sA (sA (sA (sA S 3 (fun _ => z3)) 4 g4) 5 g5) 6 g6) → va_S (cA ad) s.heap H locs → lv_has ls 4 [(0, .ref (ad 42)), (1, .int (zI (x))), (2, .int (zI (y))), (3, .int (zI (↑i)))] → W p l e (headSpec (Cond.code yX0_addBelow cX0_addBelow 4 none :: lwT) ({ frames := 4, cells := 0, slots := 0, locals := 92 })).room s m ([.ref (ad 42), .int (zI (x)), .int (zI (y))] : List Value).toArray below meth c H locs 0 0 (MQ below (va_Qv (fun (S' : St) => ∃ e3 e4 e5 e6, S' = sA (sA (sA (sA S 3 e3) 4 e4) 5 e5) 6 e6 ∧ (∀ v, v < n → e6 v = S 6 v) ∧ e3 0 = ↑sz + ↑(dfs n dd o).length ∧ appd n sz (dfs n dd o) (S 4) (S 5) e4 e5) (gB D (cW cI cZ ad)) (cA ad)) ([.ref (ad 42), .int (zI (x)), .int (zI (y))] : List Value).toArray s 0 0 (cA ad)) (F0 m 16 ls []) := by
      intro k9
      induction k9 with
      | zero =>
        intro i z3 g4 g5 g6 H locs ls hi hz3 ha h6 hk9 hP hR hS hl
        exact absurd hk9 (Nat.not_lt_zero _)
      | succ k9 ih_16 =>
        intro i z3 g4 g5 g6 H locs ls hi hz3 ha h6 hk9 hP hR hS hl
        refine lv_iload_n hx hb dX0_addBelow_16 rfl (lv_at hl 3 rfl) ?_
        refine lv_aload_n hx hb dX0_addBelow_17 rfl (lv_at hl 0 rfl) ?_
        have g_3 : -2147483648 ≤ S 2 0 ∧ S 2 0 < 2147483648 := hR 2 0 (by decide)
        refine va_get (D := D) (ci := 0) (v := .int (zI (S 2 0))) (C := RX0) (T := TX0) (N := 5) hx hb hT inX0 hown hK hP 2 rfl rfl 0 (by decide) (hT _ q_45) (fun _ h9 => h9) rfl dX0_addBelow_18 ?_
        refine z_icmp_ge (tgt := 70) hx hb (by omega) (by omega) (by omega) (by omega) dX0_addBelow_21 (by decide) (fun c_4 => ?_) (fun c_4 => ?_)
        · have h9 : True := trivial
          exact g_vret (S1 := sA (sA (sA (sA S 3 (fun _ => z3)) 4 g4) 5 g5) 6 g6) hx hb hr hlocks hP hR hS (⟨_, _, _, _, rfl, h6, by rw [show i = n by omega] at hz3; rw [hds]; exact hz3, by rw [show i = n by omega] at ha; rw [hds]; exact ha⟩) dX0_addBelow_70
        · have h9 : True := trivial
          refine lv_aload_n hx hb dX0_addBelow_24 rfl (lv_at hl 0 rfl) ?_
          refine lv_iload_n hx hb dX0_addBelow_25 rfl (lv_at hl 3 rfl) ?_
          refine g_callVi (As := [.int (zI (↑i))]) (rest := []) ⟨hx, hb, hml, hown, hts⟩ (k_X0_canComeNext l D cI cZ ad az av hinj (sA (sA (sA (sA S 3 (fun _ => z3)) 4 g4) 5 g5) 6 g6) hR n hn hn7 o (fun v hv => (h6 v hv).trans (hpn v hv)) hol i ↑i (by omega) (by omega)) (cwV 1 hts (gV hsub q_332 q_334 q_sX0_canComeNext q_3 q_335) rfl rfl rfl hdX0_canComeNext ⟨Nat.le_of_ble_eq_true rfl, Nat.le_of_ble_eq_true rfl⟩) (cEb D cI cZ ad az av) (cEk D cI cZ ad az av) hE (va_recv (ci := 0) (q0 := 2) hK hP rfl rfl) hP hS rfl hl.1 rfl (Nat.le_of_ble_eq_true rfl) dX0_addBelow_26 ⟨Nat.le_of_ble_eq_true rfl, Nat.le_of_ble_eq_true rfl⟩ (fun r_5 S_6 H locs hq_7 hP hR hS _ => ?_)
          obtain ⟨hs9, rfl⟩ := hq_7
          obtain rfl := hs9.symm
          refine z_top (b := b2 (okN n o i)) rfl ?_
          refine z_ifneB (tgt := 35) hx hb dX0_addBelow_29 (by decide) (fun c_8 => ?_) (fun c_8 => ?_)
          · have h9 : True := trivial
            have hok := c_8
            have hp0 := okN_n hok
            have hcap2 := dfsW_cap (F := dfs n (dd - 1)) hok (by omega)
            rw [← hds] at hcap2
            refine lv_aload_n hx hb dX0_addBelow_35 rfl (lv_at hl 0 rfl) ?_
            refine va_get (D := D) (ci := 0) (v := .ref (ad 6)) (C := RX0) (T := TX0) (N := 5) hx hb hT inX0 hown hK hP 2 rfl rfl 4 (by decide) (hT _ q_57) (fun _ h9 => h9) rfl dX0_addBelow_36 ?_
            refine lv_iload_n hx hb dX0_addBelow_39 rfl (lv_at hl 3 rfl) ?_
            refine lv_iload_n hx hb dX0_addBelow_40 rfl (lv_at hl 1 rfl) ?_
            refine z_ast (f := (sA (sA (sA (sA S 3 (fun _ => z3)) 4 g4) 5 g5) 6 g6) 6) (i := ↑i) (v := x) hx hb hK hP (cD hinj cI cZ _) hS 11 0 rfl rfl (by omega) (by omega) (by decide) dX0_addBelow_41 (fun H locs hP hS => ?_)
            have hP : va_P D vwCl (cW cI cZ ad (sA (sA (sA (sA S 3 (fun _ => z3)) 4 g4) 5 g5) 6 (uZ g6 i x))) H := hP
            have hR : RS (sA (sA (sA (sA S 3 (fun _ => z3)) 4 g4) 5 g5) 6 (uZ g6 i x)) := hR.put' (by omega) (by omega)
            refine lv_aload_n hx hb dX0_addBelow_42 rfl (lv_at hl 0 rfl) ?_
            refine lv_iload_n hx hb dX0_addBelow_43 rfl (lv_at hl 1 rfl) ?_
            refine z_iconst hx hb dX0_addBelow_44 ?_
            refine z_iadd hx hb dX0_addBelow_45 ?_
            refine lv_iload_n hx hb dX0_addBelow_46 rfl (lv_at hl 2 rfl) ?_
            refine lv_iload_n hx hb dX0_addBelow_47 rfl (lv_at hl 3 rfl) ?_
            refine lv_iload_n hx hb dX0_addBelow_48 rfl (lv_at hl 1 rfl) ?_
            refine s_callSi (As := [.int (zI (x))]) (rest := [.int (zI (↑i)), .int (zI (y)), .int (zI (x + 1)), .ref (ad 42)]) ⟨hx, hb, hml, hown, hts⟩ (k_X0_shiftOf l (o.length) x (by omega) (by omega)) (cwS 1 hts (gS hsub q_344 q_345 q_3 q_346) rfl rfl rfl hdX0_shiftOf ⟨Nat.le_of_ble_eq_true rfl, Nat.le_of_ble_eq_true rfl⟩) rfl hl.1 rfl (Nat.le_of_ble_eq_true rfl) dX0_addBelow_49 ⟨Nat.le_of_ble_eq_true rfl, Nat.le_of_ble_eq_true rfl⟩ (fun r_9 hq_11 => ?_)
            rw [hq_11]
            have hpw := pw2 (3 * (6 - o.length)) (by omega)
            have hpw3 : (2 : Int) ^ (3 * (6 - o.length) + 3) = 2 ^ (3 * (6 - o.length)) * 8 := by rw [Int.pow_add]; rfl
            have hb0 : 0 ≤ (↑i : Int) * 2 ^ (3 * (6 - o.length)) := Int.mul_nonneg (by omega) (by omega)
            have hb1 : (↑i : Int) * 2 ^ (3 * (6 - o.length)) < 2 ^ (3 * (6 - o.length) + 3) := by rw [hpw3, Int.mul_comm]; exact Int.mul_lt_mul_of_pos_left (by omega) (by omega)
            have hw21 := pw2 (3 * (6 - o.length) + 3) (by omega)
            refine z_ishl hx hb (3 * (6 - o.length)) (by omega) (by omega) (by omega) (by omega) dX0_addBelow_52 ?_
            refine z_iorS hx hb (3 * (6 - o.length) + 3) (by omega) (by rw [hy9]; exact cdO_mod hol7) (by omega) (by omega) dX0_addBelow_53 ?_
            refine g_callSv (As := [.ref (ad 42), .int (zI (x + 1)), .int (zI (y + (↑i * 2 ^ (3 * (6 - o.length)))))]) (rest := []) ⟨hx, hb, hml, hown, hts⟩ (k_X0_addBelow_1 l D cI cZ ad az av hinj (sA (sA (sA (sA S 3 (fun _ => z3)) 4 g4) 5 g5) 6 (uZ g6 i x)) hR n hn hn7 (o ++ [i]) (pn_up (fun v hv => (h6 v hv).trans (hpn v hv)) hp0 hx9) (by rw [List.length_append, List.length_singleton]; omega) (sz + (dfsW n (dfs n (dd - 1)) o i).length) (show z3 = ((sz + (dfsW n (dfs n (dd - 1)) o i).length : Nat) : Int) by omega) (dd - 1) (by omega) (gdO_snoc hg (by omega) hp0) (by rw [List.length_append, List.length_singleton]; omega) (by omega) (x + 1) (y + (↑i * 2 ^ (3 * (6 - o.length)))) (by rw [List.length_append, List.length_singleton]; omega) (by rw [hy9]; exact cdO_snoc hol7)) (cwS 3 hts (gS hsub q_325 q_326 q_3 q_327) rfl rfl rfl hdX0_addBelow ⟨Nat.le_of_ble_eq_true rfl, Nat.le_of_ble_eq_true rfl⟩) (cEb D cI cZ ad az av) (cEk D cI cZ ad az av) hE hP hS rfl hl.1 rfl (Nat.le_of_ble_eq_true rfl) dX0_addBelow_54 ⟨Nat.le_of_ble_eq_true rfl, Nat.le_of_ble_eq_true rfl⟩ (fun S_13 H locs hq_14 hP hR hS _ => ?_)
            obtain ⟨e_15, e_16, e_17, e_18, rfl, hq6_19, hq3_20, hqa_21⟩ := hq_14
            have hq6 := hq6_19
            refine lv_aload_n hx hb dX0_addBelow_57 rfl (lv_at hl 0 rfl) ?_
            refine va_get (D := D) (ci := 0) (v := .ref (ad 6)) (C := RX0) (T := TX0) (N := 5) hx hb hT inX0 hown hK hP 2 rfl rfl 4 (by decide) (hT _ q_57) (fun _ h9 => h9) rfl dX0_addBelow_58 ?_
            refine lv_iload_n hx hb dX0_addBelow_61 rfl (lv_at hl 3 rfl) ?_
            refine z_iconst hx hb dX0_addBelow_62 ?_
            refine z_ast (f := (sA (sA (sA (sA (sA (sA (sA (sA S 3 (fun _ => z3)) 4 g4) 5 g5) 6 (uZ g6 i x)) 3 e_15) 4 e_16) 5 e_17) 6 e_18) 6) (i := ↑i) (v := -1) hx hb hK hP (cD hinj cI cZ _) hS 11 0 rfl rfl (by omega) (by omega) (by decide) dX0_addBelow_63 (fun H locs hP hS => ?_)
            have hP : va_P D vwCl (cW cI cZ ad (sA (sA (sA (sA (sA (sA (sA (sA S 3 (fun _ => z3)) 4 g4) 5 g5) 6 (uZ g6 i x)) 3 e_15) 4 e_16) 5 e_17) 6 (uZ e_18 i (-1)))) H := hP
            have hR : RS (sA (sA (sA (sA (sA (sA (sA (sA S 3 (fun _ => z3)) 4 g4) 5 g5) 6 (uZ g6 i x)) 3 e_15) 4 e_16) 5 e_17) 6 (uZ e_18 i (-1))) := hR.put' (by omega) (by omega)
            refine z_iinc (lv' := [(3, .int (zI (↑i + 1))), (0, .ref (ad 42)), (1, .int (zI (x))), (2, .int (zI (y)))]) hx hb dX0_addBelow_64 hl (k := 3) rfl (by decide) rfl (fun ls hl => ?_)
            refine lv_goto (tgt := 16) hx hb dX0_addBelow_67 (by decide) ?_
            have hP : va_P D vwCl (cW cI cZ ad (sA (sA (sA (sA (sA (sA (sA (sA (sA S 3 (fun _ => z3)) 4 g4) 5 g5) 6 (uZ g6 i x)) 3 e_15) 4 e_16) 5 e_17) 6 (uZ e_18 i (-1))) 3 (fun _ => e_15 0))) _ := hP
            have hR : RS (sA (sA (sA (sA (sA (sA (sA (sA (sA S 3 (fun _ => z3)) 4 g4) 5 g5) 6 (uZ g6 i x)) 3 e_15) 4 e_16) 5 e_17) 6 (uZ e_18 i (-1))) 3 (fun _ => e_15 0)) := hR.one (hR 3 0 (by decide)).1 (hR 3 0 (by decide)).2
            have hSe_22 : sA (sA (sA (sA (sA (sA (sA (sA (sA S 3 (fun _ => z3)) 4 g4) 5 g5) 6 (uZ g6 i x)) 3 e_15) 4 e_16) 5 e_17) 6 (uZ e_18 i (-1))) 3 (fun _ => e_15 0) = sA (sA (sA (sA S 3 (fun _ => e_15 0)) 4 e_16) 5 e_17) 6 (uZ e_18 i (-1)) := by
              funext k8
              by_cases e80 : k8 = 3
              · subst e80; funext j8; first | rfl | exact hsc_3 j8
              by_cases e81 : k8 = 4
              · subst e81; first | rfl | (funext j8; rfl)
              by_cases e82 : k8 = 5
              · subst e82; first | rfl | (funext j8; rfl)
              by_cases e83 : k8 = 6
              · subst e83; first | rfl | (funext j8; rfl)
              simp [sA, e80, e81, e82, e83]
            rw [hSe_22] at hP hR
            exact ih_16 (i + 1) (e_15 0) e_16 e_17 (uZ e_18 i (-1)) _ _ _ (by omega) (by have h7 := hq3_20; rw [dfsW_t hok, List.length_append]; omega) (by rw [dfsW_t hok]; exact appd_app ha hqa_21) (pn_bk hpn hp0 (by omega) h6 hq6_19) (by omega) hP hR hS (lv_sub hl [1, 2, 3, 0] rfl)
          · have h9 : True := trivial
            refine lv_goto (tgt := 64) hx hb dX0_addBelow_32 (by decide) ?_
            refine z_iinc (lv' := [(3, .int (zI (↑i + 1))), (0, .ref (ad 42)), (1, .int (zI (x))), (2, .int (zI (y)))]) hx hb dX0_addBelow_64 hl (k := 3) rfl (by decide) rfl (fun ls hl => ?_)
            refine lv_goto (tgt := 16) hx hb dX0_addBelow_67 (by decide) ?_
            exact ih_16 (i + 1) z3 g4 g5 g6 _ _ _ (by omega) (by rw [dfsW_f c_8]; exact hz3) (by rw [dfsW_f c_8]; exact ha) (h6) (by omega) hP hR hS (lv_sub hl [1, 2, 3, 0] rfl)
    have hP : va_P D vwCl (cW cI cZ ad (sA S 3 (fun _ => S 3 0))) _ := hP
    have hR : RS (sA S 3 (fun _ => S 3 0)) := hR.one (hR 3 0 (by decide)).1 (hR 3 0 (by decide)).2
    have hSe_23 : sA S 3 (fun _ => S 3 0) = sA (sA (sA (sA S 3 (fun _ => S 3 0)) 4 (S 4)) 5 (S 5)) 6 (S 6) := by
      funext k8
      by_cases e80 : k8 = 3
      · subst e80; funext j8; first | rfl | exact hsc_3 j8
      by_cases e81 : k8 = 4
      · subst e81; first | rfl | (funext j8; rfl)
      by_cases e82 : k8 = 5
      · subst e82; first | rfl | (funext j8; rfl)
      by_cases e83 : k8 = 6
      · subst e83; first | rfl | (funext j8; rfl)
      simp [sA, e80, e81, e82, e83]
    rw [hSe_23] at hP hR
    exact cut_16 _ 0 (S 3 0) (S 4) (S 5) (S 6) _ _ _ (by omega) (by rw [hsz]; exact (Int.add_zero _).symm) (appd_nil _ _ _ _) (fun v hv => rfl) (Nat.lt_succ_self _) hP hR hS (lv_sub hl [1, 2, 3, 0] rfl)
  · have h9 : True := trivial
    refine lv_aload_n hx hb dX0_addBelow_8 rfl (lv_at hl 0 rfl) ?_
    refine lv_iload_n hx hb dX0_addBelow_9 rfl (lv_at hl 2 rfl) ?_
    refine g_callVv (As := [.int (zI (y))]) (rest := []) ⟨hx, hb, hml, hown, hts⟩ (k_X0_keep l D cI cZ ad az av hinj S hR n hn hn7 o hpn hol sz hsz (by rw [show dd = 0 by omega] at hcap; exact hcap) hg (by omega) y (hy9)) (cwV 1 hts (gV hsub q_328 q_330 q_sX0_keep q_3 q_331) rfl rfl rfl hdX0_keep ⟨Nat.le_of_ble_eq_true rfl, Nat.le_of_ble_eq_true rfl⟩) (cEb D cI cZ ad az av) (cEk D cI cZ ad az av) hE (va_recv (ci := 0) (q0 := 2) hK hP rfl rfl) hP hS rfl hl.1 rfl (Nat.le_of_ble_eq_true rfl) dX0_addBelow_10 ⟨Nat.le_of_ble_eq_true rfl, Nat.le_of_ble_eq_true rfl⟩ (fun S_25 H locs hq_26 hP hR hS _ => ?_)
    obtain rfl := hq_26
    have hP : va_P D vwCl (cW cI cZ ad (sA (sA (sA S 4 (uZ (S 4) sz (cdO o))) 5 (uZ (S 5) sz (plO n o))) 3 (fun _ => ↑sz + 1))) H := hP
    have hR : RS (sA (sA (sA S 4 (uZ (S 4) sz (cdO o))) 5 (uZ (S 5) sz (plO n o))) 3 (fun _ => ↑sz + 1)) := hR
    have hSe_27 : sA (sA (sA S 4 (uZ (S 4) sz (cdO o))) 5 (uZ (S 5) sz (plO n o))) 3 (fun _ => ↑sz + 1) = sA (sA (sA (sA S 3 (fun _ => ↑sz + 1)) 4 (uZ (S 4) sz (cdO o))) 5 (uZ (S 5) sz (plO n o))) 6 (S 6) := by
      funext k8
      by_cases e80 : k8 = 3
      · subst e80; first | rfl | (funext j8; rfl)
      by_cases e81 : k8 = 4
      · subst e81; first | rfl | (funext j8; rfl)
      by_cases e82 : k8 = 5
      · subst e82; first | rfl | (funext j8; rfl)
      by_cases e83 : k8 = 6
      · subst e83; first | rfl | (funext j8; rfl)
      simp [sA, e80, e81, e82, e83]
    rw [hSe_27] at hP hR
    exact g_vret (S1 := sA (sA (sA (sA S 3 (fun _ => ↑sz + 1)) 4 (uZ (S 4) sz (cdO o))) 5 (uZ (S 5) sz (plO n o))) 6 (S 6)) hx hb hr hlocks hP hR hS (⟨_, _, _, _, rfl, fun v hv => rfl, by rw [show dd = 0 by omega]; rfl, by rw [show dd = 0 by omega]; exact appd_one n sz o _ _⟩) dX0_addBelow_13
set_option maxHeartbeats 4000000 in
set_option maxRecDepth 100000 in
theorem k_X0_addBelow_3 (l : Launch) (D : va_G) (cI cZ : ClassId) (ad : Nat → Nat) (az av : Nat) (hinj : cInj ad) (S : St) (hR : RS S) (n : Nat) (hn : S 2 0 = ↑n) (hn7 : n ≤ 7) (o : List Nat) (hpn : ∀ v, v < n → S 6 v = (pnN o v : Int) - 1) (hol : o.length ≤ 7) (sz : Nat) (hsz : S 3 0 = ↑sz) (dd : Nat) (hdd : dd ≤ 3) (hg : gdO n o) (hlen : o.length + dd = n) (hcap : sz + (dfs n dd o).length ≤ 462) (x y : Int) (hx9 : x = ↑o.length) (hy9 : y = cdO o) : Met l yX0_addBelow (Cond.code yX0_addBelow cX0_addBelow 4 none :: lwT) ({ frames := 5, cells := 0, slots := 0, locals := 115 }) (gPc D (cW cI cZ ad) (cE D cI cZ ad az av) S [.ref (ad 42), .int (zI (x)), .int (zI (y))]) (va_Qv (fun (S' : St) => ∃ e3 e4 e5 e6, S' = sA (sA (sA (sA S 3 e3) 4 e4) 5 e5) 6 e6 ∧ (∀ v, v < n → e6 v = S 6 v) ∧ e3 0 = ↑sz + ↑(dfs n dd o).length ∧ appd n sz (dfs n dd o) (S 4) (S 5) e4 e5) (gB D (cW cI cZ ad)) (cA ad)) 0 0 (cA ad) := by
  refine Met.ofW (cc := cX0_addBelow) (maxL := 4) (ret := none) (by decide) rfl ?_
  intro p e s m args below meth c s₁ B hml hv
  obtain ⟨rfl, hP, hE⟩ := hv
  have hx := B.exec
  have hb := B.bytes
  have hr := B.returns
  have hts := atoms_spec (ws := Cond.code yX0_addBelow cX0_addBelow 4 none :: lwT) B.pre
  have hT := fun w (h : w ∈ lwT) => hts w (List.mem_cons_of_mem _ h)
  have hsub : ∀ w ∈ lwT, w ∈ (Cond.code yX0_addBelow cX0_addBelow 4 none :: lwT) := fun w h => List.mem_cons_of_mem _ h
  have hown : s.vm.findClass RX0 = some m.cls := findClass_of_methodNamed B.named
  have hlocks := B.notSynchronized
  have hK : va_K D vwCl [(cI, .int), (cZ, .boolean)] s := hE.1
  have hS : va_S (cA ad) s.heap s.heap [] := va_S.rf
  have hl := lv_entry ([.ref (ad 42), .int (zI (x)), .int (zI (y))]) (n := 4) (Nat.le_of_ble_eq_true rfl)
  rw [lg_entry_eq]
  generalize (lg_sl ([.ref (ad 42), .int (zI (x)), .int (zI (y))]) ++ List.replicate (4 - (lg_sl ([.ref (ad 42), .int (zI (x)), .int (zI (y))])).length) Slot.unset).toArray = ls at hl ⊢
  have hl : lv_has ls 4 [(0, .ref (ad 42)), (1, .int (zI (x))), (2, .int (zI (y)))] := hl
  have hcr := cdO_r hn7 hg
  refine lv_iload_n hx hb dX0_addBelow_0 rfl (lv_at hl 1 rfl) ?_
  refine lv_aload_n hx hb dX0_addBelow_1 rfl (lv_at hl 0 rfl) ?_
  have g_1 : -2147483648 ≤ S 2 0 ∧ S 2 0 < 2147483648 := hR 2 0 (by decide)
  refine va_get (D := D) (ci := 0) (v := .int (zI (S 2 0))) (C := RX0) (T := TX0) (N := 5) hx hb hT inX0 hown hK hP 2 rfl rfl 0 (by decide) (hT _ q_45) (fun _ h9 => h9) rfl dX0_addBelow_2 ?_
  refine z_icmp_lt (tgt := 14) hx hb (by omega) (by omega) (by omega) (by omega) dX0_addBelow_5 (by decide) (fun c_2 => ?_) (fun c_2 => ?_)
  · have h9 : True := trivial
    have hd0 : dd ≠ 0 := by omega
    have hds := dfs_p n o hd0
    have hol7 : o.length < 7 := by omega
    refine z_iconst hx hb dX0_addBelow_14 ?_
    refine lv_istore_n (lv' := [(3, .int (zI (0))), (0, .ref (ad 42)), (1, .int (zI (x))), (2, .int (zI (y)))]) hx hb dX0_addBelow_15 rfl hl (by decide) rfl (fun ls hl => ?_)
    have cut_16 : ∀ (k9 : Nat) (i : Nat) (z3 : Int) (g4 : Nat → Int) (g5 : Nat → Int) (g6 : Nat → Int) (H : Heap) (locs : List Loc) (ls : Array Slot), (i ≤ n) → (z3 = ↑sz + ↑(dfsW n (dfs n (dd - 1)) o i).length) → (appd n sz (dfsW n (dfs n (dd - 1)) o i) (S 4) (S 5) g4 g5) → (∀ v, v < n → g6 v = S 6 v) → (n - i) < k9 → va_P D vwCl (cW cI cZ ad (sA (sA (sA (sA S 3 (fun _ => z3)) 4 g4) 5 g5) 6 g6)) H → RS (sA (sA (sA (sA S 3 (fun _ => z3)) 4 g4) 5 g5) 6 g6) → va_S (cA ad) s.heap H locs → lv_has ls 4 [(0, .ref (ad 42)), (1, .int (zI (x))), (2, .int (zI (y))), (3, .int (zI (↑i)))] → W p l e (headSpec (Cond.code yX0_addBelow cX0_addBelow 4 none :: lwT) ({ frames := 5, cells := 0, slots := 0, locals := 115 })).room s m ([.ref (ad 42), .int (zI (x)), .int (zI (y))] : List Value).toArray below meth c H locs 0 0 (MQ below (va_Qv (fun (S' : St) => ∃ e3 e4 e5 e6, S' = sA (sA (sA (sA S 3 e3) 4 e4) 5 e5) 6 e6 ∧ (∀ v, v < n → e6 v = S 6 v) ∧ e3 0 = ↑sz + ↑(dfs n dd o).length ∧ appd n sz (dfs n dd o) (S 4) (S 5) e4 e5) (gB D (cW cI cZ ad)) (cA ad)) ([.ref (ad 42), .int (zI (x)), .int (zI (y))] : List Value).toArray s 0 0 (cA ad)) (F0 m 16 ls []) := by
      intro k9
      induction k9 with
      | zero =>
        intro i z3 g4 g5 g6 H locs ls hi hz3 ha h6 hk9 hP hR hS hl
        exact absurd hk9 (Nat.not_lt_zero _)
      | succ k9 ih_16 =>
        intro i z3 g4 g5 g6 H locs ls hi hz3 ha h6 hk9 hP hR hS hl
        refine lv_iload_n hx hb dX0_addBelow_16 rfl (lv_at hl 3 rfl) ?_
        refine lv_aload_n hx hb dX0_addBelow_17 rfl (lv_at hl 0 rfl) ?_
        have g_3 : -2147483648 ≤ S 2 0 ∧ S 2 0 < 2147483648 := hR 2 0 (by decide)
        refine va_get (D := D) (ci := 0) (v := .int (zI (S 2 0))) (C := RX0) (T := TX0) (N := 5) hx hb hT inX0 hown hK hP 2 rfl rfl 0 (by decide) (hT _ q_45) (fun _ h9 => h9) rfl dX0_addBelow_18 ?_
        refine z_icmp_ge (tgt := 70) hx hb (by omega) (by omega) (by omega) (by omega) dX0_addBelow_21 (by decide) (fun c_4 => ?_) (fun c_4 => ?_)
        · have h9 : True := trivial
          exact g_vret (S1 := sA (sA (sA (sA S 3 (fun _ => z3)) 4 g4) 5 g5) 6 g6) hx hb hr hlocks hP hR hS (⟨_, _, _, _, rfl, h6, by rw [show i = n by omega] at hz3; rw [hds]; exact hz3, by rw [show i = n by omega] at ha; rw [hds]; exact ha⟩) dX0_addBelow_70
        · have h9 : True := trivial
          refine lv_aload_n hx hb dX0_addBelow_24 rfl (lv_at hl 0 rfl) ?_
          refine lv_iload_n hx hb dX0_addBelow_25 rfl (lv_at hl 3 rfl) ?_
          refine g_callVi (As := [.int (zI (↑i))]) (rest := []) ⟨hx, hb, hml, hown, hts⟩ (k_X0_canComeNext l D cI cZ ad az av hinj (sA (sA (sA (sA S 3 (fun _ => z3)) 4 g4) 5 g5) 6 g6) hR n hn hn7 o (fun v hv => (h6 v hv).trans (hpn v hv)) hol i ↑i (by omega) (by omega)) (cwV 1 hts (gV hsub q_332 q_334 q_sX0_canComeNext q_3 q_335) rfl rfl rfl hdX0_canComeNext ⟨Nat.le_of_ble_eq_true rfl, Nat.le_of_ble_eq_true rfl⟩) (cEb D cI cZ ad az av) (cEk D cI cZ ad az av) hE (va_recv (ci := 0) (q0 := 2) hK hP rfl rfl) hP hS rfl hl.1 rfl (Nat.le_of_ble_eq_true rfl) dX0_addBelow_26 ⟨Nat.le_of_ble_eq_true rfl, Nat.le_of_ble_eq_true rfl⟩ (fun r_5 S_6 H locs hq_7 hP hR hS _ => ?_)
          obtain ⟨hs9, rfl⟩ := hq_7
          obtain rfl := hs9.symm
          refine z_top (b := b2 (okN n o i)) rfl ?_
          refine z_ifneB (tgt := 35) hx hb dX0_addBelow_29 (by decide) (fun c_8 => ?_) (fun c_8 => ?_)
          · have h9 : True := trivial
            have hok := c_8
            have hp0 := okN_n hok
            have hcap2 := dfsW_cap (F := dfs n (dd - 1)) hok (by omega)
            rw [← hds] at hcap2
            refine lv_aload_n hx hb dX0_addBelow_35 rfl (lv_at hl 0 rfl) ?_
            refine va_get (D := D) (ci := 0) (v := .ref (ad 6)) (C := RX0) (T := TX0) (N := 5) hx hb hT inX0 hown hK hP 2 rfl rfl 4 (by decide) (hT _ q_57) (fun _ h9 => h9) rfl dX0_addBelow_36 ?_
            refine lv_iload_n hx hb dX0_addBelow_39 rfl (lv_at hl 3 rfl) ?_
            refine lv_iload_n hx hb dX0_addBelow_40 rfl (lv_at hl 1 rfl) ?_
            refine z_ast (f := (sA (sA (sA (sA S 3 (fun _ => z3)) 4 g4) 5 g5) 6 g6) 6) (i := ↑i) (v := x) hx hb hK hP (cD hinj cI cZ _) hS 11 0 rfl rfl (by omega) (by omega) (by decide) dX0_addBelow_41 (fun H locs hP hS => ?_)
            have hP : va_P D vwCl (cW cI cZ ad (sA (sA (sA (sA S 3 (fun _ => z3)) 4 g4) 5 g5) 6 (uZ g6 i x))) H := hP
            have hR : RS (sA (sA (sA (sA S 3 (fun _ => z3)) 4 g4) 5 g5) 6 (uZ g6 i x)) := hR.put' (by omega) (by omega)
            refine lv_aload_n hx hb dX0_addBelow_42 rfl (lv_at hl 0 rfl) ?_
            refine lv_iload_n hx hb dX0_addBelow_43 rfl (lv_at hl 1 rfl) ?_
            refine z_iconst hx hb dX0_addBelow_44 ?_
            refine z_iadd hx hb dX0_addBelow_45 ?_
            refine lv_iload_n hx hb dX0_addBelow_46 rfl (lv_at hl 2 rfl) ?_
            refine lv_iload_n hx hb dX0_addBelow_47 rfl (lv_at hl 3 rfl) ?_
            refine lv_iload_n hx hb dX0_addBelow_48 rfl (lv_at hl 1 rfl) ?_
            refine s_callSi (As := [.int (zI (x))]) (rest := [.int (zI (↑i)), .int (zI (y)), .int (zI (x + 1)), .ref (ad 42)]) ⟨hx, hb, hml, hown, hts⟩ (k_X0_shiftOf l (o.length) x (by omega) (by omega)) (cwS 1 hts (gS hsub q_344 q_345 q_3 q_346) rfl rfl rfl hdX0_shiftOf ⟨Nat.le_of_ble_eq_true rfl, Nat.le_of_ble_eq_true rfl⟩) rfl hl.1 rfl (Nat.le_of_ble_eq_true rfl) dX0_addBelow_49 ⟨Nat.le_of_ble_eq_true rfl, Nat.le_of_ble_eq_true rfl⟩ (fun r_9 hq_11 => ?_)
            rw [hq_11]
            have hpw := pw2 (3 * (6 - o.length)) (by omega)
            have hpw3 : (2 : Int) ^ (3 * (6 - o.length) + 3) = 2 ^ (3 * (6 - o.length)) * 8 := by rw [Int.pow_add]; rfl
            have hb0 : 0 ≤ (↑i : Int) * 2 ^ (3 * (6 - o.length)) := Int.mul_nonneg (by omega) (by omega)
            have hb1 : (↑i : Int) * 2 ^ (3 * (6 - o.length)) < 2 ^ (3 * (6 - o.length) + 3) := by rw [hpw3, Int.mul_comm]; exact Int.mul_lt_mul_of_pos_left (by omega) (by omega)
            have hw21 := pw2 (3 * (6 - o.length) + 3) (by omega)
            refine z_ishl hx hb (3 * (6 - o.length)) (by omega) (by omega) (by omega) (by omega) dX0_addBelow_52 ?_
            refine z_iorS hx hb (3 * (6 - o.length) + 3) (by omega) (by rw [hy9]; exact cdO_mod hol7) (by omega) (by omega) dX0_addBelow_53 ?_
            refine g_callSv (As := [.ref (ad 42), .int (zI (x + 1)), .int (zI (y + (↑i * 2 ^ (3 * (6 - o.length)))))]) (rest := []) ⟨hx, hb, hml, hown, hts⟩ (k_X0_addBelow_2 l D cI cZ ad az av hinj (sA (sA (sA (sA S 3 (fun _ => z3)) 4 g4) 5 g5) 6 (uZ g6 i x)) hR n hn hn7 (o ++ [i]) (pn_up (fun v hv => (h6 v hv).trans (hpn v hv)) hp0 hx9) (by rw [List.length_append, List.length_singleton]; omega) (sz + (dfsW n (dfs n (dd - 1)) o i).length) (show z3 = ((sz + (dfsW n (dfs n (dd - 1)) o i).length : Nat) : Int) by omega) (dd - 1) (by omega) (gdO_snoc hg (by omega) hp0) (by rw [List.length_append, List.length_singleton]; omega) (by omega) (x + 1) (y + (↑i * 2 ^ (3 * (6 - o.length)))) (by rw [List.length_append, List.length_singleton]; omega) (by rw [hy9]; exact cdO_snoc hol7)) (cwS 3 hts (gS hsub q_325 q_326 q_3 q_327) rfl rfl rfl hdX0_addBelow ⟨Nat.le_of_ble_eq_true rfl, Nat.le_of_ble_eq_true rfl⟩) (cEb D cI cZ ad az av) (cEk D cI cZ ad az av) hE hP hS rfl hl.1 rfl (Nat.le_of_ble_eq_true rfl) dX0_addBelow_54 ⟨Nat.le_of_ble_eq_true rfl, Nat.le_of_ble_eq_true rfl⟩ (fun S_13 H locs hq_14 hP hR hS _ => ?_)
            obtain ⟨e_15, e_16, e_17, e_18, rfl, hq6_19, hq3_20, hqa_21⟩ := hq_14
            have hq6 := hq6_19
            refine lv_aload_n hx hb dX0_addBelow_57 rfl (lv_at hl 0 rfl) ?_
            refine va_get (D := D) (ci := 0) (v := .ref (ad 6)) (C := RX0) (T := TX0) (N := 5) hx hb hT inX0 hown hK hP 2 rfl rfl 4 (by decide) (hT _ q_57) (fun _ h9 => h9) rfl dX0_addBelow_58 ?_
            refine lv_iload_n hx hb dX0_addBelow_61 rfl (lv_at hl 3 rfl) ?_
            refine z_iconst hx hb dX0_addBelow_62 ?_
            refine z_ast (f := (sA (sA (sA (sA (sA (sA (sA (sA S 3 (fun _ => z3)) 4 g4) 5 g5) 6 (uZ g6 i x)) 3 e_15) 4 e_16) 5 e_17) 6 e_18) 6) (i := ↑i) (v := -1) hx hb hK hP (cD hinj cI cZ _) hS 11 0 rfl rfl (by omega) (by omega) (by decide) dX0_addBelow_63 (fun H locs hP hS => ?_)
            have hP : va_P D vwCl (cW cI cZ ad (sA (sA (sA (sA (sA (sA (sA (sA S 3 (fun _ => z3)) 4 g4) 5 g5) 6 (uZ g6 i x)) 3 e_15) 4 e_16) 5 e_17) 6 (uZ e_18 i (-1)))) H := hP
            have hR : RS (sA (sA (sA (sA (sA (sA (sA (sA S 3 (fun _ => z3)) 4 g4) 5 g5) 6 (uZ g6 i x)) 3 e_15) 4 e_16) 5 e_17) 6 (uZ e_18 i (-1))) := hR.put' (by omega) (by omega)
            refine z_iinc (lv' := [(3, .int (zI (↑i + 1))), (0, .ref (ad 42)), (1, .int (zI (x))), (2, .int (zI (y)))]) hx hb dX0_addBelow_64 hl (k := 3) rfl (by decide) rfl (fun ls hl => ?_)
            refine lv_goto (tgt := 16) hx hb dX0_addBelow_67 (by decide) ?_
            have hP : va_P D vwCl (cW cI cZ ad (sA (sA (sA (sA (sA (sA (sA (sA (sA S 3 (fun _ => z3)) 4 g4) 5 g5) 6 (uZ g6 i x)) 3 e_15) 4 e_16) 5 e_17) 6 (uZ e_18 i (-1))) 3 (fun _ => e_15 0))) _ := hP
            have hR : RS (sA (sA (sA (sA (sA (sA (sA (sA (sA S 3 (fun _ => z3)) 4 g4) 5 g5) 6 (uZ g6 i x)) 3 e_15) 4 e_16) 5 e_17) 6 (uZ e_18 i (-1))) 3 (fun _ => e_15 0)) := hR.one (hR 3 0 (by decide)).1 (hR 3 0 (by decide)).2
            have hSe_22 : sA (sA (sA (sA (sA (sA (sA (sA (sA S 3 (fun _ => z3)) 4 g4) 5 g5) 6 (uZ g6 i x)) 3 e_15) 4 e_16) 5 e_17) 6 (uZ e_18 i (-1))) 3 (fun _ => e_15 0) = sA (sA (sA (sA S 3 (fun _ => e_15 0)) 4 e_16) 5 e_17) 6 (uZ e_18 i (-1)) := by
              funext k8
              by_cases e80 : k8 = 3
              · subst e80; funext j8; first | rfl | exact hsc_3 j8
              by_cases e81 : k8 = 4
              · subst e81; first | rfl | (funext j8; rfl)
              by_cases e82 : k8 = 5
              · subst e82; first | rfl | (funext j8; rfl)
              by_cases e83 : k8 = 6
              · subst e83; first | rfl | (funext j8; rfl)
              simp [sA, e80, e81, e82, e83]
            rw [hSe_22] at hP hR
            exact ih_16 (i + 1) (e_15 0) e_16 e_17 (uZ e_18 i (-1)) _ _ _ (by omega) (by have h7 := hq3_20; rw [dfsW_t hok, List.length_append]; omega) (by rw [dfsW_t hok]; exact appd_app ha hqa_21) (pn_bk hpn hp0 (by omega) h6 hq6_19) (by omega) hP hR hS (lv_sub hl [1, 2, 3, 0] rfl)
          · have h9 : True := trivial
            refine lv_goto (tgt := 64) hx hb dX0_addBelow_32 (by decide) ?_
            refine z_iinc (lv' := [(3, .int (zI (↑i + 1))), (0, .ref (ad 42)), (1, .int (zI (x))), (2, .int (zI (y)))]) hx hb dX0_addBelow_64 hl (k := 3) rfl (by decide) rfl (fun ls hl => ?_)
            refine lv_goto (tgt := 16) hx hb dX0_addBelow_67 (by decide) ?_
            exact ih_16 (i + 1) z3 g4 g5 g6 _ _ _ (by omega) (by rw [dfsW_f c_8]; exact hz3) (by rw [dfsW_f c_8]; exact ha) (h6) (by omega) hP hR hS (lv_sub hl [1, 2, 3, 0] rfl)
    have hP : va_P D vwCl (cW cI cZ ad (sA S 3 (fun _ => S 3 0))) _ := hP
    have hR : RS (sA S 3 (fun _ => S 3 0)) := hR.one (hR 3 0 (by decide)).1 (hR 3 0 (by decide)).2
    have hSe_23 : sA S 3 (fun _ => S 3 0) = sA (sA (sA (sA S 3 (fun _ => S 3 0)) 4 (S 4)) 5 (S 5)) 6 (S 6) := by
      funext k8
      by_cases e80 : k8 = 3
      · subst e80; funext j8; first | rfl | exact hsc_3 j8
      by_cases e81 : k8 = 4
      · subst e81; first | rfl | (funext j8; rfl)
      by_cases e82 : k8 = 5
      · subst e82; first | rfl | (funext j8; rfl)
      by_cases e83 : k8 = 6
      · subst e83; first | rfl | (funext j8; rfl)
      simp [sA, e80, e81, e82, e83]
    rw [hSe_23] at hP hR
    exact cut_16 _ 0 (S 3 0) (S 4) (S 5) (S 6) _ _ _ (by omega) (by rw [hsz]; exact (Int.add_zero _).symm) (appd_nil _ _ _ _) (fun v hv => rfl) (Nat.lt_succ_self _) hP hR hS (lv_sub hl [1, 2, 3, 0] rfl)
  · have h9 : True := trivial
    refine lv_aload_n hx hb dX0_addBelow_8 rfl (lv_at hl 0 rfl) ?_
    refine lv_iload_n hx hb dX0_addBelow_9 rfl (lv_at hl 2 rfl) ?_
    refine g_callVv (As := [.int (zI (y))]) (rest := []) ⟨hx, hb, hml, hown, hts⟩ (k_X0_keep l D cI cZ ad az av hinj S hR n hn hn7 o hpn hol sz hsz (by rw [show dd = 0 by omega] at hcap; exact hcap) hg (by omega) y (hy9)) (cwV 1 hts (gV hsub q_328 q_330 q_sX0_keep q_3 q_331) rfl rfl rfl hdX0_keep ⟨Nat.le_of_ble_eq_true rfl, Nat.le_of_ble_eq_true rfl⟩) (cEb D cI cZ ad az av) (cEk D cI cZ ad az av) hE (va_recv (ci := 0) (q0 := 2) hK hP rfl rfl) hP hS rfl hl.1 rfl (Nat.le_of_ble_eq_true rfl) dX0_addBelow_10 ⟨Nat.le_of_ble_eq_true rfl, Nat.le_of_ble_eq_true rfl⟩ (fun S_25 H locs hq_26 hP hR hS _ => ?_)
    obtain rfl := hq_26
    have hP : va_P D vwCl (cW cI cZ ad (sA (sA (sA S 4 (uZ (S 4) sz (cdO o))) 5 (uZ (S 5) sz (plO n o))) 3 (fun _ => ↑sz + 1))) H := hP
    have hR : RS (sA (sA (sA S 4 (uZ (S 4) sz (cdO o))) 5 (uZ (S 5) sz (plO n o))) 3 (fun _ => ↑sz + 1)) := hR
    have hSe_27 : sA (sA (sA S 4 (uZ (S 4) sz (cdO o))) 5 (uZ (S 5) sz (plO n o))) 3 (fun _ => ↑sz + 1) = sA (sA (sA (sA S 3 (fun _ => ↑sz + 1)) 4 (uZ (S 4) sz (cdO o))) 5 (uZ (S 5) sz (plO n o))) 6 (S 6) := by
      funext k8
      by_cases e80 : k8 = 3
      · subst e80; first | rfl | (funext j8; rfl)
      by_cases e81 : k8 = 4
      · subst e81; first | rfl | (funext j8; rfl)
      by_cases e82 : k8 = 5
      · subst e82; first | rfl | (funext j8; rfl)
      by_cases e83 : k8 = 6
      · subst e83; first | rfl | (funext j8; rfl)
      simp [sA, e80, e81, e82, e83]
    rw [hSe_27] at hP hR
    exact g_vret (S1 := sA (sA (sA (sA S 3 (fun _ => ↑sz + 1)) 4 (uZ (S 4) sz (cdO o))) 5 (uZ (S 5) sz (plO n o))) 6 (S 6)) hx hb hr hlocks hP hR hS (⟨_, _, _, _, rfl, fun v hv => rfl, by rw [show dd = 0 by omega]; rfl, by rw [show dd = 0 by omega]; exact appd_one n sz o _ _⟩) dX0_addBelow_13
set_option maxHeartbeats 4000000 in
set_option maxRecDepth 100000 in
theorem k_X0_addBelow_4 (l : Launch) (D : va_G) (cI cZ : ClassId) (ad : Nat → Nat) (az av : Nat) (hinj : cInj ad) (S : St) (hR : RS S) (n : Nat) (hn : S 2 0 = ↑n) (hn7 : n ≤ 7) (o : List Nat) (hpn : ∀ v, v < n → S 6 v = (pnN o v : Int) - 1) (hol : o.length ≤ 7) (sz : Nat) (hsz : S 3 0 = ↑sz) (dd : Nat) (hdd : dd ≤ 4) (hg : gdO n o) (hlen : o.length + dd = n) (hcap : sz + (dfs n dd o).length ≤ 462) (x y : Int) (hx9 : x = ↑o.length) (hy9 : y = cdO o) : Met l yX0_addBelow (Cond.code yX0_addBelow cX0_addBelow 4 none :: lwT) ({ frames := 6, cells := 0, slots := 0, locals := 138 }) (gPc D (cW cI cZ ad) (cE D cI cZ ad az av) S [.ref (ad 42), .int (zI (x)), .int (zI (y))]) (va_Qv (fun (S' : St) => ∃ e3 e4 e5 e6, S' = sA (sA (sA (sA S 3 e3) 4 e4) 5 e5) 6 e6 ∧ (∀ v, v < n → e6 v = S 6 v) ∧ e3 0 = ↑sz + ↑(dfs n dd o).length ∧ appd n sz (dfs n dd o) (S 4) (S 5) e4 e5) (gB D (cW cI cZ ad)) (cA ad)) 0 0 (cA ad) := by
  refine Met.ofW (cc := cX0_addBelow) (maxL := 4) (ret := none) (by decide) rfl ?_
  intro p e s m args below meth c s₁ B hml hv
  obtain ⟨rfl, hP, hE⟩ := hv
  have hx := B.exec
  have hb := B.bytes
  have hr := B.returns
  have hts := atoms_spec (ws := Cond.code yX0_addBelow cX0_addBelow 4 none :: lwT) B.pre
  have hT := fun w (h : w ∈ lwT) => hts w (List.mem_cons_of_mem _ h)
  have hsub : ∀ w ∈ lwT, w ∈ (Cond.code yX0_addBelow cX0_addBelow 4 none :: lwT) := fun w h => List.mem_cons_of_mem _ h
  have hown : s.vm.findClass RX0 = some m.cls := findClass_of_methodNamed B.named
  have hlocks := B.notSynchronized
  have hK : va_K D vwCl [(cI, .int), (cZ, .boolean)] s := hE.1
  have hS : va_S (cA ad) s.heap s.heap [] := va_S.rf
  have hl := lv_entry ([.ref (ad 42), .int (zI (x)), .int (zI (y))]) (n := 4) (Nat.le_of_ble_eq_true rfl)
  rw [lg_entry_eq]
  generalize (lg_sl ([.ref (ad 42), .int (zI (x)), .int (zI (y))]) ++ List.replicate (4 - (lg_sl ([.ref (ad 42), .int (zI (x)), .int (zI (y))])).length) Slot.unset).toArray = ls at hl ⊢
  have hl : lv_has ls 4 [(0, .ref (ad 42)), (1, .int (zI (x))), (2, .int (zI (y)))] := hl
  have hcr := cdO_r hn7 hg
  refine lv_iload_n hx hb dX0_addBelow_0 rfl (lv_at hl 1 rfl) ?_
  refine lv_aload_n hx hb dX0_addBelow_1 rfl (lv_at hl 0 rfl) ?_
  have g_1 : -2147483648 ≤ S 2 0 ∧ S 2 0 < 2147483648 := hR 2 0 (by decide)
  refine va_get (D := D) (ci := 0) (v := .int (zI (S 2 0))) (C := RX0) (T := TX0) (N := 5) hx hb hT inX0 hown hK hP 2 rfl rfl 0 (by decide) (hT _ q_45) (fun _ h9 => h9) rfl dX0_addBelow_2 ?_
  refine z_icmp_lt (tgt := 14) hx hb (by omega) (by omega) (by omega) (by omega) dX0_addBelow_5 (by decide) (fun c_2 => ?_) (fun c_2 => ?_)
  · have h9 : True := trivial
    have hd0 : dd ≠ 0 := by omega
    have hds := dfs_p n o hd0
    have hol7 : o.length < 7 := by omega
    refine z_iconst hx hb dX0_addBelow_14 ?_
    refine lv_istore_n (lv' := [(3, .int (zI (0))), (0, .ref (ad 42)), (1, .int (zI (x))), (2, .int (zI (y)))]) hx hb dX0_addBelow_15 rfl hl (by decide) rfl (fun ls hl => ?_)
    have cut_16 : ∀ (k9 : Nat) (i : Nat) (z3 : Int) (g4 : Nat → Int) (g5 : Nat → Int) (g6 : Nat → Int) (H : Heap) (locs : List Loc) (ls : Array Slot), (i ≤ n) → (z3 = ↑sz + ↑(dfsW n (dfs n (dd - 1)) o i).length) → (appd n sz (dfsW n (dfs n (dd - 1)) o i) (S 4) (S 5) g4 g5) → (∀ v, v < n → g6 v = S 6 v) → (n - i) < k9 → va_P D vwCl (cW cI cZ ad (sA (sA (sA (sA S 3 (fun _ => z3)) 4 g4) 5 g5) 6 g6)) H → RS (sA (sA (sA (sA S 3 (fun _ => z3)) 4 g4) 5 g5) 6 g6) → va_S (cA ad) s.heap H locs → lv_has ls 4 [(0, .ref (ad 42)), (1, .int (zI (x))), (2, .int (zI (y))), (3, .int (zI (↑i)))] → W p l e (headSpec (Cond.code yX0_addBelow cX0_addBelow 4 none :: lwT) ({ frames := 6, cells := 0, slots := 0, locals := 138 })).room s m ([.ref (ad 42), .int (zI (x)), .int (zI (y))] : List Value).toArray below meth c H locs 0 0 (MQ below (va_Qv (fun (S' : St) => ∃ e3 e4 e5 e6, S' = sA (sA (sA (sA S 3 e3) 4 e4) 5 e5) 6 e6 ∧ (∀ v, v < n → e6 v = S 6 v) ∧ e3 0 = ↑sz + ↑(dfs n dd o).length ∧ appd n sz (dfs n dd o) (S 4) (S 5) e4 e5) (gB D (cW cI cZ ad)) (cA ad)) ([.ref (ad 42), .int (zI (x)), .int (zI (y))] : List Value).toArray s 0 0 (cA ad)) (F0 m 16 ls []) := by
      intro k9
      induction k9 with
      | zero =>
        intro i z3 g4 g5 g6 H locs ls hi hz3 ha h6 hk9 hP hR hS hl
        exact absurd hk9 (Nat.not_lt_zero _)
      | succ k9 ih_16 =>
        intro i z3 g4 g5 g6 H locs ls hi hz3 ha h6 hk9 hP hR hS hl
        refine lv_iload_n hx hb dX0_addBelow_16 rfl (lv_at hl 3 rfl) ?_
        refine lv_aload_n hx hb dX0_addBelow_17 rfl (lv_at hl 0 rfl) ?_
        have g_3 : -2147483648 ≤ S 2 0 ∧ S 2 0 < 2147483648 := hR 2 0 (by decide)
        refine va_get (D := D) (ci := 0) (v := .int (zI (S 2 0))) (C := RX0) (T := TX0) (N := 5) hx hb hT inX0 hown hK hP 2 rfl rfl 0 (by decide) (hT _ q_45) (fun _ h9 => h9) rfl dX0_addBelow_18 ?_
        refine z_icmp_ge (tgt := 70) hx hb (by omega) (by omega) (by omega) (by omega) dX0_addBelow_21 (by decide) (fun c_4 => ?_) (fun c_4 => ?_)
        · have h9 : True := trivial
          exact g_vret (S1 := sA (sA (sA (sA S 3 (fun _ => z3)) 4 g4) 5 g5) 6 g6) hx hb hr hlocks hP hR hS (⟨_, _, _, _, rfl, h6, by rw [show i = n by omega] at hz3; rw [hds]; exact hz3, by rw [show i = n by omega] at ha; rw [hds]; exact ha⟩) dX0_addBelow_70
        · have h9 : True := trivial
          refine lv_aload_n hx hb dX0_addBelow_24 rfl (lv_at hl 0 rfl) ?_
          refine lv_iload_n hx hb dX0_addBelow_25 rfl (lv_at hl 3 rfl) ?_
          refine g_callVi (As := [.int (zI (↑i))]) (rest := []) ⟨hx, hb, hml, hown, hts⟩ (k_X0_canComeNext l D cI cZ ad az av hinj (sA (sA (sA (sA S 3 (fun _ => z3)) 4 g4) 5 g5) 6 g6) hR n hn hn7 o (fun v hv => (h6 v hv).trans (hpn v hv)) hol i ↑i (by omega) (by omega)) (cwV 1 hts (gV hsub q_332 q_334 q_sX0_canComeNext q_3 q_335) rfl rfl rfl hdX0_canComeNext ⟨Nat.le_of_ble_eq_true rfl, Nat.le_of_ble_eq_true rfl⟩) (cEb D cI cZ ad az av) (cEk D cI cZ ad az av) hE (va_recv (ci := 0) (q0 := 2) hK hP rfl rfl) hP hS rfl hl.1 rfl (Nat.le_of_ble_eq_true rfl) dX0_addBelow_26 ⟨Nat.le_of_ble_eq_true rfl, Nat.le_of_ble_eq_true rfl⟩ (fun r_5 S_6 H locs hq_7 hP hR hS _ => ?_)
          obtain ⟨hs9, rfl⟩ := hq_7
          obtain rfl := hs9.symm
          refine z_top (b := b2 (okN n o i)) rfl ?_
          refine z_ifneB (tgt := 35) hx hb dX0_addBelow_29 (by decide) (fun c_8 => ?_) (fun c_8 => ?_)
          · have h9 : True := trivial
            have hok := c_8
            have hp0 := okN_n hok
            have hcap2 := dfsW_cap (F := dfs n (dd - 1)) hok (by omega)
            rw [← hds] at hcap2
            refine lv_aload_n hx hb dX0_addBelow_35 rfl (lv_at hl 0 rfl) ?_
            refine va_get (D := D) (ci := 0) (v := .ref (ad 6)) (C := RX0) (T := TX0) (N := 5) hx hb hT inX0 hown hK hP 2 rfl rfl 4 (by decide) (hT _ q_57) (fun _ h9 => h9) rfl dX0_addBelow_36 ?_
            refine lv_iload_n hx hb dX0_addBelow_39 rfl (lv_at hl 3 rfl) ?_
            refine lv_iload_n hx hb dX0_addBelow_40 rfl (lv_at hl 1 rfl) ?_
            refine z_ast (f := (sA (sA (sA (sA S 3 (fun _ => z3)) 4 g4) 5 g5) 6 g6) 6) (i := ↑i) (v := x) hx hb hK hP (cD hinj cI cZ _) hS 11 0 rfl rfl (by omega) (by omega) (by decide) dX0_addBelow_41 (fun H locs hP hS => ?_)
            have hP : va_P D vwCl (cW cI cZ ad (sA (sA (sA (sA S 3 (fun _ => z3)) 4 g4) 5 g5) 6 (uZ g6 i x))) H := hP
            have hR : RS (sA (sA (sA (sA S 3 (fun _ => z3)) 4 g4) 5 g5) 6 (uZ g6 i x)) := hR.put' (by omega) (by omega)
            refine lv_aload_n hx hb dX0_addBelow_42 rfl (lv_at hl 0 rfl) ?_
            refine lv_iload_n hx hb dX0_addBelow_43 rfl (lv_at hl 1 rfl) ?_
            refine z_iconst hx hb dX0_addBelow_44 ?_
            refine z_iadd hx hb dX0_addBelow_45 ?_
            refine lv_iload_n hx hb dX0_addBelow_46 rfl (lv_at hl 2 rfl) ?_
            refine lv_iload_n hx hb dX0_addBelow_47 rfl (lv_at hl 3 rfl) ?_
            refine lv_iload_n hx hb dX0_addBelow_48 rfl (lv_at hl 1 rfl) ?_
            refine s_callSi (As := [.int (zI (x))]) (rest := [.int (zI (↑i)), .int (zI (y)), .int (zI (x + 1)), .ref (ad 42)]) ⟨hx, hb, hml, hown, hts⟩ (k_X0_shiftOf l (o.length) x (by omega) (by omega)) (cwS 1 hts (gS hsub q_344 q_345 q_3 q_346) rfl rfl rfl hdX0_shiftOf ⟨Nat.le_of_ble_eq_true rfl, Nat.le_of_ble_eq_true rfl⟩) rfl hl.1 rfl (Nat.le_of_ble_eq_true rfl) dX0_addBelow_49 ⟨Nat.le_of_ble_eq_true rfl, Nat.le_of_ble_eq_true rfl⟩ (fun r_9 hq_11 => ?_)
            rw [hq_11]
            have hpw := pw2 (3 * (6 - o.length)) (by omega)
            have hpw3 : (2 : Int) ^ (3 * (6 - o.length) + 3) = 2 ^ (3 * (6 - o.length)) * 8 := by rw [Int.pow_add]; rfl
            have hb0 : 0 ≤ (↑i : Int) * 2 ^ (3 * (6 - o.length)) := Int.mul_nonneg (by omega) (by omega)
            have hb1 : (↑i : Int) * 2 ^ (3 * (6 - o.length)) < 2 ^ (3 * (6 - o.length) + 3) := by rw [hpw3, Int.mul_comm]; exact Int.mul_lt_mul_of_pos_left (by omega) (by omega)
            have hw21 := pw2 (3 * (6 - o.length) + 3) (by omega)
            refine z_ishl hx hb (3 * (6 - o.length)) (by omega) (by omega) (by omega) (by omega) dX0_addBelow_52 ?_
            refine z_iorS hx hb (3 * (6 - o.length) + 3) (by omega) (by rw [hy9]; exact cdO_mod hol7) (by omega) (by omega) dX0_addBelow_53 ?_
            refine g_callSv (As := [.ref (ad 42), .int (zI (x + 1)), .int (zI (y + (↑i * 2 ^ (3 * (6 - o.length)))))]) (rest := []) ⟨hx, hb, hml, hown, hts⟩ (k_X0_addBelow_3 l D cI cZ ad az av hinj (sA (sA (sA (sA S 3 (fun _ => z3)) 4 g4) 5 g5) 6 (uZ g6 i x)) hR n hn hn7 (o ++ [i]) (pn_up (fun v hv => (h6 v hv).trans (hpn v hv)) hp0 hx9) (by rw [List.length_append, List.length_singleton]; omega) (sz + (dfsW n (dfs n (dd - 1)) o i).length) (show z3 = ((sz + (dfsW n (dfs n (dd - 1)) o i).length : Nat) : Int) by omega) (dd - 1) (by omega) (gdO_snoc hg (by omega) hp0) (by rw [List.length_append, List.length_singleton]; omega) (by omega) (x + 1) (y + (↑i * 2 ^ (3 * (6 - o.length)))) (by rw [List.length_append, List.length_singleton]; omega) (by rw [hy9]; exact cdO_snoc hol7)) (cwS 3 hts (gS hsub q_325 q_326 q_3 q_327) rfl rfl rfl hdX0_addBelow ⟨Nat.le_of_ble_eq_true rfl, Nat.le_of_ble_eq_true rfl⟩) (cEb D cI cZ ad az av) (cEk D cI cZ ad az av) hE hP hS rfl hl.1 rfl (Nat.le_of_ble_eq_true rfl) dX0_addBelow_54 ⟨Nat.le_of_ble_eq_true rfl, Nat.le_of_ble_eq_true rfl⟩ (fun S_13 H locs hq_14 hP hR hS _ => ?_)
            obtain ⟨e_15, e_16, e_17, e_18, rfl, hq6_19, hq3_20, hqa_21⟩ := hq_14
            have hq6 := hq6_19
            refine lv_aload_n hx hb dX0_addBelow_57 rfl (lv_at hl 0 rfl) ?_
            refine va_get (D := D) (ci := 0) (v := .ref (ad 6)) (C := RX0) (T := TX0) (N := 5) hx hb hT inX0 hown hK hP 2 rfl rfl 4 (by decide) (hT _ q_57) (fun _ h9 => h9) rfl dX0_addBelow_58 ?_
            refine lv_iload_n hx hb dX0_addBelow_61 rfl (lv_at hl 3 rfl) ?_
            refine z_iconst hx hb dX0_addBelow_62 ?_
            refine z_ast (f := (sA (sA (sA (sA (sA (sA (sA (sA S 3 (fun _ => z3)) 4 g4) 5 g5) 6 (uZ g6 i x)) 3 e_15) 4 e_16) 5 e_17) 6 e_18) 6) (i := ↑i) (v := -1) hx hb hK hP (cD hinj cI cZ _) hS 11 0 rfl rfl (by omega) (by omega) (by decide) dX0_addBelow_63 (fun H locs hP hS => ?_)
            have hP : va_P D vwCl (cW cI cZ ad (sA (sA (sA (sA (sA (sA (sA (sA S 3 (fun _ => z3)) 4 g4) 5 g5) 6 (uZ g6 i x)) 3 e_15) 4 e_16) 5 e_17) 6 (uZ e_18 i (-1)))) H := hP
            have hR : RS (sA (sA (sA (sA (sA (sA (sA (sA S 3 (fun _ => z3)) 4 g4) 5 g5) 6 (uZ g6 i x)) 3 e_15) 4 e_16) 5 e_17) 6 (uZ e_18 i (-1))) := hR.put' (by omega) (by omega)
            refine z_iinc (lv' := [(3, .int (zI (↑i + 1))), (0, .ref (ad 42)), (1, .int (zI (x))), (2, .int (zI (y)))]) hx hb dX0_addBelow_64 hl (k := 3) rfl (by decide) rfl (fun ls hl => ?_)
            refine lv_goto (tgt := 16) hx hb dX0_addBelow_67 (by decide) ?_
            have hP : va_P D vwCl (cW cI cZ ad (sA (sA (sA (sA (sA (sA (sA (sA (sA S 3 (fun _ => z3)) 4 g4) 5 g5) 6 (uZ g6 i x)) 3 e_15) 4 e_16) 5 e_17) 6 (uZ e_18 i (-1))) 3 (fun _ => e_15 0))) _ := hP
            have hR : RS (sA (sA (sA (sA (sA (sA (sA (sA (sA S 3 (fun _ => z3)) 4 g4) 5 g5) 6 (uZ g6 i x)) 3 e_15) 4 e_16) 5 e_17) 6 (uZ e_18 i (-1))) 3 (fun _ => e_15 0)) := hR.one (hR 3 0 (by decide)).1 (hR 3 0 (by decide)).2
            have hSe_22 : sA (sA (sA (sA (sA (sA (sA (sA (sA S 3 (fun _ => z3)) 4 g4) 5 g5) 6 (uZ g6 i x)) 3 e_15) 4 e_16) 5 e_17) 6 (uZ e_18 i (-1))) 3 (fun _ => e_15 0) = sA (sA (sA (sA S 3 (fun _ => e_15 0)) 4 e_16) 5 e_17) 6 (uZ e_18 i (-1)) := by
              funext k8
              by_cases e80 : k8 = 3
              · subst e80; funext j8; first | rfl | exact hsc_3 j8
              by_cases e81 : k8 = 4
              · subst e81; first | rfl | (funext j8; rfl)
              by_cases e82 : k8 = 5
              · subst e82; first | rfl | (funext j8; rfl)
              by_cases e83 : k8 = 6
              · subst e83; first | rfl | (funext j8; rfl)
              simp [sA, e80, e81, e82, e83]
            rw [hSe_22] at hP hR
            exact ih_16 (i + 1) (e_15 0) e_16 e_17 (uZ e_18 i (-1)) _ _ _ (by omega) (by have h7 := hq3_20; rw [dfsW_t hok, List.length_append]; omega) (by rw [dfsW_t hok]; exact appd_app ha hqa_21) (pn_bk hpn hp0 (by omega) h6 hq6_19) (by omega) hP hR hS (lv_sub hl [1, 2, 3, 0] rfl)
          · have h9 : True := trivial
            refine lv_goto (tgt := 64) hx hb dX0_addBelow_32 (by decide) ?_
            refine z_iinc (lv' := [(3, .int (zI (↑i + 1))), (0, .ref (ad 42)), (1, .int (zI (x))), (2, .int (zI (y)))]) hx hb dX0_addBelow_64 hl (k := 3) rfl (by decide) rfl (fun ls hl => ?_)
            refine lv_goto (tgt := 16) hx hb dX0_addBelow_67 (by decide) ?_
            exact ih_16 (i + 1) z3 g4 g5 g6 _ _ _ (by omega) (by rw [dfsW_f c_8]; exact hz3) (by rw [dfsW_f c_8]; exact ha) (h6) (by omega) hP hR hS (lv_sub hl [1, 2, 3, 0] rfl)
    have hP : va_P D vwCl (cW cI cZ ad (sA S 3 (fun _ => S 3 0))) _ := hP
    have hR : RS (sA S 3 (fun _ => S 3 0)) := hR.one (hR 3 0 (by decide)).1 (hR 3 0 (by decide)).2
    have hSe_23 : sA S 3 (fun _ => S 3 0) = sA (sA (sA (sA S 3 (fun _ => S 3 0)) 4 (S 4)) 5 (S 5)) 6 (S 6) := by
      funext k8
      by_cases e80 : k8 = 3
      · subst e80; funext j8; first | rfl | exact hsc_3 j8
      by_cases e81 : k8 = 4
      · subst e81; first | rfl | (funext j8; rfl)
      by_cases e82 : k8 = 5
      · subst e82; first | rfl | (funext j8; rfl)
      by_cases e83 : k8 = 6
      · subst e83; first | rfl | (funext j8; rfl)
      simp [sA, e80, e81, e82, e83]
    rw [hSe_23] at hP hR
    exact cut_16 _ 0 (S 3 0) (S 4) (S 5) (S 6) _ _ _ (by omega) (by rw [hsz]; exact (Int.add_zero _).symm) (appd_nil _ _ _ _) (fun v hv => rfl) (Nat.lt_succ_self _) hP hR hS (lv_sub hl [1, 2, 3, 0] rfl)
  · have h9 : True := trivial
    refine lv_aload_n hx hb dX0_addBelow_8 rfl (lv_at hl 0 rfl) ?_
    refine lv_iload_n hx hb dX0_addBelow_9 rfl (lv_at hl 2 rfl) ?_
    refine g_callVv (As := [.int (zI (y))]) (rest := []) ⟨hx, hb, hml, hown, hts⟩ (k_X0_keep l D cI cZ ad az av hinj S hR n hn hn7 o hpn hol sz hsz (by rw [show dd = 0 by omega] at hcap; exact hcap) hg (by omega) y (hy9)) (cwV 1 hts (gV hsub q_328 q_330 q_sX0_keep q_3 q_331) rfl rfl rfl hdX0_keep ⟨Nat.le_of_ble_eq_true rfl, Nat.le_of_ble_eq_true rfl⟩) (cEb D cI cZ ad az av) (cEk D cI cZ ad az av) hE (va_recv (ci := 0) (q0 := 2) hK hP rfl rfl) hP hS rfl hl.1 rfl (Nat.le_of_ble_eq_true rfl) dX0_addBelow_10 ⟨Nat.le_of_ble_eq_true rfl, Nat.le_of_ble_eq_true rfl⟩ (fun S_25 H locs hq_26 hP hR hS _ => ?_)
    obtain rfl := hq_26
    have hP : va_P D vwCl (cW cI cZ ad (sA (sA (sA S 4 (uZ (S 4) sz (cdO o))) 5 (uZ (S 5) sz (plO n o))) 3 (fun _ => ↑sz + 1))) H := hP
    have hR : RS (sA (sA (sA S 4 (uZ (S 4) sz (cdO o))) 5 (uZ (S 5) sz (plO n o))) 3 (fun _ => ↑sz + 1)) := hR
    have hSe_27 : sA (sA (sA S 4 (uZ (S 4) sz (cdO o))) 5 (uZ (S 5) sz (plO n o))) 3 (fun _ => ↑sz + 1) = sA (sA (sA (sA S 3 (fun _ => ↑sz + 1)) 4 (uZ (S 4) sz (cdO o))) 5 (uZ (S 5) sz (plO n o))) 6 (S 6) := by
      funext k8
      by_cases e80 : k8 = 3
      · subst e80; first | rfl | (funext j8; rfl)
      by_cases e81 : k8 = 4
      · subst e81; first | rfl | (funext j8; rfl)
      by_cases e82 : k8 = 5
      · subst e82; first | rfl | (funext j8; rfl)
      by_cases e83 : k8 = 6
      · subst e83; first | rfl | (funext j8; rfl)
      simp [sA, e80, e81, e82, e83]
    rw [hSe_27] at hP hR
    exact g_vret (S1 := sA (sA (sA (sA S 3 (fun _ => ↑sz + 1)) 4 (uZ (S 4) sz (cdO o))) 5 (uZ (S 5) sz (plO n o))) 6 (S 6)) hx hb hr hlocks hP hR hS (⟨_, _, _, _, rfl, fun v hv => rfl, by rw [show dd = 0 by omega]; rfl, by rw [show dd = 0 by omega]; exact appd_one n sz o _ _⟩) dX0_addBelow_13
set_option maxHeartbeats 4000000 in
set_option maxRecDepth 100000 in
theorem k_X0_addBelow_5 (l : Launch) (D : va_G) (cI cZ : ClassId) (ad : Nat → Nat) (az av : Nat) (hinj : cInj ad) (S : St) (hR : RS S) (n : Nat) (hn : S 2 0 = ↑n) (hn7 : n ≤ 7) (o : List Nat) (hpn : ∀ v, v < n → S 6 v = (pnN o v : Int) - 1) (hol : o.length ≤ 7) (sz : Nat) (hsz : S 3 0 = ↑sz) (dd : Nat) (hdd : dd ≤ 5) (hg : gdO n o) (hlen : o.length + dd = n) (hcap : sz + (dfs n dd o).length ≤ 462) (x y : Int) (hx9 : x = ↑o.length) (hy9 : y = cdO o) : Met l yX0_addBelow (Cond.code yX0_addBelow cX0_addBelow 4 none :: lwT) ({ frames := 7, cells := 0, slots := 0, locals := 161 }) (gPc D (cW cI cZ ad) (cE D cI cZ ad az av) S [.ref (ad 42), .int (zI (x)), .int (zI (y))]) (va_Qv (fun (S' : St) => ∃ e3 e4 e5 e6, S' = sA (sA (sA (sA S 3 e3) 4 e4) 5 e5) 6 e6 ∧ (∀ v, v < n → e6 v = S 6 v) ∧ e3 0 = ↑sz + ↑(dfs n dd o).length ∧ appd n sz (dfs n dd o) (S 4) (S 5) e4 e5) (gB D (cW cI cZ ad)) (cA ad)) 0 0 (cA ad) := by
  refine Met.ofW (cc := cX0_addBelow) (maxL := 4) (ret := none) (by decide) rfl ?_
  intro p e s m args below meth c s₁ B hml hv
  obtain ⟨rfl, hP, hE⟩ := hv
  have hx := B.exec
  have hb := B.bytes
  have hr := B.returns
  have hts := atoms_spec (ws := Cond.code yX0_addBelow cX0_addBelow 4 none :: lwT) B.pre
  have hT := fun w (h : w ∈ lwT) => hts w (List.mem_cons_of_mem _ h)
  have hsub : ∀ w ∈ lwT, w ∈ (Cond.code yX0_addBelow cX0_addBelow 4 none :: lwT) := fun w h => List.mem_cons_of_mem _ h
  have hown : s.vm.findClass RX0 = some m.cls := findClass_of_methodNamed B.named
  have hlocks := B.notSynchronized
  have hK : va_K D vwCl [(cI, .int), (cZ, .boolean)] s := hE.1
  have hS : va_S (cA ad) s.heap s.heap [] := va_S.rf
  have hl := lv_entry ([.ref (ad 42), .int (zI (x)), .int (zI (y))]) (n := 4) (Nat.le_of_ble_eq_true rfl)
  rw [lg_entry_eq]
  generalize (lg_sl ([.ref (ad 42), .int (zI (x)), .int (zI (y))]) ++ List.replicate (4 - (lg_sl ([.ref (ad 42), .int (zI (x)), .int (zI (y))])).length) Slot.unset).toArray = ls at hl ⊢
  have hl : lv_has ls 4 [(0, .ref (ad 42)), (1, .int (zI (x))), (2, .int (zI (y)))] := hl
  have hcr := cdO_r hn7 hg
  refine lv_iload_n hx hb dX0_addBelow_0 rfl (lv_at hl 1 rfl) ?_
  refine lv_aload_n hx hb dX0_addBelow_1 rfl (lv_at hl 0 rfl) ?_
  have g_1 : -2147483648 ≤ S 2 0 ∧ S 2 0 < 2147483648 := hR 2 0 (by decide)
  refine va_get (D := D) (ci := 0) (v := .int (zI (S 2 0))) (C := RX0) (T := TX0) (N := 5) hx hb hT inX0 hown hK hP 2 rfl rfl 0 (by decide) (hT _ q_45) (fun _ h9 => h9) rfl dX0_addBelow_2 ?_
  refine z_icmp_lt (tgt := 14) hx hb (by omega) (by omega) (by omega) (by omega) dX0_addBelow_5 (by decide) (fun c_2 => ?_) (fun c_2 => ?_)
  · have h9 : True := trivial
    have hd0 : dd ≠ 0 := by omega
    have hds := dfs_p n o hd0
    have hol7 : o.length < 7 := by omega
    refine z_iconst hx hb dX0_addBelow_14 ?_
    refine lv_istore_n (lv' := [(3, .int (zI (0))), (0, .ref (ad 42)), (1, .int (zI (x))), (2, .int (zI (y)))]) hx hb dX0_addBelow_15 rfl hl (by decide) rfl (fun ls hl => ?_)
    have cut_16 : ∀ (k9 : Nat) (i : Nat) (z3 : Int) (g4 : Nat → Int) (g5 : Nat → Int) (g6 : Nat → Int) (H : Heap) (locs : List Loc) (ls : Array Slot), (i ≤ n) → (z3 = ↑sz + ↑(dfsW n (dfs n (dd - 1)) o i).length) → (appd n sz (dfsW n (dfs n (dd - 1)) o i) (S 4) (S 5) g4 g5) → (∀ v, v < n → g6 v = S 6 v) → (n - i) < k9 → va_P D vwCl (cW cI cZ ad (sA (sA (sA (sA S 3 (fun _ => z3)) 4 g4) 5 g5) 6 g6)) H → RS (sA (sA (sA (sA S 3 (fun _ => z3)) 4 g4) 5 g5) 6 g6) → va_S (cA ad) s.heap H locs → lv_has ls 4 [(0, .ref (ad 42)), (1, .int (zI (x))), (2, .int (zI (y))), (3, .int (zI (↑i)))] → W p l e (headSpec (Cond.code yX0_addBelow cX0_addBelow 4 none :: lwT) ({ frames := 7, cells := 0, slots := 0, locals := 161 })).room s m ([.ref (ad 42), .int (zI (x)), .int (zI (y))] : List Value).toArray below meth c H locs 0 0 (MQ below (va_Qv (fun (S' : St) => ∃ e3 e4 e5 e6, S' = sA (sA (sA (sA S 3 e3) 4 e4) 5 e5) 6 e6 ∧ (∀ v, v < n → e6 v = S 6 v) ∧ e3 0 = ↑sz + ↑(dfs n dd o).length ∧ appd n sz (dfs n dd o) (S 4) (S 5) e4 e5) (gB D (cW cI cZ ad)) (cA ad)) ([.ref (ad 42), .int (zI (x)), .int (zI (y))] : List Value).toArray s 0 0 (cA ad)) (F0 m 16 ls []) := by
      intro k9
      induction k9 with
      | zero =>
        intro i z3 g4 g5 g6 H locs ls hi hz3 ha h6 hk9 hP hR hS hl
        exact absurd hk9 (Nat.not_lt_zero _)
      | succ k9 ih_16 =>
        intro i z3 g4 g5 g6 H locs ls hi hz3 ha h6 hk9 hP hR hS hl
        refine lv_iload_n hx hb dX0_addBelow_16 rfl (lv_at hl 3 rfl) ?_
        refine lv_aload_n hx hb dX0_addBelow_17 rfl (lv_at hl 0 rfl) ?_
        have g_3 : -2147483648 ≤ S 2 0 ∧ S 2 0 < 2147483648 := hR 2 0 (by decide)
        refine va_get (D := D) (ci := 0) (v := .int (zI (S 2 0))) (C := RX0) (T := TX0) (N := 5) hx hb hT inX0 hown hK hP 2 rfl rfl 0 (by decide) (hT _ q_45) (fun _ h9 => h9) rfl dX0_addBelow_18 ?_
        refine z_icmp_ge (tgt := 70) hx hb (by omega) (by omega) (by omega) (by omega) dX0_addBelow_21 (by decide) (fun c_4 => ?_) (fun c_4 => ?_)
        · have h9 : True := trivial
          exact g_vret (S1 := sA (sA (sA (sA S 3 (fun _ => z3)) 4 g4) 5 g5) 6 g6) hx hb hr hlocks hP hR hS (⟨_, _, _, _, rfl, h6, by rw [show i = n by omega] at hz3; rw [hds]; exact hz3, by rw [show i = n by omega] at ha; rw [hds]; exact ha⟩) dX0_addBelow_70
        · have h9 : True := trivial
          refine lv_aload_n hx hb dX0_addBelow_24 rfl (lv_at hl 0 rfl) ?_
          refine lv_iload_n hx hb dX0_addBelow_25 rfl (lv_at hl 3 rfl) ?_
          refine g_callVi (As := [.int (zI (↑i))]) (rest := []) ⟨hx, hb, hml, hown, hts⟩ (k_X0_canComeNext l D cI cZ ad az av hinj (sA (sA (sA (sA S 3 (fun _ => z3)) 4 g4) 5 g5) 6 g6) hR n hn hn7 o (fun v hv => (h6 v hv).trans (hpn v hv)) hol i ↑i (by omega) (by omega)) (cwV 1 hts (gV hsub q_332 q_334 q_sX0_canComeNext q_3 q_335) rfl rfl rfl hdX0_canComeNext ⟨Nat.le_of_ble_eq_true rfl, Nat.le_of_ble_eq_true rfl⟩) (cEb D cI cZ ad az av) (cEk D cI cZ ad az av) hE (va_recv (ci := 0) (q0 := 2) hK hP rfl rfl) hP hS rfl hl.1 rfl (Nat.le_of_ble_eq_true rfl) dX0_addBelow_26 ⟨Nat.le_of_ble_eq_true rfl, Nat.le_of_ble_eq_true rfl⟩ (fun r_5 S_6 H locs hq_7 hP hR hS _ => ?_)
          obtain ⟨hs9, rfl⟩ := hq_7
          obtain rfl := hs9.symm
          refine z_top (b := b2 (okN n o i)) rfl ?_
          refine z_ifneB (tgt := 35) hx hb dX0_addBelow_29 (by decide) (fun c_8 => ?_) (fun c_8 => ?_)
          · have h9 : True := trivial
            have hok := c_8
            have hp0 := okN_n hok
            have hcap2 := dfsW_cap (F := dfs n (dd - 1)) hok (by omega)
            rw [← hds] at hcap2
            refine lv_aload_n hx hb dX0_addBelow_35 rfl (lv_at hl 0 rfl) ?_
            refine va_get (D := D) (ci := 0) (v := .ref (ad 6)) (C := RX0) (T := TX0) (N := 5) hx hb hT inX0 hown hK hP 2 rfl rfl 4 (by decide) (hT _ q_57) (fun _ h9 => h9) rfl dX0_addBelow_36 ?_
            refine lv_iload_n hx hb dX0_addBelow_39 rfl (lv_at hl 3 rfl) ?_
            refine lv_iload_n hx hb dX0_addBelow_40 rfl (lv_at hl 1 rfl) ?_
            refine z_ast (f := (sA (sA (sA (sA S 3 (fun _ => z3)) 4 g4) 5 g5) 6 g6) 6) (i := ↑i) (v := x) hx hb hK hP (cD hinj cI cZ _) hS 11 0 rfl rfl (by omega) (by omega) (by decide) dX0_addBelow_41 (fun H locs hP hS => ?_)
            have hP : va_P D vwCl (cW cI cZ ad (sA (sA (sA (sA S 3 (fun _ => z3)) 4 g4) 5 g5) 6 (uZ g6 i x))) H := hP
            have hR : RS (sA (sA (sA (sA S 3 (fun _ => z3)) 4 g4) 5 g5) 6 (uZ g6 i x)) := hR.put' (by omega) (by omega)
            refine lv_aload_n hx hb dX0_addBelow_42 rfl (lv_at hl 0 rfl) ?_
            refine lv_iload_n hx hb dX0_addBelow_43 rfl (lv_at hl 1 rfl) ?_
            refine z_iconst hx hb dX0_addBelow_44 ?_
            refine z_iadd hx hb dX0_addBelow_45 ?_
            refine lv_iload_n hx hb dX0_addBelow_46 rfl (lv_at hl 2 rfl) ?_
            refine lv_iload_n hx hb dX0_addBelow_47 rfl (lv_at hl 3 rfl) ?_
            refine lv_iload_n hx hb dX0_addBelow_48 rfl (lv_at hl 1 rfl) ?_
            refine s_callSi (As := [.int (zI (x))]) (rest := [.int (zI (↑i)), .int (zI (y)), .int (zI (x + 1)), .ref (ad 42)]) ⟨hx, hb, hml, hown, hts⟩ (k_X0_shiftOf l (o.length) x (by omega) (by omega)) (cwS 1 hts (gS hsub q_344 q_345 q_3 q_346) rfl rfl rfl hdX0_shiftOf ⟨Nat.le_of_ble_eq_true rfl, Nat.le_of_ble_eq_true rfl⟩) rfl hl.1 rfl (Nat.le_of_ble_eq_true rfl) dX0_addBelow_49 ⟨Nat.le_of_ble_eq_true rfl, Nat.le_of_ble_eq_true rfl⟩ (fun r_9 hq_11 => ?_)
            rw [hq_11]
            have hpw := pw2 (3 * (6 - o.length)) (by omega)
            have hpw3 : (2 : Int) ^ (3 * (6 - o.length) + 3) = 2 ^ (3 * (6 - o.length)) * 8 := by rw [Int.pow_add]; rfl
            have hb0 : 0 ≤ (↑i : Int) * 2 ^ (3 * (6 - o.length)) := Int.mul_nonneg (by omega) (by omega)
            have hb1 : (↑i : Int) * 2 ^ (3 * (6 - o.length)) < 2 ^ (3 * (6 - o.length) + 3) := by rw [hpw3, Int.mul_comm]; exact Int.mul_lt_mul_of_pos_left (by omega) (by omega)
            have hw21 := pw2 (3 * (6 - o.length) + 3) (by omega)
            refine z_ishl hx hb (3 * (6 - o.length)) (by omega) (by omega) (by omega) (by omega) dX0_addBelow_52 ?_
            refine z_iorS hx hb (3 * (6 - o.length) + 3) (by omega) (by rw [hy9]; exact cdO_mod hol7) (by omega) (by omega) dX0_addBelow_53 ?_
            refine g_callSv (As := [.ref (ad 42), .int (zI (x + 1)), .int (zI (y + (↑i * 2 ^ (3 * (6 - o.length)))))]) (rest := []) ⟨hx, hb, hml, hown, hts⟩ (k_X0_addBelow_4 l D cI cZ ad az av hinj (sA (sA (sA (sA S 3 (fun _ => z3)) 4 g4) 5 g5) 6 (uZ g6 i x)) hR n hn hn7 (o ++ [i]) (pn_up (fun v hv => (h6 v hv).trans (hpn v hv)) hp0 hx9) (by rw [List.length_append, List.length_singleton]; omega) (sz + (dfsW n (dfs n (dd - 1)) o i).length) (show z3 = ((sz + (dfsW n (dfs n (dd - 1)) o i).length : Nat) : Int) by omega) (dd - 1) (by omega) (gdO_snoc hg (by omega) hp0) (by rw [List.length_append, List.length_singleton]; omega) (by omega) (x + 1) (y + (↑i * 2 ^ (3 * (6 - o.length)))) (by rw [List.length_append, List.length_singleton]; omega) (by rw [hy9]; exact cdO_snoc hol7)) (cwS 3 hts (gS hsub q_325 q_326 q_3 q_327) rfl rfl rfl hdX0_addBelow ⟨Nat.le_of_ble_eq_true rfl, Nat.le_of_ble_eq_true rfl⟩) (cEb D cI cZ ad az av) (cEk D cI cZ ad az av) hE hP hS rfl hl.1 rfl (Nat.le_of_ble_eq_true rfl) dX0_addBelow_54 ⟨Nat.le_of_ble_eq_true rfl, Nat.le_of_ble_eq_true rfl⟩ (fun S_13 H locs hq_14 hP hR hS _ => ?_)
            obtain ⟨e_15, e_16, e_17, e_18, rfl, hq6_19, hq3_20, hqa_21⟩ := hq_14
            have hq6 := hq6_19
            refine lv_aload_n hx hb dX0_addBelow_57 rfl (lv_at hl 0 rfl) ?_
            refine va_get (D := D) (ci := 0) (v := .ref (ad 6)) (C := RX0) (T := TX0) (N := 5) hx hb hT inX0 hown hK hP 2 rfl rfl 4 (by decide) (hT _ q_57) (fun _ h9 => h9) rfl dX0_addBelow_58 ?_
            refine lv_iload_n hx hb dX0_addBelow_61 rfl (lv_at hl 3 rfl) ?_
            refine z_iconst hx hb dX0_addBelow_62 ?_
            refine z_ast (f := (sA (sA (sA (sA (sA (sA (sA (sA S 3 (fun _ => z3)) 4 g4) 5 g5) 6 (uZ g6 i x)) 3 e_15) 4 e_16) 5 e_17) 6 e_18) 6) (i := ↑i) (v := -1) hx hb hK hP (cD hinj cI cZ _) hS 11 0 rfl rfl (by omega) (by omega) (by decide) dX0_addBelow_63 (fun H locs hP hS => ?_)
            have hP : va_P D vwCl (cW cI cZ ad (sA (sA (sA (sA (sA (sA (sA (sA S 3 (fun _ => z3)) 4 g4) 5 g5) 6 (uZ g6 i x)) 3 e_15) 4 e_16) 5 e_17) 6 (uZ e_18 i (-1)))) H := hP
            have hR : RS (sA (sA (sA (sA (sA (sA (sA (sA S 3 (fun _ => z3)) 4 g4) 5 g5) 6 (uZ g6 i x)) 3 e_15) 4 e_16) 5 e_17) 6 (uZ e_18 i (-1))) := hR.put' (by omega) (by omega)
            refine z_iinc (lv' := [(3, .int (zI (↑i + 1))), (0, .ref (ad 42)), (1, .int (zI (x))), (2, .int (zI (y)))]) hx hb dX0_addBelow_64 hl (k := 3) rfl (by decide) rfl (fun ls hl => ?_)
            refine lv_goto (tgt := 16) hx hb dX0_addBelow_67 (by decide) ?_
            have hP : va_P D vwCl (cW cI cZ ad (sA (sA (sA (sA (sA (sA (sA (sA (sA S 3 (fun _ => z3)) 4 g4) 5 g5) 6 (uZ g6 i x)) 3 e_15) 4 e_16) 5 e_17) 6 (uZ e_18 i (-1))) 3 (fun _ => e_15 0))) _ := hP
            have hR : RS (sA (sA (sA (sA (sA (sA (sA (sA (sA S 3 (fun _ => z3)) 4 g4) 5 g5) 6 (uZ g6 i x)) 3 e_15) 4 e_16) 5 e_17) 6 (uZ e_18 i (-1))) 3 (fun _ => e_15 0)) := hR.one (hR 3 0 (by decide)).1 (hR 3 0 (by decide)).2
            have hSe_22 : sA (sA (sA (sA (sA (sA (sA (sA (sA S 3 (fun _ => z3)) 4 g4) 5 g5) 6 (uZ g6 i x)) 3 e_15) 4 e_16) 5 e_17) 6 (uZ e_18 i (-1))) 3 (fun _ => e_15 0) = sA (sA (sA (sA S 3 (fun _ => e_15 0)) 4 e_16) 5 e_17) 6 (uZ e_18 i (-1)) := by
              funext k8
              by_cases e80 : k8 = 3
              · subst e80; funext j8; first | rfl | exact hsc_3 j8
              by_cases e81 : k8 = 4
              · subst e81; first | rfl | (funext j8; rfl)
              by_cases e82 : k8 = 5
              · subst e82; first | rfl | (funext j8; rfl)
              by_cases e83 : k8 = 6
              · subst e83; first | rfl | (funext j8; rfl)
              simp [sA, e80, e81, e82, e83]
            rw [hSe_22] at hP hR
            exact ih_16 (i + 1) (e_15 0) e_16 e_17 (uZ e_18 i (-1)) _ _ _ (by omega) (by have h7 := hq3_20; rw [dfsW_t hok, List.length_append]; omega) (by rw [dfsW_t hok]; exact appd_app ha hqa_21) (pn_bk hpn hp0 (by omega) h6 hq6_19) (by omega) hP hR hS (lv_sub hl [1, 2, 3, 0] rfl)
          · have h9 : True := trivial
            refine lv_goto (tgt := 64) hx hb dX0_addBelow_32 (by decide) ?_
            refine z_iinc (lv' := [(3, .int (zI (↑i + 1))), (0, .ref (ad 42)), (1, .int (zI (x))), (2, .int (zI (y)))]) hx hb dX0_addBelow_64 hl (k := 3) rfl (by decide) rfl (fun ls hl => ?_)
            refine lv_goto (tgt := 16) hx hb dX0_addBelow_67 (by decide) ?_
            exact ih_16 (i + 1) z3 g4 g5 g6 _ _ _ (by omega) (by rw [dfsW_f c_8]; exact hz3) (by rw [dfsW_f c_8]; exact ha) (h6) (by omega) hP hR hS (lv_sub hl [1, 2, 3, 0] rfl)
    have hP : va_P D vwCl (cW cI cZ ad (sA S 3 (fun _ => S 3 0))) _ := hP
    have hR : RS (sA S 3 (fun _ => S 3 0)) := hR.one (hR 3 0 (by decide)).1 (hR 3 0 (by decide)).2
    have hSe_23 : sA S 3 (fun _ => S 3 0) = sA (sA (sA (sA S 3 (fun _ => S 3 0)) 4 (S 4)) 5 (S 5)) 6 (S 6) := by
      funext k8
      by_cases e80 : k8 = 3
      · subst e80; funext j8; first | rfl | exact hsc_3 j8
      by_cases e81 : k8 = 4
      · subst e81; first | rfl | (funext j8; rfl)
      by_cases e82 : k8 = 5
      · subst e82; first | rfl | (funext j8; rfl)
      by_cases e83 : k8 = 6
      · subst e83; first | rfl | (funext j8; rfl)
      simp [sA, e80, e81, e82, e83]
    rw [hSe_23] at hP hR
    exact cut_16 _ 0 (S 3 0) (S 4) (S 5) (S 6) _ _ _ (by omega) (by rw [hsz]; exact (Int.add_zero _).symm) (appd_nil _ _ _ _) (fun v hv => rfl) (Nat.lt_succ_self _) hP hR hS (lv_sub hl [1, 2, 3, 0] rfl)
  · have h9 : True := trivial
    refine lv_aload_n hx hb dX0_addBelow_8 rfl (lv_at hl 0 rfl) ?_
    refine lv_iload_n hx hb dX0_addBelow_9 rfl (lv_at hl 2 rfl) ?_
    refine g_callVv (As := [.int (zI (y))]) (rest := []) ⟨hx, hb, hml, hown, hts⟩ (k_X0_keep l D cI cZ ad az av hinj S hR n hn hn7 o hpn hol sz hsz (by rw [show dd = 0 by omega] at hcap; exact hcap) hg (by omega) y (hy9)) (cwV 1 hts (gV hsub q_328 q_330 q_sX0_keep q_3 q_331) rfl rfl rfl hdX0_keep ⟨Nat.le_of_ble_eq_true rfl, Nat.le_of_ble_eq_true rfl⟩) (cEb D cI cZ ad az av) (cEk D cI cZ ad az av) hE (va_recv (ci := 0) (q0 := 2) hK hP rfl rfl) hP hS rfl hl.1 rfl (Nat.le_of_ble_eq_true rfl) dX0_addBelow_10 ⟨Nat.le_of_ble_eq_true rfl, Nat.le_of_ble_eq_true rfl⟩ (fun S_25 H locs hq_26 hP hR hS _ => ?_)
    obtain rfl := hq_26
    have hP : va_P D vwCl (cW cI cZ ad (sA (sA (sA S 4 (uZ (S 4) sz (cdO o))) 5 (uZ (S 5) sz (plO n o))) 3 (fun _ => ↑sz + 1))) H := hP
    have hR : RS (sA (sA (sA S 4 (uZ (S 4) sz (cdO o))) 5 (uZ (S 5) sz (plO n o))) 3 (fun _ => ↑sz + 1)) := hR
    have hSe_27 : sA (sA (sA S 4 (uZ (S 4) sz (cdO o))) 5 (uZ (S 5) sz (plO n o))) 3 (fun _ => ↑sz + 1) = sA (sA (sA (sA S 3 (fun _ => ↑sz + 1)) 4 (uZ (S 4) sz (cdO o))) 5 (uZ (S 5) sz (plO n o))) 6 (S 6) := by
      funext k8
      by_cases e80 : k8 = 3
      · subst e80; first | rfl | (funext j8; rfl)
      by_cases e81 : k8 = 4
      · subst e81; first | rfl | (funext j8; rfl)
      by_cases e82 : k8 = 5
      · subst e82; first | rfl | (funext j8; rfl)
      by_cases e83 : k8 = 6
      · subst e83; first | rfl | (funext j8; rfl)
      simp [sA, e80, e81, e82, e83]
    rw [hSe_27] at hP hR
    exact g_vret (S1 := sA (sA (sA (sA S 3 (fun _ => ↑sz + 1)) 4 (uZ (S 4) sz (cdO o))) 5 (uZ (S 5) sz (plO n o))) 6 (S 6)) hx hb hr hlocks hP hR hS (⟨_, _, _, _, rfl, fun v hv => rfl, by rw [show dd = 0 by omega]; rfl, by rw [show dd = 0 by omega]; exact appd_one n sz o _ _⟩) dX0_addBelow_13
set_option maxHeartbeats 4000000 in
set_option maxRecDepth 100000 in
theorem k_X0_addBelow_6 (l : Launch) (D : va_G) (cI cZ : ClassId) (ad : Nat → Nat) (az av : Nat) (hinj : cInj ad) (S : St) (hR : RS S) (n : Nat) (hn : S 2 0 = ↑n) (hn7 : n ≤ 7) (o : List Nat) (hpn : ∀ v, v < n → S 6 v = (pnN o v : Int) - 1) (hol : o.length ≤ 7) (sz : Nat) (hsz : S 3 0 = ↑sz) (dd : Nat) (hdd : dd ≤ 6) (hg : gdO n o) (hlen : o.length + dd = n) (hcap : sz + (dfs n dd o).length ≤ 462) (x y : Int) (hx9 : x = ↑o.length) (hy9 : y = cdO o) : Met l yX0_addBelow (Cond.code yX0_addBelow cX0_addBelow 4 none :: lwT) ({ frames := 8, cells := 0, slots := 0, locals := 184 }) (gPc D (cW cI cZ ad) (cE D cI cZ ad az av) S [.ref (ad 42), .int (zI (x)), .int (zI (y))]) (va_Qv (fun (S' : St) => ∃ e3 e4 e5 e6, S' = sA (sA (sA (sA S 3 e3) 4 e4) 5 e5) 6 e6 ∧ (∀ v, v < n → e6 v = S 6 v) ∧ e3 0 = ↑sz + ↑(dfs n dd o).length ∧ appd n sz (dfs n dd o) (S 4) (S 5) e4 e5) (gB D (cW cI cZ ad)) (cA ad)) 0 0 (cA ad) := by
  refine Met.ofW (cc := cX0_addBelow) (maxL := 4) (ret := none) (by decide) rfl ?_
  intro p e s m args below meth c s₁ B hml hv
  obtain ⟨rfl, hP, hE⟩ := hv
  have hx := B.exec
  have hb := B.bytes
  have hr := B.returns
  have hts := atoms_spec (ws := Cond.code yX0_addBelow cX0_addBelow 4 none :: lwT) B.pre
  have hT := fun w (h : w ∈ lwT) => hts w (List.mem_cons_of_mem _ h)
  have hsub : ∀ w ∈ lwT, w ∈ (Cond.code yX0_addBelow cX0_addBelow 4 none :: lwT) := fun w h => List.mem_cons_of_mem _ h
  have hown : s.vm.findClass RX0 = some m.cls := findClass_of_methodNamed B.named
  have hlocks := B.notSynchronized
  have hK : va_K D vwCl [(cI, .int), (cZ, .boolean)] s := hE.1
  have hS : va_S (cA ad) s.heap s.heap [] := va_S.rf
  have hl := lv_entry ([.ref (ad 42), .int (zI (x)), .int (zI (y))]) (n := 4) (Nat.le_of_ble_eq_true rfl)
  rw [lg_entry_eq]
  generalize (lg_sl ([.ref (ad 42), .int (zI (x)), .int (zI (y))]) ++ List.replicate (4 - (lg_sl ([.ref (ad 42), .int (zI (x)), .int (zI (y))])).length) Slot.unset).toArray = ls at hl ⊢
  have hl : lv_has ls 4 [(0, .ref (ad 42)), (1, .int (zI (x))), (2, .int (zI (y)))] := hl
  have hcr := cdO_r hn7 hg
  refine lv_iload_n hx hb dX0_addBelow_0 rfl (lv_at hl 1 rfl) ?_
  refine lv_aload_n hx hb dX0_addBelow_1 rfl (lv_at hl 0 rfl) ?_
  have g_1 : -2147483648 ≤ S 2 0 ∧ S 2 0 < 2147483648 := hR 2 0 (by decide)
  refine va_get (D := D) (ci := 0) (v := .int (zI (S 2 0))) (C := RX0) (T := TX0) (N := 5) hx hb hT inX0 hown hK hP 2 rfl rfl 0 (by decide) (hT _ q_45) (fun _ h9 => h9) rfl dX0_addBelow_2 ?_
  refine z_icmp_lt (tgt := 14) hx hb (by omega) (by omega) (by omega) (by omega) dX0_addBelow_5 (by decide) (fun c_2 => ?_) (fun c_2 => ?_)
  · have h9 : True := trivial
    have hd0 : dd ≠ 0 := by omega
    have hds := dfs_p n o hd0
    have hol7 : o.length < 7 := by omega
    refine z_iconst hx hb dX0_addBelow_14 ?_
    refine lv_istore_n (lv' := [(3, .int (zI (0))), (0, .ref (ad 42)), (1, .int (zI (x))), (2, .int (zI (y)))]) hx hb dX0_addBelow_15 rfl hl (by decide) rfl (fun ls hl => ?_)
    have cut_16 : ∀ (k9 : Nat) (i : Nat) (z3 : Int) (g4 : Nat → Int) (g5 : Nat → Int) (g6 : Nat → Int) (H : Heap) (locs : List Loc) (ls : Array Slot), (i ≤ n) → (z3 = ↑sz + ↑(dfsW n (dfs n (dd - 1)) o i).length) → (appd n sz (dfsW n (dfs n (dd - 1)) o i) (S 4) (S 5) g4 g5) → (∀ v, v < n → g6 v = S 6 v) → (n - i) < k9 → va_P D vwCl (cW cI cZ ad (sA (sA (sA (sA S 3 (fun _ => z3)) 4 g4) 5 g5) 6 g6)) H → RS (sA (sA (sA (sA S 3 (fun _ => z3)) 4 g4) 5 g5) 6 g6) → va_S (cA ad) s.heap H locs → lv_has ls 4 [(0, .ref (ad 42)), (1, .int (zI (x))), (2, .int (zI (y))), (3, .int (zI (↑i)))] → W p l e (headSpec (Cond.code yX0_addBelow cX0_addBelow 4 none :: lwT) ({ frames := 8, cells := 0, slots := 0, locals := 184 })).room s m ([.ref (ad 42), .int (zI (x)), .int (zI (y))] : List Value).toArray below meth c H locs 0 0 (MQ below (va_Qv (fun (S' : St) => ∃ e3 e4 e5 e6, S' = sA (sA (sA (sA S 3 e3) 4 e4) 5 e5) 6 e6 ∧ (∀ v, v < n → e6 v = S 6 v) ∧ e3 0 = ↑sz + ↑(dfs n dd o).length ∧ appd n sz (dfs n dd o) (S 4) (S 5) e4 e5) (gB D (cW cI cZ ad)) (cA ad)) ([.ref (ad 42), .int (zI (x)), .int (zI (y))] : List Value).toArray s 0 0 (cA ad)) (F0 m 16 ls []) := by
      intro k9
      induction k9 with
      | zero =>
        intro i z3 g4 g5 g6 H locs ls hi hz3 ha h6 hk9 hP hR hS hl
        exact absurd hk9 (Nat.not_lt_zero _)
      | succ k9 ih_16 =>
        intro i z3 g4 g5 g6 H locs ls hi hz3 ha h6 hk9 hP hR hS hl
        refine lv_iload_n hx hb dX0_addBelow_16 rfl (lv_at hl 3 rfl) ?_
        refine lv_aload_n hx hb dX0_addBelow_17 rfl (lv_at hl 0 rfl) ?_
        have g_3 : -2147483648 ≤ S 2 0 ∧ S 2 0 < 2147483648 := hR 2 0 (by decide)
        refine va_get (D := D) (ci := 0) (v := .int (zI (S 2 0))) (C := RX0) (T := TX0) (N := 5) hx hb hT inX0 hown hK hP 2 rfl rfl 0 (by decide) (hT _ q_45) (fun _ h9 => h9) rfl dX0_addBelow_18 ?_
        refine z_icmp_ge (tgt := 70) hx hb (by omega) (by omega) (by omega) (by omega) dX0_addBelow_21 (by decide) (fun c_4 => ?_) (fun c_4 => ?_)
        · have h9 : True := trivial
          exact g_vret (S1 := sA (sA (sA (sA S 3 (fun _ => z3)) 4 g4) 5 g5) 6 g6) hx hb hr hlocks hP hR hS (⟨_, _, _, _, rfl, h6, by rw [show i = n by omega] at hz3; rw [hds]; exact hz3, by rw [show i = n by omega] at ha; rw [hds]; exact ha⟩) dX0_addBelow_70
        · have h9 : True := trivial
          refine lv_aload_n hx hb dX0_addBelow_24 rfl (lv_at hl 0 rfl) ?_
          refine lv_iload_n hx hb dX0_addBelow_25 rfl (lv_at hl 3 rfl) ?_
          refine g_callVi (As := [.int (zI (↑i))]) (rest := []) ⟨hx, hb, hml, hown, hts⟩ (k_X0_canComeNext l D cI cZ ad az av hinj (sA (sA (sA (sA S 3 (fun _ => z3)) 4 g4) 5 g5) 6 g6) hR n hn hn7 o (fun v hv => (h6 v hv).trans (hpn v hv)) hol i ↑i (by omega) (by omega)) (cwV 1 hts (gV hsub q_332 q_334 q_sX0_canComeNext q_3 q_335) rfl rfl rfl hdX0_canComeNext ⟨Nat.le_of_ble_eq_true rfl, Nat.le_of_ble_eq_true rfl⟩) (cEb D cI cZ ad az av) (cEk D cI cZ ad az av) hE (va_recv (ci := 0) (q0 := 2) hK hP rfl rfl) hP hS rfl hl.1 rfl (Nat.le_of_ble_eq_true rfl) dX0_addBelow_26 ⟨Nat.le_of_ble_eq_true rfl, Nat.le_of_ble_eq_true rfl⟩ (fun r_5 S_6 H locs hq_7 hP hR hS _ => ?_)
          obtain ⟨hs9, rfl⟩ := hq_7
          obtain rfl := hs9.symm
          refine z_top (b := b2 (okN n o i)) rfl ?_
          refine z_ifneB (tgt := 35) hx hb dX0_addBelow_29 (by decide) (fun c_8 => ?_) (fun c_8 => ?_)
          · have h9 : True := trivial
            have hok := c_8
            have hp0 := okN_n hok
            have hcap2 := dfsW_cap (F := dfs n (dd - 1)) hok (by omega)
            rw [← hds] at hcap2
            refine lv_aload_n hx hb dX0_addBelow_35 rfl (lv_at hl 0 rfl) ?_
            refine va_get (D := D) (ci := 0) (v := .ref (ad 6)) (C := RX0) (T := TX0) (N := 5) hx hb hT inX0 hown hK hP 2 rfl rfl 4 (by decide) (hT _ q_57) (fun _ h9 => h9) rfl dX0_addBelow_36 ?_
            refine lv_iload_n hx hb dX0_addBelow_39 rfl (lv_at hl 3 rfl) ?_
            refine lv_iload_n hx hb dX0_addBelow_40 rfl (lv_at hl 1 rfl) ?_
            refine z_ast (f := (sA (sA (sA (sA S 3 (fun _ => z3)) 4 g4) 5 g5) 6 g6) 6) (i := ↑i) (v := x) hx hb hK hP (cD hinj cI cZ _) hS 11 0 rfl rfl (by omega) (by omega) (by decide) dX0_addBelow_41 (fun H locs hP hS => ?_)
            have hP : va_P D vwCl (cW cI cZ ad (sA (sA (sA (sA S 3 (fun _ => z3)) 4 g4) 5 g5) 6 (uZ g6 i x))) H := hP
            have hR : RS (sA (sA (sA (sA S 3 (fun _ => z3)) 4 g4) 5 g5) 6 (uZ g6 i x)) := hR.put' (by omega) (by omega)
            refine lv_aload_n hx hb dX0_addBelow_42 rfl (lv_at hl 0 rfl) ?_
            refine lv_iload_n hx hb dX0_addBelow_43 rfl (lv_at hl 1 rfl) ?_
            refine z_iconst hx hb dX0_addBelow_44 ?_
            refine z_iadd hx hb dX0_addBelow_45 ?_
            refine lv_iload_n hx hb dX0_addBelow_46 rfl (lv_at hl 2 rfl) ?_
            refine lv_iload_n hx hb dX0_addBelow_47 rfl (lv_at hl 3 rfl) ?_
            refine lv_iload_n hx hb dX0_addBelow_48 rfl (lv_at hl 1 rfl) ?_
            refine s_callSi (As := [.int (zI (x))]) (rest := [.int (zI (↑i)), .int (zI (y)), .int (zI (x + 1)), .ref (ad 42)]) ⟨hx, hb, hml, hown, hts⟩ (k_X0_shiftOf l (o.length) x (by omega) (by omega)) (cwS 1 hts (gS hsub q_344 q_345 q_3 q_346) rfl rfl rfl hdX0_shiftOf ⟨Nat.le_of_ble_eq_true rfl, Nat.le_of_ble_eq_true rfl⟩) rfl hl.1 rfl (Nat.le_of_ble_eq_true rfl) dX0_addBelow_49 ⟨Nat.le_of_ble_eq_true rfl, Nat.le_of_ble_eq_true rfl⟩ (fun r_9 hq_11 => ?_)
            rw [hq_11]
            have hpw := pw2 (3 * (6 - o.length)) (by omega)
            have hpw3 : (2 : Int) ^ (3 * (6 - o.length) + 3) = 2 ^ (3 * (6 - o.length)) * 8 := by rw [Int.pow_add]; rfl
            have hb0 : 0 ≤ (↑i : Int) * 2 ^ (3 * (6 - o.length)) := Int.mul_nonneg (by omega) (by omega)
            have hb1 : (↑i : Int) * 2 ^ (3 * (6 - o.length)) < 2 ^ (3 * (6 - o.length) + 3) := by rw [hpw3, Int.mul_comm]; exact Int.mul_lt_mul_of_pos_left (by omega) (by omega)
            have hw21 := pw2 (3 * (6 - o.length) + 3) (by omega)
            refine z_ishl hx hb (3 * (6 - o.length)) (by omega) (by omega) (by omega) (by omega) dX0_addBelow_52 ?_
            refine z_iorS hx hb (3 * (6 - o.length) + 3) (by omega) (by rw [hy9]; exact cdO_mod hol7) (by omega) (by omega) dX0_addBelow_53 ?_
            refine g_callSv (As := [.ref (ad 42), .int (zI (x + 1)), .int (zI (y + (↑i * 2 ^ (3 * (6 - o.length)))))]) (rest := []) ⟨hx, hb, hml, hown, hts⟩ (k_X0_addBelow_5 l D cI cZ ad az av hinj (sA (sA (sA (sA S 3 (fun _ => z3)) 4 g4) 5 g5) 6 (uZ g6 i x)) hR n hn hn7 (o ++ [i]) (pn_up (fun v hv => (h6 v hv).trans (hpn v hv)) hp0 hx9) (by rw [List.length_append, List.length_singleton]; omega) (sz + (dfsW n (dfs n (dd - 1)) o i).length) (show z3 = ((sz + (dfsW n (dfs n (dd - 1)) o i).length : Nat) : Int) by omega) (dd - 1) (by omega) (gdO_snoc hg (by omega) hp0) (by rw [List.length_append, List.length_singleton]; omega) (by omega) (x + 1) (y + (↑i * 2 ^ (3 * (6 - o.length)))) (by rw [List.length_append, List.length_singleton]; omega) (by rw [hy9]; exact cdO_snoc hol7)) (cwS 3 hts (gS hsub q_325 q_326 q_3 q_327) rfl rfl rfl hdX0_addBelow ⟨Nat.le_of_ble_eq_true rfl, Nat.le_of_ble_eq_true rfl⟩) (cEb D cI cZ ad az av) (cEk D cI cZ ad az av) hE hP hS rfl hl.1 rfl (Nat.le_of_ble_eq_true rfl) dX0_addBelow_54 ⟨Nat.le_of_ble_eq_true rfl, Nat.le_of_ble_eq_true rfl⟩ (fun S_13 H locs hq_14 hP hR hS _ => ?_)
            obtain ⟨e_15, e_16, e_17, e_18, rfl, hq6_19, hq3_20, hqa_21⟩ := hq_14
            have hq6 := hq6_19
            refine lv_aload_n hx hb dX0_addBelow_57 rfl (lv_at hl 0 rfl) ?_
            refine va_get (D := D) (ci := 0) (v := .ref (ad 6)) (C := RX0) (T := TX0) (N := 5) hx hb hT inX0 hown hK hP 2 rfl rfl 4 (by decide) (hT _ q_57) (fun _ h9 => h9) rfl dX0_addBelow_58 ?_
            refine lv_iload_n hx hb dX0_addBelow_61 rfl (lv_at hl 3 rfl) ?_
            refine z_iconst hx hb dX0_addBelow_62 ?_
            refine z_ast (f := (sA (sA (sA (sA (sA (sA (sA (sA S 3 (fun _ => z3)) 4 g4) 5 g5) 6 (uZ g6 i x)) 3 e_15) 4 e_16) 5 e_17) 6 e_18) 6) (i := ↑i) (v := -1) hx hb hK hP (cD hinj cI cZ _) hS 11 0 rfl rfl (by omega) (by omega) (by decide) dX0_addBelow_63 (fun H locs hP hS => ?_)
            have hP : va_P D vwCl (cW cI cZ ad (sA (sA (sA (sA (sA (sA (sA (sA S 3 (fun _ => z3)) 4 g4) 5 g5) 6 (uZ g6 i x)) 3 e_15) 4 e_16) 5 e_17) 6 (uZ e_18 i (-1)))) H := hP
            have hR : RS (sA (sA (sA (sA (sA (sA (sA (sA S 3 (fun _ => z3)) 4 g4) 5 g5) 6 (uZ g6 i x)) 3 e_15) 4 e_16) 5 e_17) 6 (uZ e_18 i (-1))) := hR.put' (by omega) (by omega)
            refine z_iinc (lv' := [(3, .int (zI (↑i + 1))), (0, .ref (ad 42)), (1, .int (zI (x))), (2, .int (zI (y)))]) hx hb dX0_addBelow_64 hl (k := 3) rfl (by decide) rfl (fun ls hl => ?_)
            refine lv_goto (tgt := 16) hx hb dX0_addBelow_67 (by decide) ?_
            have hP : va_P D vwCl (cW cI cZ ad (sA (sA (sA (sA (sA (sA (sA (sA (sA S 3 (fun _ => z3)) 4 g4) 5 g5) 6 (uZ g6 i x)) 3 e_15) 4 e_16) 5 e_17) 6 (uZ e_18 i (-1))) 3 (fun _ => e_15 0))) _ := hP
            have hR : RS (sA (sA (sA (sA (sA (sA (sA (sA (sA S 3 (fun _ => z3)) 4 g4) 5 g5) 6 (uZ g6 i x)) 3 e_15) 4 e_16) 5 e_17) 6 (uZ e_18 i (-1))) 3 (fun _ => e_15 0)) := hR.one (hR 3 0 (by decide)).1 (hR 3 0 (by decide)).2
            have hSe_22 : sA (sA (sA (sA (sA (sA (sA (sA (sA S 3 (fun _ => z3)) 4 g4) 5 g5) 6 (uZ g6 i x)) 3 e_15) 4 e_16) 5 e_17) 6 (uZ e_18 i (-1))) 3 (fun _ => e_15 0) = sA (sA (sA (sA S 3 (fun _ => e_15 0)) 4 e_16) 5 e_17) 6 (uZ e_18 i (-1)) := by
              funext k8
              by_cases e80 : k8 = 3
              · subst e80; funext j8; first | rfl | exact hsc_3 j8
              by_cases e81 : k8 = 4
              · subst e81; first | rfl | (funext j8; rfl)
              by_cases e82 : k8 = 5
              · subst e82; first | rfl | (funext j8; rfl)
              by_cases e83 : k8 = 6
              · subst e83; first | rfl | (funext j8; rfl)
              simp [sA, e80, e81, e82, e83]
            rw [hSe_22] at hP hR
            exact ih_16 (i + 1) (e_15 0) e_16 e_17 (uZ e_18 i (-1)) _ _ _ (by omega) (by have h7 := hq3_20; rw [dfsW_t hok, List.length_append]; omega) (by rw [dfsW_t hok]; exact appd_app ha hqa_21) (pn_bk hpn hp0 (by omega) h6 hq6_19) (by omega) hP hR hS (lv_sub hl [1, 2, 3, 0] rfl)
          · have h9 : True := trivial
            refine lv_goto (tgt := 64) hx hb dX0_addBelow_32 (by decide) ?_
            refine z_iinc (lv' := [(3, .int (zI (↑i + 1))), (0, .ref (ad 42)), (1, .int (zI (x))), (2, .int (zI (y)))]) hx hb dX0_addBelow_64 hl (k := 3) rfl (by decide) rfl (fun ls hl => ?_)
            refine lv_goto (tgt := 16) hx hb dX0_addBelow_67 (by decide) ?_
            exact ih_16 (i + 1) z3 g4 g5 g6 _ _ _ (by omega) (by rw [dfsW_f c_8]; exact hz3) (by rw [dfsW_f c_8]; exact ha) (h6) (by omega) hP hR hS (lv_sub hl [1, 2, 3, 0] rfl)
    have hP : va_P D vwCl (cW cI cZ ad (sA S 3 (fun _ => S 3 0))) _ := hP
    have hR : RS (sA S 3 (fun _ => S 3 0)) := hR.one (hR 3 0 (by decide)).1 (hR 3 0 (by decide)).2
    have hSe_23 : sA S 3 (fun _ => S 3 0) = sA (sA (sA (sA S 3 (fun _ => S 3 0)) 4 (S 4)) 5 (S 5)) 6 (S 6) := by
      funext k8
      by_cases e80 : k8 = 3
      · subst e80; funext j8; first | rfl | exact hsc_3 j8
      by_cases e81 : k8 = 4
      · subst e81; first | rfl | (funext j8; rfl)
      by_cases e82 : k8 = 5
      · subst e82; first | rfl | (funext j8; rfl)
      by_cases e83 : k8 = 6
      · subst e83; first | rfl | (funext j8; rfl)
      simp [sA, e80, e81, e82, e83]
    rw [hSe_23] at hP hR
    exact cut_16 _ 0 (S 3 0) (S 4) (S 5) (S 6) _ _ _ (by omega) (by rw [hsz]; exact (Int.add_zero _).symm) (appd_nil _ _ _ _) (fun v hv => rfl) (Nat.lt_succ_self _) hP hR hS (lv_sub hl [1, 2, 3, 0] rfl)
  · have h9 : True := trivial
    refine lv_aload_n hx hb dX0_addBelow_8 rfl (lv_at hl 0 rfl) ?_
    refine lv_iload_n hx hb dX0_addBelow_9 rfl (lv_at hl 2 rfl) ?_
    refine g_callVv (As := [.int (zI (y))]) (rest := []) ⟨hx, hb, hml, hown, hts⟩ (k_X0_keep l D cI cZ ad az av hinj S hR n hn hn7 o hpn hol sz hsz (by rw [show dd = 0 by omega] at hcap; exact hcap) hg (by omega) y (hy9)) (cwV 1 hts (gV hsub q_328 q_330 q_sX0_keep q_3 q_331) rfl rfl rfl hdX0_keep ⟨Nat.le_of_ble_eq_true rfl, Nat.le_of_ble_eq_true rfl⟩) (cEb D cI cZ ad az av) (cEk D cI cZ ad az av) hE (va_recv (ci := 0) (q0 := 2) hK hP rfl rfl) hP hS rfl hl.1 rfl (Nat.le_of_ble_eq_true rfl) dX0_addBelow_10 ⟨Nat.le_of_ble_eq_true rfl, Nat.le_of_ble_eq_true rfl⟩ (fun S_25 H locs hq_26 hP hR hS _ => ?_)
    obtain rfl := hq_26
    have hP : va_P D vwCl (cW cI cZ ad (sA (sA (sA S 4 (uZ (S 4) sz (cdO o))) 5 (uZ (S 5) sz (plO n o))) 3 (fun _ => ↑sz + 1))) H := hP
    have hR : RS (sA (sA (sA S 4 (uZ (S 4) sz (cdO o))) 5 (uZ (S 5) sz (plO n o))) 3 (fun _ => ↑sz + 1)) := hR
    have hSe_27 : sA (sA (sA S 4 (uZ (S 4) sz (cdO o))) 5 (uZ (S 5) sz (plO n o))) 3 (fun _ => ↑sz + 1) = sA (sA (sA (sA S 3 (fun _ => ↑sz + 1)) 4 (uZ (S 4) sz (cdO o))) 5 (uZ (S 5) sz (plO n o))) 6 (S 6) := by
      funext k8
      by_cases e80 : k8 = 3
      · subst e80; first | rfl | (funext j8; rfl)
      by_cases e81 : k8 = 4
      · subst e81; first | rfl | (funext j8; rfl)
      by_cases e82 : k8 = 5
      · subst e82; first | rfl | (funext j8; rfl)
      by_cases e83 : k8 = 6
      · subst e83; first | rfl | (funext j8; rfl)
      simp [sA, e80, e81, e82, e83]
    rw [hSe_27] at hP hR
    exact g_vret (S1 := sA (sA (sA (sA S 3 (fun _ => ↑sz + 1)) 4 (uZ (S 4) sz (cdO o))) 5 (uZ (S 5) sz (plO n o))) 6 (S 6)) hx hb hr hlocks hP hR hS (⟨_, _, _, _, rfl, fun v hv => rfl, by rw [show dd = 0 by omega]; rfl, by rw [show dd = 0 by omega]; exact appd_one n sz o _ _⟩) dX0_addBelow_13
set_option maxHeartbeats 4000000 in
set_option maxRecDepth 100000 in
theorem k_X0_addBelow_7 (l : Launch) (D : va_G) (cI cZ : ClassId) (ad : Nat → Nat) (az av : Nat) (hinj : cInj ad) (S : St) (hR : RS S) (n : Nat) (hn : S 2 0 = ↑n) (hn7 : n ≤ 7) (o : List Nat) (hpn : ∀ v, v < n → S 6 v = (pnN o v : Int) - 1) (hol : o.length ≤ 7) (sz : Nat) (hsz : S 3 0 = ↑sz) (dd : Nat) (hdd : dd ≤ 7) (hg : gdO n o) (hlen : o.length + dd = n) (hcap : sz + (dfs n dd o).length ≤ 462) (x y : Int) (hx9 : x = ↑o.length) (hy9 : y = cdO o) : Met l yX0_addBelow (Cond.code yX0_addBelow cX0_addBelow 4 none :: lwT) ({ frames := 9, cells := 0, slots := 0, locals := 207 }) (gPc D (cW cI cZ ad) (cE D cI cZ ad az av) S [.ref (ad 42), .int (zI (x)), .int (zI (y))]) (va_Qv (fun (S' : St) => ∃ e3 e4 e5 e6, S' = sA (sA (sA (sA S 3 e3) 4 e4) 5 e5) 6 e6 ∧ (∀ v, v < n → e6 v = S 6 v) ∧ e3 0 = ↑sz + ↑(dfs n dd o).length ∧ appd n sz (dfs n dd o) (S 4) (S 5) e4 e5) (gB D (cW cI cZ ad)) (cA ad)) 0 0 (cA ad) := by
  refine Met.ofW (cc := cX0_addBelow) (maxL := 4) (ret := none) (by decide) rfl ?_
  intro p e s m args below meth c s₁ B hml hv
  obtain ⟨rfl, hP, hE⟩ := hv
  have hx := B.exec
  have hb := B.bytes
  have hr := B.returns
  have hts := atoms_spec (ws := Cond.code yX0_addBelow cX0_addBelow 4 none :: lwT) B.pre
  have hT := fun w (h : w ∈ lwT) => hts w (List.mem_cons_of_mem _ h)
  have hsub : ∀ w ∈ lwT, w ∈ (Cond.code yX0_addBelow cX0_addBelow 4 none :: lwT) := fun w h => List.mem_cons_of_mem _ h
  have hown : s.vm.findClass RX0 = some m.cls := findClass_of_methodNamed B.named
  have hlocks := B.notSynchronized
  have hK : va_K D vwCl [(cI, .int), (cZ, .boolean)] s := hE.1
  have hS : va_S (cA ad) s.heap s.heap [] := va_S.rf
  have hl := lv_entry ([.ref (ad 42), .int (zI (x)), .int (zI (y))]) (n := 4) (Nat.le_of_ble_eq_true rfl)
  rw [lg_entry_eq]
  generalize (lg_sl ([.ref (ad 42), .int (zI (x)), .int (zI (y))]) ++ List.replicate (4 - (lg_sl ([.ref (ad 42), .int (zI (x)), .int (zI (y))])).length) Slot.unset).toArray = ls at hl ⊢
  have hl : lv_has ls 4 [(0, .ref (ad 42)), (1, .int (zI (x))), (2, .int (zI (y)))] := hl
  have hcr := cdO_r hn7 hg
  refine lv_iload_n hx hb dX0_addBelow_0 rfl (lv_at hl 1 rfl) ?_
  refine lv_aload_n hx hb dX0_addBelow_1 rfl (lv_at hl 0 rfl) ?_
  have g_1 : -2147483648 ≤ S 2 0 ∧ S 2 0 < 2147483648 := hR 2 0 (by decide)
  refine va_get (D := D) (ci := 0) (v := .int (zI (S 2 0))) (C := RX0) (T := TX0) (N := 5) hx hb hT inX0 hown hK hP 2 rfl rfl 0 (by decide) (hT _ q_45) (fun _ h9 => h9) rfl dX0_addBelow_2 ?_
  refine z_icmp_lt (tgt := 14) hx hb (by omega) (by omega) (by omega) (by omega) dX0_addBelow_5 (by decide) (fun c_2 => ?_) (fun c_2 => ?_)
  · have h9 : True := trivial
    have hd0 : dd ≠ 0 := by omega
    have hds := dfs_p n o hd0
    have hol7 : o.length < 7 := by omega
    refine z_iconst hx hb dX0_addBelow_14 ?_
    refine lv_istore_n (lv' := [(3, .int (zI (0))), (0, .ref (ad 42)), (1, .int (zI (x))), (2, .int (zI (y)))]) hx hb dX0_addBelow_15 rfl hl (by decide) rfl (fun ls hl => ?_)
    have cut_16 : ∀ (k9 : Nat) (i : Nat) (z3 : Int) (g4 : Nat → Int) (g5 : Nat → Int) (g6 : Nat → Int) (H : Heap) (locs : List Loc) (ls : Array Slot), (i ≤ n) → (z3 = ↑sz + ↑(dfsW n (dfs n (dd - 1)) o i).length) → (appd n sz (dfsW n (dfs n (dd - 1)) o i) (S 4) (S 5) g4 g5) → (∀ v, v < n → g6 v = S 6 v) → (n - i) < k9 → va_P D vwCl (cW cI cZ ad (sA (sA (sA (sA S 3 (fun _ => z3)) 4 g4) 5 g5) 6 g6)) H → RS (sA (sA (sA (sA S 3 (fun _ => z3)) 4 g4) 5 g5) 6 g6) → va_S (cA ad) s.heap H locs → lv_has ls 4 [(0, .ref (ad 42)), (1, .int (zI (x))), (2, .int (zI (y))), (3, .int (zI (↑i)))] → W p l e (headSpec (Cond.code yX0_addBelow cX0_addBelow 4 none :: lwT) ({ frames := 9, cells := 0, slots := 0, locals := 207 })).room s m ([.ref (ad 42), .int (zI (x)), .int (zI (y))] : List Value).toArray below meth c H locs 0 0 (MQ below (va_Qv (fun (S' : St) => ∃ e3 e4 e5 e6, S' = sA (sA (sA (sA S 3 e3) 4 e4) 5 e5) 6 e6 ∧ (∀ v, v < n → e6 v = S 6 v) ∧ e3 0 = ↑sz + ↑(dfs n dd o).length ∧ appd n sz (dfs n dd o) (S 4) (S 5) e4 e5) (gB D (cW cI cZ ad)) (cA ad)) ([.ref (ad 42), .int (zI (x)), .int (zI (y))] : List Value).toArray s 0 0 (cA ad)) (F0 m 16 ls []) := by
      intro k9
      induction k9 with
      | zero =>
        intro i z3 g4 g5 g6 H locs ls hi hz3 ha h6 hk9 hP hR hS hl
        exact absurd hk9 (Nat.not_lt_zero _)
      | succ k9 ih_16 =>
        intro i z3 g4 g5 g6 H locs ls hi hz3 ha h6 hk9 hP hR hS hl
        refine lv_iload_n hx hb dX0_addBelow_16 rfl (lv_at hl 3 rfl) ?_
        refine lv_aload_n hx hb dX0_addBelow_17 rfl (lv_at hl 0 rfl) ?_
        have g_3 : -2147483648 ≤ S 2 0 ∧ S 2 0 < 2147483648 := hR 2 0 (by decide)
        refine va_get (D := D) (ci := 0) (v := .int (zI (S 2 0))) (C := RX0) (T := TX0) (N := 5) hx hb hT inX0 hown hK hP 2 rfl rfl 0 (by decide) (hT _ q_45) (fun _ h9 => h9) rfl dX0_addBelow_18 ?_
        refine z_icmp_ge (tgt := 70) hx hb (by omega) (by omega) (by omega) (by omega) dX0_addBelow_21 (by decide) (fun c_4 => ?_) (fun c_4 => ?_)
        · have h9 : True := trivial
          exact g_vret (S1 := sA (sA (sA (sA S 3 (fun _ => z3)) 4 g4) 5 g5) 6 g6) hx hb hr hlocks hP hR hS (⟨_, _, _, _, rfl, h6, by rw [show i = n by omega] at hz3; rw [hds]; exact hz3, by rw [show i = n by omega] at ha; rw [hds]; exact ha⟩) dX0_addBelow_70
        · have h9 : True := trivial
          refine lv_aload_n hx hb dX0_addBelow_24 rfl (lv_at hl 0 rfl) ?_
          refine lv_iload_n hx hb dX0_addBelow_25 rfl (lv_at hl 3 rfl) ?_
          refine g_callVi (As := [.int (zI (↑i))]) (rest := []) ⟨hx, hb, hml, hown, hts⟩ (k_X0_canComeNext l D cI cZ ad az av hinj (sA (sA (sA (sA S 3 (fun _ => z3)) 4 g4) 5 g5) 6 g6) hR n hn hn7 o (fun v hv => (h6 v hv).trans (hpn v hv)) hol i ↑i (by omega) (by omega)) (cwV 1 hts (gV hsub q_332 q_334 q_sX0_canComeNext q_3 q_335) rfl rfl rfl hdX0_canComeNext ⟨Nat.le_of_ble_eq_true rfl, Nat.le_of_ble_eq_true rfl⟩) (cEb D cI cZ ad az av) (cEk D cI cZ ad az av) hE (va_recv (ci := 0) (q0 := 2) hK hP rfl rfl) hP hS rfl hl.1 rfl (Nat.le_of_ble_eq_true rfl) dX0_addBelow_26 ⟨Nat.le_of_ble_eq_true rfl, Nat.le_of_ble_eq_true rfl⟩ (fun r_5 S_6 H locs hq_7 hP hR hS _ => ?_)
          obtain ⟨hs9, rfl⟩ := hq_7
          obtain rfl := hs9.symm
          refine z_top (b := b2 (okN n o i)) rfl ?_
          refine z_ifneB (tgt := 35) hx hb dX0_addBelow_29 (by decide) (fun c_8 => ?_) (fun c_8 => ?_)
          · have h9 : True := trivial
            have hok := c_8
            have hp0 := okN_n hok
            have hcap2 := dfsW_cap (F := dfs n (dd - 1)) hok (by omega)
            rw [← hds] at hcap2
            refine lv_aload_n hx hb dX0_addBelow_35 rfl (lv_at hl 0 rfl) ?_
            refine va_get (D := D) (ci := 0) (v := .ref (ad 6)) (C := RX0) (T := TX0) (N := 5) hx hb hT inX0 hown hK hP 2 rfl rfl 4 (by decide) (hT _ q_57) (fun _ h9 => h9) rfl dX0_addBelow_36 ?_
            refine lv_iload_n hx hb dX0_addBelow_39 rfl (lv_at hl 3 rfl) ?_
            refine lv_iload_n hx hb dX0_addBelow_40 rfl (lv_at hl 1 rfl) ?_
            refine z_ast (f := (sA (sA (sA (sA S 3 (fun _ => z3)) 4 g4) 5 g5) 6 g6) 6) (i := ↑i) (v := x) hx hb hK hP (cD hinj cI cZ _) hS 11 0 rfl rfl (by omega) (by omega) (by decide) dX0_addBelow_41 (fun H locs hP hS => ?_)
            have hP : va_P D vwCl (cW cI cZ ad (sA (sA (sA (sA S 3 (fun _ => z3)) 4 g4) 5 g5) 6 (uZ g6 i x))) H := hP
            have hR : RS (sA (sA (sA (sA S 3 (fun _ => z3)) 4 g4) 5 g5) 6 (uZ g6 i x)) := hR.put' (by omega) (by omega)
            refine lv_aload_n hx hb dX0_addBelow_42 rfl (lv_at hl 0 rfl) ?_
            refine lv_iload_n hx hb dX0_addBelow_43 rfl (lv_at hl 1 rfl) ?_
            refine z_iconst hx hb dX0_addBelow_44 ?_
            refine z_iadd hx hb dX0_addBelow_45 ?_
            refine lv_iload_n hx hb dX0_addBelow_46 rfl (lv_at hl 2 rfl) ?_
            refine lv_iload_n hx hb dX0_addBelow_47 rfl (lv_at hl 3 rfl) ?_
            refine lv_iload_n hx hb dX0_addBelow_48 rfl (lv_at hl 1 rfl) ?_
            refine s_callSi (As := [.int (zI (x))]) (rest := [.int (zI (↑i)), .int (zI (y)), .int (zI (x + 1)), .ref (ad 42)]) ⟨hx, hb, hml, hown, hts⟩ (k_X0_shiftOf l (o.length) x (by omega) (by omega)) (cwS 1 hts (gS hsub q_344 q_345 q_3 q_346) rfl rfl rfl hdX0_shiftOf ⟨Nat.le_of_ble_eq_true rfl, Nat.le_of_ble_eq_true rfl⟩) rfl hl.1 rfl (Nat.le_of_ble_eq_true rfl) dX0_addBelow_49 ⟨Nat.le_of_ble_eq_true rfl, Nat.le_of_ble_eq_true rfl⟩ (fun r_9 hq_11 => ?_)
            rw [hq_11]
            have hpw := pw2 (3 * (6 - o.length)) (by omega)
            have hpw3 : (2 : Int) ^ (3 * (6 - o.length) + 3) = 2 ^ (3 * (6 - o.length)) * 8 := by rw [Int.pow_add]; rfl
            have hb0 : 0 ≤ (↑i : Int) * 2 ^ (3 * (6 - o.length)) := Int.mul_nonneg (by omega) (by omega)
            have hb1 : (↑i : Int) * 2 ^ (3 * (6 - o.length)) < 2 ^ (3 * (6 - o.length) + 3) := by rw [hpw3, Int.mul_comm]; exact Int.mul_lt_mul_of_pos_left (by omega) (by omega)
            have hw21 := pw2 (3 * (6 - o.length) + 3) (by omega)
            refine z_ishl hx hb (3 * (6 - o.length)) (by omega) (by omega) (by omega) (by omega) dX0_addBelow_52 ?_
            refine z_iorS hx hb (3 * (6 - o.length) + 3) (by omega) (by rw [hy9]; exact cdO_mod hol7) (by omega) (by omega) dX0_addBelow_53 ?_
            refine g_callSv (As := [.ref (ad 42), .int (zI (x + 1)), .int (zI (y + (↑i * 2 ^ (3 * (6 - o.length)))))]) (rest := []) ⟨hx, hb, hml, hown, hts⟩ (k_X0_addBelow_6 l D cI cZ ad az av hinj (sA (sA (sA (sA S 3 (fun _ => z3)) 4 g4) 5 g5) 6 (uZ g6 i x)) hR n hn hn7 (o ++ [i]) (pn_up (fun v hv => (h6 v hv).trans (hpn v hv)) hp0 hx9) (by rw [List.length_append, List.length_singleton]; omega) (sz + (dfsW n (dfs n (dd - 1)) o i).length) (show z3 = ((sz + (dfsW n (dfs n (dd - 1)) o i).length : Nat) : Int) by omega) (dd - 1) (by omega) (gdO_snoc hg (by omega) hp0) (by rw [List.length_append, List.length_singleton]; omega) (by omega) (x + 1) (y + (↑i * 2 ^ (3 * (6 - o.length)))) (by rw [List.length_append, List.length_singleton]; omega) (by rw [hy9]; exact cdO_snoc hol7)) (cwS 3 hts (gS hsub q_325 q_326 q_3 q_327) rfl rfl rfl hdX0_addBelow ⟨Nat.le_of_ble_eq_true rfl, Nat.le_of_ble_eq_true rfl⟩) (cEb D cI cZ ad az av) (cEk D cI cZ ad az av) hE hP hS rfl hl.1 rfl (Nat.le_of_ble_eq_true rfl) dX0_addBelow_54 ⟨Nat.le_of_ble_eq_true rfl, Nat.le_of_ble_eq_true rfl⟩ (fun S_13 H locs hq_14 hP hR hS _ => ?_)
            obtain ⟨e_15, e_16, e_17, e_18, rfl, hq6_19, hq3_20, hqa_21⟩ := hq_14
            have hq6 := hq6_19
            refine lv_aload_n hx hb dX0_addBelow_57 rfl (lv_at hl 0 rfl) ?_
            refine va_get (D := D) (ci := 0) (v := .ref (ad 6)) (C := RX0) (T := TX0) (N := 5) hx hb hT inX0 hown hK hP 2 rfl rfl 4 (by decide) (hT _ q_57) (fun _ h9 => h9) rfl dX0_addBelow_58 ?_
            refine lv_iload_n hx hb dX0_addBelow_61 rfl (lv_at hl 3 rfl) ?_
            refine z_iconst hx hb dX0_addBelow_62 ?_
            refine z_ast (f := (sA (sA (sA (sA (sA (sA (sA (sA S 3 (fun _ => z3)) 4 g4) 5 g5) 6 (uZ g6 i x)) 3 e_15) 4 e_16) 5 e_17) 6 e_18) 6) (i := ↑i) (v := -1) hx hb hK hP (cD hinj cI cZ _) hS 11 0 rfl rfl (by omega) (by omega) (by decide) dX0_addBelow_63 (fun H locs hP hS => ?_)
            have hP : va_P D vwCl (cW cI cZ ad (sA (sA (sA (sA (sA (sA (sA (sA S 3 (fun _ => z3)) 4 g4) 5 g5) 6 (uZ g6 i x)) 3 e_15) 4 e_16) 5 e_17) 6 (uZ e_18 i (-1)))) H := hP
            have hR : RS (sA (sA (sA (sA (sA (sA (sA (sA S 3 (fun _ => z3)) 4 g4) 5 g5) 6 (uZ g6 i x)) 3 e_15) 4 e_16) 5 e_17) 6 (uZ e_18 i (-1))) := hR.put' (by omega) (by omega)
            refine z_iinc (lv' := [(3, .int (zI (↑i + 1))), (0, .ref (ad 42)), (1, .int (zI (x))), (2, .int (zI (y)))]) hx hb dX0_addBelow_64 hl (k := 3) rfl (by decide) rfl (fun ls hl => ?_)
            refine lv_goto (tgt := 16) hx hb dX0_addBelow_67 (by decide) ?_
            have hP : va_P D vwCl (cW cI cZ ad (sA (sA (sA (sA (sA (sA (sA (sA (sA S 3 (fun _ => z3)) 4 g4) 5 g5) 6 (uZ g6 i x)) 3 e_15) 4 e_16) 5 e_17) 6 (uZ e_18 i (-1))) 3 (fun _ => e_15 0))) _ := hP
            have hR : RS (sA (sA (sA (sA (sA (sA (sA (sA (sA S 3 (fun _ => z3)) 4 g4) 5 g5) 6 (uZ g6 i x)) 3 e_15) 4 e_16) 5 e_17) 6 (uZ e_18 i (-1))) 3 (fun _ => e_15 0)) := hR.one (hR 3 0 (by decide)).1 (hR 3 0 (by decide)).2
            have hSe_22 : sA (sA (sA (sA (sA (sA (sA (sA (sA S 3 (fun _ => z3)) 4 g4) 5 g5) 6 (uZ g6 i x)) 3 e_15) 4 e_16) 5 e_17) 6 (uZ e_18 i (-1))) 3 (fun _ => e_15 0) = sA (sA (sA (sA S 3 (fun _ => e_15 0)) 4 e_16) 5 e_17) 6 (uZ e_18 i (-1)) := by
              funext k8
              by_cases e80 : k8 = 3
              · subst e80; funext j8; first | rfl | exact hsc_3 j8
              by_cases e81 : k8 = 4
              · subst e81; first | rfl | (funext j8; rfl)
              by_cases e82 : k8 = 5
              · subst e82; first | rfl | (funext j8; rfl)
              by_cases e83 : k8 = 6
              · subst e83; first | rfl | (funext j8; rfl)
              simp [sA, e80, e81, e82, e83]
            rw [hSe_22] at hP hR
            exact ih_16 (i + 1) (e_15 0) e_16 e_17 (uZ e_18 i (-1)) _ _ _ (by omega) (by have h7 := hq3_20; rw [dfsW_t hok, List.length_append]; omega) (by rw [dfsW_t hok]; exact appd_app ha hqa_21) (pn_bk hpn hp0 (by omega) h6 hq6_19) (by omega) hP hR hS (lv_sub hl [1, 2, 3, 0] rfl)
          · have h9 : True := trivial
            refine lv_goto (tgt := 64) hx hb dX0_addBelow_32 (by decide) ?_
            refine z_iinc (lv' := [(3, .int (zI (↑i + 1))), (0, .ref (ad 42)), (1, .int (zI (x))), (2, .int (zI (y)))]) hx hb dX0_addBelow_64 hl (k := 3) rfl (by decide) rfl (fun ls hl => ?_)
            refine lv_goto (tgt := 16) hx hb dX0_addBelow_67 (by decide) ?_
            exact ih_16 (i + 1) z3 g4 g5 g6 _ _ _ (by omega) (by rw [dfsW_f c_8]; exact hz3) (by rw [dfsW_f c_8]; exact ha) (h6) (by omega) hP hR hS (lv_sub hl [1, 2, 3, 0] rfl)
    have hP : va_P D vwCl (cW cI cZ ad (sA S 3 (fun _ => S 3 0))) _ := hP
    have hR : RS (sA S 3 (fun _ => S 3 0)) := hR.one (hR 3 0 (by decide)).1 (hR 3 0 (by decide)).2
    have hSe_23 : sA S 3 (fun _ => S 3 0) = sA (sA (sA (sA S 3 (fun _ => S 3 0)) 4 (S 4)) 5 (S 5)) 6 (S 6) := by
      funext k8
      by_cases e80 : k8 = 3
      · subst e80; funext j8; first | rfl | exact hsc_3 j8
      by_cases e81 : k8 = 4
      · subst e81; first | rfl | (funext j8; rfl)
      by_cases e82 : k8 = 5
      · subst e82; first | rfl | (funext j8; rfl)
      by_cases e83 : k8 = 6
      · subst e83; first | rfl | (funext j8; rfl)
      simp [sA, e80, e81, e82, e83]
    rw [hSe_23] at hP hR
    exact cut_16 _ 0 (S 3 0) (S 4) (S 5) (S 6) _ _ _ (by omega) (by rw [hsz]; exact (Int.add_zero _).symm) (appd_nil _ _ _ _) (fun v hv => rfl) (Nat.lt_succ_self _) hP hR hS (lv_sub hl [1, 2, 3, 0] rfl)
  · have h9 : True := trivial
    refine lv_aload_n hx hb dX0_addBelow_8 rfl (lv_at hl 0 rfl) ?_
    refine lv_iload_n hx hb dX0_addBelow_9 rfl (lv_at hl 2 rfl) ?_
    refine g_callVv (As := [.int (zI (y))]) (rest := []) ⟨hx, hb, hml, hown, hts⟩ (k_X0_keep l D cI cZ ad az av hinj S hR n hn hn7 o hpn hol sz hsz (by rw [show dd = 0 by omega] at hcap; exact hcap) hg (by omega) y (hy9)) (cwV 1 hts (gV hsub q_328 q_330 q_sX0_keep q_3 q_331) rfl rfl rfl hdX0_keep ⟨Nat.le_of_ble_eq_true rfl, Nat.le_of_ble_eq_true rfl⟩) (cEb D cI cZ ad az av) (cEk D cI cZ ad az av) hE (va_recv (ci := 0) (q0 := 2) hK hP rfl rfl) hP hS rfl hl.1 rfl (Nat.le_of_ble_eq_true rfl) dX0_addBelow_10 ⟨Nat.le_of_ble_eq_true rfl, Nat.le_of_ble_eq_true rfl⟩ (fun S_25 H locs hq_26 hP hR hS _ => ?_)
    obtain rfl := hq_26
    have hP : va_P D vwCl (cW cI cZ ad (sA (sA (sA S 4 (uZ (S 4) sz (cdO o))) 5 (uZ (S 5) sz (plO n o))) 3 (fun _ => ↑sz + 1))) H := hP
    have hR : RS (sA (sA (sA S 4 (uZ (S 4) sz (cdO o))) 5 (uZ (S 5) sz (plO n o))) 3 (fun _ => ↑sz + 1)) := hR
    have hSe_27 : sA (sA (sA S 4 (uZ (S 4) sz (cdO o))) 5 (uZ (S 5) sz (plO n o))) 3 (fun _ => ↑sz + 1) = sA (sA (sA (sA S 3 (fun _ => ↑sz + 1)) 4 (uZ (S 4) sz (cdO o))) 5 (uZ (S 5) sz (plO n o))) 6 (S 6) := by
      funext k8
      by_cases e80 : k8 = 3
      · subst e80; first | rfl | (funext j8; rfl)
      by_cases e81 : k8 = 4
      · subst e81; first | rfl | (funext j8; rfl)
      by_cases e82 : k8 = 5
      · subst e82; first | rfl | (funext j8; rfl)
      by_cases e83 : k8 = 6
      · subst e83; first | rfl | (funext j8; rfl)
      simp [sA, e80, e81, e82, e83]
    rw [hSe_27] at hP hR
    exact g_vret (S1 := sA (sA (sA (sA S 3 (fun _ => ↑sz + 1)) 4 (uZ (S 4) sz (cdO o))) 5 (uZ (S 5) sz (plO n o))) 6 (S 6)) hx hb hr hlocks hP hR hS (⟨_, _, _, _, rfl, fun v hv => rfl, by rw [show dd = 0 by omega]; rfl, by rw [show dd = 0 by omega]; exact appd_one n sz o _ _⟩) dX0_addBelow_13
