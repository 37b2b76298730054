set_option maxHeartbeats 4000000 in
set_option maxRecDepth 100000 in
theorem k_X3_distanceTo (l : Launch) (D : va_G) (cI cZ : ClassId) (ad : Nat → Nat) (az av : Nat) (hinj : cInj ad) (S : St) (hR : RS S) (N : Nat) (hN : S 3 0 = ↑N) (hN4 : N ≤ 462) (x : Int) (hx1 : -2147483648 ≤ x) (hx2 : x < 2147483648) : Met l yX3_distanceTo (Cond.code yX3_distanceTo cX3_distanceTo 2 (some .int) :: lwT) ({ frames := 0, cells := 0, slots := 0, locals := 0 }) (gPc D (cW cI cZ ad) (cE D cI cZ ad az av) S [.ref (ad 46), .int (zI (x))]) (va_Qi (fun (r : Int32) (S' : St) => S' = S ∧ r = zI (if 0 ≤ x ∧ x < N then S 29 x.toNat else -1)) (gB D (cW cI cZ ad)) (cA ad)) 0 0 (cA ad) := by
  refine Met.ofW (cc := cX3_distanceTo) (maxL := 2) (ret := (some .int)) (by decide) rfl ?_
  intro p e s m args below meth c s₁ B hml hv
  obtain ⟨rfl, hP, hE⟩ := hv
  have hx := B.exec
  have hb := B.bytes
  have hr := B.returns
  have hts := atoms_spec (ws := Cond.code yX3_distanceTo cX3_distanceTo 2 (some .int) :: lwT) B.pre
  have hT := fun w (h : w ∈ lwT) => hts w (List.mem_cons_of_mem _ h)
  have hsub : ∀ w ∈ lwT, w ∈ (Cond.code yX3_distanceTo cX3_distanceTo 2 (some .int) :: lwT) := fun w h => List.mem_cons_of_mem _ h
  have hown : s.vm.findClass RX3 = some m.cls := findClass_of_methodNamed B.named
  have hlocks := B.notSynchronized
  have hK : va_K D vwCl [(cI, .int), (cZ, .boolean)] s := hE.1
  have hS : va_S (cA ad) s.heap s.heap [] := va_S.rf
  have hl := lv_entry ([.ref (ad 46), .int (zI (x))]) (n := 2) (Nat.le_of_ble_eq_true rfl)
  rw [lg_entry_eq]
  generalize (lg_sl ([.ref (ad 46), .int (zI (x))]) ++ List.replicate (2 - (lg_sl ([.ref (ad 46), .int (zI (x))])).length) Slot.unset).toArray = ls at hl ⊢
  have hl : lv_has ls 2 [(0, .ref (ad 46)), (1, .int (zI (x)))] := hl
  refine lv_iload_n hx hb dX3_distanceTo_0 rfl (lv_at hl 1 rfl) ?_
  refine z_if_lt (tgt := 24) hx hb (by omega) (by omega) dX3_distanceTo_1 (by decide) (fun c_1 => ?_) (fun c_1 => ?_)
  · have h9 : True := trivial
    refine z_iconst hx hb dX3_distanceTo_24 ?_
    exact g_iret (S1 := S) (v := zI (-1)) hx hb hr hlocks hP hR hS (⟨rfl, by rw [if_neg (by omega)]⟩) dX3_distanceTo_25
  · have h9 : True := trivial
    refine lv_iload_n hx hb dX3_distanceTo_4 rfl (lv_at hl 1 rfl) ?_
    refine lv_aload_n hx hb dX3_distanceTo_5 rfl (lv_at hl 0 rfl) ?_
    refine va_get (D := D) (ci := 3) (v := .ref (ad 42)) (C := RX3) (T := TX3) (N := 8) hx hb hT inX3 hown hK hP 6 rfl rfl 0 (by decide) (hT _ q_135) (fun _ h9 => h9) rfl dX3_distanceTo_6 ?_
    have g_2 : -2147483648 ≤ S 3 0 ∧ S 3 0 < 2147483648 := hR 3 0 (by decide)
    refine va_get (D := D) (ci := 0) (v := .int (zI (S 3 0))) (C := RX0) (T := TX0) (N := 5) hx hb hT inX0 hown hK hP 2 rfl rfl 1 (by decide) (hT _ q_51) (fun _ h9 => h9) rfl dX3_distanceTo_9 ?_
    refine z_icmp_ge (tgt := 24) hx hb (by omega) (by omega) (by omega) (by omega) dX3_distanceTo_12 (by decide) (fun c_3 => ?_) (fun c_3 => ?_)
    · have h9 : True := trivial
      refine z_iconst hx hb dX3_distanceTo_24 ?_
      exact g_iret (S1 := S) (v := zI (-1)) hx hb hr hlocks hP hR hS (⟨rfl, by rw [if_neg (by omega)]⟩) dX3_distanceTo_25
    · have h9 : True := trivial
      refine lv_aload_n hx hb dX3_distanceTo_15 rfl (lv_at hl 0 rfl) ?_
      refine va_get (D := D) (ci := 3) (v := .ref (ad 29)) (C := RX3) (T := TX3) (N := 8) hx hb hT inX3 hown hK hP 6 rfl rfl 6 (by decide) (hT _ q_141) (fun _ h9 => h9) rfl dX3_distanceTo_16 ?_
      refine lv_iload_n hx hb dX3_distanceTo_19 rfl (lv_at hl 1 rfl) ?_
      have g_4 : -2147483648 ≤ S 29 (x).toNat ∧ S 29 (x).toNat < 2147483648 := hR 29 ((x).toNat) (by decide)
      refine z_ald (f := S 29) hx hb hK hP 24 0 rfl rfl (by omega) (by omega) (by decide) (j := (x).toNat) rfl dX3_distanceTo_20 ?_
      refine lv_goto (tgt := 25) hx hb dX3_distanceTo_21 (by decide) ?_
      exact g_iret (S1 := S) (v := zI (S 29 (x).toNat)) hx hb hr hlocks hP hR hS (⟨rfl, by rw [if_pos (by omega)]⟩) dX3_distanceTo_25
set_option maxHeartbeats 4000000 in
set_option maxRecDepth 100000 in
theorem k_X3_addStep (l : Launch) (D : va_G) (cI cZ : ClassId) (ad : Nat → Nat) (az av : Nat) (hinj : cInj ad) (S : St) (hR : RS S) (zc : Nat) (hzc : S 26 0 = ↑zc) (x : Int) (hx1 : -2147483648 ≤ x) (hx2 : x < 2147483648) (hcap : x ≠ -1 → zc < 3964) : Met l yX3_addStep (Cond.code yX3_addStep cX3_addStep 2 none :: lwT) ({ frames := 0, cells := 0, slots := 0, locals := 0 }) (gPc D (cW cI cZ ad) (cE D cI cZ ad az av) S [.ref (ad 46), .int (zI (x))]) (va_Qv (fun (S' : St) => ∃ e28 e26, S' = sA (sA S 28 e28) 26 e26 ∧ (x = -1 → e28 = S 28 ∧ e26 0 = ↑zc) ∧ (x ≠ -1 → e28 = uZ (S 28) zc x ∧ e26 0 = ↑zc + 1)) (gB D (cW cI cZ ad)) (cA ad)) 0 0 (cA ad) := by
  refine Met.ofW (cc := cX3_addStep) (maxL := 2) (ret := none) (by decide) rfl ?_
  intro p e s m args below meth c s₁ B hml hv
  obtain ⟨rfl, hP, hE⟩ := hv
  have hx := B.exec
  have hb := B.bytes
  have hr := B.returns
  have hts := atoms_spec (ws := Cond.code yX3_addStep cX3_addStep 2 none :: lwT) B.pre
  have hT := fun w (h : w ∈ lwT) => hts w (List.mem_cons_of_mem _ h)
  have hsub : ∀ w ∈ lwT, w ∈ (Cond.code yX3_addStep cX3_addStep 2 none :: lwT) := fun w h => List.mem_cons_of_mem _ h
  have hown : s.vm.findClass RX3 = some m.cls := findClass_of_methodNamed B.named
  have hlocks := B.notSynchronized
  have hK : va_K D vwCl [(cI, .int), (cZ, .boolean)] s := hE.1
  have hS : va_S (cA ad) s.heap s.heap [] := va_S.rf
  have hl := lv_entry ([.ref (ad 46), .int (zI (x))]) (n := 2) (Nat.le_of_ble_eq_true rfl)
  rw [lg_entry_eq]
  generalize (lg_sl ([.ref (ad 46), .int (zI (x))]) ++ List.replicate (2 - (lg_sl ([.ref (ad 46), .int (zI (x))])).length) Slot.unset).toArray = ls at hl ⊢
  have hl : lv_has ls 2 [(0, .ref (ad 46)), (1, .int (zI (x)))] := hl
  refine lv_iload_n hx hb dX3_addStep_0 rfl (lv_at hl 1 rfl) ?_
  refine z_iconst hx hb dX3_addStep_1 ?_
  refine z_icmp_eq (tgt := 15) hx hb (by omega) (by omega) (by omega) (by omega) dX3_addStep_2 (by decide) (fun c_1 => ?_) (fun c_1 => ?_)
  · have h9 : True := trivial
    have hSe_2 : S = sA (sA S 28 (S 28)) 26 (S 26) := by
      funext k8
      by_cases e80 : k8 = 28
      · subst e80; first | rfl | (funext j8; rfl)
      by_cases e81 : k8 = 26
      · subst e81; first | rfl | (funext j8; rfl)
      simp [sA, e80, e81]
    rw [hSe_2] at hP hR
    exact g_vret (S1 := sA (sA S 28 (S 28)) 26 (S 26)) hx hb hr hlocks hP hR hS (⟨_, _, rfl, fun _ => ⟨rfl, hzc⟩, fun e => absurd (by omega) e⟩) dX3_addStep_15
  · have h9 : True := trivial
    have hcp := hcap (by omega)
    refine lv_aload_n hx hb dX3_addStep_5 rfl (lv_at hl 0 rfl) ?_
    have g_3 : -2147483648 ≤ S 26 0 ∧ S 26 0 < 2147483648 := hR 26 0 (by decide)
    refine va_get (D := D) (ci := 3) (v := .int (zI (S 26 0))) (C := RX3) (T := TX3) (N := 8) hx hb hT inX3 hown hK hP 6 rfl rfl 3 (by decide) (hT _ q_138) (fun _ h9 => h9) rfl dX3_addStep_6 ?_
    refine z_sipush hx hb dX3_addStep_9 (by decide) ?_
    refine z_icmp_lt (tgt := 16) hx hb (by omega) (by omega) (by omega) (by omega) dX3_addStep_12 (by decide) (fun c_4 => ?_) (fun c_4 => ?_)
    · have h9 : True := trivial
      refine lv_aload_n hx hb dX3_addStep_16 rfl (lv_at hl 0 rfl) ?_
      refine va_get (D := D) (ci := 3) (v := .ref (ad 28)) (C := RX3) (T := TX3) (N := 8) hx hb hT inX3 hown hK hP 6 rfl rfl 5 (by decide) (hT _ q_140) (fun _ h9 => h9) rfl dX3_addStep_17 ?_
      refine lv_aload_n hx hb dX3_addStep_20 rfl (lv_at hl 0 rfl) ?_
      refine va_get (D := D) (ci := 3) (v := .int (zI (S 26 0))) (C := RX3) (T := TX3) (N := 8) hx hb hT inX3 hown hK hP 6 rfl rfl 3 (by decide) (hT _ q_138) (fun _ h9 => h9) rfl dX3_addStep_21 ?_
      refine lv_iload_n hx hb dX3_addStep_24 rfl (lv_at hl 1 rfl) ?_
      refine z_ast (f := S 28) (i := S 26 0) (v := x) hx hb hK hP (cD hinj cI cZ _) hS 23 0 rfl rfl (by omega) (by omega) (by decide) dX3_addStep_25 (fun H locs hP hS => ?_)
      have hP : va_P D vwCl (cW cI cZ ad (sA S 28 (uZ (S 28) (S 26 0).toNat x))) H := hP
      have hR : RS (sA S 28 (uZ (S 28) (S 26 0).toNat x)) := hR.put (by omega) (by omega)
      refine lv_aload_n hx hb dX3_addStep_26 rfl (lv_at hl 0 rfl) ?_
      refine lv_dup hx hb dX3_addStep_27 rfl ?_
      refine va_get (D := D) (ci := 3) (v := .int (zI (S 26 0))) (C := RX3) (T := TX3) (N := 8) hx hb hT inX3 hown hK hP 6 rfl rfl 3 (by decide) (hT _ q_138) (fun _ h9 => h9) rfl dX3_addStep_28 ?_
      refine z_iconst hx hb dX3_addStep_31 ?_
      refine z_iadd hx hb dX3_addStep_32 ?_
      refine va_put (D := D) (ci := 3) (v := .int (zI ((S 26 0) + 1))) (ty := .int) (C := RX3) (T := TX3) (N := 8) hx hb hT inX3 tyX3 tyX3_ok nmX3 hown hK hP (cD hinj cI cZ _) hS 6 rfl rfl 3 (by decide) (hT _ q_138) (fun _ h9 => h9) rfl (by decide +kernel) rfl rfl (Nat.le_of_ble_eq_true rfl) dX3_addStep_33 (fun H locs hP _ hS => ?_)
      have hP : va_P D vwCl (cW cI cZ ad (sA (sA S 28 (uZ (S 28) (S 26 0).toNat x)) 26 (fun _ => (S 26 0) + 1))) H := hP
      have hR : RS (sA (sA S 28 (uZ (S 28) (S 26 0).toNat x)) 26 (fun _ => (S 26 0) + 1)) := hR.one (by omega) (by omega)
      exact g_vret (S1 := sA (sA S 28 (uZ (S 28) (S 26 0).toNat x)) 26 (fun _ => (S 26 0) + 1)) hx hb hr hlocks hP hR hS (⟨_, _, rfl, fun e => absurd e (by omega), fun _ => ⟨by rw [show (S 26 0).toNat = zc by omega], by rw [hzc]⟩⟩) dX3_addStep_36
    · exact False.elim (by omega)
set_option maxHeartbeats 4000000 in
set_option maxRecDepth 100000 in
theorem k_X3_findStepsFrom (l : Launch) (D : va_G) (cI cZ : ClassId) (ad : Nat → Nat) (az av : Nat) (hinj : cInj ad) (S : St) (hR : RS S) (n N : Nat) (t : Nat → Int) (hT9 : cTab n N t S) (hcap : sm (cK9 n N t) N ≤ 3964) (h24 : S 24 0 = ↑n) (k : Nat) (x : Int) (hxk : x = ↑k) (hkN : k < N) (lo : Nat) (hlo : S 26 0 = ↑lo) (hlo2 : (↑lo : Int) = sm (cK9 n N t) k) : Met l yX3_findStepsFrom (Cond.code yX3_findStepsFrom cX3_findStepsFrom 5 none :: lwT) ({ frames := 3, cells := 0, slots := 0, locals := 69 }) (gPc D (cW cI cZ ad) (cE D cI cZ ad az av) S [.ref (ad 46), .int (zI (x))]) (va_Qv (fun (S' : St) => ∃ e28 e26, S' = sA (sA S 28 e28) 26 e26 ∧ (∃ hi : Nat, e26 0 = ↑hi ∧ (↑hi : Int) = sm (cK9 n N t) (k + 1) ∧ stK n N t k lo (n * n) e28 hi) ∧ ∀ j, j < lo → e28 j = S 28 j) (gB D (cW cI cZ ad)) (cA ad)) 0 0 (cA ad) := by
  refine Met.ofW (cc := cX3_findStepsFrom) (maxL := 5) (ret := none) (by decide) rfl ?_
  intro p e s m args below meth c s₁ B hml hv
  obtain ⟨rfl, hP, hE⟩ := hv
  have hx := B.exec
  have hb := B.bytes
  have hr := B.returns
  have hts := atoms_spec (ws := Cond.code yX3_findStepsFrom cX3_findStepsFrom 5 none :: lwT) B.pre
  have hT := fun w (h : w ∈ lwT) => hts w (List.mem_cons_of_mem _ h)
  have hsub : ∀ w ∈ lwT, w ∈ (Cond.code yX3_findStepsFrom cX3_findStepsFrom 5 none :: lwT) := fun w h => List.mem_cons_of_mem _ h
  have hown : s.vm.findClass RX3 = some m.cls := findClass_of_methodNamed B.named
  have hlocks := B.notSynchronized
  have hK : va_K D vwCl [(cI, .int), (cZ, .boolean)] s := hE.1
  have hS : va_S (cA ad) s.heap s.heap [] := va_S.rf
  have hT8 := hT9
  obtain ⟨⟨hn, hN, hn7, hN4⟩, hn0, hO9, hso, htb⟩ := hT9
  have hnz : n ≠ 0 := fun e => by have := hn0 e; omega
  have hO := hO9 hnz
  obtain ⟨a1, a2, a3⟩ := hO.2.1 k hkN
  have hl := lv_entry ([.ref (ad 46), .int (zI (x))]) (n := 5) (Nat.le_of_ble_eq_true rfl)
  rw [lg_entry_eq]
  generalize (lg_sl ([.ref (ad 46), .int (zI (x))]) ++ List.replicate (5 - (lg_sl ([.ref (ad 46), .int (zI (x))])).length) Slot.unset).toArray = ls at hl ⊢
  have hl : lv_has ls 5 [(0, .ref (ad 46)), (1, .int (zI (x)))] := hl
  refine z_iconst hx hb dX3_findStepsFrom_0 ?_
  refine lv_istore_n (lv' := [(2, .int (zI (0))), (0, .ref (ad 46)), (1, .int (zI (x)))]) hx hb dX3_findStepsFrom_1 rfl hl (by decide) rfl (fun ls hl => ?_)
  have cut_2 : ∀ (k9 : Nat) (i : Nat) (zc : Nat) (z26 : Int) (g28 : Nat → Int) (H : Heap) (locs : List Loc) (ls : Array Slot), (i ≤ n) → (z26 = ↑zc) → ((↑zc : Int) = ↑lo + cnt (fun b => pB (stepP n N t k b)) (i * n)) → (stK n N t k lo (i * n) g28 zc) → (∀ j, j < lo → g28 j = S 28 j) → (n - i) < k9 → va_P D vwCl (cW cI cZ ad (sA (sA S 28 g28) 26 (fun _ => z26))) H → RS (sA (sA S 28 g28) 26 (fun _ => z26)) → va_S (cA ad) s.heap H locs → lv_has ls 5 [(0, .ref (ad 46)), (1, .int (zI (x))), (2, .int (zI (↑i)))] → W p l e (headSpec (Cond.code yX3_findStepsFrom cX3_findStepsFrom 5 none :: lwT) ({ frames := 3, cells := 0, slots := 0, locals := 69 })).room s m ([.ref (ad 46), .int (zI (x))] : List Value).toArray below meth c H locs 0 0 (MQ below (va_Qv (fun (S' : St) => ∃ e28 e26, S' = sA (sA S 28 e28) 26 e26 ∧ (∃ hi : Nat, e26 0 = ↑hi ∧ (↑hi : Int) = sm (cK9 n N t) (k + 1) ∧ stK n N t k lo (n * n) e28 hi) ∧ ∀ j, j < lo → e28 j = S 28 j) (gB D (cW cI cZ ad)) (cA ad)) ([.ref (ad 46), .int (zI (x))] : List Value).toArray s 0 0 (cA ad)) (F0 m 2 ls []) := by
    intro k9
    induction k9 with
    | zero =>
      intro i zc z26 g28 H locs ls hi hz26 hzc hst hold hk9 hP hR hS hl
      exact absurd hk9 (Nat.not_lt_zero _)
    | succ k9 ih_2 =>
      intro i zc z26 g28 H locs ls hi hz26 hzc hst hold hk9 hP hR hS hl
      refine lv_iload_n hx hb dX3_findStepsFrom_2 rfl (lv_at hl 2 rfl) ?_
      refine lv_aload_n hx hb dX3_findStepsFrom_3 rfl (lv_at hl 0 rfl) ?_
      have g_1 : -2147483648 ≤ S 24 0 ∧ S 24 0 < 2147483648 := hR 24 0 (by decide)
      refine va_get (D := D) (ci := 3) (v := .int (zI (S 24 0))) (C := RX3) (T := TX3) (N := 8) hx hb hT inX3 hown hK hP 6 rfl rfl 1 (by decide) (hT _ q_136) (fun _ h9 => h9) rfl dX3_findStepsFrom_4 ?_
      refine z_icmp_ge (tgt := 76) hx hb (by omega) (by omega) (by omega) (by omega) dX3_findStepsFrom_7 (by decide) (fun c_2 => ?_) (fun c_2 => ?_)
      · have h9 : True := trivial
        exact g_vret (S1 := sA (sA S 28 g28) 26 (fun _ => z26)) hx hb hr hlocks hP hR hS (⟨_, _, rfl, ⟨zc, hz26, by rw [show i = n by omega] at hzc; rw [sm, ← hlo2]; exact hzc, by rw [show i = n by omega] at hst; exact hst⟩, hold⟩) dX3_findStepsFrom_76
      · have h9 : True := trivial
        refine lv_aload_n hx hb dX3_findStepsFrom_10 rfl (lv_at hl 0 rfl) ?_
        refine va_get (D := D) (ci := 3) (v := .ref (ad 42)) (C := RX3) (T := TX3) (N := 8) hx hb hT inX3 hown hK hP 6 rfl rfl 0 (by decide) (hT _ q_135) (fun _ h9 => h9) rfl dX3_findStepsFrom_11 ?_
        refine lv_iload_n hx hb dX3_findStepsFrom_14 rfl (lv_at hl 1 rfl) ?_
        refine lv_iload_n hx hb dX3_findStepsFrom_15 rfl (lv_at hl 2 rfl) ?_
        have hrw := a2.1 i (by omega)
        refine g_callVi (As := [.int (zI (x)), .int (zI (↑i))]) (rest := []) ⟨hx, hb, hml, hown, hts⟩ (k_X0_leafAt l D cI cZ ad az av hinj (sA (sA S 28 g28) 26 (fun _ => z26)) hR n N t hT8 x ↑i (by omega) (by omega) (by omega) (by omega)) (cwV 2 hts (gV hsub q_519 q_371 q_372 q_3 q_373) rfl rfl rfl hdX0_leafAt ⟨Nat.le_of_ble_eq_true rfl, Nat.le_of_ble_eq_true rfl⟩) (cEb D cI cZ ad az av) (cEk D cI cZ ad az av) hE (va_recv (ci := 0) (q0 := 2) hK hP rfl rfl) hP hS rfl hl.1 rfl (Nat.le_of_ble_eq_true rfl) dX3_findStepsFrom_16 ⟨Nat.le_of_ble_eq_true rfl, Nat.le_of_ble_eq_true rfl⟩ (fun r_3 S_4 H locs hq_5 hP hR hS _ => ?_)
        obtain ⟨hs9, rfl⟩ := hq_5
        obtain rfl := hs9.symm
        refine z_top (b := laF n N t x ↑i) rfl ?_
        refine z_top (b := dgF n (t k) i) (by unfold laF; rw [if_pos (by omega), show x.toNat = k by omega]; rfl) ?_
        refine lv_istore_n (lv' := [(3, .int (zI (dgF n (t k) i))), (0, .ref (ad 46)), (1, .int (zI (x))), (2, .int (zI (↑i)))]) hx hb dX3_findStepsFrom_19 rfl hl (by decide) rfl (fun ls hl => ?_)
        refine z_iconst hx hb dX3_findStepsFrom_20 ?_
        refine lv_istore (lv' := [(4, .int (zI (0))), (3, .int (zI (dgF n (t k) i))), (0, .ref (ad 46)), (1, .int (zI (x))), (2, .int (zI (↑i)))]) hx hb dX3_findStepsFrom_21 hl (by decide) rfl (fun ls hl => ?_)
        have cut_23 : ∀ (k9 : Nat) (j : Nat) (aa : Nat) (zc : Nat) (z26 : Int) (g28 : Nat → Int) (H : Heap) (locs : List Loc) (ls : Array Slot), (j ≤ n) → (aa = i * n + j) → (z26 = ↑zc) → ((↑zc : Int) = ↑lo + cnt (fun b => pB (stepP n N t k b)) aa) → (stK n N t k lo aa g28 zc) → (∀ j, j < lo → g28 j = S 28 j) → (n - j) < k9 → va_P D vwCl (cW cI cZ ad (sA (sA S 28 g28) 26 (fun _ => z26))) H → RS (sA (sA S 28 g28) 26 (fun _ => z26)) → va_S (cA ad) s.heap H locs → lv_has ls 5 [(0, .ref (ad 46)), (1, .int (zI (x))), (2, .int (zI (↑i))), (3, .int (zI (dgF n (t k) i))), (4, .int (zI (↑j)))] → W p l e (headSpec (Cond.code yX3_findStepsFrom cX3_findStepsFrom 5 none :: lwT) ({ frames := 3, cells := 0, slots := 0, locals := 69 })).room s m ([.ref (ad 46), .int (zI (x))] : List Value).toArray below meth c H locs 0 0 (MQ below (va_Qv (fun (S' : St) => ∃ e28 e26, S' = sA (sA S 28 e28) 26 e26 ∧ (∃ hi : Nat, e26 0 = ↑hi ∧ (↑hi : Int) = sm (cK9 n N t) (k + 1) ∧ stK n N t k lo (n * n) e28 hi) ∧ ∀ j, j < lo → e28 j = S 28 j) (gB D (cW cI cZ ad)) (cA ad)) ([.ref (ad 46), .int (zI (x))] : List Value).toArray s 0 0 (cA ad)) (F0 m 23 ls []) := by
          intro k9
          induction k9 with
          | zero =>
            intro j aa zc z26 g28 H locs ls hj haa hz26 hzc hst hold hk9 hP hR hS hl
            exact absurd hk9 (Nat.not_lt_zero _)
          | succ k9 ih_23 =>
            intro j aa zc z26 g28 H locs ls hj haa hz26 hzc hst hold hk9 hP hR hS hl
            have hcr := cnt_r (fun b => pB (stepP n N t k b)) aa
            refine lv_iload hx hb dX3_findStepsFrom_23 (lv_at hl 4 rfl) ?_
            refine lv_aload_n hx hb dX3_findStepsFrom_25 rfl (lv_at hl 0 rfl) ?_
            have g_6 : -2147483648 ≤ S 24 0 ∧ S 24 0 < 2147483648 := hR 24 0 (by decide)
            refine va_get (D := D) (ci := 3) (v := .int (zI (S 24 0))) (C := RX3) (T := TX3) (N := 8) hx hb hT inX3 hown hK hP 6 rfl rfl 1 (by decide) (hT _ q_136) (fun _ h9 => h9) rfl dX3_findStepsFrom_26 ?_
            refine z_icmp_ge (tgt := 70) hx hb (by omega) (by omega) (by omega) (by omega) dX3_findStepsFrom_29 (by decide) (fun c_7 => ?_) (fun c_7 => ?_)
            · have h9 : True := trivial
              refine z_iinc (lv' := [(2, .int (zI (↑i + 1))), (0, .ref (ad 46)), (1, .int (zI (x))), (3, .int (zI (dgF n (t k) i))), (4, .int (zI (↑j)))]) hx hb dX3_findStepsFrom_70 hl (k := 2) rfl (by decide) rfl (fun ls hl => ?_)
              refine lv_goto (tgt := 2) hx hb dX3_findStepsFrom_73 (by decide) ?_
              exact ih_2 (i + 1) zc z26 g28 _ _ _ (by omega) (hz26) (by rw [Nat.add_mul, Nat.one_mul, ← show aa = i * n + n by omega]; exact hzc) (by rw [Nat.add_mul, Nat.one_mul, ← show aa = i * n + n by omega]; exact hst) (hold) (by omega) hP hR hS (lv_sub hl [1, 2, 0] rfl)
            · have h9 : True := trivial
              have hdd := dm_2 (n := n) (i := i) (j := j) (by omega)
              rw [← haa] at hdd
              refine lv_iload hx hb dX3_findStepsFrom_32 (lv_at hl 4 rfl) ?_
              refine lv_iload_n hx hb dX3_findStepsFrom_34 rfl (lv_at hl 2 rfl) ?_
              refine z_icmp_eq (tgt := 64) hx hb (by omega) (by omega) (by omega) (by omega) dX3_findStepsFrom_35 (by decide) (fun c_8 => ?_) (fun c_8 => ?_)
              · have h9 : True := trivial
                refine z_iinc (lv' := [(4, .int (zI (↑j + 1))), (0, .ref (ad 46)), (1, .int (zI (x))), (2, .int (zI (↑i))), (3, .int (zI (dgF n (t k) i)))]) hx hb dX3_findStepsFrom_64 hl (k := 4) rfl (by decide) rfl (fun ls hl => ?_)
                refine lv_goto (tgt := 23) hx hb dX3_findStepsFrom_67 (by decide) ?_
                exact ih_23 (j + 1) (aa + 1) zc z26 g28 _ _ _ (by omega) (by omega) (hz26) (by have h8 := cnt_f (P := fun b => pB (stepP n N t k b)) (i := aa) (pB_f.mpr (fun h => h.1 (by rw [hdd.1, hdd.2]; omega))) rfl; omega) (stK_f hst (fun h => h.1 (by rw [hdd.1, hdd.2]; omega))) (hold) (by omega) hP hR hS (lv_sub hl [1, 2, 3, 4, 0] rfl)
              · have h9 : True := trivial
                refine lv_iload hx hb dX3_findStepsFrom_38 (lv_at hl 4 rfl) ?_
                refine lv_iload_n hx hb dX3_findStepsFrom_40 rfl (lv_at hl 2 rfl) ?_
                refine z_iconst hx hb dX3_findStepsFrom_41 ?_
                refine z_isub hx hb dX3_findStepsFrom_42 ?_
                refine z_icmp_ne (tgt := 49) hx hb (by omega) (by omega) (by omega) (by omega) dX3_findStepsFrom_43 (by decide) (fun c_9 => ?_) (fun c_9 => ?_)
                · have h9 : True := trivial
                  have hav : amF n N t k (dgF n (t k) i).toNat j = amV n N t k aa := by unfold amV; rw [hdd.1, hdd.2]
                  have hsp : amV n N t k aa ≠ -1 → stepP n N t k aa := fun e => ⟨by rw [hdd.1, hdd.2]; omega, by rw [hdd.1, hdd.2]; omega, e⟩
                  refine lv_aload_n hx hb dX3_findStepsFrom_49 rfl (lv_at hl 0 rfl) ?_
                  refine lv_aload_n hx hb dX3_findStepsFrom_50 rfl (lv_at hl 0 rfl) ?_
                  refine va_get (D := D) (ci := 3) (v := .ref (ad 42)) (C := RX3) (T := TX3) (N := 8) hx hb hT inX3 hown hK hP 6 rfl rfl 0 (by decide) (hT _ q_135) (fun _ h9 => h9) rfl dX3_findStepsFrom_51 ?_
                  refine lv_iload_n hx hb dX3_findStepsFrom_54 rfl (lv_at hl 1 rfl) ?_
                  refine lv_iload_n hx hb dX3_findStepsFrom_55 rfl (lv_at hl 3 rfl) ?_
                  refine lv_iload hx hb dX3_findStepsFrom_56 (lv_at hl 4 rfl) ?_
                  refine g_callVi (As := [.int (zI (x)), .int (zI (dgF n (t k) i)), .int (zI (↑j))]) (rest := [.ref (ad 46)]) ⟨hx, hb, hml, hown, hts⟩ (k_X0_afterMove l D cI cZ ad az av hinj (sA (sA S 28 g28) 26 (fun _ => z26)) hR n N t hT8 k (dgF n (t k) i).toNat j x (dgF n (t k) i) ↑j (by omega) (by omega) (by omega) hkN (by omega) (by omega)) (cwV 3 hts (gV hsub q_520 q_433 q_434 q_3 q_435) rfl rfl rfl hdX0_afterMove ⟨Nat.le_of_ble_eq_true rfl, Nat.le_of_ble_eq_true rfl⟩) (cEb D cI cZ ad az av) (cEk D cI cZ ad az av) hE (va_recv (ci := 0) (q0 := 2) hK hP rfl rfl) hP hS rfl hl.1 rfl (Nat.le_of_ble_eq_true rfl) dX3_findStepsFrom_58 ⟨Nat.le_of_ble_eq_true rfl, Nat.le_of_ble_eq_true rfl⟩ (fun r_10 S_11 H locs hq_12 hP hR hS _ => ?_)
                  obtain ⟨hs9, rfl⟩ := hq_12
                  obtain rfl := hs9.symm
                  refine z_top (b := amF n N t k ((dgF n (t k) i).toNat) j) rfl ?_
                  have hmr := am_r (n := n) (N := N) (t := t) (k := k) (v := (dgF n (t k) i).toNat) (q := j)
                  refine g_callVv (As := [.int (zI (amF n N t k ((dgF n (t k) i).toNat) j))]) (rest := []) ⟨hx, hb, hml, hown, hts⟩ (k_X3_addStep l D cI cZ ad az av hinj (sA (sA S 28 g28) 26 (fun _ => z26)) hR (zc) (hz26) (amF n N t k ((dgF n (t k) i).toNat) j) (by omega) (by omega) (fun h => by have h7 := step_cap hkN (show aa < n * n by rw [haa]; exact lt_nn (by omega) (by omega)) (hsp (fun e => h (hav.trans e))) hcap; omega)) (cwV 1 hts (gV hsub q_521 q_523 q_sX3_addStep q_6 q_524) rfl rfl rfl hdX3_addStep ⟨Nat.le_of_ble_eq_true rfl, Nat.le_of_ble_eq_true rfl⟩) (cEb D cI cZ ad az av) (cEk D cI cZ ad az av) hE (va_recv (ci := 3) (q0 := 6) hK hP rfl rfl) hP hS rfl hl.1 rfl (Nat.le_of_ble_eq_true rfl) dX3_findStepsFrom_61 ⟨Nat.le_of_ble_eq_true rfl, Nat.le_of_ble_eq_true rfl⟩ (fun S_14 H locs hq_15 hP hR hS _ => ?_)
                  obtain ⟨e_16, e_17, rfl, ha0_18, ha1_19⟩ := hq_15
                  refine z_iinc (lv' := [(4, .int (zI (↑j + 1))), (0, .ref (ad 46)), (1, .int (zI (x))), (2, .int (zI (↑i))), (3, .int (zI (dgF n (t k) i)))]) hx hb dX3_findStepsFrom_64 hl (k := 4) rfl (by decide) rfl (fun ls hl => ?_)
                  refine lv_goto (tgt := 23) hx hb dX3_findStepsFrom_67 (by decide) ?_
                  have hP : va_P D vwCl (cW cI cZ ad (sA (sA (sA (sA (sA S 28 g28) 26 (fun _ => z26)) 28 e_16) 26 e_17) 26 (fun _ => e_17 0))) _ := hP
                  have hR : RS (sA (sA (sA (sA (sA S 28 g28) 26 (fun _ => z26)) 28 e_16) 26 e_17) 26 (fun _ => e_17 0)) := hR.one (hR 26 0 (by decide)).1 (hR 26 0 (by decide)).2
                  have hSe_20 : sA (sA (sA (sA (sA S 28 g28) 26 (fun _ => z26)) 28 e_16) 26 e_17) 26 (fun _ => e_17 0) = sA (sA S 28 e_16) 26 (fun _ => e_17 0) := by
                    funext k8
                    by_cases e80 : k8 = 28
                    · subst e80; first | rfl | (funext j8; rfl)
                    by_cases e81 : k8 = 26
                    · subst e81; funext j8; first | rfl | exact hsc_26 j8
                    simp [sA, e80, e81]
                  rw [hSe_20] at hP hR
                  exact ih_23 (j + 1) (aa + 1) ((if amV n N t k aa = -1 then zc else zc + 1)) (e_17 0) e_16 _ _ _ (by omega) (by omega) (by split <;> first | (rename_i e9; exact (ha0_18 (hav.trans e9)).2) | (rename_i e9; exact (ha1_19 (fun g => e9 (hav.symm.trans g))).2.trans (by omega))) (by split <;> first | (rename_i e9; have h8 := cnt_f (P := fun b => pB (stepP n N t k b)) (i := aa) (pB_f.mpr (fun h => h.2.2 e9)) rfl; omega) | (rename_i e9; have h8 := cnt_t (P := fun b => pB (stepP n N t k b)) (i := aa) (pB_t.mpr (hsp e9)) rfl; omega)) (by split <;> first | (rename_i e9; rw [(ha0_18 (hav.trans e9)).1]; exact stK_f hst (fun h => h.2.2 e9)) | (rename_i e9; rw [(ha1_19 (fun g => e9 (hav.symm.trans g))).1]; exact stK_t hst (by omega) (hsp e9) hav)) (fun j hj => (Classical.em (amV n N t k aa = -1)).elim (fun e9 => by rw [(ha0_18 (hav.trans e9)).1]; exact hold j hj) (fun e9 => by rw [(ha1_19 (fun g => e9 (hav.symm.trans g))).1, uZ_n (by omega)]; exact hold j hj)) (by omega) hP hR hS (lv_sub hl [1, 2, 3, 4, 0] rfl)
                · have h9 : True := trivial
                  refine lv_goto (tgt := 64) hx hb dX3_findStepsFrom_46 (by decide) ?_
                  refine z_iinc (lv' := [(4, .int (zI (↑j + 1))), (0, .ref (ad 46)), (1, .int (zI (x))), (2, .int (zI (↑i))), (3, .int (zI (dgF n (t k) i)))]) hx hb dX3_findStepsFrom_64 hl (k := 4) rfl (by decide) rfl (fun ls hl => ?_)
                  refine lv_goto (tgt := 23) hx hb dX3_findStepsFrom_67 (by decide) ?_
                  exact ih_23 (j + 1) (aa + 1) zc z26 g28 _ _ _ (by omega) (by omega) (hz26) (by have h8 := cnt_f (P := fun b => pB (stepP n N t k b)) (i := aa) (pB_f.mpr (fun h => h.2.1 (by rw [hdd.1, hdd.2]; omega))) rfl; omega) (stK_f hst (fun h => h.2.1 (by rw [hdd.1, hdd.2]; omega))) (hold) (by omega) hP hR hS (lv_sub hl [1, 2, 3, 4, 0] rfl)
        exact cut_23 _ 0 (i * n) zc z26 g28 _ _ _ (by omega) (by omega) (hz26) (hzc) (hst) (hold) (Nat.lt_succ_self _) hP hR hS (lv_sub hl [2, 3, 4, 1, 0] rfl)
  have hP : va_P D vwCl (cW cI cZ ad (sA S 26 (fun _ => S 26 0))) _ := hP
  have hR : RS (sA S 26 (fun _ => S 26 0)) := hR.one (hR 26 0 (by decide)).1 (hR 26 0 (by decide)).2
  have hSe_21 : sA S 26 (fun _ => S 26 0) = sA (sA S 28 (S 28)) 26 (fun _ => S 26 0) := by
    funext k8
    by_cases e80 : k8 = 28
    · subst e80; first | rfl | (funext j8; rfl)
    by_cases e81 : k8 = 26
    · subst e81; funext j8; first | rfl | exact hsc_26 j8
    simp [sA, e80, e81]
  rw [hSe_21] at hP hR
  exact cut_2 _ 0 lo (S 26 0) (S 28) _ _ _ (by omega) (hlo) (by rw [Nat.zero_mul]; exact (Int.add_zero _).symm) (by rw [Nat.zero_mul]; exact stK_0 _ _ _ _ _ _) (fun j hj => rfl) (Nat.lt_succ_self _) hP hR hS (lv_sub hl [1, 2, 0] rfl)
