set_option maxHeartbeats 4000000 in
set_option maxRecDepth 100000 in
theorem k_X5_width (l : Launch) (D : va_G) (cI cZ : ClassId) (ad : Nat → Nat) (az av : Nat) (hinj : cInj ad) (S : St) (hR : RS S) (n N : Nat) (t : Nat → Int) (hT9 : cTab n N t S) (k : Nat) (x : Int) (hxk : x = ↑k) (hkN : k < N) (h0 : Nat) (y : Int) (hyh : y = ↑h0) (hh0 : h0 + 1 < n) : Met l yX5_width (Cond.code yX5_width cX5_width 8 (some .int) :: lwT) ({ frames := 3, cells := 0, slots := 0, locals := 63 }) (gPc D (cW cI cZ ad) (cE D cI cZ ad az av) S [.ref (ad 45), .int (zI (x)), .int (zI (y))]) (va_Qi (fun (r : Int32) (S' : St) => S' = S ∧ r = zI (wdF n (S 7) (dgF n (t k)) h0)) (gB D (cW cI cZ ad)) (cA ad)) 0 0 (cA ad) := by
  refine Met.ofW (cc := cX5_width) (maxL := 8) (ret := (some .int)) (by decide) rfl ?_
  intro p e s m args below meth c s₁ B hml hv
  obtain ⟨rfl, hP, hE⟩ := hv
  have hx := B.exec
  have hb := B.bytes
  have hr := B.returns
  have hts := atoms_spec (ws := Cond.code yX5_width cX5_width 8 (some .int) :: lwT) B.pre
  have hT := fun w (h : w ∈ lwT) => hts w (List.mem_cons_of_mem _ h)
  have hsub : ∀ w ∈ lwT, w ∈ (Cond.code yX5_width cX5_width 8 (some .int) :: lwT) := fun w h => List.mem_cons_of_mem _ h
  have hown : s.vm.findClass RX5 = some m.cls := findClass_of_methodNamed B.named
  have hlocks := B.notSynchronized
  have hK : va_K D vwCl [(cI, .int), (cZ, .boolean)] s := hE.1
  have hS : va_S (cA ad) s.heap s.heap [] := va_S.rf
  have hT8 := hT9
  obtain ⟨⟨hn, hN, hn7, hN4⟩, hn0, hO9, hso, htb⟩ := hT9
  have hnz : n ≠ 0 := fun e => by have := hn0 e; omega
  have hO := hO9 hnz
  obtain ⟨a1, a2, a3⟩ := hO.2.1 k hkN
  obtain ⟨pa, hpa⟩ : ∃ pa, pa = pl n (dgF n (t k)) h0 := ⟨_, rfl⟩
  obtain ⟨pb, hpb⟩ : ∃ pb, pb = pl n (dgF n (t k)) (h0 + 1) := ⟨_, rfl⟩
  have hla := pl_lt a2 (v := h0) (by omega)
  have hlb := pl_lt a2 (v := h0 + 1) (by omega)
  rw [← hpa] at hla
  rw [← hpb] at hlb
  have hz0 : ∀ p, ¬ ((pa < p ∧ p < pb) ∨ (pb < p ∧ p < pa)) → wdT n (S 7) (dgF n (t k)) h0 p = 0 := fun p hp => wdT_0 (by unfold wth; rw [← hpa, ← hpb]; omega)
  have hz1 : ∀ p, ((pa < p ∧ p < pb) ∨ (pb < p ∧ p < pa)) → wdT n (S 7) (dgF n (t k)) h0 p = thk (S 7 (dgF n (t k) p).toNat) := fun p hp => wdT_1 (by unfold wth; rw [← hpa, ← hpb]; omega)
  have hl := lv_entry ([.ref (ad 45), .int (zI (x)), .int (zI (y))]) (n := 8) (Nat.le_of_ble_eq_true rfl)
  rw [lg_entry_eq]
  generalize (lg_sl ([.ref (ad 45), .int (zI (x)), .int (zI (y))]) ++ List.replicate (8 - (lg_sl ([.ref (ad 45), .int (zI (x)), .int (zI (y))])).length) Slot.unset).toArray = ls at hl ⊢
  have hl : lv_has ls 8 [(0, .ref (ad 45)), (1, .int (zI (x))), (2, .int (zI (y)))] := hl
  refine lv_aload_n hx hb dX5_width_0 rfl (lv_at hl 0 rfl) ?_
  refine va_get (D := D) (ci := 5) (v := .ref (ad 42)) (C := RX5) (T := TX5) (N := 5) hx hb hT inX5 hown hK hP 5 rfl rfl 1 (by decide) (hT _ q_114) (fun _ h9 => h9) rfl dX5_width_1 ?_
  refine lv_iload_n hx hb dX5_width_4 rfl (lv_at hl 1 rfl) ?_
  refine lv_iload_n hx hb dX5_width_5 rfl (lv_at hl 2 rfl) ?_
  refine g_callVi (As := [.int (zI (x)), .int (zI (y))]) (rest := []) ⟨hx, hb, hml, hown, hts⟩ (k_X0_placeOf l D cI cZ ad az av hinj S hR n N t hT8 x y (by omega) (by omega) (by omega) (by omega)) (cwV 2 hts (gV hsub q_359 q_360 q_361 q_3 q_362) rfl rfl rfl hdX0_placeOf ⟨Nat.le_of_ble_eq_true rfl, Nat.le_of_ble_eq_true rfl⟩) (cEb D cI cZ ad az av) (cEk D cI cZ ad az av) hE (va_recv (ci := 0) (q0 := 2) hK hP rfl rfl) hP hS rfl hl.1 rfl (Nat.le_of_ble_eq_true rfl) dX5_width_6 ⟨Nat.le_of_ble_eq_true rfl, Nat.le_of_ble_eq_true rfl⟩ (fun r_1 S_2 H locs hq_3 hP hR hS _ => ?_)
  obtain ⟨hs9, rfl⟩ := hq_3
  obtain rfl := hs9.symm
  refine z_top (b := plV n N t x y) rfl ?_
  refine z_top (b := ↑pa) (by unfold plV; rw [if_pos (by omega), show x.toNat = k by omega, show y.toNat = h0 by omega, hpa]) ?_
  refine lv_istore_n (lv' := [(3, .int (zI (↑pa))), (0, .ref (ad 45)), (1, .int (zI (x))), (2, .int (zI (y)))]) hx hb dX5_width_9 rfl hl (by decide) rfl (fun ls hl => ?_)
  refine lv_aload_n hx hb dX5_width_10 rfl (lv_at hl 1 rfl) ?_
  refine va_get (D := D) (ci := 5) (v := .ref (ad 42)) (C := RX5) (T := TX5) (N := 5) hx hb hT inX5 hown hK hP 5 rfl rfl 1 (by decide) (hT _ q_114) (fun _ h9 => h9) rfl dX5_width_11 ?_
  refine lv_iload_n hx hb dX5_width_14 rfl (lv_at hl 2 rfl) ?_
  refine lv_iload_n hx hb dX5_width_15 rfl (lv_at hl 3 rfl) ?_
  refine z_iconst hx hb dX5_width_16 ?_
  refine z_iadd hx hb dX5_width_17 ?_
  refine g_callVi (As := [.int (zI (x)), .int (zI (y + 1))]) (rest := []) ⟨hx, hb, hml, hown, hts⟩ (k_X0_placeOf l D cI cZ ad az av hinj S hR n N t hT8 x (y + 1) (by omega) (by omega) (by omega) (by omega)) (cwV 2 hts (gV hsub q_359 q_360 q_361 q_3 q_362) rfl rfl rfl hdX0_placeOf ⟨Nat.le_of_ble_eq_true rfl, Nat.le_of_ble_eq_true rfl⟩) (cEb D cI cZ ad az av) (cEk D cI cZ ad az av) hE (va_recv (ci := 0) (q0 := 2) hK hP rfl rfl) hP hS rfl hl.1 rfl (Nat.le_of_ble_eq_true rfl) dX5_width_18 ⟨Nat.le_of_ble_eq_true rfl, Nat.le_of_ble_eq_true rfl⟩ (fun r_4 S_5 H locs hq_6 hP hR hS _ => ?_)
  obtain ⟨hs9, rfl⟩ := hq_6
  obtain rfl := hs9.symm
  refine z_top (b := plV n N t x (y + 1)) rfl ?_
  refine z_top (b := ↑pb) (by unfold plV; rw [if_pos (by omega), show x.toNat = k by omega, show (y + 1).toNat = h0 + 1 by omega, hpb]) ?_
  refine lv_istore (lv' := [(4, .int (zI (↑pb))), (3, .int (zI (↑pa))), (0, .ref (ad 45)), (1, .int (zI (x))), (2, .int (zI (y)))]) hx hb dX5_width_21 hl (by decide) rfl (fun ls hl => ?_)
  refine z_iconst hx hb dX5_width_23 ?_
  refine lv_istore (lv' := [(5, .int (zI (0))), (4, .int (zI (↑pb))), (3, .int (zI (↑pa))), (0, .ref (ad 45)), (1, .int (zI (x))), (2, .int (zI (y)))]) hx hb dX5_width_24 hl (by decide) rfl (fun ls hl => ?_)
  refine lv_iload_n hx hb dX5_width_26 rfl (lv_at hl 2 rfl) ?_
  refine lv_iload hx hb dX5_width_27 (lv_at hl 1 rfl) ?_
  refine z_mmin hx hb (hml.trans hl.1.symm) hown (hT _ q_385) (hT _ q_261) (hT _ q_11) (hT _ q_mmin) (Nat.le_of_ble_eq_true rfl) (Nat.le_of_ble_eq_true rfl) (Nat.le_of_ble_eq_true rfl) (Nat.le_of_ble_eq_true rfl) (by omega) (by omega) (by omega) (by omega) dX5_width_29 ?_
  refine z_iconst hx hb dX5_width_32 ?_
  refine z_iadd hx hb dX5_width_33 ?_
  refine lv_istore (lv' := [(6, .int (zI ((if (↑pb : Int) < ↑pa then ↑pb else ↑pa) + 1))), (5, .int (zI (0))), (4, .int (zI (↑pb))), (3, .int (zI (↑pa))), (0, .ref (ad 45)), (1, .int (zI (x))), (2, .int (zI (y)))]) hx hb dX5_width_34 hl (by decide) rfl (fun ls hl => ?_)
  have cut_36 : ∀ (k9 : Nat) (i : Nat) (z : Int) (w : Int) (H : Heap) (locs : List Loc) (ls : Array Slot), (z = ↑i) → ((pa ≤ pb → pa < i ∧ i ≤ pb + 1) ∧ (pb < pa → pb < i ∧ i ≤ pa)) → (w = sm (wdT n (S 7) (dgF n (t k)) h0) i) → (n - i) < k9 → va_P D vwCl (cW cI cZ ad S) H → RS S → va_S (cA ad) s.heap H locs → lv_has ls 8 [(0, .ref (ad 45)), (1, .int (zI (x))), (3, .int (zI (↑pa))), (4, .int (zI (↑pb))), (5, .int (zI (w))), (6, .int (zI (z)))] → W p l e (headSpec (Cond.code yX5_width cX5_width 8 (some .int) :: lwT) ({ frames := 3, cells := 0, slots := 0, locals := 63 })).room s m ([.ref (ad 45), .int (zI (x)), .int (zI (y))] : List Value).toArray below meth c H locs 0 0 (MQ below (va_Qi (fun (r : Int32) (S' : St) => S' = S ∧ r = zI (wdF n (S 7) (dgF n (t k)) h0)) (gB D (cW cI cZ ad)) (cA ad)) ([.ref (ad 45), .int (zI (x)), .int (zI (y))] : List Value).toArray s 0 0 (cA ad)) (F0 m 36 ls []) := by
    intro k9
    induction k9 with
    | zero =>
      intro i z w H locs ls hzi hi hw hk9 hP hR hS hl
      exact absurd hk9 (Nat.not_lt_zero _)
    | succ k9 ih_36 =>
      intro i z w H locs ls hzi hi hw hk9 hP hR hS hl
      refine lv_iload hx hb dX5_width_36 (lv_at hl 5 rfl) ?_
      refine lv_iload_n hx hb dX5_width_38 rfl (lv_at hl 2 rfl) ?_
      refine lv_iload hx hb dX5_width_39 (lv_at hl 3 rfl) ?_
      refine z_mmax hx hb (hml.trans hl.1.symm) hown (hT _ q_386) (hT _ q_258) (hT _ q_11) (hT _ q_mmax) (Nat.le_of_ble_eq_true rfl) (Nat.le_of_ble_eq_true rfl) (Nat.le_of_ble_eq_true rfl) (Nat.le_of_ble_eq_true rfl) (by omega) (by omega) (by omega) (by omega) dX5_width_41 ?_
      refine z_icmp_ge (tgt := 86) hx hb (by omega) (by omega) (by omega) (by omega) dX5_width_44 (by decide) (fun c_7 => ?_) (fun c_7 => ?_)
      · have h9 : True := trivial
        refine lv_iload hx hb dX5_width_86 (lv_at hl 4 rfl) ?_
        exact g_iret (S1 := S) (v := zI (w)) hx hb hr hlocks hP hR hS (⟨rfl, by rw [hw]; exact congrArg zI (sm_zero (by omega) (fun p h1 h2 => hz0 p (by have h7 := c_7; split at h7 <;> omega))).symm⟩) dX5_width_88
      · have h9 : True := trivial
        have hin : (pa < i ∧ i < pb) ∨ (pb < i ∧ i < pa) := by have h7 := c_7; (split at h7) <;> omega
        refine lv_aload_n hx hb dX5_width_47 rfl (lv_at hl 0 rfl) ?_
        refine va_get (D := D) (ci := 5) (v := .ref (ad 42)) (C := RX5) (T := TX5) (N := 5) hx hb hT inX5 hown hK hP 5 rfl rfl 1 (by decide) (hT _ q_114) (fun _ h9 => h9) rfl dX5_width_48 ?_
        refine lv_iload_n hx hb dX5_width_51 rfl (lv_at hl 1 rfl) ?_
        refine lv_iload hx hb dX5_width_52 (lv_at hl 5 rfl) ?_
        refine g_callVi (As := [.int (zI (x)), .int (zI (z))]) (rest := []) ⟨hx, hb, hml, hown, hts⟩ (k_X0_leafAt l D cI cZ ad az av hinj S hR n N t hT8 x z (by omega) (by omega) (by omega) (by omega)) (cwV 2 hts (gV hsub q_370 q_371 q_372 q_3 q_373) rfl rfl rfl hdX0_leafAt ⟨Nat.le_of_ble_eq_true rfl, Nat.le_of_ble_eq_true rfl⟩) (cEb D cI cZ ad az av) (cEk D cI cZ ad az av) hE (va_recv (ci := 0) (q0 := 2) hK hP rfl rfl) hP hS rfl hl.1 rfl (Nat.le_of_ble_eq_true rfl) dX5_width_54 ⟨Nat.le_of_ble_eq_true rfl, Nat.le_of_ble_eq_true rfl⟩ (fun r_8 S_9 H locs hq_10 hP hR hS _ => ?_)
        obtain ⟨hs9, rfl⟩ := hq_10
        obtain rfl := hs9.symm
        refine z_top (b := laF n N t x z) rfl ?_
        have hdi := a2.1 i (by omega)
        refine z_top (b := dgF n (t k) i) (by unfold laF; rw [if_pos (by omega), show x.toNat = k by omega, show z.toNat = i by omega]) ?_
        refine lv_istore (lv' := [(7, .int (zI (dgF n (t k) i))), (0, .ref (ad 45)), (1, .int (zI (x))), (3, .int (zI (↑pa))), (4, .int (zI (↑pb))), (5, .int (zI (w))), (6, .int (zI (z)))]) hx hb dX5_width_57 hl (by decide) rfl (fun ls hl => ?_)
        refine lv_iload hx hb dX5_width_59 (lv_at hl 0 rfl) ?_
        refine z_iconst hx hb dX5_width_61 ?_
        refine z_icmp_eq (tgt := 80) hx hb (by omega) (by omega) (by omega) (by omega) dX5_width_62 (by decide) (fun c_11 => ?_) (fun c_11 => ?_)
        · exact False.elim (by omega)
        · have h9 : True := trivial
          refine lv_iload hx hb dX5_width_65 (lv_at hl 5 rfl) ?_
          refine lv_aload_n hx hb dX5_width_67 rfl (lv_at hl 1 rfl) ?_
          refine va_get (D := D) (ci := 5) (v := .ref (ad 7)) (C := RX5) (T := TX5) (N := 5) hx hb hT inX5 hown hK hP 5 rfl rfl 2 (by decide) (hT _ q_115) (fun _ h9 => h9) rfl dX5_width_68 ?_
          refine lv_iload hx hb dX5_width_71 (lv_at hl 0 rfl) ?_
          have g_12 : -2147483648 ≤ S 7 (dgF n (t k) i).toNat ∧ S 7 (dgF n (t k) i).toNat < 2147483648 := hR 7 ((dgF n (t k) i).toNat) (by decide)
          refine z_ald (f := S 7) hx hb hK hP 12 0 rfl rfl (by omega) (by omega) (by decide) (j := (dgF n (t k) i).toNat) rfl dX5_width_73 ?_
          refine s_callNi (As := [.int (zI (S 7 (dgF n (t k) i).toNat))]) (rest := [.int (zI (w))]) ⟨hx, hb, hml, hown, hts⟩ (k_X6_thickness l (S 7 (dgF n (t k) i).toNat) (by omega) (by omega)) ⟨va_cnB 1 hts (gI hsub q_389) rfl rfl rfl hE.2.2.1 (hT _ q_1) hdX6_thickness.2 ⟨Nat.le_of_ble_eq_true rfl, Nat.le_of_ble_eq_true rfl⟩, hT _ q_388, trivial⟩ rfl hl.1 rfl (Nat.le_of_ble_eq_true rfl) dX5_width_74 ⟨Nat.le_of_ble_eq_true rfl, Nat.le_of_ble_eq_true rfl⟩ (fun r_13 hq_15 => ?_)
          rw [hq_15]
          have g_16 := thk_r (S 7 (dgF n (t k) i).toNat)
          refine z_iadd hx hb dX5_width_77 ?_
          refine lv_istore (lv' := [(5, .int (zI (w + (thk (S 7 (dgF n (t k) i).toNat))))), (7, .int (zI (dgF n (t k) i))), (0, .ref (ad 45)), (1, .int (zI (x))), (3, .int (zI (↑pa))), (4, .int (zI (↑pb))), (6, .int (zI (z)))]) hx hb dX5_width_78 hl (by decide) rfl (fun ls hl => ?_)
          refine z_iinc (lv' := [(6, .int (zI (z + 1))), (5, .int (zI (w + (thk (S 7 (dgF n (t k) i).toNat))))), (7, .int (zI (dgF n (t k) i))), (0, .ref (ad 45)), (1, .int (zI (x))), (3, .int (zI (↑pa))), (4, .int (zI (↑pb)))]) hx hb dX5_width_80 hl (k := 6) rfl (by decide) rfl (fun ls hl => ?_)
          refine lv_goto (tgt := 36) hx hb dX5_width_83 (by decide) ?_
          exact ih_36 (i + 1) (z + 1) (w + (thk (S 7 (dgF n (t k) i).toNat))) _ _ _ (by omega) (by omega) (by rw [sm, hz1 i hin, hw]) (by omega) hP hR hS (lv_sub hl [3, 4, 5, 6, 1, 0] rfl)
  exact cut_36 _ (if pb < pa then pb + 1 else pa + 1) ((if (↑pb : Int) < ↑pa then ↑pb else ↑pa) + 1) 0 _ _ _ (by (repeat' split) <;> omega) (by split <;> omega) (by rw [sm_zero (a := 0) (Nat.zero_le _) (fun p _ hp => hz0 p (by split at hp <;> omega))]; rfl) (Nat.lt_succ_self _) hP hR hS (lv_sub hl [4, 5, 3, 2, 1, 0] rfl)
