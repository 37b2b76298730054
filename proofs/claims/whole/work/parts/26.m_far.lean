set_option maxHeartbeats 4000000 in
set_option maxRecDepth 100000 in
theorem k_X7_layFar (l : Launch) (D : va_G) (cI : ClassId) (ad : Nat → Nat) (hinj : mInj ad) (S : St) (hR : RS S) (n : Nat) (hn : S 2 0 = ↑n) (hn7 : n ≤ 7) (N : Nat) (hN : S 8 0 = ↑N) (hO : OT n N (S 7)) (k0 : Nat) (hk0 : k0 < N) (hk : S 7 k0 = cdF (S 6) n) : Met l yX7_layFar (Cond.code yX7_layFar cX7_layFar 6 none :: lwT) ({ frames := 3, cells := 0, slots := 0, locals := 70 }) (gPc D (mW cI ad) (mE D cI) S [.ref (ad 26)]) (va_Qv (fun (S' : St) => ∃ e9 e10 e11 e12 e13 e14, S' = sA (sA (sA (sA (sA (sA S 9 e9) 10 e10) 11 e11) 12 e12) 13 e13) 14 e14 ∧ isDist N (mvE n (S 7)) k0 e12) (gB D (mW cI ad)) (mA ad)) 0 0 (mA ad) := by
  refine Met.ofW (cc := cX7_layFar) (maxL := 6) (ret := none) (by decide) rfl ?_
  intro p e s m args below meth c s₁ B hml hv
  obtain ⟨rfl, hP, hE⟩ := hv
  have hx := B.exec
  have hb := B.bytes
  have hr := B.returns
  have hts := atoms_spec (ws := Cond.code yX7_layFar cX7_layFar 6 none :: lwT) B.pre
  have hT := fun w (h : w ∈ lwT) => hts w (List.mem_cons_of_mem _ h)
  have hsub : ∀ w ∈ lwT, w ∈ (Cond.code yX7_layFar cX7_layFar 6 none :: lwT) := fun w h => List.mem_cons_of_mem _ h
  have hown : s.vm.findClass RX7 = some m.cls := findClass_of_methodNamed B.named
  have hlocks := B.notSynchronized
  have hK : va_K D vwCl [(cI, .int)] s := hE
  have hS : va_S (mA ad) s.heap s.heap [] := va_S.rf
  have hO1 := hO.1
  have hO2 := hO.2.1
  have hmin : ∀ j, j < k0 → S 7 j ≠ cdF (S 6) n := fun j hj e => by have := hO.2.2.1 j k0 (by omega) hk0 (by rw [e, hk]); omega
  have hO3 := hO.2.2.1
  have hnn : n * n ≤ 49 := Nat.mul_le_mul hn7 hn7
  have hl := lv_entry ([.ref (ad 26)]) (n := 6) (Nat.le_of_ble_eq_true rfl)
  rw [lg_entry_eq]
  generalize (lg_sl ([.ref (ad 26)]) ++ List.replicate (6 - (lg_sl ([.ref (ad 26)])).length) Slot.unset).toArray = ls at hl ⊢
  have hl : lv_has ls 6 [(0, .ref (ad 26))] := hl
  refine z_iconst hx hb dX7_layFar_0 ?_
  refine lv_istore_n (lv' := [(1, .int (zI (0))), (0, .ref (ad 26))]) hx hb dX7_layFar_1 rfl hl (by decide) rfl (fun ls hl => ?_)
  have cut_2 : ∀ (k9 : Nat) (i : Nat) (f : Nat → Int) (H : Heap) (locs : List Loc) (ls : Array Slot), (i ≤ N) → (∀ j, j < i → f j = -1) → (N - i) < k9 → va_P D vwCl (mW cI ad (sA S 12 f)) H → RS (sA S 12 f) → va_S (mA ad) s.heap H locs → lv_has ls 6 [(0, .ref (ad 26)), (1, .int (zI (↑i)))] → W p l e (headSpec (Cond.code yX7_layFar cX7_layFar 6 none :: lwT) ({ frames := 3, cells := 0, slots := 0, locals := 70 })).room s m ([.ref (ad 26)] : List Value).toArray below meth c H locs 0 0 (MQ below (va_Qv (fun (S' : St) => ∃ e9 e10 e11 e12 e13 e14, S' = sA (sA (sA (sA (sA (sA S 9 e9) 10 e10) 11 e11) 12 e12) 13 e13) 14 e14 ∧ isDist N (mvE n (S 7)) k0 e12) (gB D (mW cI ad)) (mA ad)) ([.ref (ad 26)] : List Value).toArray s 0 0 (mA ad)) (F0 m 2 ls []) := by
    intro k9
    induction k9 with
    | zero =>
      intro i f H locs ls hi hf hk9 hP hR hS hl
      exact absurd hk9 (Nat.not_lt_zero _)
    | succ k9 ih_2 =>
      intro i f H locs ls hi hf hk9 hP hR hS hl
      refine lv_iload_n hx hb dX7_layFar_2 rfl (lv_at hl 1 rfl) ?_
      refine lv_aload_n hx hb dX7_layFar_3 rfl (lv_at hl 0 rfl) ?_
      have g_1 : -2147483648 ≤ S 8 0 ∧ S 8 0 < 2147483648 := hR 8 0 (by decide)
      refine va_get (D := D) (ci := 7) (v := .int (zI (S 8 0))) (C := RX7) (T := TX7) (N := 26) hx hb hT inX7 hown hK hP 0 rfl rfl 8 (by decide) (hT _ q_680) (fun _ h9 => h9) rfl dX7_layFar_4 ?_
      refine z_icmp_ge (tgt := 23) hx hb (by omega) (by omega) (by omega) (by omega) dX7_layFar_7 (by decide) (fun c_2 => ?_) (fun c_2 => ?_)
      · have h9 : True := trivial
        refine lv_aload_n hx hb dX7_layFar_23 rfl (lv_at hl 0 rfl) ?_
        refine g_callVi (As := []) (rest := []) ⟨hx, hb, hml, hown, hts⟩ (k_X7_orderNow l D cI ad hinj (sA S 12 f) hR n hn hn7 (k0) ((by omega)) (hk) (hmin)) (cwV 0 hts (gV hsub q_824 q_826 q_sX7_orderNow q_8 q_827) rfl rfl rfl hdX7_orderNow ⟨Nat.le_of_ble_eq_true rfl, Nat.le_of_ble_eq_true rfl⟩) (mEb D cI) (mEk D cI (mA ad)) hE (va_recv (ci := 7) (q0 := 0) hK hP rfl rfl) hP hS rfl hl.1 rfl (Nat.le_of_ble_eq_true rfl) dX7_layFar_24 ⟨Nat.le_of_ble_eq_true rfl, Nat.le_of_ble_eq_true rfl⟩ (fun r_3 S_4 H locs hq_5 hP hR hS _ => ?_)
        obtain ⟨hs9, rfl⟩ := hq_5
        obtain rfl := hs9.symm
        refine z_top (b := ↑k0) rfl ?_
        refine lv_istore_n (lv' := [(1, .int (zI (↑k0))), (0, .ref (ad 26))]) hx hb dX7_layFar_27 rfl hl (by decide) rfl (fun ls hl => ?_)
        refine lv_aload_n hx hb dX7_layFar_28 rfl (lv_at hl 1 rfl) ?_
        refine va_get (D := D) (ci := 7) (v := .ref (ad 12)) (C := RX7) (T := TX7) (N := 26) hx hb hT inX7 hown hK hP 0 rfl rfl 12 (by decide) (hT _ q_684) (fun _ h9 => h9) rfl dX7_layFar_29 ?_
        refine lv_iload_n hx hb dX7_layFar_32 rfl (lv_at hl 0 rfl) ?_
        refine z_iconst hx hb dX7_layFar_33 ?_
        refine z_ast (f := (sA S 12 f) 12) (i := ↑k0) (v := 0) hx hb hK hP (mD hinj cI _) hS 8 0 rfl rfl (by omega) (by omega) (by decide) dX7_layFar_34 (fun H locs hP hS => ?_)
        have hP : va_P D vwCl (mW cI ad (sA S 12 (uZ f k0 0))) H := hP
        have hR : RS (sA S 12 (uZ f k0 0)) := hR.put' (by omega) (by omega)
        refine lv_aload_n hx hb dX7_layFar_35 rfl (lv_at hl 1 rfl) ?_
        refine va_get (D := D) (ci := 7) (v := .ref (ad 13)) (C := RX7) (T := TX7) (N := 26) hx hb hT inX7 hown hK hP 0 rfl rfl 13 (by decide) (hT _ q_685) (fun _ h9 => h9) rfl dX7_layFar_36 ?_
        refine z_iconst hx hb dX7_layFar_39 ?_
        refine lv_iload_n hx hb dX7_layFar_40 rfl (lv_at hl 0 rfl) ?_
        refine z_ast (f := (sA S 12 (uZ f k0 0)) 13) (i := 0) (v := ↑k0) hx hb hK hP (mD hinj cI _) hS 9 0 rfl rfl (by omega) (by omega) (by decide) dX7_layFar_41 (fun H locs hP hS => ?_)
        have hP : va_P D vwCl (mW cI ad (sA (sA S 12 (uZ f k0 0)) 13 (uZ (S 13) 0 ↑k0))) H := hP
        have hR : RS (sA (sA S 12 (uZ f k0 0)) 13 (uZ (S 13) 0 ↑k0)) := hR.put (by omega) (by omega)
        refine lv_aload_n hx hb dX7_layFar_42 rfl (lv_at hl 1 rfl) ?_
        refine z_iconst hx hb dX7_layFar_43 ?_
        refine va_put (D := D) (ci := 7) (v := .int (zI (1))) (ty := .int) (C := RX7) (T := TX7) (N := 26) hx hb hT inX7 tyX7 tyX7_ok nmX7 hown hK hP (mD hinj cI _) hS 0 rfl rfl 14 (by decide) (hT _ q_686) (fun _ h9 => h9) rfl (by decide +kernel) rfl rfl (Nat.le_of_ble_eq_true rfl) dX7_layFar_44 (fun H locs hP _ hS => ?_)
        have hP : va_P D vwCl (mW cI ad (sA (sA (sA S 12 (uZ f k0 0)) 13 (uZ (S 13) 0 ↑k0)) 14 (fun _ => 1))) H := hP
        have hR : RS (sA (sA (sA S 12 (uZ f k0 0)) 13 (uZ (S 13) 0 ↑k0)) 14 (fun _ => 1)) := hR.one (by omega) (by omega)
        refine z_iconst hx hb dX7_layFar_47 ?_
        refine lv_istore_n (lv' := [(2, .int (zI (0))), (1, .int (zI (↑k0))), (0, .ref (ad 26))]) hx hb dX7_layFar_48 rfl hl (by decide) rfl (fun ls hl => ?_)
        have cut_49 : ∀ (k9 : Nat) (h : Nat) (cc9 : Nat) (cq : Int) (g9 : Nat → Int) (g10 : Nat → Int) (g11 : Nat → Int) (F : Nat → Int) (Qf : Nat → Int) (H : Heap) (locs : List Loc) (ls : Array Slot), (cq = ↑cc9) → (BI N (mvE n (S 7)) k0 F Qf cc9 h) → (N - h) < k9 → va_P D vwCl (mW cI ad (sA (sA (sA (sA (sA (sA S 9 g9) 10 g10) 11 g11) 12 F) 13 Qf) 14 (fun _ => cq))) H → RS (sA (sA (sA (sA (sA (sA S 9 g9) 10 g10) 11 g11) 12 F) 13 Qf) 14 (fun _ => cq)) → va_S (mA ad) s.heap H locs → lv_has ls 6 [(0, .ref (ad 26)), (1, .int (zI (↑k0))), (2, .int (zI (↑h)))] → W p l e (headSpec (Cond.code yX7_layFar cX7_layFar 6 none :: lwT) ({ frames := 3, cells := 0, slots := 0, locals := 70 })).room s m ([.ref (ad 26)] : List Value).toArray below meth c H locs 0 0 (MQ below (va_Qv (fun (S' : St) => ∃ e9 e10 e11 e12 e13 e14, S' = sA (sA (sA (sA (sA (sA S 9 e9) 10 e10) 11 e11) 12 e12) 13 e13) 14 e14 ∧ isDist N (mvE n (S 7)) k0 e12) (gB D (mW cI ad)) (mA ad)) ([.ref (ad 26)] : List Value).toArray s 0 0 (mA ad)) (F0 m 49 ls []) := by
          intro k9
          induction k9 with
          | zero =>
            intro h cc9 cq g9 g10 g11 F Qf H locs ls hcq hB hk9 hP hR hS hl
            exact absurd hk9 (Nat.not_lt_zero _)
          | succ k9 ih_49 =>
            intro h cc9 cq g9 g10 g11 F Qf H locs ls hcq hB hk9 hP hR hS hl
            have hcN := BI_le hB
            have hhc := hB.1.2.1
            refine lv_iload_n hx hb dX7_layFar_49 rfl (lv_at hl 2 rfl) ?_
            refine lv_aload_n hx hb dX7_layFar_50 rfl (lv_at hl 0 rfl) ?_
            refine va_get (D := D) (ci := 7) (v := .int (zI (cq))) (C := RX7) (T := TX7) (N := 26) hx hb hT inX7 hown hK hP 0 rfl rfl 14 (by decide) (hT _ q_686) (fun _ h9 => h9) rfl dX7_layFar_51 ?_
            refine z_icmp_ge (tgt := 195) hx hb (by omega) (by omega) (by omega) (by omega) dX7_layFar_54 (by decide) (fun c_6 => ?_) (fun c_6 => ?_)
            · have h9 : True := trivial
              exact g_vret (S1 := sA (sA (sA (sA (sA (sA S 9 g9) 10 g10) 11 g11) 12 F) 13 Qf) 14 (fun _ => cq)) hx hb hr hlocks hP hR hS (⟨_, _, _, _, _, _, rfl, BI_end ((show h = cc9 by omega) ▸ hB)⟩) dX7_layFar_195
            · have h9 : True := trivial
              have hbh := hB.2.1 h (by omega)
              obtain ⟨u, hu⟩ : ∃ u : Nat, Qf h = ↑u := ⟨(Qf h).toNat, by omega⟩
              have huN : u < N := by omega
              have hpu := (hO2 u huN).2.1
              refine lv_aload_n hx hb dX7_layFar_57 rfl (lv_at hl 0 rfl) ?_
              refine lv_aload_n hx hb dX7_layFar_58 rfl (lv_at hl 0 rfl) ?_
              refine va_get (D := D) (ci := 7) (v := .ref (ad 7)) (C := RX7) (T := TX7) (N := 26) hx hb hT inX7 hown hK hP 0 rfl rfl 7 (by decide) (hT _ q_679) (fun _ h9 => h9) rfl dX7_layFar_59 ?_
              refine lv_aload_n hx hb dX7_layFar_62 rfl (lv_at hl 0 rfl) ?_
              refine va_get (D := D) (ci := 7) (v := .ref (ad 13)) (C := RX7) (T := TX7) (N := 26) hx hb hT inX7 hown hK hP 0 rfl rfl 13 (by decide) (hT _ q_685) (fun _ h9 => h9) rfl dX7_layFar_63 ?_
              refine lv_iload_n hx hb dX7_layFar_66 rfl (lv_at hl 2 rfl) ?_
              have g_7 : -2147483648 ≤ Qf h ∧ Qf h < 2147483648 := hR 13 h (by decide)
              refine z_ald (f := Qf) hx hb hK hP 9 0 rfl rfl (by omega) (by omega) (by decide) (j := h) rfl dX7_layFar_67 ?_
              refine z_top (b := ↑u) (hu) ?_
              have g_8 : -2147483648 ≤ S 7 u ∧ S 7 u < 2147483648 := hR 7 u (by decide)
              refine z_ald (f := S 7) hx hb hK hP 4 0 rfl rfl (by omega) (by omega) (by decide) (j := u) rfl dX7_layFar_68 ?_
              refine lv_aload_n hx hb dX7_layFar_69 rfl (lv_at hl 0 rfl) ?_
              refine va_get (D := D) (ci := 7) (v := .ref (ad 10)) (C := RX7) (T := TX7) (N := 26) hx hb hT inX7 hown hK hP 0 rfl rfl 10 (by decide) (hT _ q_682) (fun _ h9 => h9) rfl dX7_layFar_70 ?_
              refine g_callVv (As := [.int (zI (S 7 u)), .ref (ad 10)]) (rest := []) ⟨hx, hb, hml, hown, hts⟩ (k_X7_layRow_10 l D cI ad hinj (sA (sA (sA (sA (sA (sA S 9 g9) 10 g10) 11 g11) 12 F) 13 Qf) 14 (fun _ => cq)) hR n hn hn7 (S 7 u) ((hO2 u (by omega)).1) (by omega)) (cwV 2 hts (gV hsub q_832 q_834 q_sX7_layRow q_8 q_835) rfl rfl rfl hdX7_layRow ⟨Nat.le_of_ble_eq_true rfl, Nat.le_of_ble_eq_true rfl⟩) (mEb D cI) (mEk D cI (mA ad)) hE (va_recv (ci := 7) (q0 := 0) hK hP rfl rfl) hP hS rfl hl.1 rfl (Nat.le_of_ble_eq_true rfl) dX7_layFar_73 ⟨Nat.le_of_ble_eq_true rfl, Nat.le_of_ble_eq_true rfl⟩ (fun S_10 H locs hq_11 hP hR hS _ => ?_)
              obtain ⟨f_12, rfl, hlr_13⟩ := hq_11
              refine z_iconst hx hb dX7_layFar_76 ?_
              refine lv_istore_n (lv' := [(3, .int (zI (0))), (0, .ref (ad 26)), (1, .int (zI (↑k0))), (2, .int (zI (↑h)))]) hx hb dX7_layFar_77 rfl hl (by decide) rfl (fun ls hl => ?_)
              have cut_78 : ∀ (k9 : Nat) (m8 : Nat) (c2 : Nat) (cq2 : Int) (g9 : Nat → Int) (g10 : Nat → Int) (g11 : Nat → Int) (F2 : Nat → Int) (Q2 : Nat → Int) (H : Heap) (locs : List Loc) (ls : Array Slot), (m8 ≤ n * n) → (cq2 = ↑c2) → (BI N (mvE n (S 7)) k0 F2 Q2 c2 h) → (h < c2) → (Q2 h = ↑u) → (∀ j, j < n → g10 j = dgF n (S 7 u) j) → (∀ a, a < m8 → ∀ y, y < N → cbF n (dgF n (S 7 u)) (a / n) (a % n) ≠ -1 → S 7 y = cbF n (dgF n (S 7 u)) (a / n) (a % n) → 0 ≤ F2 y ∧ F2 y ≤ F2 u + 1) → (n * n - m8) < k9 → va_P D vwCl (mW cI ad (sA (sA (sA (sA (sA (sA S 9 g9) 10 g10) 11 g11) 12 F2) 13 Q2) 14 (fun _ => cq2))) H → RS (sA (sA (sA (sA (sA (sA S 9 g9) 10 g10) 11 g11) 12 F2) 13 Q2) 14 (fun _ => cq2)) → va_S (mA ad) s.heap H locs → lv_has ls 6 [(0, .ref (ad 26)), (1, .int (zI (↑k0))), (2, .int (zI (↑h))), (3, .int (zI (↑m8)))] → W p l e (headSpec (Cond.code yX7_layFar cX7_layFar 6 none :: lwT) ({ frames := 3, cells := 0, slots := 0, locals := 70 })).room s m ([.ref (ad 26)] : List Value).toArray below meth c H locs 0 0 (MQ below (va_Qv (fun (S' : St) => ∃ e9 e10 e11 e12 e13 e14, S' = sA (sA (sA (sA (sA (sA S 9 e9) 10 e10) 11 e11) 12 e12) 13 e13) 14 e14 ∧ isDist N (mvE n (S 7)) k0 e12) (gB D (mW cI ad)) (mA ad)) ([.ref (ad 26)] : List Value).toArray s 0 0 (mA ad)) (F0 m 78 ls []) := by
                intro k9
                induction k9 with
                | zero =>
                  intro m8 c2 cq2 g9 g10 g11 F2 Q2 H locs ls hm8 hcq2 hB2 hhc2 hQu h10 hdone hk9 hP hR hS hl
                  exact absurd hk9 (Nat.not_lt_zero _)
                | succ k9 ih_78 =>
                  intro m8 c2 cq2 g9 g10 g11 F2 Q2 H locs ls hm8 hcq2 hB2 hhc2 hQu h10 hdone hk9 hP hR hS hl
                  have hcN2 := BI_le hB2
                  refine lv_iload_n hx hb dX7_layFar_78 rfl (lv_at hl 3 rfl) ?_
                  refine lv_aload_n hx hb dX7_layFar_79 rfl (lv_at hl 0 rfl) ?_
                  have g_14 : -2147483648 ≤ S 2 0 ∧ S 2 0 < 2147483648 := hR 2 0 (by decide)
                  refine va_get (D := D) (ci := 7) (v := .int (zI (S 2 0))) (C := RX7) (T := TX7) (N := 26) hx hb hT inX7 hown hK hP 0 rfl rfl 2 (by decide) (hT _ q_674) (fun _ h9 => h9) rfl dX7_layFar_80 ?_
                  refine lv_aload_n hx hb dX7_layFar_83 rfl (lv_at hl 0 rfl) ?_
                  refine va_get (D := D) (ci := 7) (v := .int (zI (S 2 0))) (C := RX7) (T := TX7) (N := 26) hx hb hT inX7 hown hK hP 0 rfl rfl 2 (by decide) (hT _ q_674) (fun _ h9 => h9) rfl dX7_layFar_84 ?_
                  refine z_imul hx hb dX7_layFar_87 ?_
                  refine z_top (b := ↑(n * n)) (by rw [hn]; exact (Int.natCast_mul n n).symm) ?_
                  refine z_icmp_ge (tgt := 189) hx hb (by omega) (by omega) (by omega) (by omega) dX7_layFar_88 (by decide) (fun c_15 => ?_) (fun c_15 => ?_)
                  · have h9 : True := trivial
                    refine z_iinc (lv' := [(2, .int (zI (↑h + 1))), (0, .ref (ad 26)), (1, .int (zI (↑k0))), (3, .int (zI (↑m8)))]) hx hb dX7_layFar_189 hl (k := 2) rfl (by decide) rfl (fun ls hl => ?_)
                    refine lv_goto (tgt := 49) hx hb dX7_layFar_192 (by decide) ?_
                    exact ih_49 (h + 1) c2 cq2 g9 g10 g11 F2 Q2 _ _ _ (hcq2) (BI_next hB2 hhc2 (fun z hz hEz => by rw [show (Q2 h).toNat = u by omega] at hEz ⊢; exact mv_all hEz (fun a ha h1 h2 => hdone a (by omega) z hz h1 h2))) (by omega) hP hR hS (lv_sub hl [1, 2, 0] rfl)
                  · have h9 : True := trivial
                    have hn0 : 0 < n := Nat.pos_of_ne_zero (fun e => by subst e; omega)
                    have hdv := Nat.div_lt_of_lt_mul (show m8 < n * n by omega)
                    have hmd := Nat.mod_lt m8 hn0
                    have hold := fun z (hz : z < N) (hF : ¬ F2 z = -1) => BI_old hB2 hhc2 hz hF
                    have hQt : (Q2 h).toNat = u := by omega
                    rw [hQt] at hold
                    have cut_129 : ∀ (y : Nat) (xt : Int) (i9 : Nat → Int) (i11 : Nat → Int) (H : Heap) (locs : List Loc) (ls : Array Slot), (xt = ↑y) → (y < N) → (cbF n (dgF n (S 7 u)) (m8 / n) (m8 % n) ≠ -1 → S 7 y = cbF n (dgF n (S 7 u)) (m8 / n) (m8 % n)) → (cbF n (dgF n (S 7 u)) (m8 / n) (m8 % n) = -1 → y = k0) → va_P D vwCl (mW cI ad (sA (sA (sA (sA (sA (sA S 9 i9) 10 g10) 11 i11) 12 F2) 13 Q2) 14 (fun _ => cq2))) H → RS (sA (sA (sA (sA (sA (sA S 9 i9) 10 g10) 11 i11) 12 F2) 13 Q2) 14 (fun _ => cq2)) → va_S (mA ad) s.heap H locs → lv_has ls 6 [(0, .ref (ad 26)), (1, .int (zI (↑k0))), (2, .int (zI (↑h))), (3, .int (zI (↑m8)))] → W p l e (headSpec (Cond.code yX7_layFar cX7_layFar 6 none :: lwT) ({ frames := 3, cells := 0, slots := 0, locals := 70 })).room s m ([.ref (ad 26)] : List Value).toArray below meth c H locs 0 0 (MQ below (va_Qv (fun (S' : St) => ∃ e9 e10 e11 e12 e13 e14, S' = sA (sA (sA (sA (sA (sA S 9 e9) 10 e10) 11 e11) 12 e12) 13 e13) 14 e14 ∧ isDist N (mvE n (S 7)) k0 e12) (gB D (mW cI ad)) (mA ad)) ([.ref (ad 26)] : List Value).toArray s 0 0 (mA ad)) (F0 m 129 ls [.int (zI (xt))]) := by
                      intro y xt i9 i11 H locs ls hxt hyN hy1 hy2 hP hR hS hl
                      refine lv_istore (lv' := [(5, .int (zI (xt))), (0, .ref (ad 26)), (1, .int (zI (↑k0))), (2, .int (zI (↑h))), (3, .int (zI (↑m8)))]) hx hb dX7_layFar_129 hl (by decide) rfl (fun ls hl => ?_)
                      refine lv_aload_n hx hb dX7_layFar_131 rfl (lv_at hl 1 rfl) ?_
                      refine va_get (D := D) (ci := 7) (v := .ref (ad 12)) (C := RX7) (T := TX7) (N := 26) hx hb hT inX7 hown hK hP 0 rfl rfl 12 (by decide) (hT _ q_684) (fun _ h9 => h9) rfl dX7_layFar_132 ?_
                      refine lv_iload hx hb dX7_layFar_135 (lv_at hl 0 rfl) ?_
                      have g_16 : -2147483648 ≤ F2 (xt).toNat ∧ F2 (xt).toNat < 2147483648 := hR 12 ((xt).toNat) (by decide)
                      refine z_ald (f := F2) hx hb hK hP 8 0 rfl rfl (by omega) (by omega) (by decide) (j := (xt).toNat) rfl dX7_layFar_137 ?_
                      have h8y : -2147483648 ≤ F2 y ∧ F2 y < 2147483648 := (hR 12 y (by decide))
                      refine z_top (b := F2 y) (by rw [show xt.toNat = y by omega]) ?_
                      refine z_iconst hx hb dX7_layFar_138 ?_
                      refine z_icmp_ne (tgt := 183) hx hb (by omega) (by omega) (by omega) (by omega) dX7_layFar_139 (by decide) (fun c_17 => ?_) (fun c_17 => ?_)
                      · have h9 : True := trivial
                        refine z_iinc (lv' := [(3, .int (zI (↑m8 + 1))), (5, .int (zI (xt))), (0, .ref (ad 26)), (1, .int (zI (↑k0))), (2, .int (zI (↑h)))]) hx hb dX7_layFar_183 hl (k := 4) rfl (by decide) rfl (fun ls hl => ?_)
                        refine lv_goto (tgt := 78) hx hb dX7_layFar_186 (by decide) ?_
                        exact ih_78 (m8 + 1) c2 cq2 i9 g10 i11 F2 Q2 _ _ _ (by omega) (hcq2) (hB2) (by omega) (hQu) (h10) (lt_s hdone (fun z hz h1 h2 => by have e9 : z = y := hO3 z y hz hyN (by rw [h2, hy1 h1]); rw [e9]; exact hold y hyN (by omega))) (by omega) hP hR hS (lv_sub hl [2, 3, 4, 0] rfl)
                      · have h9 : True := trivial
                        have hcb : cbF n (dgF n (S 7 u)) (m8 / n) (m8 % n) ≠ -1 := fun e => by have := hy2 e; have := hB2.1.2.2.2; subst y; omega
                        have hE9 : mvE n (S 7) u y := ⟨_, _, hdv, hmd, hcb, hy1 hcb⟩
                        have hB3 := BI_new hB2 hhc2 hyN (by omega) (by rw [hQt]; exact hE9)
                        rw [hQt] at hB3
                        have hcN3 := BI_le hB3
                        have hFu := (hB2.2.1 h hhc2).2.2
                        rw [hQt] at hFu
                        refine lv_aload_n hx hb dX7_layFar_142 rfl (lv_at hl 1 rfl) ?_
                        refine va_get (D := D) (ci := 7) (v := .ref (ad 12)) (C := RX7) (T := TX7) (N := 26) hx hb hT inX7 hown hK hP 0 rfl rfl 12 (by decide) (hT _ q_684) (fun _ h9 => h9) rfl dX7_layFar_143 ?_
                        refine lv_iload hx hb dX7_layFar_146 (lv_at hl 0 rfl) ?_
                        refine lv_aload_n hx hb dX7_layFar_148 rfl (lv_at hl 1 rfl) ?_
                        refine va_get (D := D) (ci := 7) (v := .ref (ad 12)) (C := RX7) (T := TX7) (N := 26) hx hb hT inX7 hown hK hP 0 rfl rfl 12 (by decide) (hT _ q_684) (fun _ h9 => h9) rfl dX7_layFar_149 ?_
                        refine lv_aload_n hx hb dX7_layFar_152 rfl (lv_at hl 1 rfl) ?_
                        refine va_get (D := D) (ci := 7) (v := .ref (ad 13)) (C := RX7) (T := TX7) (N := 26) hx hb hT inX7 hown hK hP 0 rfl rfl 13 (by decide) (hT _ q_685) (fun _ h9 => h9) rfl dX7_layFar_153 ?_
                        refine lv_iload_n hx hb dX7_layFar_156 rfl (lv_at hl 3 rfl) ?_
                        have g_18 : -2147483648 ≤ Q2 h ∧ Q2 h < 2147483648 := hR 13 h (by decide)
                        refine z_ald (f := Q2) hx hb hK hP 9 0 rfl rfl (by omega) (by omega) (by decide) (j := h) rfl dX7_layFar_157 ?_
                        refine z_top (b := ↑u) (hQu) ?_
                        have g_19 : -2147483648 ≤ F2 u ∧ F2 u < 2147483648 := hR 12 u (by decide)
                        refine z_ald (f := F2) hx hb hK hP 8 0 rfl rfl (by omega) (by omega) (by decide) (j := u) rfl dX7_layFar_158 ?_
                        refine z_iconst hx hb dX7_layFar_159 ?_
                        refine z_iadd hx hb dX7_layFar_160 ?_
                        refine z_ast (f := (sA (sA (sA (sA (sA (sA S 9 i9) 10 g10) 11 i11) 12 F2) 13 Q2) 14 (fun _ => cq2)) 12) (i := xt) (v := (F2 u) + 1) hx hb hK hP (mD hinj cI _) hS 8 0 rfl rfl (by omega) (by omega) (by decide) dX7_layFar_161 (fun H locs hP hS => ?_)
                        have hP : va_P D vwCl (mW cI ad (sA (sA (sA (sA (sA (sA (sA S 9 i9) 10 g10) 11 i11) 12 F2) 13 Q2) 14 (fun _ => cq2)) 12 (uZ F2 (xt).toNat ((F2 u) + 1)))) H := hP
                        have hR : RS (sA (sA (sA (sA (sA (sA (sA S 9 i9) 10 g10) 11 i11) 12 F2) 13 Q2) 14 (fun _ => cq2)) 12 (uZ F2 (xt).toNat ((F2 u) + 1))) := hR.put (by omega) (by omega)
                        refine lv_aload_n hx hb dX7_layFar_162 rfl (lv_at hl 1 rfl) ?_
                        refine va_get (D := D) (ci := 7) (v := .ref (ad 13)) (C := RX7) (T := TX7) (N := 26) hx hb hT inX7 hown hK hP 0 rfl rfl 13 (by decide) (hT _ q_685) (fun _ h9 => h9) rfl dX7_layFar_163 ?_
                        refine lv_aload_n hx hb dX7_layFar_166 rfl (lv_at hl 1 rfl) ?_
                        refine va_get (D := D) (ci := 7) (v := .int (zI (cq2))) (C := RX7) (T := TX7) (N := 26) hx hb hT inX7 hown hK hP 0 rfl rfl 14 (by decide) (hT _ q_686) (fun _ h9 => h9) rfl dX7_layFar_167 ?_
                        refine lv_iload hx hb dX7_layFar_170 (lv_at hl 0 rfl) ?_
                        refine z_ast (f := (sA (sA (sA (sA (sA (sA (sA S 9 i9) 10 g10) 11 i11) 12 F2) 13 Q2) 14 (fun _ => cq2)) 12 (uZ F2 (xt).toNat ((F2 u) + 1))) 13) (i := cq2) (v := xt) hx hb hK hP (mD hinj cI _) hS 9 0 rfl rfl (by omega) (by omega) (by decide) dX7_layFar_172 (fun H locs hP hS => ?_)
                        have hP : va_P D vwCl (mW cI ad (sA (sA (sA (sA (sA (sA (sA (sA S 9 i9) 10 g10) 11 i11) 12 F2) 13 Q2) 14 (fun _ => cq2)) 12 (uZ F2 (xt).toNat ((F2 u) + 1))) 13 (uZ Q2 (cq2).toNat xt))) H := hP
                        have hR : RS (sA (sA (sA (sA (sA (sA (sA (sA S 9 i9) 10 g10) 11 i11) 12 F2) 13 Q2) 14 (fun _ => cq2)) 12 (uZ F2 (xt).toNat ((F2 u) + 1))) 13 (uZ Q2 (cq2).toNat xt)) := hR.put (by omega) (by omega)
                        refine lv_aload_n hx hb dX7_layFar_173 rfl (lv_at hl 1 rfl) ?_
                        refine lv_dup hx hb dX7_layFar_174 rfl ?_
                        refine va_get (D := D) (ci := 7) (v := .int (zI (cq2))) (C := RX7) (T := TX7) (N := 26) hx hb hT inX7 hown hK hP 0 rfl rfl 14 (by decide) (hT _ q_686) (fun _ h9 => h9) rfl dX7_layFar_175 ?_
                        refine z_iconst hx hb dX7_layFar_178 ?_
                        refine z_iadd hx hb dX7_layFar_179 ?_
                        refine va_put (D := D) (ci := 7) (v := .int (zI (cq2 + 1))) (ty := .int) (C := RX7) (T := TX7) (N := 26) hx hb hT inX7 tyX7 tyX7_ok nmX7 hown hK hP (mD hinj cI _) hS 0 rfl rfl 14 (by decide) (hT _ q_686) (fun _ h9 => h9) rfl (by decide +kernel) rfl rfl (Nat.le_of_ble_eq_true rfl) dX7_layFar_180 (fun H locs hP _ hS => ?_)
                        have hP : va_P D vwCl (mW cI ad (sA (sA (sA (sA (sA (sA (sA (sA (sA S 9 i9) 10 g10) 11 i11) 12 F2) 13 Q2) 14 (fun _ => cq2)) 12 (uZ F2 (xt).toNat ((F2 u) + 1))) 13 (uZ Q2 (cq2).toNat xt)) 14 (fun _ => cq2 + 1))) H := hP
                        have hR : RS (sA (sA (sA (sA (sA (sA (sA (sA (sA S 9 i9) 10 g10) 11 i11) 12 F2) 13 Q2) 14 (fun _ => cq2)) 12 (uZ F2 (xt).toNat ((F2 u) + 1))) 13 (uZ Q2 (cq2).toNat xt)) 14 (fun _ => cq2 + 1)) := hR.one (by omega) (by omega)
                        refine z_iinc (lv' := [(3, .int (zI (↑m8 + 1))), (5, .int (zI (xt))), (0, .ref (ad 26)), (1, .int (zI (↑k0))), (2, .int (zI (↑h)))]) hx hb dX7_layFar_183 hl (k := 4) rfl (by decide) rfl (fun ls hl => ?_)
                        refine lv_goto (tgt := 78) hx hb dX7_layFar_186 (by decide) ?_
                        have hSe_20 : sA (sA (sA (sA (sA (sA (sA (sA (sA S 9 i9) 10 g10) 11 i11) 12 F2) 13 Q2) 14 (fun _ => cq2)) 12 (uZ F2 (xt).toNat ((F2 u) + 1))) 13 (uZ Q2 (cq2).toNat xt)) 14 (fun _ => cq2 + 1) = sA (sA (sA (sA (sA (sA S 9 i9) 10 g10) 11 i11) 12 (uZ F2 (xt).toNat ((F2 u) + 1))) 13 (uZ Q2 (cq2).toNat xt)) 14 (fun _ => cq2 + 1) := by
                          funext k8
                          by_cases e80 : k8 = 9
                          · subst e80; first | rfl | (funext j8; rfl)
                          by_cases e81 : k8 = 10
                          · subst e81; first | rfl | (funext j8; rfl)
                          by_cases e82 : k8 = 11
                          · subst e82; first | rfl | (funext j8; rfl)
                          by_cases e83 : k8 = 12
                          · subst e83; first | rfl | (funext j8; rfl)
                          by_cases e84 : k8 = 13
                          · subst e84; first | rfl | (funext j8; rfl)
                          by_cases e85 : k8 = 14
                          · subst e85; funext j8; first | rfl | exact hsc_14 j8
                          simp [sA, e80, e81, e82, e83, e84, e85]
                        rw [hSe_20] at hP hR
                        exact ih_78 (m8 + 1) (c2 + 1) (cq2 + 1) i9 g10 i11 (uZ F2 (xt).toNat ((F2 u) + 1)) (uZ Q2 (cq2).toNat xt) _ _ _ (by omega) (by omega) (by rw [show xt.toNat = y by omega, show cq2.toNat = c2 by omega, hxt]; exact hB3) (by omega) (by rw [show cq2.toNat = c2 by omega, uZ_n (by omega)]; exact hQu) (h10) (by
                  rw [show xt.toNat = y by omega]
                  have hne : u ≠ y := fun e => by rw [e] at hFu; omega
                  refine lt_s (fun a ha z hz h1 h2 => ?_) (fun z hz h1 h2 => ?_)
                  · have h3 := hdone a ha z hz h1 h2
                    rw [uZ_n (fun e => by rw [e] at h3; omega), uZ_n hne]; exact h3
                  · have e9 : z = y := hO3 z y hz hyN (by rw [h2, hy1 h1])
                    rw [e9, uZ_s, uZ_n hne]; omega) (by omega) hP hR hS (lv_sub hl [2, 3, 4, 0] rfl)
                    refine lv_aload_n hx hb dX7_layFar_91 rfl (lv_at hl 0 rfl) ?_
                    refine lv_aload_n hx hb dX7_layFar_92 rfl (lv_at hl 0 rfl) ?_
                    refine va_get (D := D) (ci := 7) (v := .ref (ad 10)) (C := RX7) (T := TX7) (N := 26) hx hb hT inX7 hown hK hP 0 rfl rfl 10 (by decide) (hT _ q_682) (fun _ h9 => h9) rfl dX7_layFar_93 ?_
                    refine lv_iload_n hx hb dX7_layFar_96 rfl (lv_at hl 3 rfl) ?_
                    refine lv_aload_n hx hb dX7_layFar_97 rfl (lv_at hl 0 rfl) ?_
                    refine va_get (D := D) (ci := 7) (v := .int (zI (S 2 0))) (C := RX7) (T := TX7) (N := 26) hx hb hT inX7 hown hK hP 0 rfl rfl 2 (by decide) (hT _ q_674) (fun _ h9 => h9) rfl dX7_layFar_98 ?_
                    refine z_idiv hx hb (by omega) (by omega) (by omega) (by omega) dX7_layFar_101 ?_
                    refine z_top (b := ↑(m8 / n)) (by rw [hn]; rfl) ?_
                    refine lv_iload_n hx hb dX7_layFar_102 rfl (lv_at hl 3 rfl) ?_
                    refine lv_aload_n hx hb dX7_layFar_103 rfl (lv_at hl 0 rfl) ?_
                    refine va_get (D := D) (ci := 7) (v := .int (zI (S 2 0))) (C := RX7) (T := TX7) (N := 26) hx hb hT inX7 hown hK hP 0 rfl rfl 2 (by decide) (hT _ q_674) (fun _ h9 => h9) rfl dX7_layFar_104 ?_
                    refine z_irem hx hb (by omega) (by omega) (by omega) (by omega) dX7_layFar_107 ?_
                    refine z_top (b := ↑(m8 % n)) (by rw [hn]; rfl) ?_
                    refine g_callVi (As := [.ref (ad 10), .int (zI (↑(m8 / n))), .int (zI (↑(m8 % n)))]) (rest := []) ⟨hx, hb, hml, hown, hts⟩ (k_X7_codeBy_10 l D cI ad hinj (sA (sA (sA (sA (sA (sA S 9 g9) 10 g10) 11 g11) 12 F2) 13 Q2) 14 (fun _ => cq2)) hR n hn hn7 (prm_c h10 hpu) (m8 / n) (m8 % n) (↑(m8 / n)) (↑(m8 % n)) rfl rfl hdv hmd) (cwV 3 hts (gV hsub q_836 q_838 q_sX7_codeBy q_8 q_839) rfl rfl rfl hdX7_codeBy ⟨Nat.le_of_ble_eq_true rfl, Nat.le_of_ble_eq_true rfl⟩) (mEb D cI) (mEk D cI (mA ad)) hE (va_recv (ci := 7) (q0 := 0) hK hP rfl rfl) hP hS rfl hl.1 rfl (Nat.le_of_ble_eq_true rfl) dX7_layFar_108 ⟨Nat.le_of_ble_eq_true rfl, Nat.le_of_ble_eq_true rfl⟩ (fun r_21 S_22 H locs hq_23 hP hR hS _ => ?_)
                    obtain ⟨f_24, g_25, rfl, rfl⟩ := hq_23
                    refine z_top (b := cbF n g10 (m8 / n) (m8 % n)) rfl ?_
                    have hcr := cbF_r hn7 hpu hdv hmd
                    refine z_top (b := cbF n (dgF n (S 7 u)) (m8 / n) (m8 % n)) (cbF_c h10 (pl_lt hpu hdv) hmd) ?_
                    refine lv_istore (lv' := [(4, .int (zI (cbF n (dgF n (S 7 u)) (m8 / n) (m8 % n)))), (0, .ref (ad 26)), (1, .int (zI (↑k0))), (2, .int (zI (↑h))), (3, .int (zI (↑m8)))]) hx hb dX7_layFar_111 hl (by decide) rfl (fun ls hl => ?_)
                    refine lv_iload hx hb dX7_layFar_113 (lv_at hl 0 rfl) ?_
                    refine z_iconst hx hb dX7_layFar_115 ?_
                    refine z_icmp_ne (tgt := 123) hx hb (by omega) (by omega) (by omega) (by omega) dX7_layFar_116 (by decide) (fun c_26 => ?_) (fun c_26 => ?_)
                    · have h9 : True := trivial
                      obtain ⟨y, hyN, hy⟩ := cbF_in hO huN hdv hmd (by omega)
                      refine lv_aload_n hx hb dX7_layFar_123 rfl (lv_at hl 1 rfl) ?_
                      refine lv_iload hx hb dX7_layFar_124 (lv_at hl 0 rfl) ?_
                      refine g_callVi (As := [.int (zI (cbF n (dgF n (S 7 u)) (m8 / n) (m8 % n)))]) (rest := []) ⟨hx, hb, hml, hown, hts⟩ (k_X7_orderOf l D cI ad hinj (sA (sA (sA (sA (sA (sA (sA (sA S 9 g9) 10 g10) 11 g11) 12 F2) 13 Q2) 14 (fun _ => cq2)) 11 f_24) 9 g_25) hR y (by omega) (cbF n (dgF n (S 7 u)) (m8 / n) (m8 % n)) hy (fun j hj e => by have := hO3 j y (by omega) hyN (Eq.trans e hy.symm); omega)) (cwV 1 hts (gV hsub q_828 q_830 q_sX7_orderOf q_8 q_831) rfl rfl rfl hdX7_orderOf ⟨Nat.le_of_ble_eq_true rfl, Nat.le_of_ble_eq_true rfl⟩) (mEb D cI) (mEk D cI (mA ad)) hE (va_recv (ci := 7) (q0 := 0) hK hP rfl rfl) hP hS rfl hl.1 rfl (Nat.le_of_ble_eq_true rfl) dX7_layFar_126 ⟨Nat.le_of_ble_eq_true rfl, Nat.le_of_ble_eq_true rfl⟩ (fun r_27 S_28 H locs hq_29 hP hR hS _ => ?_)
                      obtain ⟨hs9, rfl⟩ := hq_29
                      obtain rfl := hs9.symm
                      refine z_top (b := ↑y) rfl ?_
                      have hSe_30 : sA (sA (sA (sA (sA (sA (sA (sA S 9 g9) 10 g10) 11 g11) 12 F2) 13 Q2) 14 (fun _ => cq2)) 11 f_24) 9 g_25 = sA (sA (sA (sA (sA (sA S 9 g_25) 10 g10) 11 f_24) 12 F2) 13 Q2) 14 (fun _ => cq2) := by
                        funext k8
                        by_cases e80 : k8 = 9
                        · subst e80; first | rfl | (funext j8; rfl)
                        by_cases e81 : k8 = 10
                        · subst e81; first | rfl | (funext j8; rfl)
                        by_cases e82 : k8 = 11
                        · subst e82; first | rfl | (funext j8; rfl)
                        by_cases e83 : k8 = 12
                        · subst e83; first | rfl | (funext j8; rfl)
                        by_cases e84 : k8 = 13
                        · subst e84; first | rfl | (funext j8; rfl)
                        by_cases e85 : k8 = 14
                        · subst e85; funext j8; first | rfl | exact hsc_14 j8
                        simp [sA, e80, e81, e82, e83, e84, e85]
                      rw [hSe_30] at hP hR
                      exact cut_129 y ↑y g_25 f_24 _ _ _ (by omega) (by omega) (fun _ => hy) (fun e => absurd e (by omega)) hP hR hS (lv_sub hl [1, 2, 3, 4] rfl)
                    · have h9 : True := trivial
                      refine lv_iload_n hx hb dX7_layFar_119 rfl (lv_at hl 2 rfl) ?_
                      refine lv_goto (tgt := 129) hx hb dX7_layFar_120 (by decide) ?_
                      have hSe_31 : sA (sA (sA (sA (sA (sA (sA (sA S 9 g9) 10 g10) 11 g11) 12 F2) 13 Q2) 14 (fun _ => cq2)) 11 f_24) 9 g_25 = sA (sA (sA (sA (sA (sA S 9 g_25) 10 g10) 11 f_24) 12 F2) 13 Q2) 14 (fun _ => cq2) := by
                        funext k8
                        by_cases e80 : k8 = 9
                        · subst e80; first | rfl | (funext j8; rfl)
                        by_cases e81 : k8 = 10
                        · subst e81; first | rfl | (funext j8; rfl)
                        by_cases e82 : k8 = 11
                        · subst e82; first | rfl | (funext j8; rfl)
                        by_cases e83 : k8 = 12
                        · subst e83; first | rfl | (funext j8; rfl)
                        by_cases e84 : k8 = 13
                        · subst e84; first | rfl | (funext j8; rfl)
                        by_cases e85 : k8 = 14
                        · subst e85; funext j8; first | rfl | exact hsc_14 j8
                        simp [sA, e80, e81, e82, e83, e84, e85]
                      rw [hSe_31] at hP hR
                      exact cut_129 k0 ↑k0 g_25 f_24 _ _ _ (by omega) (by omega) (fun e => absurd (by omega) e) (fun _ => rfl) hP hR hS (lv_sub hl [1, 2, 3, 4] rfl)
              have hSe_32 : sA (sA (sA (sA (sA (sA (sA S 9 g9) 10 g10) 11 g11) 12 F) 13 Qf) 14 (fun _ => cq)) 10 f_12 = sA (sA (sA (sA (sA (sA S 9 g9) 10 f_12) 11 g11) 12 F) 13 Qf) 14 (fun _ => cq) := by
                funext k8
                by_cases e80 : k8 = 9
                · subst e80; first | rfl | (funext j8; rfl)
                by_cases e81 : k8 = 10
                · subst e81; first | rfl | (funext j8; rfl)
                by_cases e82 : k8 = 11
                · subst e82; first | rfl | (funext j8; rfl)
                by_cases e83 : k8 = 12
                · subst e83; first | rfl | (funext j8; rfl)
                by_cases e84 : k8 = 13
                · subst e84; first | rfl | (funext j8; rfl)
                by_cases e85 : k8 = 14
                · subst e85; funext j8; first | rfl | exact hsc_14 j8
                simp [sA, e80, e81, e82, e83, e84, e85]
              rw [hSe_32] at hP hR
              exact cut_78 _ 0 cc9 cq g9 f_12 g11 F Qf _ _ _ (by omega) (hcq) (hB) (by omega) (hu) (hlr_13) (fun a ha => absurd ha (Nat.not_lt_zero a)) (Nat.lt_succ_self _) hP hR hS (lv_sub hl [1, 2, 3, 0] rfl)
        have hSe_33 : sA (sA (sA S 12 (uZ f k0 0)) 13 (uZ (S 13) 0 ↑k0)) 14 (fun _ => 1) = sA (sA (sA (sA (sA (sA S 9 (S 9)) 10 (S 10)) 11 (S 11)) 12 (uZ f k0 0)) 13 (uZ (S 13) 0 ↑k0)) 14 (fun _ => 1) := by
          funext k8
          by_cases e80 : k8 = 9
          · subst e80; first | rfl | (funext j8; rfl)
          by_cases e81 : k8 = 10
          · subst e81; first | rfl | (funext j8; rfl)
          by_cases e82 : k8 = 11
          · subst e82; first | rfl | (funext j8; rfl)
          by_cases e83 : k8 = 12
          · subst e83; first | rfl | (funext j8; rfl)
          by_cases e84 : k8 = 13
          · subst e84; first | rfl | (funext j8; rfl)
          by_cases e85 : k8 = 14
          · subst e85; funext j8; first | rfl | exact hsc_14 j8
          simp [sA, e80, e81, e82, e83, e84, e85]
        rw [hSe_33] at hP hR
        exact cut_49 _ 0 1 1 (S 9) (S 10) (S 11) (uZ f k0 0) (uZ (S 13) 0 ↑k0) _ _ _ (rfl) (BI_init hk0 (uZ_s _ _ _) (fun x hx hne => by rw [uZ_n hne]; exact hf x (by omega)) (uZ_s _ _ _)) (Nat.lt_succ_self _) hP hR hS (lv_sub hl [2, 1, 0] rfl)
      · have h9 : True := trivial
        refine lv_aload_n hx hb dX7_layFar_10 rfl (lv_at hl 0 rfl) ?_
        refine va_get (D := D) (ci := 7) (v := .ref (ad 12)) (C := RX7) (T := TX7) (N := 26) hx hb hT inX7 hown hK hP 0 rfl rfl 12 (by decide) (hT _ q_684) (fun _ h9 => h9) rfl dX7_layFar_11 ?_
        refine lv_iload_n hx hb dX7_layFar_14 rfl (lv_at hl 1 rfl) ?_
        refine z_iconst hx hb dX7_layFar_15 ?_
        refine z_ast (f := (sA S 12 f) 12) (i := ↑i) (v := -1) hx hb hK hP (mD hinj cI _) hS 8 0 rfl rfl (by omega) (by omega) (by decide) dX7_layFar_16 (fun H locs hP hS => ?_)
        have hP : va_P D vwCl (mW cI ad (sA S 12 (uZ f i (-1)))) H := hP
        have hR : RS (sA S 12 (uZ f i (-1))) := hR.put' (by omega) (by omega)
        refine z_iinc (lv' := [(1, .int (zI (↑i + 1))), (0, .ref (ad 26))]) hx hb dX7_layFar_17 hl (k := 1) rfl (by decide) rfl (fun ls hl => ?_)
        refine lv_goto (tgt := 2) hx hb dX7_layFar_20 (by decide) ?_
        exact ih_2 (i + 1) (uZ f i (-1)) _ _ _ (by omega) (fun j hj => by unfold uZ; split <;> first | rfl | exact hf j (by omega)) (by omega) hP hR hS (lv_sub hl [1, 0] rfl)
  have hSe_34 : S = sA S 12 (S 12) := by
    funext k8
    by_cases e80 : k8 = 12
    · subst e80; first | rfl | (funext j8; rfl)
    simp [sA, e80]
  rw [hSe_34] at hP hR
  exact cut_2 _ 0 (S 12) _ _ _ (by omega) (fun j h => absurd h (Nat.not_lt_zero j)) (Nat.lt_succ_self _) hP hR hS (lv_sub hl [1, 0] rfl)
set_option maxHeartbeats 4000000 in
set_option maxRecDepth 100000 in
theorem k_X7_nearOf (l : Launch) (D : va_G) (cI : ClassId) (ad : Nat → Nat) (hinj : mInj ad) (S : St) (hR : RS S) (n : Nat) (hn : S 2 0 = ↑n) (hn7 : n ≤ 7) (N : Nat) (hN : S 8 0 = ↑N) (hO : OT n N (S 7)) (k0 : Nat) (hk0 : k0 < N) (hk : S 7 k0 = cdF (S 6) n) (y : Nat) (x : Int) (hxy : x = ↑y) (hy : y < N) : Met l yX7_nearOf (Cond.code yX7_nearOf cX7_nearOf 2 (some .int) :: lwT) ({ frames := 4, cells := 0, slots := 0, locals := 95 }) (gPc D (mW cI ad) (mE D cI) S [.ref (ad 26), .int (zI (x))]) (va_Qi (fun (r : Int32) (S' : St) => ∃ e9 e10 e11 e12 e13 e14, S' = sA (sA (sA (sA (sA (sA S 9 e9) 10 e10) 11 e11) 12 e12) 13 e13) 14 e14 ∧ ∃ d, isDist N (mvE n (S 7)) k0 d ∧ r = zI (d y)) (gB D (mW cI ad)) (mA ad)) 0 0 (mA ad) := by
  refine Met.ofW (cc := cX7_nearOf) (maxL := 2) (ret := (some .int)) (by decide) rfl ?_
  intro p e s m args below meth c s₁ B hml hv
  obtain ⟨rfl, hP, hE⟩ := hv
  have hx := B.exec
  have hb := B.bytes
  have hr := B.returns
  have hts := atoms_spec (ws := Cond.code yX7_nearOf cX7_nearOf 2 (some .int) :: lwT) B.pre
  have hT := fun w (h : w ∈ lwT) => hts w (List.mem_cons_of_mem _ h)
  have hsub : ∀ w ∈ lwT, w ∈ (Cond.code yX7_nearOf cX7_nearOf 2 (some .int) :: lwT) := fun w h => List.mem_cons_of_mem _ h
  have hown : s.vm.findClass RX7 = some m.cls := findClass_of_methodNamed B.named
  have hlocks := B.notSynchronized
  have hK : va_K D vwCl [(cI, .int)] s := hE
  have hS : va_S (mA ad) s.heap s.heap [] := va_S.rf
  have hO1 := hO.1
  have hO2 := hO.2.1
  have hl := lv_entry ([.ref (ad 26), .int (zI (x))]) (n := 2) (Nat.le_of_ble_eq_true rfl)
  rw [lg_entry_eq]
  generalize (lg_sl ([.ref (ad 26), .int (zI (x))]) ++ List.replicate (2 - (lg_sl ([.ref (ad 26), .int (zI (x))])).length) Slot.unset).toArray = ls at hl ⊢
  have hl : lv_has ls 2 [(0, .ref (ad 26)), (1, .int (zI (x)))] := hl
  refine lv_aload_n hx hb dX7_nearOf_0 rfl (lv_at hl 0 rfl) ?_
  refine g_callVv (As := []) (rest := []) ⟨hx, hb, hml, hown, hts⟩ (k_X7_layFar l D cI ad hinj S hR n hn hn7 N hN hO (k0) (hk0) (hk)) (cwV 0 hts (gV hsub q_820 q_822 q_sX7_layFar q_8 q_823) rfl rfl rfl hdX7_layFar ⟨Nat.le_of_ble_eq_true rfl, Nat.le_of_ble_eq_true rfl⟩) (mEb D cI) (mEk D cI (mA ad)) hE (va_recv (ci := 7) (q0 := 0) hK hP rfl rfl) hP hS rfl hl.1 rfl (Nat.le_of_ble_eq_true rfl) dX7_nearOf_1 ⟨Nat.le_of_ble_eq_true rfl, Nat.le_of_ble_eq_true rfl⟩ (fun S_2 H locs hq_3 hP hR hS _ => ?_)
  obtain ⟨e_4, e_5, e_6, e_7, e_8, e_9, rfl, hD_10⟩ := hq_3
  refine lv_aload_n hx hb dX7_nearOf_4 rfl (lv_at hl 0 rfl) ?_
  refine va_get (D := D) (ci := 7) (v := .ref (ad 12)) (C := RX7) (T := TX7) (N := 26) hx hb hT inX7 hown hK hP 0 rfl rfl 12 (by decide) (hT _ q_684) (fun _ h9 => h9) rfl dX7_nearOf_5 ?_
  refine lv_iload_n hx hb dX7_nearOf_8 rfl (lv_at hl 1 rfl) ?_
  have g_11 : -2147483648 ≤ e_7 (x).toNat ∧ e_7 (x).toNat < 2147483648 := hR 12 ((x).toNat) (by decide)
  refine z_ald (f := e_7) hx hb hK hP 8 0 rfl rfl (by omega) (by omega) (by decide) (j := (x).toNat) rfl dX7_nearOf_9 ?_
  exact g_iret (S1 := sA (sA (sA (sA (sA (sA S 9 e_4) 10 e_5) 11 e_6) 12 e_7) 13 e_8) 14 e_9) (v := zI (e_7 (x).toNat)) hx hb hr hlocks hP hR hS (⟨_, _, _, _, _, _, rfl, _, hD_10, by rw [show x.toNat = y by omega]⟩) dX7_nearOf_10
set_option maxHeartbeats 4000000 in
set_option maxRecDepth 100000 in
theorem k_X7_farthestOf (l : Launch) (D : va_G) (cI : ClassId) (ad : Nat → Nat) (hinj : mInj ad) (S : St) (hR : RS S) (n : Nat) (hn : S 2 0 = ↑n) (hn7 : n ≤ 7) (N : Nat) (hN : S 8 0 = ↑N) (hO : OT n N (S 7)) (k0 : Nat) (hk0 : k0 < N) (hk : S 7 k0 = cdF (S 6) n) (xw : Int) (hxw1 : -2147483648 ≤ xw) (hxw2 : xw < 2147483648) : Met l yX7_farthestOf (Cond.code yX7_farthestOf cX7_farthestOf 4 (some .int) :: lwT) ({ frames := 4, cells := 0, slots := 0, locals := 95 }) (gPc D (mW cI ad) (mE D cI) S [.ref (ad 26), .int (zI (xw))]) (va_Qi (fun (r : Int32) (S' : St) => ∃ e9 e10 e11 e12 e13 e14, S' = sA (sA (sA (sA (sA (sA S 9 e9) 10 e10) 11 e11) 12 e12) 13 e13) 14 e14 ∧ ∃ d b, isDist N (mvE n (S 7)) k0 d ∧ argx d N b ∧ r = zI (if xw = 0 then d b else ↑b)) (gB D (mW cI ad)) (mA ad)) 0 0 (mA ad) := by
  refine Met.ofW (cc := cX7_farthestOf) (maxL := 4) (ret := (some .int)) (by decide) rfl ?_
  intro p e s m args below meth c s₁ B hml hv
  obtain ⟨rfl, hP, hE⟩ := hv
  have hx := B.exec
  have hb := B.bytes
  have hr := B.returns
  have hts := atoms_spec (ws := Cond.code yX7_farthestOf cX7_farthestOf 4 (some .int) :: lwT) B.pre
  have hT := fun w (h : w ∈ lwT) => hts w (List.mem_cons_of_mem _ h)
  have hsub : ∀ w ∈ lwT, w ∈ (Cond.code yX7_farthestOf cX7_farthestOf 4 (some .int) :: lwT) := fun w h => List.mem_cons_of_mem _ h
  have hown : s.vm.findClass RX7 = some m.cls := findClass_of_methodNamed B.named
  have hlocks := B.notSynchronized
  have hK : va_K D vwCl [(cI, .int)] s := hE
  have hS : va_S (mA ad) s.heap s.heap [] := va_S.rf
  have hO1 := hO.1
  have hO2 := hO.2.1
  have hl := lv_entry ([.ref (ad 26), .int (zI (xw))]) (n := 4) (Nat.le_of_ble_eq_true rfl)
  rw [lg_entry_eq]
  generalize (lg_sl ([.ref (ad 26), .int (zI (xw))]) ++ List.replicate (4 - (lg_sl ([.ref (ad 26), .int (zI (xw))])).length) Slot.unset).toArray = ls at hl ⊢
  have hl : lv_has ls 4 [(0, .ref (ad 26)), (1, .int (zI (xw)))] := hl
  refine lv_aload_n hx hb dX7_farthestOf_0 rfl (lv_at hl 0 rfl) ?_
  refine g_callVv (As := []) (rest := []) ⟨hx, hb, hml, hown, hts⟩ (k_X7_layFar l D cI ad hinj S hR n hn hn7 N hN hO (k0) (hk0) (hk)) (cwV 0 hts (gV hsub q_820 q_822 q_sX7_layFar q_8 q_823) rfl rfl rfl hdX7_layFar ⟨Nat.le_of_ble_eq_true rfl, Nat.le_of_ble_eq_true rfl⟩) (mEb D cI) (mEk D cI (mA ad)) hE (va_recv (ci := 7) (q0 := 0) hK hP rfl rfl) hP hS rfl hl.1 rfl (Nat.le_of_ble_eq_true rfl) dX7_farthestOf_1 ⟨Nat.le_of_ble_eq_true rfl, Nat.le_of_ble_eq_true rfl⟩ (fun S_2 H locs hq_3 hP hR hS _ => ?_)
  obtain ⟨e_4, e_5, e_6, e_7, e_8, e_9, rfl, hD_10⟩ := hq_3
  refine z_iconst hx hb dX7_farthestOf_4 ?_
  refine lv_istore_n (lv' := [(2, .int (zI (0))), (0, .ref (ad 26)), (1, .int (zI (xw)))]) hx hb dX7_farthestOf_5 rfl hl (by decide) rfl (fun ls hl => ?_)
  refine z_iconst hx hb dX7_farthestOf_6 ?_
  refine lv_istore_n (lv' := [(3, .int (zI (1))), (2, .int (zI (0))), (0, .ref (ad 26)), (1, .int (zI (xw)))]) hx hb dX7_farthestOf_7 rfl hl (by decide) rfl (fun ls hl => ?_)
  have cut_8 : ∀ (k9 : Nat) (i : Nat) (b : Nat) (H : Heap) (locs : List Loc) (ls : Array Slot), (1 ≤ i ∧ i ≤ N) → (argx e_7 i b) → (N - i) < k9 → va_P D vwCl (mW cI ad (sA (sA (sA (sA (sA (sA S 9 e_4) 10 e_5) 11 e_6) 12 e_7) 13 e_8) 14 e_9)) H → RS (sA (sA (sA (sA (sA (sA S 9 e_4) 10 e_5) 11 e_6) 12 e_7) 13 e_8) 14 e_9) → va_S (mA ad) s.heap H locs → lv_has ls 4 [(0, .ref (ad 26)), (1, .int (zI (xw))), (2, .int (zI (↑b))), (3, .int (zI (↑i)))] → W p l e (headSpec (Cond.code yX7_farthestOf cX7_farthestOf 4 (some .int) :: lwT) ({ frames := 4, cells := 0, slots := 0, locals := 95 })).room s m ([.ref (ad 26), .int (zI (xw))] : List Value).toArray below meth c H locs 0 0 (MQ below (va_Qi (fun (r : Int32) (S' : St) => ∃ e9 e10 e11 e12 e13 e14, S' = sA (sA (sA (sA (sA (sA S 9 e9) 10 e10) 11 e11) 12 e12) 13 e13) 14 e14 ∧ ∃ d b, isDist N (mvE n (S 7)) k0 d ∧ argx d N b ∧ r = zI (if xw = 0 then d b else ↑b)) (gB D (mW cI ad)) (mA ad)) ([.ref (ad 26), .int (zI (xw))] : List Value).toArray s 0 0 (mA ad)) (F0 m 8 ls []) := by
    intro k9
    induction k9 with
    | zero =>
      intro i b H locs ls hi hb9 hk9 hP hR hS hl
      exact absurd hk9 (Nat.not_lt_zero _)
    | succ k9 ih_8 =>
      intro i b H locs ls hi hb9 hk9 hP hR hS hl
      have hbi := hb9.1
      refine lv_iload_n hx hb dX7_farthestOf_8 rfl (lv_at hl 3 rfl) ?_
      refine lv_aload_n hx hb dX7_farthestOf_9 rfl (lv_at hl 0 rfl) ?_
      have g_11 : -2147483648 ≤ S 8 0 ∧ S 8 0 < 2147483648 := hR 8 0 (by decide)
      refine va_get (D := D) (ci := 7) (v := .int (zI (S 8 0))) (C := RX7) (T := TX7) (N := 26) hx hb hT inX7 hown hK hP 0 rfl rfl 8 (by decide) (hT _ q_680) (fun _ h9 => h9) rfl dX7_farthestOf_10 ?_
      refine z_icmp_ge (tgt := 43) hx hb (by omega) (by omega) (by omega) (by omega) dX7_farthestOf_13 (by decide) (fun c_12 => ?_) (fun c_12 => ?_)
      · have h9 : True := trivial
        refine lv_iload_n hx hb dX7_farthestOf_43 rfl (lv_at hl 1 rfl) ?_
        refine z_if_ne (tgt := 56) hx hb (by omega) (by omega) dX7_farthestOf_44 (by decide) (fun c_13 => ?_) (fun c_13 => ?_)
        · have h9 : True := trivial
          refine lv_iload_n hx hb dX7_farthestOf_56 rfl (lv_at hl 2 rfl) ?_
          exact g_iret (S1 := sA (sA (sA (sA (sA (sA S 9 e_4) 10 e_5) 11 e_6) 12 e_7) 13 e_8) 14 e_9) (v := zI (↑b)) hx hb hr hlocks hP hR hS (⟨_, _, _, _, _, _, rfl, _, b, hD_10, (show i = N by omega) ▸ hb9, by rw [if_neg (by omega)]⟩) dX7_farthestOf_57
        · have h9 : True := trivial
          refine lv_aload_n hx hb dX7_farthestOf_47 rfl (lv_at hl 0 rfl) ?_
          refine va_get (D := D) (ci := 7) (v := .ref (ad 12)) (C := RX7) (T := TX7) (N := 26) hx hb hT inX7 hown hK hP 0 rfl rfl 12 (by decide) (hT _ q_684) (fun _ h9 => h9) rfl dX7_farthestOf_48 ?_
          refine lv_iload_n hx hb dX7_farthestOf_51 rfl (lv_at hl 2 rfl) ?_
          have g_14 : -2147483648 ≤ e_7 b ∧ e_7 b < 2147483648 := hR 12 b (by decide)
          refine z_ald (f := e_7) hx hb hK hP 8 0 rfl rfl (by omega) (by omega) (by decide) (j := b) rfl dX7_farthestOf_52 ?_
          refine lv_goto (tgt := 57) hx hb dX7_farthestOf_53 (by decide) ?_
          exact g_iret (S1 := sA (sA (sA (sA (sA (sA S 9 e_4) 10 e_5) 11 e_6) 12 e_7) 13 e_8) 14 e_9) (v := zI (e_7 b)) hx hb hr hlocks hP hR hS (⟨_, _, _, _, _, _, rfl, _, b, hD_10, (show i = N by omega) ▸ hb9, by rw [if_pos (by omega)]⟩) dX7_farthestOf_57
      · have h9 : True := trivial
        refine lv_aload_n hx hb dX7_farthestOf_16 rfl (lv_at hl 0 rfl) ?_
        refine va_get (D := D) (ci := 7) (v := .ref (ad 12)) (C := RX7) (T := TX7) (N := 26) hx hb hT inX7 hown hK hP 0 rfl rfl 12 (by decide) (hT _ q_684) (fun _ h9 => h9) rfl dX7_farthestOf_17 ?_
        refine lv_iload_n hx hb dX7_farthestOf_20 rfl (lv_at hl 3 rfl) ?_
        have g_15 : -2147483648 ≤ e_7 i ∧ e_7 i < 2147483648 := hR 12 i (by decide)
        refine z_ald (f := e_7) hx hb hK hP 8 0 rfl rfl (by omega) (by omega) (by decide) (j := i) rfl dX7_farthestOf_21 ?_
        refine lv_aload_n hx hb dX7_farthestOf_22 rfl (lv_at hl 0 rfl) ?_
        refine va_get (D := D) (ci := 7) (v := .ref (ad 12)) (C := RX7) (T := TX7) (N := 26) hx hb hT inX7 hown hK hP 0 rfl rfl 12 (by decide) (hT _ q_684) (fun _ h9 => h9) rfl dX7_farthestOf_23 ?_
        refine lv_iload_n hx hb dX7_farthestOf_26 rfl (lv_at hl 2 rfl) ?_
        have g_16 : -2147483648 ≤ e_7 b ∧ e_7 b < 2147483648 := hR 12 b (by decide)
        refine z_ald (f := e_7) hx hb hK hP 8 0 rfl rfl (by omega) (by omega) (by decide) (j := b) rfl dX7_farthestOf_27 ?_
        refine z_icmp_le (tgt := 35) hx hb (by omega) (by omega) (by omega) (by omega) dX7_farthestOf_28 (by decide) (fun c_17 => ?_) (fun c_17 => ?_)
        · have h9 : True := trivial
          refine lv_iload_n hx hb dX7_farthestOf_35 rfl (lv_at hl 2 rfl) ?_
          refine lv_istore_n (lv' := [(2, .int (zI (↑b))), (0, .ref (ad 26)), (1, .int (zI (xw))), (3, .int (zI (↑i)))]) hx hb dX7_farthestOf_36 rfl hl (by decide) rfl (fun ls hl => ?_)
          refine z_iinc (lv' := [(3, .int (zI (↑i + 1))), (2, .int (zI (↑b))), (0, .ref (ad 26)), (1, .int (zI (xw)))]) hx hb dX7_farthestOf_37 hl (k := 3) rfl (by decide) rfl (fun ls hl => ?_)
          refine lv_goto (tgt := 8) hx hb dX7_farthestOf_40 (by decide) ?_
          exact ih_8 (i + 1) b _ _ _ (by omega) (argx_k hb9 (by omega)) (by omega) hP hR hS (lv_sub hl [2, 3, 1, 0] rfl)
        · have h9 : True := trivial
          refine lv_iload_n hx hb dX7_farthestOf_31 rfl (lv_at hl 3 rfl) ?_
          refine lv_goto (tgt := 36) hx hb dX7_farthestOf_32 (by decide) ?_
          refine lv_istore_n (lv' := [(2, .int (zI (↑i))), (0, .ref (ad 26)), (1, .int (zI (xw))), (3, .int (zI (↑i)))]) hx hb dX7_farthestOf_36 rfl hl (by decide) rfl (fun ls hl => ?_)
          refine z_iinc (lv' := [(3, .int (zI (↑i + 1))), (2, .int (zI (↑i))), (0, .ref (ad 26)), (1, .int (zI (xw)))]) hx hb dX7_farthestOf_37 hl (k := 3) rfl (by decide) rfl (fun ls hl => ?_)
          refine lv_goto (tgt := 8) hx hb dX7_farthestOf_40 (by decide) ?_
          exact ih_8 (i + 1) i _ _ _ (by omega) (argx_n hb9 (by omega)) (by omega) hP hR hS (lv_sub hl [2, 3, 1, 0] rfl)
  exact cut_8 _ 1 0 _ _ _ (by omega) (⟨by omega, fun k hk => by rw [show k = 0 by omega]; omega, fun k hk => absurd hk (Nat.not_lt_zero k)⟩) (Nat.lt_succ_self _) hP hR hS (lv_sub hl [2, 3, 1, 0] rfl)
set_option maxHeartbeats 4000000 in
set_option maxRecDepth 100000 in
theorem k_X7_homeOf (l : Launch) (D : va_G) (cI : ClassId) (ad : Nat → Nat) (hinj : mInj ad) (S : St) (hR : RS S) (n : Nat) (hn : S 2 0 = ↑n) (hn7 : n ≤ 7) (N : Nat) (hN : S 8 0 = ↑N) (hO : OT n N (S 7)) (k0 : Nat) (hk0 : k0 < N) (hk : S 7 k0 = cdF (S 6) n) (xw : Int) (hxw1 : -2147483648 ≤ xw) (hxw2 : xw < 2147483648) : Met l yX7_homeOf (Cond.code yX7_homeOf cX7_homeOf 5 (some .int) :: lwT) ({ frames := 5, cells := 0, slots := 0, locals := 110 }) (gPc D (mW cI ad) (mE D cI) S [.ref (ad 26), .int (zI (xw))]) (va_Qi (fun (r : Int32) (S' : St) => ∃ e9 e10 e11 e12 e13 e14, S' = sA (sA (sA (sA (sA (sA S 9 e9) 10 e10) 11 e11) 12 e12) 13 e13) 14 e14 ∧ ∃ d x, isDist N (mvE n (S 7)) k0 d ∧ argm (fun k => d k ≠ -1 ∧ ftP n (S 5) (S 7) k) d N x ∧ r = zI (if x = -1 ∨ xw = 3 then x else d x.toNat)) (gB D (mW cI ad)) (mA ad)) 0 0 (mA ad) := by
  refine Met.ofW (cc := cX7_homeOf) (maxL := 5) (ret := (some .int)) (by decide) rfl ?_
  intro p e s m args below meth c s₁ B hml hv
  obtain ⟨rfl, hP, hE⟩ := hv
  have hx := B.exec
  have hb := B.bytes
  have hr := B.returns
  have hts := atoms_spec (ws := Cond.code yX7_homeOf cX7_homeOf 5 (some .int) :: lwT) B.pre
  have hT := fun w (h : w ∈ lwT) => hts w (List.mem_cons_of_mem _ h)
  have hsub : ∀ w ∈ lwT, w ∈ (Cond.code yX7_homeOf cX7_homeOf 5 (some .int) :: lwT) := fun w h => List.mem_cons_of_mem _ h
  have hown : s.vm.findClass RX7 = some m.cls := findClass_of_methodNamed B.named
  have hlocks := B.notSynchronized
  have hK : va_K D vwCl [(cI, .int)] s := hE
  have hS : va_S (mA ad) s.heap s.heap [] := va_S.rf
  have hO1 := hO.1
  have hO2 := hO.2.1
  have hl := lv_entry ([.ref (ad 26), .int (zI (xw))]) (n := 5) (Nat.le_of_ble_eq_true rfl)
  rw [lg_entry_eq]
  generalize (lg_sl ([.ref (ad 26), .int (zI (xw))]) ++ List.replicate (5 - (lg_sl ([.ref (ad 26), .int (zI (xw))])).length) Slot.unset).toArray = ls at hl ⊢
  have hl : lv_has ls 5 [(0, .ref (ad 26)), (1, .int (zI (xw)))] := hl
  refine lv_aload_n hx hb dX7_homeOf_0 rfl (lv_at hl 0 rfl) ?_
  refine g_callVv (As := []) (rest := []) ⟨hx, hb, hml, hown, hts⟩ (k_X7_layFar l D cI ad hinj S hR n hn hn7 N hN hO (k0) (hk0) (hk)) (cwV 0 hts (gV hsub q_820 q_822 q_sX7_layFar q_8 q_823) rfl rfl rfl hdX7_layFar ⟨Nat.le_of_ble_eq_true rfl, Nat.le_of_ble_eq_true rfl⟩) (mEb D cI) (mEk D cI (mA ad)) hE (va_recv (ci := 7) (q0 := 0) hK hP rfl rfl) hP hS rfl hl.1 rfl (Nat.le_of_ble_eq_true rfl) dX7_homeOf_1 ⟨Nat.le_of_ble_eq_true rfl, Nat.le_of_ble_eq_true rfl⟩ (fun S_2 H locs hq_3 hP hR hS _ => ?_)
  obtain ⟨e_4, e_5, e_6, e_7, e_8, e_9, rfl, hD_10⟩ := hq_3
  refine z_iconst hx hb dX7_homeOf_4 ?_
  refine lv_istore_n (lv' := [(2, .int (zI (-1))), (0, .ref (ad 26)), (1, .int (zI (xw)))]) hx hb dX7_homeOf_5 rfl hl (by decide) rfl (fun ls hl => ?_)
  refine z_iconst hx hb dX7_homeOf_6 ?_
  refine lv_istore_n (lv' := [(3, .int (zI (0))), (2, .int (zI (-1))), (0, .ref (ad 26)), (1, .int (zI (xw)))]) hx hb dX7_homeOf_7 rfl hl (by decide) rfl (fun ls hl => ?_)
  have cut_8 : ∀ (k9 : Nat) (i : Nat) (x : Int) (g10 : Nat → Int) (H : Heap) (locs : List Loc) (ls : Array Slot), (i ≤ N) → (argm (fun k => e_7 k ≠ -1 ∧ ftP n (S 5) (S 7) k) e_7 i x) → (N - i) < k9 → va_P D vwCl (mW cI ad (sA (sA (sA (sA (sA (sA S 9 e_4) 10 g10) 11 e_6) 12 e_7) 13 e_8) 14 e_9)) H → RS (sA (sA (sA (sA (sA (sA S 9 e_4) 10 g10) 11 e_6) 12 e_7) 13 e_8) 14 e_9) → va_S (mA ad) s.heap H locs → lv_has ls 5 [(0, .ref (ad 26)), (1, .int (zI (xw))), (2, .int (zI (x))), (3, .int (zI (↑i)))] → W p l e (headSpec (Cond.code yX7_homeOf cX7_homeOf 5 (some .int) :: lwT) ({ frames := 5, cells := 0, slots := 0, locals := 110 })).room s m ([.ref (ad 26), .int (zI (xw))] : List Value).toArray below meth c H locs 0 0 (MQ below (va_Qi (fun (r : Int32) (S' : St) => ∃ e9 e10 e11 e12 e13 e14, S' = sA (sA (sA (sA (sA (sA S 9 e9) 10 e10) 11 e11) 12 e12) 13 e13) 14 e14 ∧ ∃ d x, isDist N (mvE n (S 7)) k0 d ∧ argm (fun k => d k ≠ -1 ∧ ftP n (S 5) (S 7) k) d N x ∧ r = zI (if x = -1 ∨ xw = 3 then x else d x.toNat)) (gB D (mW cI ad)) (mA ad)) ([.ref (ad 26), .int (zI (xw))] : List Value).toArray s 0 0 (mA ad)) (F0 m 8 ls []) := by
    intro k9
    induction k9 with
    | zero =>
      intro i x g10 H locs ls hi hm hk9 hP hR hS hl
      exact absurd hk9 (Nat.not_lt_zero _)
    | succ k9 ih_8 =>
      intro i x g10 H locs ls hi hm hk9 hP hR hS hl
      have hxr := argm_r hm
      refine lv_iload_n hx hb dX7_homeOf_8 rfl (lv_at hl 3 rfl) ?_
      refine lv_aload_n hx hb dX7_homeOf_9 rfl (lv_at hl 0 rfl) ?_
      have g_11 : -2147483648 ≤ S 8 0 ∧ S 8 0 < 2147483648 := hR 8 0 (by decide)
      refine va_get (D := D) (ci := 7) (v := .int (zI (S 8 0))) (C := RX7) (T := TX7) (N := 26) hx hb hT inX7 hown hK hP 0 rfl rfl 8 (by decide) (hT _ q_680) (fun _ h9 => h9) rfl dX7_homeOf_10 ?_
      refine z_icmp_ge (tgt := 78) hx hb (by omega) (by omega) (by omega) (by omega) dX7_homeOf_13 (by decide) (fun c_12 => ?_) (fun c_12 => ?_)
      · have h9 : True := trivial
        refine lv_iload_n hx hb dX7_homeOf_78 rfl (lv_at hl 2 rfl) ?_
        refine z_iconst hx hb dX7_homeOf_79 ?_
        refine z_icmp_eq (tgt := 88) hx hb (by omega) (by omega) (by omega) (by omega) dX7_homeOf_80 (by decide) (fun c_13 => ?_) (fun c_13 => ?_)
        · have h9 : True := trivial
          refine lv_iload_n hx hb dX7_homeOf_88 rfl (lv_at hl 2 rfl) ?_
          refine lv_goto (tgt := 98) hx hb dX7_homeOf_89 (by decide) ?_
          exact g_iret (S1 := sA (sA (sA (sA (sA (sA S 9 e_4) 10 g10) 11 e_6) 12 e_7) 13 e_8) 14 e_9) (v := zI (x)) hx hb hr hlocks hP hR hS (⟨_, _, _, _, _, _, rfl, _, x, hD_10, (show i = N by omega) ▸ hm, by rw [if_pos (by omega)]⟩) dX7_homeOf_98
        · have h9 : True := trivial
          refine lv_iload_n hx hb dX7_homeOf_83 rfl (lv_at hl 1 rfl) ?_
          refine z_iconst hx hb dX7_homeOf_84 ?_
          refine z_icmp_ne (tgt := 92) hx hb (by omega) (by omega) (by omega) (by omega) dX7_homeOf_85 (by decide) (fun c_14 => ?_) (fun c_14 => ?_)
          · have h9 : True := trivial
            refine lv_aload_n hx hb dX7_homeOf_92 rfl (lv_at hl 0 rfl) ?_
            refine va_get (D := D) (ci := 7) (v := .ref (ad 12)) (C := RX7) (T := TX7) (N := 26) hx hb hT inX7 hown hK hP 0 rfl rfl 12 (by decide) (hT _ q_684) (fun _ h9 => h9) rfl dX7_homeOf_93 ?_
            refine lv_iload_n hx hb dX7_homeOf_96 rfl (lv_at hl 2 rfl) ?_
            have g_15 : -2147483648 ≤ e_7 (x).toNat ∧ e_7 (x).toNat < 2147483648 := hR 12 ((x).toNat) (by decide)
            refine z_ald (f := e_7) hx hb hK hP 8 0 rfl rfl (by omega) (by omega) (by decide) (j := (x).toNat) rfl dX7_homeOf_97 ?_
            exact g_iret (S1 := sA (sA (sA (sA (sA (sA S 9 e_4) 10 g10) 11 e_6) 12 e_7) 13 e_8) 14 e_9) (v := zI (e_7 (x).toNat)) hx hb hr hlocks hP hR hS (⟨_, _, _, _, _, _, rfl, _, x, hD_10, (show i = N by omega) ▸ hm, by rw [if_neg (by omega)]⟩) dX7_homeOf_98
          · have h9 : True := trivial
            refine lv_iload_n hx hb dX7_homeOf_88 rfl (lv_at hl 2 rfl) ?_
            refine lv_goto (tgt := 98) hx hb dX7_homeOf_89 (by decide) ?_
            exact g_iret (S1 := sA (sA (sA (sA (sA (sA S 9 e_4) 10 g10) 11 e_6) 12 e_7) 13 e_8) 14 e_9) (v := zI (x)) hx hb hr hlocks hP hR hS (⟨_, _, _, _, _, _, rfl, _, x, hD_10, (show i = N by omega) ▸ hm, by rw [if_pos (by omega)]⟩) dX7_homeOf_98
      · have h9 : True := trivial
        have cut_59 : ∀ (o : Bool) (h10 : Nat → Int) (H : Heap) (locs : List Loc) (ls : Array Slot), (o = pB (e_7 i ≠ -1 ∧ (x = -1 ∨ e_7 i < e_7 x.toNat) ∧ ftP n (S 5) (S 7) i)) → va_P D vwCl (mW cI ad (sA (sA (sA (sA (sA (sA S 9 e_4) 10 h10) 11 e_6) 12 e_7) 13 e_8) 14 e_9)) H → RS (sA (sA (sA (sA (sA (sA S 9 e_4) 10 h10) 11 e_6) 12 e_7) 13 e_8) 14 e_9) → va_S (mA ad) s.heap H locs → lv_has ls 5 [(0, .ref (ad 26)), (1, .int (zI (xw))), (2, .int (zI (x))), (3, .int (zI (↑i)))] → W p l e (headSpec (Cond.code yX7_homeOf cX7_homeOf 5 (some .int) :: lwT) ({ frames := 5, cells := 0, slots := 0, locals := 110 })).room s m ([.ref (ad 26), .int (zI (xw))] : List Value).toArray below meth c H locs 0 0 (MQ below (va_Qi (fun (r : Int32) (S' : St) => ∃ e9 e10 e11 e12 e13 e14, S' = sA (sA (sA (sA (sA (sA S 9 e9) 10 e10) 11 e11) 12 e12) 13 e13) 14 e14 ∧ ∃ d x, isDist N (mvE n (S 7)) k0 d ∧ argm (fun k => d k ≠ -1 ∧ ftP n (S 5) (S 7) k) d N x ∧ r = zI (if x = -1 ∨ xw = 3 then x else d x.toNat)) (gB D (mW cI ad)) (mA ad)) ([.ref (ad 26), .int (zI (xw))] : List Value).toArray s 0 0 (mA ad)) (F0 m 59 ls [.int (zI (b2 (o)))]) := by
          intro o h10 H locs ls ho hP hR hS hl
          refine lv_istore (lv' := [(4, .int (zI (b2 (o)))), (0, .ref (ad 26)), (1, .int (zI (xw))), (2, .int (zI (x))), (3, .int (zI (↑i)))]) hx hb dX7_homeOf_59 hl (by decide) rfl (fun ls hl => ?_)
          refine lv_iload hx hb dX7_homeOf_61 (lv_at hl 0 rfl) ?_
          refine z_ifeqB (tgt := 70) hx hb dX7_homeOf_63 (by decide) (fun c_16 => ?_) (fun c_16 => ?_)
          · have h9 : True := trivial
            refine lv_iload_n hx hb dX7_homeOf_70 rfl (lv_at hl 3 rfl) ?_
            refine lv_istore_n (lv' := [(2, .int (zI (x))), (4, .int (zI (b2 (o)))), (0, .ref (ad 26)), (1, .int (zI (xw))), (3, .int (zI (↑i)))]) hx hb dX7_homeOf_71 rfl hl (by decide) rfl (fun ls hl => ?_)
            refine z_iinc (lv' := [(3, .int (zI (↑i + 1))), (2, .int (zI (x))), (4, .int (zI (b2 (o)))), (0, .ref (ad 26)), (1, .int (zI (xw)))]) hx hb dX7_homeOf_72 hl (k := 4) rfl (by decide) rfl (fun ls hl => ?_)
            refine lv_goto (tgt := 8) hx hb dX7_homeOf_75 (by decide) ?_
            exact ih_8 (i + 1) x h10 _ _ _ (by omega) (home_f hm (pB_f.mp (by rw [← ho]; exact c_16))) (by omega) hP hR hS (lv_sub hl [3, 4, 1, 0] rfl)
          · have h9 : True := trivial
            refine lv_iload_n hx hb dX7_homeOf_66 rfl (lv_at hl 4 rfl) ?_
            refine lv_goto (tgt := 71) hx hb dX7_homeOf_67 (by decide) ?_
            refine lv_istore_n (lv' := [(2, .int (zI (↑i))), (4, .int (zI (b2 (o)))), (0, .ref (ad 26)), (1, .int (zI (xw))), (3, .int (zI (↑i)))]) hx hb dX7_homeOf_71 rfl hl (by decide) rfl (fun ls hl => ?_)
            refine z_iinc (lv' := [(3, .int (zI (↑i + 1))), (2, .int (zI (↑i))), (4, .int (zI (b2 (o)))), (0, .ref (ad 26)), (1, .int (zI (xw)))]) hx hb dX7_homeOf_72 hl (k := 4) rfl (by decide) rfl (fun ls hl => ?_)
            refine lv_goto (tgt := 8) hx hb dX7_homeOf_75 (by decide) ?_
            exact ih_8 (i + 1) ↑i h10 _ _ _ (by omega) (home_t hm (pB_t.mp (by rw [← ho]; exact c_16))) (by omega) hP hR hS (lv_sub hl [3, 4, 1, 0] rfl)
        refine lv_aload_n hx hb dX7_homeOf_16 rfl (lv_at hl 0 rfl) ?_
        refine va_get (D := D) (ci := 7) (v := .ref (ad 12)) (C := RX7) (T := TX7) (N := 26) hx hb hT inX7 hown hK hP 0 rfl rfl 12 (by decide) (hT _ q_684) (fun _ h9 => h9) rfl dX7_homeOf_17 ?_
        refine lv_iload_n hx hb dX7_homeOf_20 rfl (lv_at hl 3 rfl) ?_
        have g_17 : -2147483648 ≤ e_7 i ∧ e_7 i < 2147483648 := hR 12 i (by decide)
        refine z_ald (f := e_7) hx hb hK hP 8 0 rfl rfl (by omega) (by omega) (by decide) (j := i) rfl dX7_homeOf_21 ?_
        refine z_iconst hx hb dX7_homeOf_22 ?_
        refine z_icmp_eq (tgt := 58) hx hb (by omega) (by omega) (by omega) (by omega) dX7_homeOf_23 (by decide) (fun c_18 => ?_) (fun c_18 => ?_)
        · have h9 : True := trivial
          refine z_iconst hx hb dX7_homeOf_58 ?_
          exact cut_59 false g10 _ _ _ (qF (fun h => by have := h.1; omega)) hP hR hS (lv_sub hl [0, 1, 2, 3] rfl)
        · have h9 : True := trivial
          refine lv_iload_n hx hb dX7_homeOf_26 rfl (lv_at hl 2 rfl) ?_
          refine z_iconst hx hb dX7_homeOf_27 ?_
          refine z_icmp_eq (tgt := 46) hx hb (by omega) (by omega) (by omega) (by omega) dX7_homeOf_28 (by decide) (fun c_19 => ?_) (fun c_19 => ?_)
          · have h9 : True := trivial
            refine lv_aload_n hx hb dX7_homeOf_46 rfl (lv_at hl 0 rfl) ?_
            refine lv_iload_n hx hb dX7_homeOf_47 rfl (lv_at hl 3 rfl) ?_
            refine g_callVi (As := [.int (zI (↑i))]) (rest := []) ⟨hx, hb, hml, hown, hts⟩ (k_X7_isFitOrder l D cI ad hinj (sA (sA (sA (sA (sA (sA S 9 e_4) 10 g10) 11 e_6) 12 e_7) 13 e_8) 14 e_9) hR n hn hn7 (i) ↑i (by omega) (by omega) ((hO2 i (by omega)).1) ((hO2 i (by omega)).2.1)) (cwV 1 hts (gV hsub q_862 q_864 q_sX7_isFitOrder q_8 q_865) rfl rfl rfl hdX7_isFitOrder ⟨Nat.le_of_ble_eq_true rfl, Nat.le_of_ble_eq_true rfl⟩) (mEb D cI) (mEk D cI (mA ad)) hE (va_recv (ci := 7) (q0 := 0) hK hP rfl rfl) hP hS rfl hl.1 rfl (Nat.le_of_ble_eq_true rfl) dX7_homeOf_48 ⟨Nat.le_of_ble_eq_true rfl, Nat.le_of_ble_eq_true rfl⟩ (fun r_20 S_21 H locs hq_22 hP hR hS _ => ?_)
            obtain ⟨f_23, rfl, hro_24, rfl⟩ := hq_22
            refine z_top (b := b2 (pB (fitP n (S 5) (dgF n (S 7 i))))) rfl ?_
            refine z_ifeqB (tgt := 58) hx hb dX7_homeOf_51 (by decide) (fun c_25 => ?_) (fun c_25 => ?_)
            · have h9 : True := trivial
              refine z_iconst hx hb dX7_homeOf_58 ?_
              have hSe_26 : sA (sA (sA (sA (sA (sA (sA S 9 e_4) 10 g10) 11 e_6) 12 e_7) 13 e_8) 14 e_9) 10 f_23 = sA (sA (sA (sA (sA (sA S 9 e_4) 10 f_23) 11 e_6) 12 e_7) 13 e_8) 14 e_9 := by
                funext k8
                by_cases e80 : k8 = 9
                · subst e80; first | rfl | (funext j8; rfl)
                by_cases e81 : k8 = 10
                · subst e81; first | rfl | (funext j8; rfl)
                by_cases e82 : k8 = 11
                · subst e82; first | rfl | (funext j8; rfl)
                by_cases e83 : k8 = 12
                · subst e83; first | rfl | (funext j8; rfl)
                by_cases e84 : k8 = 13
                · subst e84; first | rfl | (funext j8; rfl)
                by_cases e85 : k8 = 14
                · subst e85; first | rfl | (funext j8; rfl)
                simp [sA, e80, e81, e82, e83, e84, e85]
              rw [hSe_26] at hP hR
              exact cut_59 false f_23 _ _ _ (qF (fun h => pB_f.mp c_25 h.2.2)) hP hR hS (lv_sub hl [0, 1, 2, 3] rfl)
            · have h9 : True := trivial
              refine z_iconst hx hb dX7_homeOf_54 ?_
              refine lv_goto (tgt := 59) hx hb dX7_homeOf_55 (by decide) ?_
              have hSe_27 : sA (sA (sA (sA (sA (sA (sA S 9 e_4) 10 g10) 11 e_6) 12 e_7) 13 e_8) 14 e_9) 10 f_23 = sA (sA (sA (sA (sA (sA S 9 e_4) 10 f_23) 11 e_6) 12 e_7) 13 e_8) 14 e_9 := by
                funext k8
                by_cases e80 : k8 = 9
                · subst e80; first | rfl | (funext j8; rfl)
                by_cases e81 : k8 = 10
                · subst e81; first | rfl | (funext j8; rfl)
                by_cases e82 : k8 = 11
                · subst e82; first | rfl | (funext j8; rfl)
                by_cases e83 : k8 = 12
                · subst e83; first | rfl | (funext j8; rfl)
                by_cases e84 : k8 = 13
                · subst e84; first | rfl | (funext j8; rfl)
                by_cases e85 : k8 = 14
                · subst e85; first | rfl | (funext j8; rfl)
                simp [sA, e80, e81, e82, e83, e84, e85]
              rw [hSe_27] at hP hR
              exact cut_59 true f_23 _ _ _ (qT ⟨by omega, by omega, pB_t.mp c_25⟩) hP hR hS (lv_sub hl [0, 1, 2, 3] rfl)
          · have h9 : True := trivial
            refine lv_aload_n hx hb dX7_homeOf_31 rfl (lv_at hl 0 rfl) ?_
            refine va_get (D := D) (ci := 7) (v := .ref (ad 12)) (C := RX7) (T := TX7) (N := 26) hx hb hT inX7 hown hK hP 0 rfl rfl 12 (by decide) (hT _ q_684) (fun _ h9 => h9) rfl dX7_homeOf_32 ?_
            refine lv_iload_n hx hb dX7_homeOf_35 rfl (lv_at hl 3 rfl) ?_
            refine z_ald (f := e_7) hx hb hK hP 8 0 rfl rfl (by omega) (by omega) (by decide) (j := i) rfl dX7_homeOf_36 ?_
            refine lv_aload_n hx hb dX7_homeOf_37 rfl (lv_at hl 0 rfl) ?_
            refine va_get (D := D) (ci := 7) (v := .ref (ad 12)) (C := RX7) (T := TX7) (N := 26) hx hb hT inX7 hown hK hP 0 rfl rfl 12 (by decide) (hT _ q_684) (fun _ h9 => h9) rfl dX7_homeOf_38 ?_
            refine lv_iload_n hx hb dX7_homeOf_41 rfl (lv_at hl 2 rfl) ?_
            have g_28 : -2147483648 ≤ e_7 (x).toNat ∧ e_7 (x).toNat < 2147483648 := hR 12 ((x).toNat) (by decide)
            refine z_ald (f := e_7) hx hb hK hP 8 0 rfl rfl (by omega) (by omega) (by decide) (j := (x).toNat) rfl dX7_homeOf_42 ?_
            refine z_icmp_ge (tgt := 58) hx hb (by omega) (by omega) (by omega) (by omega) dX7_homeOf_43 (by decide) (fun c_29 => ?_) (fun c_29 => ?_)
            · have h9 : True := trivial
              refine z_iconst hx hb dX7_homeOf_58 ?_
              exact cut_59 false g10 _ _ _ (qF (fun h => by have := h.2.1; omega)) hP hR hS (lv_sub hl [0, 1, 2, 3] rfl)
            · have h9 : True := trivial
              refine lv_aload_n hx hb dX7_homeOf_46 rfl (lv_at hl 0 rfl) ?_
              refine lv_iload_n hx hb dX7_homeOf_47 rfl (lv_at hl 3 rfl) ?_
              refine g_callVi (As := [.int (zI (↑i))]) (rest := []) ⟨hx, hb, hml, hown, hts⟩ (k_X7_isFitOrder l D cI ad hinj (sA (sA (sA (sA (sA (sA S 9 e_4) 10 g10) 11 e_6) 12 e_7) 13 e_8) 14 e_9) hR n hn hn7 (i) ↑i (by omega) (by omega) ((hO2 i (by omega)).1) ((hO2 i (by omega)).2.1)) (cwV 1 hts (gV hsub q_862 q_864 q_sX7_isFitOrder q_8 q_865) rfl rfl rfl hdX7_isFitOrder ⟨Nat.le_of_ble_eq_true rfl, Nat.le_of_ble_eq_true rfl⟩) (mEb D cI) (mEk D cI (mA ad)) hE (va_recv (ci := 7) (q0 := 0) hK hP rfl rfl) hP hS rfl hl.1 rfl (Nat.le_of_ble_eq_true rfl) dX7_homeOf_48 ⟨Nat.le_of_ble_eq_true rfl, Nat.le_of_ble_eq_true rfl⟩ (fun r_30 S_31 H locs hq_32 hP hR hS _ => ?_)
              obtain ⟨f_33, rfl, hro_34, rfl⟩ := hq_32
              refine z_top (b := b2 (pB (fitP n (S 5) (dgF n (S 7 i))))) rfl ?_
              refine z_ifeqB (tgt := 58) hx hb dX7_homeOf_51 (by decide) (fun c_35 => ?_) (fun c_35 => ?_)
              · have h9 : True := trivial
                refine z_iconst hx hb dX7_homeOf_58 ?_
                have hSe_36 : sA (sA (sA (sA (sA (sA (sA S 9 e_4) 10 g10) 11 e_6) 12 e_7) 13 e_8) 14 e_9) 10 f_33 = sA (sA (sA (sA (sA (sA S 9 e_4) 10 f_33) 11 e_6) 12 e_7) 13 e_8) 14 e_9 := by
                  funext k8
                  by_cases e80 : k8 = 9
                  · subst e80; first | rfl | (funext j8; rfl)
                  by_cases e81 : k8 = 10
                  · subst e81; first | rfl | (funext j8; rfl)
                  by_cases e82 : k8 = 11
                  · subst e82; first | rfl | (funext j8; rfl)
                  by_cases e83 : k8 = 12
                  · subst e83; first | rfl | (funext j8; rfl)
                  by_cases e84 : k8 = 13
                  · subst e84; first | rfl | (funext j8; rfl)
                  by_cases e85 : k8 = 14
                  · subst e85; first | rfl | (funext j8; rfl)
                  simp [sA, e80, e81, e82, e83, e84, e85]
                rw [hSe_36] at hP hR
                exact cut_59 false f_33 _ _ _ (qF (fun h => pB_f.mp c_35 h.2.2)) hP hR hS (lv_sub hl [0, 1, 2, 3] rfl)
              · have h9 : True := trivial
                refine z_iconst hx hb dX7_homeOf_54 ?_
                refine lv_goto (tgt := 59) hx hb dX7_homeOf_55 (by decide) ?_
                have hSe_37 : sA (sA (sA (sA (sA (sA (sA S 9 e_4) 10 g10) 11 e_6) 12 e_7) 13 e_8) 14 e_9) 10 f_33 = sA (sA (sA (sA (sA (sA S 9 e_4) 10 f_33) 11 e_6) 12 e_7) 13 e_8) 14 e_9 := by
                  funext k8
                  by_cases e80 : k8 = 9
                  · subst e80; first | rfl | (funext j8; rfl)
                  by_cases e81 : k8 = 10
                  · subst e81; first | rfl | (funext j8; rfl)
                  by_cases e82 : k8 = 11
                  · subst e82; first | rfl | (funext j8; rfl)
                  by_cases e83 : k8 = 12
                  · subst e83; first | rfl | (funext j8; rfl)
                  by_cases e84 : k8 = 13
                  · subst e84; first | rfl | (funext j8; rfl)
                  by_cases e85 : k8 = 14
                  · subst e85; first | rfl | (funext j8; rfl)
                  simp [sA, e80, e81, e82, e83, e84, e85]
                rw [hSe_37] at hP hR
                exact cut_59 true f_33 _ _ _ (qT ⟨by omega, by omega, pB_t.mp c_35⟩) hP hR hS (lv_sub hl [0, 1, 2, 3] rfl)
  exact cut_8 _ 0 (-1) e_5 _ _ _ (by omega) (argm_0) (Nat.lt_succ_self _) hP hR hS (lv_sub hl [2, 3, 1, 0] rfl)
