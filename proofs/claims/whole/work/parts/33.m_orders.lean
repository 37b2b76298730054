set_option maxHeartbeats 4000000 in
set_option maxRecDepth 100000 in
theorem k_X7_isStepped (l : Launch) (D : va_G) (cI : ClassId) (ad : Nat → Nat) (hinj : mInj ad) (S : St) (hR : RS S) (n : Nat) (hn : S 2 0 = ↑n) (hn7 : n ≤ 7) (hn1 : 1 ≤ n) (L : List Nat) (hL : L.length = n) (hf : ∀ j, j < n → S 10 j = rowL L j) (hL8 : ∀ j, j < n → L.getD j 0 < 8) : Met l yX7_isStepped (Cond.code yX7_isStepped cX7_isStepped 5 (some .boolean) :: lwT) ({ frames := 1, cells := 0, slots := 0, locals := 23 }) (gPc D (mW cI ad) (mE D cI) S [.ref (ad 26)]) (va_Qi (fun (r : Int32) (S' : St) => ∃ e10, S' = sA S 10 e10 ∧ (fPl L (n - 1) ≠ 0 → ∀ j, j < n → e10 j = rowL (nxL n L) j) ∧ r = zI (b2 (pB (fPl L (n - 1) ≠ 0)))) (gB D (mW cI ad)) (mA ad)) 0 0 (mA ad) := by
  refine Met.ofW (cc := cX7_isStepped) (maxL := 5) (ret := (some .boolean)) (by decide) rfl ?_
  intro p e s m args below meth c s₁ B hml hv
  obtain ⟨rfl, hP, hE⟩ := hv
  have hx := B.exec
  have hb := B.bytes
  have hr := B.returns
  have hts := atoms_spec (ws := Cond.code yX7_isStepped cX7_isStepped 5 (some .boolean) :: lwT) B.pre
  have hT := fun w (h : w ∈ lwT) => hts w (List.mem_cons_of_mem _ h)
  have hsub : ∀ w ∈ lwT, w ∈ (Cond.code yX7_isStepped cX7_isStepped 5 (some .boolean) :: lwT) := fun w h => List.mem_cons_of_mem _ h
  have hown : s.vm.findClass RX7 = some m.cls := findClass_of_methodNamed B.named
  have hlocks := B.notSynchronized
  have hK : va_K D vwCl [(cI, .int)] s := hE
  have hS : va_S (mA ad) s.heap s.heap [] := va_S.rf
  have hl := lv_entry ([.ref (ad 26)]) (n := 5) (Nat.le_of_ble_eq_true rfl)
  rw [lg_entry_eq]
  generalize (lg_sl ([.ref (ad 26)]) ++ List.replicate (5 - (lg_sl ([.ref (ad 26)])).length) Slot.unset).toArray = ls at hl ⊢
  have hl : lv_has ls 5 [(0, .ref (ad 26))] := hl
  refine lv_aload_n hx hb dX7_isStepped_0 rfl (lv_at hl 0 rfl) ?_
  have g_1 : -2147483648 ≤ S 2 0 ∧ S 2 0 < 2147483648 := hR 2 0 (by decide)
  refine va_get (D := D) (ci := 7) (v := .int (zI (S 2 0))) (C := RX7) (T := TX7) (N := 26) hx hb hT inX7 hown hK hP 0 rfl rfl 2 (by decide) (hT _ q_674) (fun _ h9 => h9) rfl dX7_isStepped_1 ?_
  refine z_iconst hx hb dX7_isStepped_4 ?_
  refine z_isub hx hb dX7_isStepped_5 ?_
  refine lv_istore_n (lv' := [(1, .int (zI ((S 2 0) - 2))), (0, .ref (ad 26))]) hx hb dX7_isStepped_6 rfl hl (by decide) rfl (fun ls hl => ?_)
  have cut_7 : ∀ (k9 : Nat) (k : Nat) (z : Int) (H : Heap) (locs : List Loc) (ls : Array Slot), (z = ↑k - 1) → (k ≤ n - 1) → (fPl L (n - 1) = fPl L k) → k < k9 → va_P D vwCl (mW cI ad S) H → RS S → va_S (mA ad) s.heap H locs → lv_has ls 5 [(0, .ref (ad 26)), (1, .int (zI (z)))] → W p l e (headSpec (Cond.code yX7_isStepped cX7_isStepped 5 (some .boolean) :: lwT) ({ frames := 1, cells := 0, slots := 0, locals := 23 })).room s m ([.ref (ad 26)] : List Value).toArray below meth c H locs 0 0 (MQ below (va_Qi (fun (r : Int32) (S' : St) => ∃ e10, S' = sA S 10 e10 ∧ (fPl L (n - 1) ≠ 0 → ∀ j, j < n → e10 j = rowL (nxL n L) j) ∧ r = zI (b2 (pB (fPl L (n - 1) ≠ 0)))) (gB D (mW cI ad)) (mA ad)) ([.ref (ad 26)] : List Value).toArray s 0 0 (mA ad)) (F0 m 7 ls []) := by
    intro k9
    induction k9 with
    | zero =>
      intro k z H locs ls hz hk hfp hk9 hP hR hS hl
      exact absurd hk9 (Nat.not_lt_zero _)
    | succ k9 ih_7 =>
      intro k z H locs ls hz hk hfp hk9 hP hR hS hl
      refine lv_iload_n hx hb dX7_isStepped_7 rfl (lv_at hl 1 rfl) ?_
      refine z_if_lt (tgt := 34) hx hb (by omega) (by omega) dX7_isStepped_8 (by decide) (fun c_2 => ?_) (fun c_2 => ?_)
      · have h9 : True := trivial
        refine lv_iload_n hx hb dX7_isStepped_34 rfl (lv_at hl 1 rfl) ?_
        refine z_if_ge (tgt := 40) hx hb (by omega) (by omega) dX7_isStepped_35 (by decide) (fun c_3 => ?_) (fun c_3 => ?_)
        · exact False.elim (by omega)
        · have h9 : True := trivial
          refine z_iconst hx hb dX7_isStepped_38 ?_
          exact g_zret (S1 := S) (bo := false) hx hb hr hlocks hP hR hS (⟨S 10, (sA_self S 10).symm, fun h => absurd (by rw [hfp, show k = 0 by omega]; rfl) h, pF (fun h => h (by rw [hfp, show k = 0 by omega]; rfl))⟩) dX7_isStepped_39
      · have h9 : True := trivial
        have hA := hL8 (k - 1) (by omega)
        have hB9 := hL8 k (by omega)
        refine lv_aload_n hx hb dX7_isStepped_11 rfl (lv_at hl 0 rfl) ?_
        refine va_get (D := D) (ci := 7) (v := .ref (ad 10)) (C := RX7) (T := TX7) (N := 26) hx hb hT inX7 hown hK hP 0 rfl rfl 10 (by decide) (hT _ q_682) (fun _ h9 => h9) rfl dX7_isStepped_12 ?_
        refine lv_iload_n hx hb dX7_isStepped_15 rfl (lv_at hl 1 rfl) ?_
        have g_4 : -2147483648 ≤ S 10 (z).toNat ∧ S 10 (z).toNat < 2147483648 := hR 10 ((z).toNat) (by decide)
        refine z_ald (f := S 10) hx hb hK hP 6 0 rfl rfl (by omega) (by omega) (by decide) (j := (z).toNat) rfl dX7_isStepped_16 ?_
        refine z_top (b := ↑(L.getD (k - 1) 0)) (by rw [show (z).toNat = k - 1 by omega]; exact hf _ (by omega)) ?_
        refine lv_aload_n hx hb dX7_isStepped_17 rfl (lv_at hl 0 rfl) ?_
        refine va_get (D := D) (ci := 7) (v := .ref (ad 10)) (C := RX7) (T := TX7) (N := 26) hx hb hT inX7 hown hK hP 0 rfl rfl 10 (by decide) (hT _ q_682) (fun _ h9 => h9) rfl dX7_isStepped_18 ?_
        refine lv_iload_n hx hb dX7_isStepped_21 rfl (lv_at hl 1 rfl) ?_
        refine z_iconst hx hb dX7_isStepped_22 ?_
        refine z_iadd hx hb dX7_isStepped_23 ?_
        have g_5 : -2147483648 ≤ S 10 (z + 1).toNat ∧ S 10 (z + 1).toNat < 2147483648 := hR 10 ((z + 1).toNat) (by decide)
        refine z_ald (f := S 10) hx hb hK hP 6 0 rfl rfl (by omega) (by omega) (by decide) (j := (z + 1).toNat) rfl dX7_isStepped_24 ?_
        refine z_top (b := ↑(L.getD k 0)) (by rw [show (z + 1).toNat = k by omega]; exact hf _ (by omega)) ?_
        refine z_icmp_le (tgt := 34) hx hb (by omega) (by omega) (by omega) (by omega) dX7_isStepped_25 (by decide) (fun c_6 => ?_) (fun c_6 => ?_)
        · have h9 : True := trivial
          refine lv_iload_n hx hb dX7_isStepped_34 rfl (lv_at hl 1 rfl) ?_
          refine z_if_ge (tgt := 40) hx hb (by omega) (by omega) dX7_isStepped_35 (by decide) (fun c_7 => ?_) (fun c_7 => ?_)
          · have h9 : True := trivial
            have hkk : fPl L k = k := by rw [show k = (k - 1) + 1 by omega]; exact fPl_e (by rw [show k - 1 + 1 = k by omega]; omega)
            have hA2 := hL8 (k - 1) (by omega)
            have hge : ¬ L.getD k 0 < L.getD (k - 1) 0 := by omega
            refine lv_aload_n hx hb dX7_isStepped_40 rfl (lv_at hl 0 rfl) ?_
            have g_8 : -2147483648 ≤ S 2 0 ∧ S 2 0 < 2147483648 := hR 2 0 (by decide)
            refine va_get (D := D) (ci := 7) (v := .int (zI (S 2 0))) (C := RX7) (T := TX7) (N := 26) hx hb hT inX7 hown hK hP 0 rfl rfl 2 (by decide) (hT _ q_674) (fun _ h9 => h9) rfl dX7_isStepped_41 ?_
            refine z_iconst hx hb dX7_isStepped_44 ?_
            refine z_isub hx hb dX7_isStepped_45 ?_
            refine lv_istore_n (lv' := [(2, .int (zI ((S 2 0) - 1))), (0, .ref (ad 26)), (1, .int (zI (z)))]) hx hb dX7_isStepped_46 rfl hl (by decide) rfl (fun ls hl => ?_)
            have cut_47 : ∀ (k9 : Nat) (kq : Nat) (zq : Int) (H : Heap) (locs : List Loc) (ls : Array Slot), (zq = ↑kq) → (k ≤ kq ∧ kq ≤ n - 1) → (fQl L (L.getD (k - 1) 0) (n - 1) = fQl L (L.getD (k - 1) 0) kq) → kq < k9 → va_P D vwCl (mW cI ad S) H → RS S → va_S (mA ad) s.heap H locs → lv_has ls 5 [(0, .ref (ad 26)), (1, .int (zI (z))), (2, .int (zI (zq)))] → W p l e (headSpec (Cond.code yX7_isStepped cX7_isStepped 5 (some .boolean) :: lwT) ({ frames := 1, cells := 0, slots := 0, locals := 23 })).room s m ([.ref (ad 26)] : List Value).toArray below meth c H locs 0 0 (MQ below (va_Qi (fun (r : Int32) (S' : St) => ∃ e10, S' = sA S 10 e10 ∧ (fPl L (n - 1) ≠ 0 → ∀ j, j < n → e10 j = rowL (nxL n L) j) ∧ r = zI (b2 (pB (fPl L (n - 1) ≠ 0)))) (gB D (mW cI ad)) (mA ad)) ([.ref (ad 26)] : List Value).toArray s 0 0 (mA ad)) (F0 m 47 ls []) := by
              intro k9
              induction k9 with
              | zero =>
                intro kq zq H locs ls hzq hkq hfq hk9 hP hR hS hl
                exact absurd hk9 (Nat.not_lt_zero _)
              | succ k9 ih_47 =>
                intro kq zq H locs ls hzq hkq hfq hk9 hP hR hS hl
                refine lv_aload_n hx hb dX7_isStepped_47 rfl (lv_at hl 0 rfl) ?_
                refine va_get (D := D) (ci := 7) (v := .ref (ad 10)) (C := RX7) (T := TX7) (N := 26) hx hb hT inX7 hown hK hP 0 rfl rfl 10 (by decide) (hT _ q_682) (fun _ h9 => h9) rfl dX7_isStepped_48 ?_
                refine lv_iload_n hx hb dX7_isStepped_51 rfl (lv_at hl 2 rfl) ?_
                have hC := hL8 kq (by omega)
                have g_9 : -2147483648 ≤ S 10 (zq).toNat ∧ S 10 (zq).toNat < 2147483648 := hR 10 ((zq).toNat) (by decide)
                refine z_ald (f := S 10) hx hb hK hP 6 0 rfl rfl (by omega) (by omega) (by decide) (j := (zq).toNat) rfl dX7_isStepped_52 ?_
                refine z_top (b := ↑(L.getD kq 0)) (by rw [show zq.toNat = kq by omega]; exact hf _ (by omega)) ?_
                refine lv_aload_n hx hb dX7_isStepped_53 rfl (lv_at hl 0 rfl) ?_
                refine va_get (D := D) (ci := 7) (v := .ref (ad 10)) (C := RX7) (T := TX7) (N := 26) hx hb hT inX7 hown hK hP 0 rfl rfl 10 (by decide) (hT _ q_682) (fun _ h9 => h9) rfl dX7_isStepped_54 ?_
                refine lv_iload_n hx hb dX7_isStepped_57 rfl (lv_at hl 1 rfl) ?_
                have g_10 : -2147483648 ≤ S 10 (z).toNat ∧ S 10 (z).toNat < 2147483648 := hR 10 ((z).toNat) (by decide)
                refine z_ald (f := S 10) hx hb hK hP 6 0 rfl rfl (by omega) (by omega) (by decide) (j := (z).toNat) rfl dX7_isStepped_58 ?_
                refine z_top (b := ↑(L.getD (k - 1) 0)) (by rw [show (z).toNat = k - 1 by omega]; exact hf _ (by omega)) ?_
                refine z_icmp_ge (tgt := 68) hx hb (by omega) (by omega) (by omega) (by omega) dX7_isStepped_59 (by decide) (fun c_11 => ?_) (fun c_11 => ?_)
                · have h9 : True := trivial
                  have hqq : fQl L (L.getD (k - 1) 0) kq = kq := by rw [show kq = (kq - 1) + 1 by omega]; exact fQl_e (by rw [show kq - 1 + 1 = kq by omega]; omega)
                  have hnx : nxL n L = rvL n (swL L (k - 1) kq) k (n - 1) := by unfold nxL; rw [hfp, hkk, hfq, hqq]
                  have hsw := swL_row hL (show k - 1 < n by omega) (show kq < n by omega) hf
                  refine lv_aload_n hx hb dX7_isStepped_68 rfl (lv_at hl 0 rfl) ?_
                  refine lv_iload_n hx hb dX7_isStepped_69 rfl (lv_at hl 1 rfl) ?_
                  refine lv_iload_n hx hb dX7_isStepped_70 rfl (lv_at hl 2 rfl) ?_
                  refine g_callVv (As := [.int (zI (z)), .int (zI (zq))]) (rest := []) ⟨hx, hb, hml, hown, hts⟩ (k_X7_trade l D cI ad hinj S hR (k - 1) (kq) z zq (by omega) (by omega) (by omega) (by omega)) (cwV 2 hts (gV hsub q_800 q_802 q_sX7_trade q_8 q_803) rfl rfl rfl hdX7_trade ⟨Nat.le_of_ble_eq_true rfl, Nat.le_of_ble_eq_true rfl⟩) (mEb D cI) (mEk D cI (mA ad)) hE (va_recv (ci := 7) (q0 := 0) hK hP rfl rfl) hP hS rfl hl.1 rfl (Nat.le_of_ble_eq_true rfl) dX7_isStepped_71 ⟨Nat.le_of_ble_eq_true rfl, Nat.le_of_ble_eq_true rfl⟩ (fun S_13 H locs hq_14 hP hR hS _ => ?_)
                  obtain rfl := hq_14
                  have hP : va_P D vwCl (mW cI ad (sA S 10 (swF (S 10) (k - 1) kq))) H := hP
                  have hR : RS (sA S 10 (swF (S 10) (k - 1) kq)) := hR
                  refine lv_iload_n hx hb dX7_isStepped_74 rfl (lv_at hl 1 rfl) ?_
                  refine z_iconst hx hb dX7_isStepped_75 ?_
                  refine z_iadd hx hb dX7_isStepped_76 ?_
                  refine lv_istore_n (lv' := [(3, .int (zI (z + 1))), (0, .ref (ad 26)), (1, .int (zI (z))), (2, .int (zI (zq)))]) hx hb dX7_isStepped_77 rfl hl (by decide) rfl (fun ls hl => ?_)
                  refine lv_aload_n hx hb dX7_isStepped_78 rfl (lv_at hl 1 rfl) ?_
                  have g_15 : -2147483648 ≤ S 2 0 ∧ S 2 0 < 2147483648 := hR 2 0 (by decide)
                  refine va_get (D := D) (ci := 7) (v := .int (zI (S 2 0))) (C := RX7) (T := TX7) (N := 26) hx hb hT inX7 hown hK hP 0 rfl rfl 2 (by decide) (hT _ q_674) (fun _ h9 => h9) rfl dX7_isStepped_79 ?_
                  refine z_iconst hx hb dX7_isStepped_82 ?_
                  refine z_isub hx hb dX7_isStepped_83 ?_
                  refine lv_istore (lv' := [(4, .int (zI ((S 2 0) - 1))), (3, .int (zI (z + 1))), (0, .ref (ad 26)), (1, .int (zI (z))), (2, .int (zI (zq)))]) hx hb dX7_isStepped_84 hl (by decide) rfl (fun ls hl => ?_)
                  have cut_86 : ∀ (k9 : Nat) (a : Nat) (b : Nat) (za : Int) (zb : Int) (w9 : Nat) (M9 : List Nat) (g : Nat → Int) (H : Heap) (locs : List Loc) (ls : Array Slot), (za = ↑a) → (zb = ↑b) → (a ≤ n ∧ b < n ∧ b ≤ a + w9) → (M9.length = n) → (∀ j, j < n → g j = rowL M9 j) → (rvL w9 M9 a b = nxL n L) → (b - a) < k9 → va_P D vwCl (mW cI ad (sA S 10 g)) H → RS (sA S 10 g) → va_S (mA ad) s.heap H locs → lv_has ls 5 [(0, .ref (ad 26)), (3, .int (zI (za))), (4, .int (zI (zb)))] → W p l e (headSpec (Cond.code yX7_isStepped cX7_isStepped 5 (some .boolean) :: lwT) ({ frames := 1, cells := 0, slots := 0, locals := 23 })).room s m ([.ref (ad 26)] : List Value).toArray below meth c H locs 0 0 (MQ below (va_Qi (fun (r : Int32) (S' : St) => ∃ e10, S' = sA S 10 e10 ∧ (fPl L (n - 1) ≠ 0 → ∀ j, j < n → e10 j = rowL (nxL n L) j) ∧ r = zI (b2 (pB (fPl L (n - 1) ≠ 0)))) (gB D (mW cI ad)) (mA ad)) ([.ref (ad 26)] : List Value).toArray s 0 0 (mA ad)) (F0 m 86 ls []) := by
                    intro k9
                    induction k9 with
                    | zero =>
                      intro a b za zb w9 M9 g H locs ls hza hzb hab hM hg hT9 hk9 hP hR hS hl
                      exact absurd hk9 (Nat.not_lt_zero _)
                    | succ k9 ih_86 =>
                      intro a b za zb w9 M9 g H locs ls hza hzb hab hM hg hT9 hk9 hP hR hS hl
                      refine lv_iload_n hx hb dX7_isStepped_86 rfl (lv_at hl 1 rfl) ?_
                      refine lv_iload hx hb dX7_isStepped_87 (lv_at hl 2 rfl) ?_
                      refine z_icmp_ge (tgt := 108) hx hb (by omega) (by omega) (by omega) (by omega) dX7_isStepped_89 (by decide) (fun c_16 => ?_) (fun c_16 => ?_)
                      · have h9 : True := trivial
                        refine z_iconst hx hb dX7_isStepped_108 ?_
                        exact g_zret (S1 := sA S 10 g) (bo := true) hx hb hr hlocks hP hR hS (⟨_, rfl, fun _ => by rw [← hT9, rvL_e (by omega)]; exact hg, pT (by rw [hfp, hkk]; omega)⟩) dX7_isStepped_109
                      · have h9 : True := trivial
                        refine lv_aload_n hx hb dX7_isStepped_92 rfl (lv_at hl 0 rfl) ?_
                        refine lv_iload_n hx hb dX7_isStepped_93 rfl (lv_at hl 1 rfl) ?_
                        refine lv_iload hx hb dX7_isStepped_94 (lv_at hl 2 rfl) ?_
                        refine g_callVv (As := [.int (zI (za)), .int (zI (zb))]) (rest := []) ⟨hx, hb, hml, hown, hts⟩ (k_X7_trade l D cI ad hinj (sA S 10 g) hR (a) (b) za zb (by omega) (by omega) (by omega) (by omega)) (cwV 2 hts (gV hsub q_800 q_802 q_sX7_trade q_8 q_803) rfl rfl rfl hdX7_trade ⟨Nat.le_of_ble_eq_true rfl, Nat.le_of_ble_eq_true rfl⟩) (mEb D cI) (mEk D cI (mA ad)) hE (va_recv (ci := 7) (q0 := 0) hK hP rfl rfl) hP hS rfl hl.1 rfl (Nat.le_of_ble_eq_true rfl) dX7_isStepped_96 ⟨Nat.le_of_ble_eq_true rfl, Nat.le_of_ble_eq_true rfl⟩ (fun S_18 H locs hq_19 hP hR hS _ => ?_)
                        obtain rfl := hq_19
                        rw [sA_sA] at hP hR
                        have hP : va_P D vwCl (mW cI ad (sA S 10 (swF g a b))) H := hP
                        have hR : RS (sA S 10 (swF g a b)) := hR
                        have hsg := swL_row hM (show a < n by omega) (show b < n by omega) hg
                        refine z_iinc (lv' := [(3, .int (zI (za + 1))), (0, .ref (ad 26)), (4, .int (zI (zb)))]) hx hb dX7_isStepped_99 hl (k := 1) rfl (by decide) rfl (fun ls hl => ?_)
                        refine z_iinc (lv' := [(4, .int (zI (zb + (-1)))), (3, .int (zI (za + 1))), (0, .ref (ad 26))]) hx hb dX7_isStepped_102 hl (k := 2) rfl (by decide) rfl (fun ls hl => ?_)
                        refine lv_goto (tgt := 86) hx hb dX7_isStepped_105 (by decide) ?_
                        exact ih_86 (a + 1) (b - 1) (za + 1) (zb + (-1)) (w9 - 1) (swL M9 a b) (swF g a b) _ _ _ (by omega) (by omega) (by omega) (by rw [swL_len]; exact hM) (hsg) (by rw [← hT9, show w9 = (w9 - 1) + 1 by omega, rvL_s (by omega)]; rfl) (by omega) hP hR hS (lv_sub hl [2, 1, 0] rfl)
                  exact cut_86 _ k (n - 1) (z + 1) ((S 2 0) - 1) n (swL L (k - 1) kq) (swF (S 10) (k - 1) kq) _ _ _ (by omega) (by omega) (by omega) (by rw [swL_len]; exact hL) (hsw) (hnx.symm) (Nat.lt_succ_self _) hP hR hS (lv_sub hl [2, 1, 0] rfl)
                · have h9 : True := trivial
                  refine z_iinc (lv' := [(2, .int (zI (zq + (-1)))), (0, .ref (ad 26)), (1, .int (zI (z)))]) hx hb dX7_isStepped_62 hl (k := 2) rfl (by decide) rfl (fun ls hl => ?_)
                  refine lv_goto (tgt := 47) hx hb dX7_isStepped_65 (by decide) ?_
                  have hkne : k ≠ kq := fun e => by rw [← e] at c_11; omega
                  exact ih_47 (kq - 1) (zq + (-1)) _ _ _ (by omega) (by omega) (by rw [hfq, show kq = (kq - 1) + 1 by omega]; exact fQl_s (by rw [show kq - 1 + 1 = kq by omega]; omega)) (by omega) hP hR hS (lv_sub hl [1, 2, 0] rfl)
            exact cut_47 _ (n - 1) ((S 2 0) - 1) _ _ _ (by omega) (by omega) (rfl) (Nat.lt_succ_self _) hP hR hS (lv_sub hl [1, 2, 0] rfl)
          · exact False.elim (by omega)
        · have h9 : True := trivial
          refine z_iinc (lv' := [(1, .int (zI (z + (-1)))), (0, .ref (ad 26))]) hx hb dX7_isStepped_28 hl (k := 1) rfl (by decide) rfl (fun ls hl => ?_)
          refine lv_goto (tgt := 7) hx hb dX7_isStepped_31 (by decide) ?_
          exact ih_7 (k - 1) (z + (-1)) _ _ _ (by omega) (by omega) (by rw [hfp, show k = (k - 1) + 1 by omega]; exact fPl_s (by rw [show k - 1 + 1 = k by omega]; omega)) (by omega) hP hR hS (lv_sub hl [1, 0] rfl)
  exact cut_7 _ (n - 1) ((S 2 0) - 2) _ _ _ (by omega) (by omega) (rfl) (Nat.lt_succ_self _) hP hR hS (lv_sub hl [1, 0] rfl)
set_option maxHeartbeats 4000000 in
set_option maxRecDepth 100000 in
theorem k_X7_layOrders (l : Launch) (D : va_G) (cI : ClassId) (ad : Nat → Nat) (hinj : mInj ad) (S : St) (hR : RS S) (n : Nat) (hn : S 2 0 = ↑n) (hn7 : n ≤ 7) (hn1 : 1 ≤ n) (M8 : Nat) (U : Nat → List Nat) (hU : isRun n M8 U) (hM4 : (pfx n U M8).length ≤ 462) : Met l yX7_layOrders (Cond.code yX7_layOrders cX7_layOrders 2 none :: lwT) ({ frames := 2, cells := 0, slots := 0, locals := 47 }) (gPc D (mW cI ad) (mE D cI) S [.ref (ad 26)]) (va_Qv (fun (S' : St) => ∃ e9 e10 e7 e8, S' = sA (sA (sA (sA S 9 e9) 10 e10) 7 e7) 8 e8 ∧ e8 0 = ↑(pfx n U M8).length ∧ ∀ j, j < (pfx n U M8).length → e7 j = (pfx n U M8).getD j 0) (gB D (mW cI ad)) (mA ad)) 0 0 (mA ad) := by
  refine Met.ofW (cc := cX7_layOrders) (maxL := 2) (ret := none) (by decide) rfl ?_
  intro p e s m args below meth c s₁ B hml hv
  obtain ⟨rfl, hP, hE⟩ := hv
  have hx := B.exec
  have hb := B.bytes
  have hr := B.returns
  have hts := atoms_spec (ws := Cond.code yX7_layOrders cX7_layOrders 2 none :: lwT) B.pre
  have hT := fun w (h : w ∈ lwT) => hts w (List.mem_cons_of_mem _ h)
  have hsub : ∀ w ∈ lwT, w ∈ (Cond.code yX7_layOrders cX7_layOrders 2 none :: lwT) := fun w h => List.mem_cons_of_mem _ h
  have hown : s.vm.findClass RX7 = some m.cls := findClass_of_methodNamed B.named
  have hlocks := B.notSynchronized
  have hK : va_K D vwCl [(cI, .int)] s := hE
  have hS : va_S (mA ad) s.heap s.heap [] := va_S.rf
  obtain ⟨u1, u2, u3, u4, u5⟩ := hU
  have hl := lv_entry ([.ref (ad 26)]) (n := 2) (Nat.le_of_ble_eq_true rfl)
  rw [lg_entry_eq]
  generalize (lg_sl ([.ref (ad 26)]) ++ List.replicate (2 - (lg_sl ([.ref (ad 26)])).length) Slot.unset).toArray = ls at hl ⊢
  have hl : lv_has ls 2 [(0, .ref (ad 26))] := hl
  refine z_iconst hx hb dX7_layOrders_0 ?_
  refine lv_istore_n (lv' := [(1, .int (zI (0))), (0, .ref (ad 26))]) hx hb dX7_layOrders_1 rfl hl (by decide) rfl (fun ls hl => ?_)
  have cut_2 : ∀ (k9 : Nat) (j : Nat) (f : Nat → Int) (H : Heap) (locs : List Loc) (ls : Array Slot), (j ≤ n) → (∀ a, a < j → f a = ↑a) → (n - j) < k9 → va_P D vwCl (mW cI ad (sA S 10 f)) H → RS (sA S 10 f) → va_S (mA ad) s.heap H locs → lv_has ls 2 [(0, .ref (ad 26)), (1, .int (zI (↑j)))] → W p l e (headSpec (Cond.code yX7_layOrders cX7_layOrders 2 none :: lwT) ({ frames := 2, cells := 0, slots := 0, locals := 47 })).room s m ([.ref (ad 26)] : List Value).toArray below meth c H locs 0 0 (MQ below (va_Qv (fun (S' : St) => ∃ e9 e10 e7 e8, S' = sA (sA (sA (sA S 9 e9) 10 e10) 7 e7) 8 e8 ∧ e8 0 = ↑(pfx n U M8).length ∧ ∀ j, j < (pfx n U M8).length → e7 j = (pfx n U M8).getD j 0) (gB D (mW cI ad)) (mA ad)) ([.ref (ad 26)] : List Value).toArray s 0 0 (mA ad)) (F0 m 2 ls []) := by
    intro k9
    induction k9 with
    | zero =>
      intro j f H locs ls hj hf hk9 hP hR hS hl
      exact absurd hk9 (Nat.not_lt_zero _)
    | succ k9 ih_2 =>
      intro j f H locs ls hj hf hk9 hP hR hS hl
      refine lv_iload_n hx hb dX7_layOrders_2 rfl (lv_at hl 1 rfl) ?_
      refine lv_aload_n hx hb dX7_layOrders_3 rfl (lv_at hl 0 rfl) ?_
      have g_1 : -2147483648 ≤ S 2 0 ∧ S 2 0 < 2147483648 := hR 2 0 (by decide)
      refine va_get (D := D) (ci := 7) (v := .int (zI (S 2 0))) (C := RX7) (T := TX7) (N := 26) hx hb hT inX7 hown hK hP 0 rfl rfl 2 (by decide) (hT _ q_674) (fun _ h9 => h9) rfl dX7_layOrders_4 ?_
      refine z_icmp_ge (tgt := 23) hx hb (by omega) (by omega) (by omega) (by omega) dX7_layOrders_7 (by decide) (fun c_2 => ?_) (fun c_2 => ?_)
      · have h9 : True := trivial
        refine lv_aload_n hx hb dX7_layOrders_23 rfl (lv_at hl 0 rfl) ?_
        refine z_iconst hx hb dX7_layOrders_24 ?_
        refine va_put (D := D) (ci := 7) (v := .int (zI (0))) (ty := .int) (C := RX7) (T := TX7) (N := 26) hx hb hT inX7 tyX7 tyX7_ok nmX7 hown hK hP (mD hinj cI _) hS 0 rfl rfl 8 (by decide) (hT _ q_680) (fun _ h9 => h9) rfl (by decide +kernel) rfl rfl (Nat.le_of_ble_eq_true rfl) dX7_layOrders_25 (fun H locs hP _ hS => ?_)
        have hP : va_P D vwCl (mW cI ad (sA (sA S 10 f) 8 (fun _ => 0))) H := hP
        have hR : RS (sA (sA S 10 f) 8 (fun _ => 0)) := hR.one (by omega) (by omega)
        refine z_iconst hx hb dX7_layOrders_28 ?_
        refine lv_istore_n (lv' := [(1, .int (zI (1))), (0, .ref (ad 26))]) hx hb dX7_layOrders_29 rfl hl (by decide) rfl (fun ls hl => ?_)
        have cut_30 : ∀ (k9 : Nat) (i : Nat) (o : Bool) (om : Int) (g9 : Nat → Int) (g10 : Nat → Int) (od : Nat → Int) (H : Heap) (locs : List Loc) (ls : Array Slot), (i ≤ M8) → (o = true → i < M8) → (o = false → i = M8) → (o = true → ∀ a, a < n → g10 a = rowL (U i) a) → (om = ↑(pfx n U i).length) → (∀ a, a < (pfx n U i).length → od a = (pfx n U i).getD a 0) → (M8 - i + (if o then 1 else 0)) < k9 → va_P D vwCl (mW cI ad (sA (sA (sA (sA S 9 g9) 10 g10) 7 od) 8 (fun _ => om))) H → RS (sA (sA (sA (sA S 9 g9) 10 g10) 7 od) 8 (fun _ => om)) → va_S (mA ad) s.heap H locs → lv_has ls 2 [(0, .ref (ad 26)), (1, .int (zI (b2 (o))))] → W p l e (headSpec (Cond.code yX7_layOrders cX7_layOrders 2 none :: lwT) ({ frames := 2, cells := 0, slots := 0, locals := 47 })).room s m ([.ref (ad 26)] : List Value).toArray below meth c H locs 0 0 (MQ below (va_Qv (fun (S' : St) => ∃ e9 e10 e7 e8, S' = sA (sA (sA (sA S 9 e9) 10 e10) 7 e7) 8 e8 ∧ e8 0 = ↑(pfx n U M8).length ∧ ∀ j, j < (pfx n U M8).length → e7 j = (pfx n U M8).getD j 0) (gB D (mW cI ad)) (mA ad)) ([.ref (ad 26)] : List Value).toArray s 0 0 (mA ad)) (F0 m 30 ls []) := by
          intro k9
          induction k9 with
          | zero =>
            intro i o om g9 g10 od H locs ls hi ho1 ho2 hrow hom hod hk9 hP hR hS hl
            exact absurd hk9 (Nat.not_lt_zero _)
          | succ k9 ih_30 =>
            intro i o om g9 g10 od H locs ls hi ho1 ho2 hrow hom hod hk9 hP hR hS hl
            refine lv_iload_n hx hb dX7_layOrders_30 rfl (lv_at hl 1 rfl) ?_
            refine z_ifeqB (tgt := 83) hx hb dX7_layOrders_31 (by decide) (fun c_3 => ?_) (fun c_3 => ?_)
            · have h9 : True := trivial
              exact g_vret (S1 := sA (sA (sA (sA S 9 g9) 10 g10) 7 od) 8 (fun _ => om)) hx hb hr hlocks hP hR hS (⟨_, _, _, _, rfl, by rw [ho2 (by assumption)] at hom; exact hom, by rw [ho2 (by assumption)] at hod; exact hod⟩) dX7_layOrders_83
            · have h9 : True := trivial
              have hiM := ho1 (by assumption)
              have hro := hrow (by assumption)
              obtain ⟨hUl, hUp⟩ := u3 i hiM
              have hpg := prm_c hro hUp
              have hle := pfx_le (n := n) (U := U) (show i + 1 ≤ M8 by omega)
              have hle0 := pfx_le (n := n) (U := U) (show i ≤ i + 1 by omega)
              have hU8 : ∀ a, a < n → (U i).getD a 0 < 8 := fun a ha => by have h8 := hUp.1 a ha; unfold rowL at h8; omega
              have cut_75 : ∀ (om2 : Int) (g92 : Nat → Int) (od2 : Nat → Int) (H : Heap) (locs : List Loc) (ls : Array Slot), (om2 = ↑(pfx n U (i + 1)).length) → (∀ a, a < (pfx n U (i + 1)).length → od2 a = (pfx n U (i + 1)).getD a 0) → va_P D vwCl (mW cI ad (sA (sA (sA (sA S 9 g92) 10 g10) 7 od2) 8 (fun _ => om2))) H → RS (sA (sA (sA (sA S 9 g92) 10 g10) 7 od2) 8 (fun _ => om2)) → va_S (mA ad) s.heap H locs → lv_has ls 2 [(0, .ref (ad 26))] → W p l e (headSpec (Cond.code yX7_layOrders cX7_layOrders 2 none :: lwT) ({ frames := 2, cells := 0, slots := 0, locals := 47 })).room s m ([.ref (ad 26)] : List Value).toArray below meth c H locs 0 0 (MQ below (va_Qv (fun (S' : St) => ∃ e9 e10 e7 e8, S' = sA (sA (sA (sA S 9 e9) 10 e10) 7 e7) 8 e8 ∧ e8 0 = ↑(pfx n U M8).length ∧ ∀ j, j < (pfx n U M8).length → e7 j = (pfx n U M8).getD j 0) (gB D (mW cI ad)) (mA ad)) ([.ref (ad 26)] : List Value).toArray s 0 0 (mA ad)) (F0 m 75 ls []) := by
                intro om2 g92 od2 H locs ls hom2 hod2 hP hR hS hl
                refine lv_aload_n hx hb dX7_layOrders_75 rfl (lv_at hl 0 rfl) ?_
                refine g_callVi (As := []) (rest := []) ⟨hx, hb, hml, hown, hts⟩ (k_X7_isStepped l D cI ad hinj (sA (sA (sA (sA S 9 g92) 10 g10) 7 od2) 8 (fun _ => om2)) hR n hn hn7 hn1 (U i) hUl hro hU8) (cwV 0 hts (gV hsub q_796 q_798 q_sX7_isStepped q_8 q_799) rfl rfl rfl hdX7_isStepped ⟨Nat.le_of_ble_eq_true rfl, Nat.le_of_ble_eq_true rfl⟩) (mEb D cI) (mEk D cI (mA ad)) hE (va_recv (ci := 7) (q0 := 0) hK hP rfl rfl) hP hS rfl hl.1 rfl (Nat.le_of_ble_eq_true rfl) dX7_layOrders_76 ⟨Nat.le_of_ble_eq_true rfl, Nat.le_of_ble_eq_true rfl⟩ (fun r_4 S_5 H locs hq_6 hP hR hS _ => ?_)
                obtain ⟨e_7, rfl, hnx_8, rfl⟩ := hq_6
                refine z_top (b := b2 (pB (fPl (U i) (n - 1) ≠ 0))) rfl ?_
                have hlast : fPl (U i) (n - 1) = 0 → i + 1 = M8 := fun e => (Nat.lt_or_ge (i + 1) M8).elim (fun h => absurd e (u4 i h).1) (fun h => by omega)
                have hnl : fPl (U i) (n - 1) ≠ 0 → i + 1 < M8 := fun e => (Nat.lt_or_ge (i + 1) M8).elim id (fun h => absurd (by rw [show i = M8 - 1 by omega]; exact u5) e)
                refine lv_istore_n (lv' := [(1, .int (zI (b2 (pB (fPl (U i) (n - 1) ≠ 0))))), (0, .ref (ad 26))]) hx hb dX7_layOrders_79 rfl hl (by decide) rfl (fun ls hl => ?_)
                refine lv_goto (tgt := 30) hx hb dX7_layOrders_80 (by decide) ?_
                have hSe_9 : sA (sA (sA (sA (sA S 9 g92) 10 g10) 7 od2) 8 (fun _ => om2)) 10 e_7 = sA (sA (sA (sA S 9 g92) 10 e_7) 7 od2) 8 (fun _ => om2) := by
                  funext k8
                  by_cases e80 : k8 = 9
                  · subst e80; first | rfl | (funext j8; rfl)
                  by_cases e81 : k8 = 10
                  · subst e81; first | rfl | (funext j8; rfl)
                  by_cases e82 : k8 = 7
                  · subst e82; first | rfl | (funext j8; rfl)
                  by_cases e83 : k8 = 8
                  · subst e83; funext j8; first | rfl | exact hsc_8 j8
                  simp [sA, e80, e81, e82, e83]
                rw [hSe_9] at hP hR
                exact ih_30 (i + 1) (pB (fPl (U i) (n - 1) ≠ 0)) om2 g92 e_7 od2 _ _ _ (by omega) (fun e => hnl (pB_t.mp e)) (fun e => hlast (Classical.not_not.mp (pB_f.mp e))) (fun e => by rw [← (u4 i (hnl (pB_t.mp e))).2]; exact hnx_8 (pB_t.mp e)) (hom2) (hod2) (by have := hiM; (repeat' split at hk9) <;> (repeat' split) <;> omega) hP hR hS (lv_sub hl [1, 0] rfl)
              refine lv_aload_n hx hb dX7_layOrders_34 rfl (lv_at hl 0 rfl) ?_
              refine lv_aload_n hx hb dX7_layOrders_35 rfl (lv_at hl 0 rfl) ?_
              refine va_get (D := D) (ci := 7) (v := .ref (ad 10)) (C := RX7) (T := TX7) (N := 26) hx hb hT inX7 hown hK hP 0 rfl rfl 10 (by decide) (hT _ q_682) (fun _ h9 => h9) rfl dX7_layOrders_36 ?_
              refine g_callVi (As := [.ref (ad 10)]) (rest := []) ⟨hx, hb, hml, hown, hts⟩ (k_X7_isFolded_10 l D cI ad hinj (sA (sA (sA (sA S 9 g9) 10 g10) 7 od) 8 (fun _ => om)) hR n hn hn7 hpg) (cwV 1 hts (gV hsub q_782 q_784 q_sX7_isFolded q_8 q_785) rfl rfl rfl hdX7_isFolded ⟨Nat.le_of_ble_eq_true rfl, Nat.le_of_ble_eq_true rfl⟩) (mEb D cI) (mEk D cI (mA ad)) hE (va_recv (ci := 7) (q0 := 0) hK hP rfl rfl) hP hS rfl hl.1 rfl (Nat.le_of_ble_eq_true rfl) dX7_layOrders_39 ⟨Nat.le_of_ble_eq_true rfl, Nat.le_of_ble_eq_true rfl⟩ (fun r_10 S_11 H locs hq_12 hP hR hS _ => ?_)
              obtain ⟨f_13, rfl, rfl⟩ := hq_12
              refine z_top (b := b2 (pB (fdP n g10))) rfl ?_
              refine z_ifeqB (tgt := 75) hx hb dX7_layOrders_42 (by decide) (fun c_14 => ?_) (fun c_14 => ?_)
              · have h9 : True := trivial
                have hSe_15 : sA (sA (sA (sA (sA S 9 g9) 10 g10) 7 od) 8 (fun _ => om)) 9 f_13 = sA (sA (sA (sA S 9 f_13) 10 g10) 7 od) 8 (fun _ => om) := by
                  funext k8
                  by_cases e80 : k8 = 9
                  · subst e80; first | rfl | (funext j8; rfl)
                  by_cases e81 : k8 = 10
                  · subst e81; first | rfl | (funext j8; rfl)
                  by_cases e82 : k8 = 7
                  · subst e82; first | rfl | (funext j8; rfl)
                  by_cases e83 : k8 = 8
                  · subst e83; funext j8; first | rfl | exact hsc_8 j8
                  simp [sA, e80, e81, e82, e83]
                rw [hSe_15] at hP hR
                exact cut_75 om f_13 od _ _ _ (by rw [pfx_f (by rw [← pB_c (fdP_c hro)]; exact c_14)]; exact hom) (by rw [pfx_f (by rw [← pB_c (fdP_c hro)]; exact c_14)]; exact hod) hP hR hS (lv_sub hl [0] rfl)
              · have h9 : True := trivial
                have hfd := pB_t.mp (show pB (fdP n g10) = true by assumption)
                have hfb : pB (fdP n (rowL (U i))) = true := pB_t.mpr ((fdP_c hro).mp hfd)
                have hpe := pfx_t hfb
                have hlen : (pfx n U (i + 1)).length = (pfx n U i).length + 1 := by rw [hpe, List.length_append]; rfl
                have hcr := cdF_r (prm8 hn7 hpg)
                have h88 := p8 n (by omega)
                refine lv_aload_n hx hb dX7_layOrders_45 rfl (lv_at hl 0 rfl) ?_
                refine va_get (D := D) (ci := 7) (v := .ref (ad 7)) (C := RX7) (T := TX7) (N := 26) hx hb hT inX7 hown hK hP 0 rfl rfl 7 (by decide) (hT _ q_679) (fun _ h9 => h9) rfl dX7_layOrders_46 ?_
                refine lv_aload_n hx hb dX7_layOrders_49 rfl (lv_at hl 0 rfl) ?_
                refine va_get (D := D) (ci := 7) (v := .int (zI (om))) (C := RX7) (T := TX7) (N := 26) hx hb hT inX7 hown hK hP 0 rfl rfl 8 (by decide) (hT _ q_680) (fun _ h9 => h9) rfl dX7_layOrders_50 ?_
                refine lv_aload_n hx hb dX7_layOrders_53 rfl (lv_at hl 0 rfl) ?_
                refine va_get (D := D) (ci := 7) (v := .ref (ad 10)) (C := RX7) (T := TX7) (N := 26) hx hb hT inX7 hown hK hP 0 rfl rfl 10 (by decide) (hT _ q_682) (fun _ h9 => h9) rfl dX7_layOrders_54 ?_
                refine lv_aload_n hx hb dX7_layOrders_57 rfl (lv_at hl 0 rfl) ?_
                have g_16 : -2147483648 ≤ S 2 0 ∧ S 2 0 < 2147483648 := hR 2 0 (by decide)
                refine va_get (D := D) (ci := 7) (v := .int (zI (S 2 0))) (C := RX7) (T := TX7) (N := 26) hx hb hT inX7 hown hK hP 0 rfl rfl 2 (by decide) (hT _ q_674) (fun _ h9 => h9) rfl dX7_layOrders_58 ?_
                refine g_callSi (As := [.ref (ad 10), .int (zI (S 2 0))]) (rest := [.int (zI (om)), .ref (ad 7)]) ⟨hx, hb, hml, hown, hts⟩ (k_X7_codeOf_10 l D cI ad hinj (sA (sA (sA (sA (sA S 9 g9) 10 g10) 7 od) 8 (fun _ => om)) 9 f_13) hR n (S 2 0) (by omega) (by omega)) (cwS 2 hts (gS hsub q_793 q_794 q_8 q_795) rfl rfl rfl hdX7_codeOf ⟨Nat.le_of_ble_eq_true rfl, Nat.le_of_ble_eq_true rfl⟩) (mEb D cI) (mEk D cI (mA ad)) hE hP hS rfl hl.1 rfl (Nat.le_of_ble_eq_true rfl) dX7_layOrders_61 ⟨Nat.le_of_ble_eq_true rfl, Nat.le_of_ble_eq_true rfl⟩ (fun r_17 S_18 H locs hq_19 hP hR hS _ => ?_)
                obtain ⟨hs9, rfl⟩ := hq_19
                obtain rfl := hs9.symm
                refine z_top (b := cdF (g10) n) rfl ?_
                refine z_ast (f := (sA (sA (sA (sA (sA S 9 g9) 10 g10) 7 od) 8 (fun _ => om)) 9 f_13) 7) (i := om) (v := cdF (g10) n) hx hb hK hP (mD hinj cI _) hS 4 0 rfl rfl (by omega) (by omega) (by decide) dX7_layOrders_64 (fun H locs hP hS => ?_)
                have hP : va_P D vwCl (mW cI ad (sA (sA (sA (sA (sA (sA S 9 g9) 10 g10) 7 od) 8 (fun _ => om)) 9 f_13) 7 (uZ od (om).toNat (cdF (g10) n)))) H := hP
                have hR : RS (sA (sA (sA (sA (sA (sA S 9 g9) 10 g10) 7 od) 8 (fun _ => om)) 9 f_13) 7 (uZ od (om).toNat (cdF (g10) n))) := hR.put (by omega) (by omega)
                refine lv_aload_n hx hb dX7_layOrders_65 rfl (lv_at hl 0 rfl) ?_
                refine lv_dup hx hb dX7_layOrders_66 rfl ?_
                refine va_get (D := D) (ci := 7) (v := .int (zI (om))) (C := RX7) (T := TX7) (N := 26) hx hb hT inX7 hown hK hP 0 rfl rfl 8 (by decide) (hT _ q_680) (fun _ h9 => h9) rfl dX7_layOrders_67 ?_
                refine z_iconst hx hb dX7_layOrders_70 ?_
                refine z_iadd hx hb dX7_layOrders_71 ?_
                refine va_put (D := D) (ci := 7) (v := .int (zI (om + 1))) (ty := .int) (C := RX7) (T := TX7) (N := 26) hx hb hT inX7 tyX7 tyX7_ok nmX7 hown hK hP (mD hinj cI _) hS 0 rfl rfl 8 (by decide) (hT _ q_680) (fun _ h9 => h9) rfl (by decide +kernel) rfl rfl (Nat.le_of_ble_eq_true rfl) dX7_layOrders_72 (fun H locs hP _ hS => ?_)
                have hP : va_P D vwCl (mW cI ad (sA (sA (sA (sA (sA (sA (sA S 9 g9) 10 g10) 7 od) 8 (fun _ => om)) 9 f_13) 7 (uZ od (om).toNat (cdF (g10) n))) 8 (fun _ => om + 1))) H := hP
                have hR : RS (sA (sA (sA (sA (sA (sA (sA S 9 g9) 10 g10) 7 od) 8 (fun _ => om)) 9 f_13) 7 (uZ od (om).toNat (cdF (g10) n))) 8 (fun _ => om + 1)) := hR.one (by omega) (by omega)
                have hSe_20 : sA (sA (sA (sA (sA (sA (sA S 9 g9) 10 g10) 7 od) 8 (fun _ => om)) 9 f_13) 7 (uZ od (om).toNat (cdF (g10) n))) 8 (fun _ => om + 1) = sA (sA (sA (sA S 9 f_13) 10 g10) 7 (uZ od (om).toNat (cdF (g10) n))) 8 (fun _ => om + 1) := by
                  funext k8
                  by_cases e80 : k8 = 9
                  · subst e80; first | rfl | (funext j8; rfl)
                  by_cases e81 : k8 = 10
                  · subst e81; first | rfl | (funext j8; rfl)
                  by_cases e82 : k8 = 7
                  · subst e82; first | rfl | (funext j8; rfl)
                  by_cases e83 : k8 = 8
                  · subst e83; funext j8; first | rfl | exact hsc_8 j8
                  simp [sA, e80, e81, e82, e83]
                rw [hSe_20] at hP hR
                exact cut_75 (om + 1) f_13 (uZ od (om).toNat (cdF (g10) n)) _ _ _ (by rw [hlen, hom]; rfl) (fun a ha => by rw [hpe, show om.toNat = (pfx n U i).length by omega]; unfold uZ; split <;> first | (rename_i e9; rw [e9, getD_app_e]; exact cdF_c hro) | (rename_i e9; rw [getD_app_l (by omega)]; exact hod a (by omega))) hP hR hS (lv_sub hl [0] rfl)
        have hSe_21 : sA (sA S 10 f) 8 (fun _ => 0) = sA (sA (sA (sA S 9 (S 9)) 10 f) 7 (S 7)) 8 (fun _ => 0) := by
          funext k8
          by_cases e80 : k8 = 9
          · subst e80; first | rfl | (funext j8; rfl)
          by_cases e81 : k8 = 10
          · subst e81; first | rfl | (funext j8; rfl)
          by_cases e82 : k8 = 7
          · subst e82; first | rfl | (funext j8; rfl)
          by_cases e83 : k8 = 8
          · subst e83; funext j8; first | rfl | exact hsc_8 j8
          simp [sA, e80, e81, e82, e83]
        rw [hSe_21] at hP hR
        exact cut_30 _ 0 true 0 (S 9) f (S 7) _ _ _ (by omega) (fun _ => u1) (fun e => by cases e) (fun _ a ha => by rw [hf a (by omega), u2 a ha]) (rfl) (fun a ha => absurd ha (Nat.not_lt_zero a)) (Nat.lt_succ_self _) hP hR hS (lv_sub hl [1, 0] rfl)
      · have h9 : True := trivial
        refine lv_aload_n hx hb dX7_layOrders_10 rfl (lv_at hl 0 rfl) ?_
        refine va_get (D := D) (ci := 7) (v := .ref (ad 10)) (C := RX7) (T := TX7) (N := 26) hx hb hT inX7 hown hK hP 0 rfl rfl 10 (by decide) (hT _ q_682) (fun _ h9 => h9) rfl dX7_layOrders_11 ?_
        refine lv_iload_n hx hb dX7_layOrders_14 rfl (lv_at hl 1 rfl) ?_
        refine lv_iload_n hx hb dX7_layOrders_15 rfl (lv_at hl 1 rfl) ?_
        refine z_ast (f := (sA S 10 f) 10) (i := ↑j) (v := ↑j) hx hb hK hP (mD hinj cI _) hS 6 0 rfl rfl (by omega) (by omega) (by decide) dX7_layOrders_16 (fun H locs hP hS => ?_)
        have hP : va_P D vwCl (mW cI ad (sA S 10 (uZ f j ↑j))) H := hP
        have hR : RS (sA S 10 (uZ f j ↑j)) := hR.put' (by omega) (by omega)
        refine z_iinc (lv' := [(1, .int (zI (↑j + 1))), (0, .ref (ad 26))]) hx hb dX7_layOrders_17 hl (k := 1) rfl (by decide) rfl (fun ls hl => ?_)
        refine lv_goto (tgt := 2) hx hb dX7_layOrders_20 (by decide) ?_
        exact ih_2 (j + 1) (uZ f j ↑j) _ _ _ (by omega) (fun a ha => by unfold uZ; split <;> first | (rename_i e9; rw [e9]) | exact hf a (by omega)) (by omega) hP hR hS (lv_sub hl [1, 0] rfl)
  have hSe_22 : S = sA S 10 (S 10) := by
    funext k8
    by_cases e80 : k8 = 10
    · subst e80; first | rfl | (funext j8; rfl)
    simp [sA, e80]
  rw [hSe_22] at hP hR
  exact cut_2 _ 0 (S 10) _ _ _ (by omega) (fun j h => absurd h (Nat.not_lt_zero j)) (Nat.lt_succ_self _) hP hR hS (lv_sub hl [1, 0] rfl)
