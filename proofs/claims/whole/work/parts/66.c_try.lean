set_option maxHeartbeats 4000000 in
set_option maxRecDepth 100000 in
theorem k_X1_bestTry (l : Launch) (D : va_G) (cI cZ : ClassId) (ad : Nat → Nat) (az av : Nat) (hinj : cInj ad) (S : St) (hR : RS S) (n N : Nat) (t : Nat → Int) (hT9 : cTab n N t S) (m9 : Nat) (hse : seOK n m9 S) (hnz : n ≠ 0) : Met l yX1_bestTry (Cond.code yX1_bestTry cX1_bestTry 8 (some .int) :: lwT) ({ frames := 3, cells := 0, slots := 0, locals := 68 }) (gPc D (cW cI cZ ad) (cE D cI cZ ad az av) S [.ref (ad 47)]) (va_Qi (fun (r : Int32) (S' : St) => ∃ e31, S' = sA S 31 e31 ∧ ∃ x : Int, argm (fun _ => 0 < cnt (fun k => pB (lkC n (dgF n (t k)) (S 11) (S 12) (S 13) m9)) N) (wtC n N (fun k => lkC n (dgF n (t k)) (S 11) (S 12) (S 13) m9) (fun k v => pl n (dgF n (t k)) v)) (n * n) x ∧ r = zI (trF n x)) (gB D (cW cI cZ ad)) (cA ad)) 0 0 (cA ad) := by
  refine Met.ofW (cc := cX1_bestTry) (maxL := 8) (ret := (some .int)) (by decide) rfl ?_
  intro p e s m args below meth c s₁ B hml hv
  obtain ⟨rfl, hP, hE⟩ := hv
  have hx := B.exec
  have hb := B.bytes
  have hr := B.returns
  have hts := atoms_spec (ws := Cond.code yX1_bestTry cX1_bestTry 8 (some .int) :: lwT) B.pre
  have hT := fun w (h : w ∈ lwT) => hts w (List.mem_cons_of_mem _ h)
  have hsub : ∀ w ∈ lwT, w ∈ (Cond.code yX1_bestTry cX1_bestTry 8 (some .int) :: lwT) := fun w h => List.mem_cons_of_mem _ h
  have hown : s.vm.findClass RX1 = some m.cls := findClass_of_methodNamed B.named
  have hlocks := B.notSynchronized
  have hK : va_K D vwCl [(cI, .int), (cZ, .boolean)] s := hE.1
  have hS : va_S (cA ad) s.heap s.heap [] := va_S.rf
  have hT8 := hT9
  obtain ⟨⟨hn, hN, hn7, hN4⟩, hn0, hO9, hso, htb⟩ := hT9
  have har := cnt_r (fun k => pB (lkC n (dgF n (t k)) (S 11) (S 12) (S 13) m9)) N
  obtain ⟨al, hal⟩ : ∃ al, cnt (fun k => pB (lkC n (dgF n (t k)) (S 11) (S 12) (S 13) m9)) N = al := ⟨_, rfl⟩
  have hl := lv_entry ([.ref (ad 47)]) (n := 8) (Nat.le_of_ble_eq_true rfl)
  rw [lg_entry_eq]
  generalize (lg_sl ([.ref (ad 47)]) ++ List.replicate (8 - (lg_sl ([.ref (ad 47)])).length) Slot.unset).toArray = ls at hl ⊢
  have hl : lv_has ls 8 [(0, .ref (ad 47))] := hl
  refine lv_aload_n hx hb dX1_bestTry_0 rfl (lv_at hl 0 rfl) ?_
  refine g_callVi (As := []) (rest := []) ⟨hx, hb, hml, hown, hts⟩ (k_X1_countThrough l D cI cZ ad az av hinj S hR n N t hT8 m9 hse hnz) (cwV 0 hts (gV hsub q_598 q_600 q_sX1_countThrough q_7 q_601) rfl rfl rfl hdX1_countThrough ⟨Nat.le_of_ble_eq_true rfl, Nat.le_of_ble_eq_true rfl⟩) (cEb D cI cZ ad az av) (cEk D cI cZ ad az av) hE (va_recv (ci := 1) (q0 := 7) hK hP rfl rfl) hP hS rfl hl.1 rfl (Nat.le_of_ble_eq_true rfl) dX1_bestTry_1 ⟨Nat.le_of_ble_eq_true rfl, Nat.le_of_ble_eq_true rfl⟩ (fun r_1 S_2 H locs hq_3 hP hR hS _ => ?_)
  obtain ⟨e_4, rfl, hth_5, rfl⟩ := hq_3
  refine z_top (b := cnt (fun k => pB (lkC n (dgF n (t k)) (S 11) (S 12) (S 13) m9)) N) rfl ?_
  have hth := hth_5
  rw [hal] at har
  refine z_top (b := al) (hal) ?_
  refine lv_istore_n (lv' := [(1, .int (zI (al))), (0, .ref (ad 47))]) hx hb dX1_bestTry_4 rfl hl (by decide) rfl (fun ls hl => ?_)
  refine z_iconst hx hb dX1_bestTry_5 ?_
  refine lv_istore_n (lv' := [(2, .int (zI (-1))), (1, .int (zI (al))), (0, .ref (ad 47))]) hx hb dX1_bestTry_6 rfl hl (by decide) rfl (fun ls hl => ?_)
  refine lv_iload_n hx hb dX1_bestTry_7 rfl (lv_at hl 1 rfl) ?_
  refine lv_istore_n (lv' := [(3, .int (zI (al))), (2, .int (zI (-1))), (1, .int (zI (al))), (0, .ref (ad 47))]) hx hb dX1_bestTry_8 rfl hl (by decide) rfl (fun ls hl => ?_)
  refine z_iconst hx hb dX1_bestTry_9 ?_
  refine lv_istore (lv' := [(4, .int (zI (1))), (3, .int (zI (al))), (2, .int (zI (-1))), (1, .int (zI (al))), (0, .ref (ad 47))]) hx hb dX1_bestTry_10 hl (by decide) rfl (fun ls hl => ?_)
  have cut_12 : ∀ (k9 : Nat) (d : Nat) (x : Int) (z2 : Int) (fw : Int) (H : Heap) (locs : List Loc) (ls : Array Slot), (1 ≤ d ∧ d ≤ n + 1) → (argm (fun _ => 0 < cnt (fun k => pB (lkC n (dgF n (t k)) (S 11) (S 12) (S 13) m9)) N) (wtC n N (fun k => lkC n (dgF n (t k)) (S 11) (S 12) (S 13) m9) (fun k v => pl n (dgF n (t k)) v)) ((d - 1) * n + 0) x) → (z2 = trF n x) → ((x = -1 → fw = al) ∧ (x ≠ -1 → fw = (wtC n N (fun k => lkC n (dgF n (t k)) (S 11) (S 12) (S 13) m9) (fun k v => pl n (dgF n (t k)) v)) x.toNat)) → (0 ≤ fw ∧ fw ≤ 462) → (n + 1 - d) < k9 → va_P D vwCl (cW cI cZ ad (sA S 31 e_4)) H → RS (sA S 31 e_4) → va_S (cA ad) s.heap H locs → lv_has ls 8 [(0, .ref (ad 47)), (1, .int (zI (al))), (2, .int (zI (z2))), (3, .int (zI (fw))), (4, .int (zI (↑d)))] → W p l e (headSpec (Cond.code yX1_bestTry cX1_bestTry 8 (some .int) :: lwT) ({ frames := 3, cells := 0, slots := 0, locals := 68 })).room s m ([.ref (ad 47)] : List Value).toArray below meth c H locs 0 0 (MQ below (va_Qi (fun (r : Int32) (S' : St) => ∃ e31, S' = sA S 31 e31 ∧ ∃ x : Int, argm (fun _ => 0 < cnt (fun k => pB (lkC n (dgF n (t k)) (S 11) (S 12) (S 13) m9)) N) (wtC n N (fun k => lkC n (dgF n (t k)) (S 11) (S 12) (S 13) m9) (fun k v => pl n (dgF n (t k)) v)) (n * n) x ∧ r = zI (trF n x)) (gB D (cW cI cZ ad)) (cA ad)) ([.ref (ad 47)] : List Value).toArray s 0 0 (cA ad)) (F0 m 12 ls []) := by
    intro k9
    induction k9 with
    | zero =>
      intro d x z2 fw H locs ls hd hm hz2 hfw hfr hk9 hP hR hS hl
      exact absurd hk9 (Nat.not_lt_zero _)
    | succ k9 ih_12 =>
      intro d x z2 fw H locs ls hd hm hz2 hfw hfr hk9 hP hR hS hl
      refine lv_iload hx hb dX1_bestTry_12 (lv_at hl 4 rfl) ?_
      refine lv_aload_n hx hb dX1_bestTry_14 rfl (lv_at hl 0 rfl) ?_
      refine va_get (D := D) (ci := 1) (v := .ref (ad 42)) (C := RX1) (T := TX1) (N := 3) hx hb hT inX1 hown hK hP 7 rfl rfl 0 (by decide) (hT _ q_166) (fun _ h9 => h9) rfl dX1_bestTry_15 ?_
      have g_6 : -2147483648 ≤ S 2 0 ∧ S 2 0 < 2147483648 := hR 2 0 (by decide)
      refine va_get (D := D) (ci := 0) (v := .int (zI (S 2 0))) (C := RX0) (T := TX0) (N := 5) hx hb hT inX0 hown hK hP 2 rfl rfl 0 (by decide) (hT _ q_46) (fun _ h9 => h9) rfl dX1_bestTry_18 ?_
      refine z_icmp_gt (tgt := 104) hx hb (by omega) (by omega) (by omega) (by omega) dX1_bestTry_21 (by decide) (fun c_7 => ?_) (fun c_7 => ?_)
      · have h9 : True := trivial
        refine lv_iload_n hx hb dX1_bestTry_104 rfl (lv_at hl 2 rfl) ?_
        exact g_iret (S1 := sA S 31 e_4) (v := zI (z2)) hx hb hr hlocks hP hR hS (⟨_, rfl, x, by rw [show d = n + 1 by omega, show n + 1 - 1 = n by omega, Nat.add_zero] at hm; exact hm, by rw [hz2]⟩) dX1_bestTry_105
      · have h9 : True := trivial
        refine z_iconst hx hb dX1_bestTry_24 ?_
        refine lv_istore (lv' := [(5, .int (zI (0))), (0, .ref (ad 47)), (1, .int (zI (al))), (2, .int (zI (z2))), (3, .int (zI (fw))), (4, .int (zI (↑d)))]) hx hb dX1_bestTry_25 hl (by decide) rfl (fun ls hl => ?_)
        have cut_27 : ∀ (k9 : Nat) (j : Nat) (kk : Nat) (x : Int) (z2 : Int) (fw : Int) (H : Heap) (locs : List Loc) (ls : Array Slot), (j ≤ n ∧ d ≤ n) → (kk = (d - 1) * n + j) → (argm (fun _ => 0 < cnt (fun k => pB (lkC n (dgF n (t k)) (S 11) (S 12) (S 13) m9)) N) (wtC n N (fun k => lkC n (dgF n (t k)) (S 11) (S 12) (S 13) m9) (fun k v => pl n (dgF n (t k)) v)) kk x) → (z2 = trF n x) → ((x = -1 → fw = al) ∧ (x ≠ -1 → fw = (wtC n N (fun k => lkC n (dgF n (t k)) (S 11) (S 12) (S 13) m9) (fun k v => pl n (dgF n (t k)) v)) x.toNat)) → (0 ≤ fw ∧ fw ≤ 462) → (n - j) < k9 → va_P D vwCl (cW cI cZ ad (sA S 31 e_4)) H → RS (sA S 31 e_4) → va_S (cA ad) s.heap H locs → lv_has ls 8 [(0, .ref (ad 47)), (1, .int (zI (al))), (2, .int (zI (z2))), (3, .int (zI (fw))), (4, .int (zI (↑d))), (5, .int (zI (↑j)))] → W p l e (headSpec (Cond.code yX1_bestTry cX1_bestTry 8 (some .int) :: lwT) ({ frames := 3, cells := 0, slots := 0, locals := 68 })).room s m ([.ref (ad 47)] : List Value).toArray below meth c H locs 0 0 (MQ below (va_Qi (fun (r : Int32) (S' : St) => ∃ e31, S' = sA S 31 e31 ∧ ∃ x : Int, argm (fun _ => 0 < cnt (fun k => pB (lkC n (dgF n (t k)) (S 11) (S 12) (S 13) m9)) N) (wtC n N (fun k => lkC n (dgF n (t k)) (S 11) (S 12) (S 13) m9) (fun k v => pl n (dgF n (t k)) v)) (n * n) x ∧ r = zI (trF n x)) (gB D (cW cI cZ ad)) (cA ad)) ([.ref (ad 47)] : List Value).toArray s 0 0 (cA ad)) (F0 m 27 ls []) := by
          intro k9
          induction k9 with
          | zero =>
            intro j kk x z2 fw H locs ls hj hkk hm hz2 hfw hfr hk9 hP hR hS hl
            exact absurd hk9 (Nat.not_lt_zero _)
          | succ k9 ih_27 =>
            intro j kk x z2 fw H locs ls hj hkk hm hz2 hfw hfr hk9 hP hR hS hl
            have hk49 := dn_le hn7 hd.1 hj.2 hj.1
            have hxr := argm_r hm
            have htr := trF_r (n := n) (x := x) (by omega) hn7 (by omega)
            rw [← hz2] at htr
            have hzx : z2 = -1 → x = -1 := htr.1
            have hxz : x = -1 → z2 = -1 := fun e => by rw [hz2, e]; rfl
            refine lv_iload hx hb dX1_bestTry_27 (lv_at hl 5 rfl) ?_
            refine lv_aload_n hx hb dX1_bestTry_29 rfl (lv_at hl 0 rfl) ?_
            refine va_get (D := D) (ci := 1) (v := .ref (ad 42)) (C := RX1) (T := TX1) (N := 3) hx hb hT inX1 hown hK hP 7 rfl rfl 0 (by decide) (hT _ q_166) (fun _ h9 => h9) rfl dX1_bestTry_30 ?_
            have g_8 : -2147483648 ≤ S 2 0 ∧ S 2 0 < 2147483648 := hR 2 0 (by decide)
            refine va_get (D := D) (ci := 0) (v := .int (zI (S 2 0))) (C := RX0) (T := TX0) (N := 5) hx hb hT inX0 hown hK hP 2 rfl rfl 0 (by decide) (hT _ q_46) (fun _ h9 => h9) rfl dX1_bestTry_33 ?_
            refine z_icmp_ge (tgt := 98) hx hb (by omega) (by omega) (by omega) (by omega) dX1_bestTry_36 (by decide) (fun c_9 => ?_) (fun c_9 => ?_)
            · have h9 : True := trivial
              refine z_iinc (lv' := [(4, .int (zI (↑d + 1))), (0, .ref (ad 47)), (1, .int (zI (al))), (2, .int (zI (z2))), (3, .int (zI (fw))), (5, .int (zI (↑j)))]) hx hb dX1_bestTry_98 hl (k := 4) rfl (by decide) rfl (fun ls hl => ?_)
              refine lv_goto (tgt := 12) hx hb dX1_bestTry_101 (by decide) ?_
              exact ih_12 (d + 1) x z2 fw _ _ _ (by omega) (by rw [← dn_s (n := n) hd.1]; rw [hkk, show j = n by omega] at hm; exact hm) (hz2) (hfw) (hfr) (by omega) hP hR hS (lv_sub hl [1, 2, 3, 4, 0] rfl)
            · have h9 : True := trivial
              have hwk : (wtC n N (fun k => lkC n (dgF n (t k)) (S 11) (S 12) (S 13) m9) (fun k v => pl n (dgF n (t k)) v)) ((d - 1) * n + j) = wsF al (ltC (fun k => lkC n (dgF n (t k)) (S 11) (S 12) (S 13) m9) (fun k v => pl n (dgF n (t k)) v) d j N) := by rw [wtC_k (by omega) (by omega)]; exact congrArg (fun a => wsF a _) hal
              have hlr := ltC_r (fun k => lkC n (dgF n (t k)) (S 11) (S 12) (S 13) m9) (fun k v => pl n (dgF n (t k)) v) d j N
              have hwr := wsF_r (a := al) (y := ltC (fun k => lkC n (dgF n (t k)) (S 11) (S 12) (S 13) m9) (fun k v => pl n (dgF n (t k)) v) d j N) (by omega) (by omega)
              refine lv_aload_n hx hb dX1_bestTry_39 rfl (lv_at hl 0 rfl) ?_
              refine va_get (D := D) (ci := 1) (v := .ref (ad 31)) (C := RX1) (T := TX1) (N := 3) hx hb hT inX1 hown hK hP 7 rfl rfl 2 (by decide) (hT _ q_168) (fun _ h9 => h9) rfl dX1_bestTry_40 ?_
              refine lv_iload hx hb dX1_bestTry_43 (lv_at hl 4 rfl) ?_
              refine s_callSi (As := [.int (zI (↑d))]) (rest := [.ref (ad 31)]) ⟨hx, hb, hml, hown, hts⟩ (k_X1_rowOf l ↑d) (cwS 1 hts (gS hsub q_602 q_603 q_7 q_604) rfl rfl rfl hdX1_rowOf ⟨Nat.le_of_ble_eq_true rfl, Nat.le_of_ble_eq_true rfl⟩) rfl hl.1 rfl (Nat.le_of_ble_eq_true rfl) dX1_bestTry_45 ⟨Nat.le_of_ble_eq_true rfl, Nat.le_of_ble_eq_true rfl⟩ (fun r_10 hq_12 => ?_)
              rw [hq_12]
              refine lv_iload hx hb dX1_bestTry_48 (lv_at hl 5 rfl) ?_
              refine z_iadd hx hb dX1_bestTry_50 ?_
              refine z_top (b := ↑(7 * (d - 1) + j)) (by omega) ?_
              have g_13 : -2147483648 ≤ e_4 (7 * (d - 1) + j) ∧ e_4 (7 * (d - 1) + j) < 2147483648 := hR 31 ((7 * (d - 1) + j)) (by decide)
              refine z_ald (f := e_4) hx hb hK hP 26 0 rfl rfl (by omega) (by omega) (by decide) (j := (7 * (d - 1) + j)) rfl dX1_bestTry_51 ?_
              refine z_top (b := ltC (fun k => lkC n (dgF n (t k)) (S 11) (S 12) (S 13) m9) (fun k v => pl n (dgF n (t k)) v) d j N) (by have h7 := hth (d - 1) j (by omega) (by omega); rw [show d - 1 + 1 = d by omega] at h7; exact h7) ?_
              refine lv_istore (lv' := [(6, .int (zI (ltC (fun k => lkC n (dgF n (t k)) (S 11) (S 12) (S 13) m9) (fun k v => pl n (dgF n (t k)) v) d j N))), (0, .ref (ad 47)), (1, .int (zI (al))), (2, .int (zI (z2))), (3, .int (zI (fw))), (4, .int (zI (↑d))), (5, .int (zI (↑j)))]) hx hb dX1_bestTry_52 hl (by decide) rfl (fun ls hl => ?_)
              refine lv_iload hx hb dX1_bestTry_54 (lv_at hl 0 rfl) ?_
              refine lv_iload_n hx hb dX1_bestTry_56 rfl (lv_at hl 2 rfl) ?_
              refine lv_iload hx hb dX1_bestTry_57 (lv_at hl 0 rfl) ?_
              refine z_isub hx hb dX1_bestTry_59 ?_
              refine z_mmax hx hb (hml.trans hl.1.symm) hown (hT _ q_605) (hT _ q_258) (hT _ q_11) (hT _ q_mmax) (Nat.le_of_ble_eq_true rfl) (Nat.le_of_ble_eq_true rfl) (Nat.le_of_ble_eq_true rfl) (Nat.le_of_ble_eq_true rfl) (by omega) (by omega) (by omega) (by omega) dX1_bestTry_60 ?_
              refine z_top (b := wsF al (ltC (fun k => lkC n (dgF n (t k)) (S 11) (S 12) (S 13) m9) (fun k v => pl n (dgF n (t k)) v) d j N)) (max_ws) ?_
              refine lv_istore (lv' := [(7, .int (zI (wsF al (ltC (fun k => lkC n (dgF n (t k)) (S 11) (S 12) (S 13) m9) (fun k v => pl n (dgF n (t k)) v) d j N)))), (6, .int (zI (ltC (fun k => lkC n (dgF n (t k)) (S 11) (S 12) (S 13) m9) (fun k v => pl n (dgF n (t k)) v) d j N))), (0, .ref (ad 47)), (1, .int (zI (al))), (2, .int (zI (z2))), (3, .int (zI (fw))), (4, .int (zI (↑d))), (5, .int (zI (↑j)))]) hx hb dX1_bestTry_63 hl (by decide) rfl (fun ls hl => ?_)
              refine lv_iload_n hx hb dX1_bestTry_65 rfl (lv_at hl 3 rfl) ?_
              refine z_if_le (tgt := 92) hx hb (by omega) (by omega) dX1_bestTry_66 (by decide) (fun c_14 => ?_) (fun c_14 => ?_)
              · have h9 : True := trivial
                refine z_iinc (lv' := [(5, .int (zI (↑j + 1))), (7, .int (zI (wsF al (ltC (fun k => lkC n (dgF n (t k)) (S 11) (S 12) (S 13) m9) (fun k v => pl n (dgF n (t k)) v) d j N)))), (6, .int (zI (ltC (fun k => lkC n (dgF n (t k)) (S 11) (S 12) (S 13) m9) (fun k v => pl n (dgF n (t k)) v) d j N))), (0, .ref (ad 47)), (1, .int (zI (al))), (2, .int (zI (z2))), (3, .int (zI (fw))), (4, .int (zI (↑d)))]) hx hb dX1_bestTry_92 hl (k := 7) rfl (by decide) rfl (fun ls hl => ?_)
                refine lv_goto (tgt := 27) hx hb dX1_bestTry_95 (by decide) ?_
                exact ih_27 (j + 1) (kk + 1) x z2 fw _ _ _ (by omega) (by omega) (argm_s hm (fun h => by omega)) (hz2) (hfw) (by omega) (by omega) hP hR hS (lv_sub hl [3, 4, 5, 6, 7, 0] rfl)
              · have h9 : True := trivial
                refine lv_iload_n hx hb dX1_bestTry_69 rfl (lv_at hl 4 rfl) ?_
                refine z_iconst hx hb dX1_bestTry_70 ?_
                refine z_icmp_eq (tgt := 80) hx hb (by omega) (by omega) (by omega) (by omega) dX1_bestTry_71 (by decide) (fun c_15 => ?_) (fun c_15 => ?_)
                · have h9 : True := trivial
                  refine z_bipush hx hb dX1_bestTry_80 (by decide) ?_
                  refine lv_iload hx hb dX1_bestTry_82 (lv_at hl 6 rfl) ?_
                  refine z_imul hx hb dX1_bestTry_84 ?_
                  refine lv_iload hx hb dX1_bestTry_85 (lv_at hl 7 rfl) ?_
                  refine z_iadd hx hb dX1_bestTry_87 ?_
                  refine lv_istore_n (lv' := [(2, .int (zI ((10 * ↑d) + ↑j))), (7, .int (zI (wsF al (ltC (fun k => lkC n (dgF n (t k)) (S 11) (S 12) (S 13) m9) (fun k v => pl n (dgF n (t k)) v) d j N)))), (6, .int (zI (ltC (fun k => lkC n (dgF n (t k)) (S 11) (S 12) (S 13) m9) (fun k v => pl n (dgF n (t k)) v) d j N))), (0, .ref (ad 47)), (1, .int (zI (al))), (3, .int (zI (fw))), (4, .int (zI (↑d))), (5, .int (zI (↑j)))]) hx hb dX1_bestTry_88 rfl hl (by decide) rfl (fun ls hl => ?_)
                  refine lv_iload hx hb dX1_bestTry_89 (lv_at hl 1 rfl) ?_
                  refine lv_istore_n (lv' := [(3, .int (zI (wsF al (ltC (fun k => lkC n (dgF n (t k)) (S 11) (S 12) (S 13) m9) (fun k v => pl n (dgF n (t k)) v) d j N)))), (2, .int (zI ((10 * ↑d) + ↑j))), (7, .int (zI (wsF al (ltC (fun k => lkC n (dgF n (t k)) (S 11) (S 12) (S 13) m9) (fun k v => pl n (dgF n (t k)) v) d j N)))), (6, .int (zI (ltC (fun k => lkC n (dgF n (t k)) (S 11) (S 12) (S 13) m9) (fun k v => pl n (dgF n (t k)) v) d j N))), (0, .ref (ad 47)), (1, .int (zI (al))), (4, .int (zI (↑d))), (5, .int (zI (↑j)))]) hx hb dX1_bestTry_91 rfl hl (by decide) rfl (fun ls hl => ?_)
                  refine z_iinc (lv' := [(5, .int (zI (↑j + 1))), (3, .int (zI (wsF al (ltC (fun k => lkC n (dgF n (t k)) (S 11) (S 12) (S 13) m9) (fun k v => pl n (dgF n (t k)) v) d j N)))), (2, .int (zI ((10 * ↑d) + ↑j))), (7, .int (zI (wsF al (ltC (fun k => lkC n (dgF n (t k)) (S 11) (S 12) (S 13) m9) (fun k v => pl n (dgF n (t k)) v) d j N)))), (6, .int (zI (ltC (fun k => lkC n (dgF n (t k)) (S 11) (S 12) (S 13) m9) (fun k v => pl n (dgF n (t k)) v) d j N))), (0, .ref (ad 47)), (1, .int (zI (al))), (4, .int (zI (↑d)))]) hx hb dX1_bestTry_92 hl (k := 7) rfl (by decide) rfl (fun ls hl => ?_)
                  refine lv_goto (tgt := 27) hx hb dX1_bestTry_95 (by decide) ?_
                  exact ih_27 (j + 1) (kk + 1) ((kk : Int)) ((10 * ↑d) + ↑j) (wsF al (ltC (fun k => lkC n (dgF n (t k)) (S 11) (S 12) (S 13) m9) (fun k v => pl n (dgF n (t k)) v) d j N)) _ _ _ (by omega) (by omega) (argm_n hm (by omega) (fun b e => by omega)) (by rw [hkk, trF_k (by omega) (by omega)]) (⟨fun e => by omega, fun _ => by rw [hkk, show ((((d - 1) * n + j : Nat)) : Int).toNat = (d - 1) * n + j by omega, hwk]⟩) (by omega) (by omega) hP hR hS (lv_sub hl [5, 6, 2, 1, 7, 0] rfl)
                · have h9 : True := trivial
                  refine lv_iload hx hb dX1_bestTry_74 (lv_at hl 0 rfl) ?_
                  refine lv_iload_n hx hb dX1_bestTry_76 rfl (lv_at hl 5 rfl) ?_
                  refine z_icmp_ge (tgt := 92) hx hb (by omega) (by omega) (by omega) (by omega) dX1_bestTry_77 (by decide) (fun c_16 => ?_) (fun c_16 => ?_)
                  · have h9 : True := trivial
                    refine z_iinc (lv' := [(5, .int (zI (↑j + 1))), (7, .int (zI (wsF al (ltC (fun k => lkC n (dgF n (t k)) (S 11) (S 12) (S 13) m9) (fun k v => pl n (dgF n (t k)) v) d j N)))), (6, .int (zI (ltC (fun k => lkC n (dgF n (t k)) (S 11) (S 12) (S 13) m9) (fun k v => pl n (dgF n (t k)) v) d j N))), (0, .ref (ad 47)), (1, .int (zI (al))), (2, .int (zI (z2))), (3, .int (zI (fw))), (4, .int (zI (↑d)))]) hx hb dX1_bestTry_92 hl (k := 7) rfl (by decide) rfl (fun ls hl => ?_)
                    refine lv_goto (tgt := 27) hx hb dX1_bestTry_95 (by decide) ?_
                    exact ih_27 (j + 1) (kk + 1) x z2 fw _ _ _ (by omega) (by omega) (argm_k hm (by omega) (fun b e => by have h7 := hfw.2 (by omega); rw [show x.toNat = b by omega] at h7; rw [← h7, hkk, hwk]; omega)) (hz2) (hfw) (by omega) (by omega) hP hR hS (lv_sub hl [3, 4, 5, 6, 7, 0] rfl)
                  · have h9 : True := trivial
                    refine z_bipush hx hb dX1_bestTry_80 (by decide) ?_
                    refine lv_iload hx hb dX1_bestTry_82 (lv_at hl 6 rfl) ?_
                    refine z_imul hx hb dX1_bestTry_84 ?_
                    refine lv_iload hx hb dX1_bestTry_85 (lv_at hl 7 rfl) ?_
                    refine z_iadd hx hb dX1_bestTry_87 ?_
                    refine lv_istore_n (lv' := [(2, .int (zI ((10 * ↑d) + ↑j))), (7, .int (zI (wsF al (ltC (fun k => lkC n (dgF n (t k)) (S 11) (S 12) (S 13) m9) (fun k v => pl n (dgF n (t k)) v) d j N)))), (6, .int (zI (ltC (fun k => lkC n (dgF n (t k)) (S 11) (S 12) (S 13) m9) (fun k v => pl n (dgF n (t k)) v) d j N))), (0, .ref (ad 47)), (1, .int (zI (al))), (3, .int (zI (fw))), (4, .int (zI (↑d))), (5, .int (zI (↑j)))]) hx hb dX1_bestTry_88 rfl hl (by decide) rfl (fun ls hl => ?_)
                    refine lv_iload hx hb dX1_bestTry_89 (lv_at hl 1 rfl) ?_
                    refine lv_istore_n (lv' := [(3, .int (zI (wsF al (ltC (fun k => lkC n (dgF n (t k)) (S 11) (S 12) (S 13) m9) (fun k v => pl n (dgF n (t k)) v) d j N)))), (2, .int (zI ((10 * ↑d) + ↑j))), (7, .int (zI (wsF al (ltC (fun k => lkC n (dgF n (t k)) (S 11) (S 12) (S 13) m9) (fun k v => pl n (dgF n (t k)) v) d j N)))), (6, .int (zI (ltC (fun k => lkC n (dgF n (t k)) (S 11) (S 12) (S 13) m9) (fun k v => pl n (dgF n (t k)) v) d j N))), (0, .ref (ad 47)), (1, .int (zI (al))), (4, .int (zI (↑d))), (5, .int (zI (↑j)))]) hx hb dX1_bestTry_91 rfl hl (by decide) rfl (fun ls hl => ?_)
                    refine z_iinc (lv' := [(5, .int (zI (↑j + 1))), (3, .int (zI (wsF al (ltC (fun k => lkC n (dgF n (t k)) (S 11) (S 12) (S 13) m9) (fun k v => pl n (dgF n (t k)) v) d j N)))), (2, .int (zI ((10 * ↑d) + ↑j))), (7, .int (zI (wsF al (ltC (fun k => lkC n (dgF n (t k)) (S 11) (S 12) (S 13) m9) (fun k v => pl n (dgF n (t k)) v) d j N)))), (6, .int (zI (ltC (fun k => lkC n (dgF n (t k)) (S 11) (S 12) (S 13) m9) (fun k v => pl n (dgF n (t k)) v) d j N))), (0, .ref (ad 47)), (1, .int (zI (al))), (4, .int (zI (↑d)))]) hx hb dX1_bestTry_92 hl (k := 7) rfl (by decide) rfl (fun ls hl => ?_)
                    refine lv_goto (tgt := 27) hx hb dX1_bestTry_95 (by decide) ?_
                    exact ih_27 (j + 1) (kk + 1) ((kk : Int)) ((10 * ↑d) + ↑j) (wsF al (ltC (fun k => lkC n (dgF n (t k)) (S 11) (S 12) (S 13) m9) (fun k v => pl n (dgF n (t k)) v) d j N)) _ _ _ (by omega) (by omega) (argm_n hm (by omega) (fun b e => by have h7 := hfw.2 (by omega); rw [show x.toNat = b by omega] at h7; rw [← h7, hkk, hwk]; omega)) (by rw [hkk, trF_k (by omega) (by omega)]) (⟨fun e => by omega, fun _ => by rw [hkk, show ((((d - 1) * n + j : Nat)) : Int).toNat = (d - 1) * n + j by omega, hwk]⟩) (by omega) (by omega) hP hR hS (lv_sub hl [5, 6, 2, 1, 7, 0] rfl)
        exact cut_27 _ 0 ((d - 1) * n + 0) x z2 fw _ _ _ (by omega) (rfl) (hm) (hz2) (hfw) (hfr) (Nat.lt_succ_self _) hP hR hS (lv_sub hl [1, 2, 3, 4, 5, 0] rfl)
  exact cut_12 _ 1 (-1) (-1) al _ _ _ (by omega) (by rw [show (1 - 1) * n + 0 = 0 by omega]; exact argm_0) (rfl) (⟨fun _ => rfl, fun e => absurd rfl e⟩) (by omega) (Nat.lt_succ_self _) hP hR hS (lv_sub hl [4, 3, 2, 1, 0] rfl)
