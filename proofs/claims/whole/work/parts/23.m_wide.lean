set_option maxHeartbeats 4000000 in
set_option maxRecDepth 100000 in
theorem k_X7_isFolded_10 (l : Launch) (D : va_G) (cI : ClassId) (ad : Nat → Nat) (hinj : mInj ad) (S : St) (hR : RS S) (n : Nat) (hn : S 2 0 = ↑n) (hn7 : n ≤ 7) (hp : prm n (S 10)) : Met l yX7_isFolded (Cond.code yX7_isFolded cX7_isFolded 6 (some .boolean) :: lwT) ({ frames := 1, cells := 0, slots := 0, locals := 22 }) (gPc D (mW cI ad) (mE D cI) S [.ref (ad 26), .ref (ad 10)]) (va_Qi (fun (r : Int32) (S' : St) => ∃ g, S' = sA S 9 g ∧ r = zI (b2 (pB (fdP n (S 10))))) (gB D (mW cI ad)) (mA ad)) 0 0 (mA ad) := by
  refine Met.ofW (cc := cX7_isFolded) (maxL := 6) (ret := (some .boolean)) (by decide) rfl ?_
  intro p e s m args below meth c s₁ B hml hv
  obtain ⟨rfl, hP, hE⟩ := hv
  have hx := B.exec
  have hb := B.bytes
  have hr := B.returns
  have hts := atoms_spec (ws := Cond.code yX7_isFolded cX7_isFolded 6 (some .boolean) :: lwT) B.pre
  have hT := fun w (h : w ∈ lwT) => hts w (List.mem_cons_of_mem _ h)
  have hsub : ∀ w ∈ lwT, w ∈ (Cond.code yX7_isFolded cX7_isFolded 6 (some .boolean) :: lwT) := fun w h => List.mem_cons_of_mem _ h
  have hown : s.vm.findClass RX7 = some m.cls := findClass_of_methodNamed B.named
  have hlocks := B.notSynchronized
  have hK : va_K D vwCl [(cI, .int)] s := hE
  have hS : va_S (mA ad) s.heap s.heap [] := va_S.rf
  have hl := lv_entry ([.ref (ad 26), .ref (ad 10)]) (n := 6) (Nat.le_of_ble_eq_true rfl)
  rw [lg_entry_eq]
  generalize (lg_sl ([.ref (ad 26), .ref (ad 10)]) ++ List.replicate (6 - (lg_sl ([.ref (ad 26), .ref (ad 10)])).length) Slot.unset).toArray = ls at hl ⊢
  have hl : lv_has ls 6 [(0, .ref (ad 26)), (1, .ref (ad 10))] := hl
  refine lv_aload_n hx hb dX7_isFolded_0 rfl (lv_at hl 0 rfl) ?_
  refine lv_aload_n hx hb dX7_isFolded_1 rfl (lv_at hl 1 rfl) ?_
  refine g_callVv (As := [.ref (ad 10)]) (rest := []) ⟨hx, hb, hml, hown, hts⟩ (k_X7_layPlaces_10 l D cI ad hinj S hR n hn hn7 hp) (cwV 1 hts (gV hsub q_786 q_788 q_sX7_layPlaces q_8 q_789) rfl rfl rfl hdX7_layPlaces ⟨Nat.le_of_ble_eq_true rfl, Nat.le_of_ble_eq_true rfl⟩) (mEb D cI) (mEk D cI (mA ad)) hE (va_recv (ci := 7) (q0 := 0) hK hP rfl rfl) hP hS rfl hl.1 rfl (Nat.le_of_ble_eq_true rfl) dX7_isFolded_2 ⟨Nat.le_of_ble_eq_true rfl, Nat.le_of_ble_eq_true rfl⟩ (fun S_2 H locs hq_3 hP hR hS _ => ?_)
  obtain ⟨f_4, rfl, hpl_5⟩ := hq_3
  refine z_iconst hx hb dX7_isFolded_5 ?_
  refine lv_istore_n (lv' := [(2, .int (zI (0))), (0, .ref (ad 26)), (1, .ref (ad 10))]) hx hb dX7_isFolded_6 rfl hl (by decide) rfl (fun ls hl => ?_)
  have cut_7 : ∀ (k9 : Nat) (i : Nat) (H : Heap) (locs : List Loc) (ls : Array Slot), (i ≤ n) → (∀ a b, a < i → a + 2 ≤ b → b + 1 < n → (b - a) % 2 = 0 → crP n (S 10) a b) → (n - i) < k9 → va_P D vwCl (mW cI ad (sA S 9 f_4)) H → RS (sA S 9 f_4) → va_S (mA ad) s.heap H locs → lv_has ls 6 [(0, .ref (ad 26)), (1, .ref (ad 10)), (2, .int (zI (↑i)))] → W p l e (headSpec (Cond.code yX7_isFolded cX7_isFolded 6 (some .boolean) :: lwT) ({ frames := 1, cells := 0, slots := 0, locals := 22 })).room s m ([.ref (ad 26), .ref (ad 10)] : List Value).toArray below meth c H locs 0 0 (MQ below (va_Qi (fun (r : Int32) (S' : St) => ∃ g, S' = sA S 9 g ∧ r = zI (b2 (pB (fdP n (S 10))))) (gB D (mW cI ad)) (mA ad)) ([.ref (ad 26), .ref (ad 10)] : List Value).toArray s 0 0 (mA ad)) (F0 m 7 ls []) := by
    intro k9
    induction k9 with
    | zero =>
      intro i H locs ls hi hI hk9 hP hR hS hl
      exact absurd hk9 (Nat.not_lt_zero _)
    | succ k9 ih_7 =>
      intro i H locs ls hi hI hk9 hP hR hS hl
      refine lv_iload_n hx hb dX7_isFolded_7 rfl (lv_at hl 2 rfl) ?_
      refine z_iconst hx hb dX7_isFolded_8 ?_
      refine z_iadd hx hb dX7_isFolded_9 ?_
      refine lv_aload_n hx hb dX7_isFolded_10 rfl (lv_at hl 0 rfl) ?_
      have g_6 : -2147483648 ≤ S 2 0 ∧ S 2 0 < 2147483648 := hR 2 0 (by decide)
      refine va_get (D := D) (ci := 7) (v := .int (zI (S 2 0))) (C := RX7) (T := TX7) (N := 26) hx hb hT inX7 hown hK hP 0 rfl rfl 2 (by decide) (hT _ q_674) (fun _ h9 => h9) rfl dX7_isFolded_11 ?_
      refine z_icmp_ge (tgt := 104) hx hb (by omega) (by omega) (by omega) (by omega) dX7_isFolded_14 (by decide) (fun c_7 => ?_) (fun c_7 => ?_)
      · have h9 : True := trivial
        refine z_iconst hx hb dX7_isFolded_104 ?_
        exact g_zret (S1 := sA S 9 f_4) (bo := true) hx hb hr hlocks hP hR hS (⟨_, rfl, pT (fun a b g2 g3 g4 => hI a b (by omega) g2 g3 g4)⟩) dX7_isFolded_105
      · have h9 : True := trivial
        refine lv_iload_n hx hb dX7_isFolded_17 rfl (lv_at hl 2 rfl) ?_
        refine z_iconst hx hb dX7_isFolded_18 ?_
        refine z_iadd hx hb dX7_isFolded_19 ?_
        refine lv_istore_n (lv' := [(3, .int (zI (↑i + 2))), (0, .ref (ad 26)), (1, .ref (ad 10)), (2, .int (zI (↑i)))]) hx hb dX7_isFolded_20 rfl hl (by decide) rfl (fun ls hl => ?_)
        have cut_21 : ∀ (k9 : Nat) (j : Nat) (H : Heap) (locs : List Loc) (ls : Array Slot), (i + 1 < n ∧ i + 2 ≤ j ∧ j ≤ n + 1 ∧ (j - i) % 2 = 0) → (∀ b, b < j → i + 2 ≤ b → b + 1 < n → (b - i) % 2 = 0 → crP n (S 10) i b) → (n + 1 - j) < k9 → va_P D vwCl (mW cI ad (sA S 9 f_4)) H → RS (sA S 9 f_4) → va_S (mA ad) s.heap H locs → lv_has ls 6 [(0, .ref (ad 26)), (1, .ref (ad 10)), (2, .int (zI (↑i))), (3, .int (zI (↑j)))] → W p l e (headSpec (Cond.code yX7_isFolded cX7_isFolded 6 (some .boolean) :: lwT) ({ frames := 1, cells := 0, slots := 0, locals := 22 })).room s m ([.ref (ad 26), .ref (ad 10)] : List Value).toArray below meth c H locs 0 0 (MQ below (va_Qi (fun (r : Int32) (S' : St) => ∃ g, S' = sA S 9 g ∧ r = zI (b2 (pB (fdP n (S 10))))) (gB D (mW cI ad)) (mA ad)) ([.ref (ad 26), .ref (ad 10)] : List Value).toArray s 0 0 (mA ad)) (F0 m 21 ls []) := by
          intro k9
          induction k9 with
          | zero =>
            intro j H locs ls h1 hJ hk9 hP hR hS hl
            exact absurd hk9 (Nat.not_lt_zero _)
          | succ k9 ih_21 =>
            intro j H locs ls h1 hJ hk9 hP hR hS hl
            refine lv_iload_n hx hb dX7_isFolded_21 rfl (lv_at hl 3 rfl) ?_
            refine z_iconst hx hb dX7_isFolded_22 ?_
            refine z_iadd hx hb dX7_isFolded_23 ?_
            refine lv_aload_n hx hb dX7_isFolded_24 rfl (lv_at hl 0 rfl) ?_
            have g_8 : -2147483648 ≤ S 2 0 ∧ S 2 0 < 2147483648 := hR 2 0 (by decide)
            refine va_get (D := D) (ci := 7) (v := .int (zI (S 2 0))) (C := RX7) (T := TX7) (N := 26) hx hb hT inX7 hown hK hP 0 rfl rfl 2 (by decide) (hT _ q_674) (fun _ h9 => h9) rfl dX7_isFolded_25 ?_
            refine z_icmp_ge (tgt := 98) hx hb (by omega) (by omega) (by omega) (by omega) dX7_isFolded_28 (by decide) (fun c_9 => ?_) (fun c_9 => ?_)
            · have h9 : True := trivial
              refine z_iinc (lv' := [(2, .int (zI (↑i + 1))), (0, .ref (ad 26)), (1, .ref (ad 10)), (3, .int (zI (↑j)))]) hx hb dX7_isFolded_98 hl (k := 2) rfl (by decide) rfl (fun ls hl => ?_)
              refine lv_goto (tgt := 7) hx hb dX7_isFolded_101 (by decide) ?_
              exact ih_7 (i + 1) _ _ _ (by omega) (fun a b g1 g2 g3 g4 => by
            rcases Nat.lt_or_ge a i with g | g
            · exact hI a b g g2 g3 g4
            · have e9 : a = i := by omega
              rw [e9] at g2 g4 ⊢; exact hJ b (by omega) g2 g3 g4) (by omega) hP hR hS (lv_sub hl [1, 2, 0] rfl)
            · have h9 : True := trivial
              refine lv_aload_n hx hb dX7_isFolded_31 rfl (lv_at hl 0 rfl) ?_
              refine va_get (D := D) (ci := 7) (v := .ref (ad 9)) (C := RX7) (T := TX7) (N := 26) hx hb hT inX7 hown hK hP 0 rfl rfl 9 (by decide) (hT _ q_681) (fun _ h9 => h9) rfl dX7_isFolded_32 ?_
              refine lv_iload_n hx hb dX7_isFolded_35 rfl (lv_at hl 3 rfl) ?_
              have g_10 : -2147483648 ≤ f_4 j ∧ f_4 j < 2147483648 := hR 9 j (by decide)
              refine z_ald (f := f_4) hx hb hK hP 5 0 rfl rfl (by omega) (by omega) (by decide) (j := j) rfl dX7_isFolded_36 ?_
              have g_11 := pl_lt hp (v := j) (by omega)
              refine z_top (b := ↑(pl n (S 10) j)) (hpl_5 j (by omega)) ?_
              refine lv_aload_n hx hb dX7_isFolded_37 rfl (lv_at hl 0 rfl) ?_
              refine va_get (D := D) (ci := 7) (v := .ref (ad 9)) (C := RX7) (T := TX7) (N := 26) hx hb hT inX7 hown hK hP 0 rfl rfl 9 (by decide) (hT _ q_681) (fun _ h9 => h9) rfl dX7_isFolded_38 ?_
              refine lv_iload_n hx hb dX7_isFolded_41 rfl (lv_at hl 2 rfl) ?_
              have g_12 : -2147483648 ≤ f_4 i ∧ f_4 i < 2147483648 := hR 9 i (by decide)
              refine z_ald (f := f_4) hx hb hK hP 5 0 rfl rfl (by omega) (by omega) (by decide) (j := i) rfl dX7_isFolded_42 ?_
              have g_13 := pl_lt hp (v := i) (by omega)
              refine z_top (b := ↑(pl n (S 10) i)) (hpl_5 i (by omega)) ?_
              refine lv_aload_n hx hb dX7_isFolded_43 rfl (lv_at hl 0 rfl) ?_
              refine va_get (D := D) (ci := 7) (v := .ref (ad 9)) (C := RX7) (T := TX7) (N := 26) hx hb hT inX7 hown hK hP 0 rfl rfl 9 (by decide) (hT _ q_681) (fun _ h9 => h9) rfl dX7_isFolded_44 ?_
              refine lv_iload_n hx hb dX7_isFolded_47 rfl (lv_at hl 2 rfl) ?_
              refine z_iconst hx hb dX7_isFolded_48 ?_
              refine z_iadd hx hb dX7_isFolded_49 ?_
              have g_14 : -2147483648 ≤ f_4 (i + 1) ∧ f_4 (i + 1) < 2147483648 := hR 9 ((i + 1)) (by decide)
              refine z_ald (f := f_4) hx hb hK hP 5 0 rfl rfl (by omega) (by omega) (by decide) (j := (i + 1)) rfl dX7_isFolded_50 ?_
              have g_15 := pl_lt hp (v := (i + 1)) (by omega)
              refine z_top (b := ↑(pl n (S 10) (i + 1))) (hpl_5 ((i + 1)) (by omega)) ?_
              refine s_callSi (As := [.int (zI (↑(pl n (S 10) j))), .int (zI (↑(pl n (S 10) i))), .int (zI (↑(pl n (S 10) (i + 1))))]) (rest := []) ⟨hx, hb, hml, hown, hts⟩ (k_X7_isWithin l (↑(pl n (S 10) j)) (↑(pl n (S 10) i)) (↑(pl n (S 10) (i + 1))) (by omega) (by omega) (by omega) (by omega) (by omega) (by omega)) (cwS 3 hts (gS hsub q_790 q_791 q_8 q_792) rfl rfl rfl hdX7_isWithin ⟨Nat.le_of_ble_eq_true rfl, Nat.le_of_ble_eq_true rfl⟩) rfl hl.1 rfl (Nat.le_of_ble_eq_true rfl) dX7_isFolded_51 ⟨Nat.le_of_ble_eq_true rfl, Nat.le_of_ble_eq_true rfl⟩ (fun r_16 hq_18 => ?_)
              rw [hq_18]
              refine lv_istore (lv' := [(4, .int (zI (b2 (pB (wth (↑(pl n (S 10) j)) (↑(pl n (S 10) i)) (↑(pl n (S 10) (i + 1)))))))), (0, .ref (ad 26)), (1, .ref (ad 10)), (2, .int (zI (↑i))), (3, .int (zI (↑j)))]) hx hb dX7_isFolded_54 hl (by decide) rfl (fun ls hl => ?_)
              refine lv_aload_n hx hb dX7_isFolded_56 rfl (lv_at hl 1 rfl) ?_
              refine va_get (D := D) (ci := 7) (v := .ref (ad 9)) (C := RX7) (T := TX7) (N := 26) hx hb hT inX7 hown hK hP 0 rfl rfl 9 (by decide) (hT _ q_681) (fun _ h9 => h9) rfl dX7_isFolded_57 ?_
              refine lv_iload_n hx hb dX7_isFolded_60 rfl (lv_at hl 4 rfl) ?_
              refine z_iconst hx hb dX7_isFolded_61 ?_
              refine z_iadd hx hb dX7_isFolded_62 ?_
              have g_19 : -2147483648 ≤ f_4 (j + 1) ∧ f_4 (j + 1) < 2147483648 := hR 9 ((j + 1)) (by decide)
              refine z_ald (f := f_4) hx hb hK hP 5 0 rfl rfl (by omega) (by omega) (by decide) (j := (j + 1)) rfl dX7_isFolded_63 ?_
              have g_20 := pl_lt hp (v := (j + 1)) (by omega)
              refine z_top (b := ↑(pl n (S 10) (j + 1))) (hpl_5 ((j + 1)) (by omega)) ?_
              refine lv_aload_n hx hb dX7_isFolded_64 rfl (lv_at hl 1 rfl) ?_
              refine va_get (D := D) (ci := 7) (v := .ref (ad 9)) (C := RX7) (T := TX7) (N := 26) hx hb hT inX7 hown hK hP 0 rfl rfl 9 (by decide) (hT _ q_681) (fun _ h9 => h9) rfl dX7_isFolded_65 ?_
              refine lv_iload_n hx hb dX7_isFolded_68 rfl (lv_at hl 3 rfl) ?_
              refine z_ald (f := f_4) hx hb hK hP 5 0 rfl rfl (by omega) (by omega) (by decide) (j := i) rfl dX7_isFolded_69 ?_
              have g_21 := pl_lt hp (v := i) (by omega)
              refine z_top (b := ↑(pl n (S 10) i)) (hpl_5 i (by omega)) ?_
              refine lv_aload_n hx hb dX7_isFolded_70 rfl (lv_at hl 1 rfl) ?_
              refine va_get (D := D) (ci := 7) (v := .ref (ad 9)) (C := RX7) (T := TX7) (N := 26) hx hb hT inX7 hown hK hP 0 rfl rfl 9 (by decide) (hT _ q_681) (fun _ h9 => h9) rfl dX7_isFolded_71 ?_
              refine lv_iload_n hx hb dX7_isFolded_74 rfl (lv_at hl 3 rfl) ?_
              refine z_iconst hx hb dX7_isFolded_75 ?_
              refine z_iadd hx hb dX7_isFolded_76 ?_
              refine z_ald (f := f_4) hx hb hK hP 5 0 rfl rfl (by omega) (by omega) (by decide) (j := (i + 1)) rfl dX7_isFolded_77 ?_
              have g_22 := pl_lt hp (v := (i + 1)) (by omega)
              refine z_top (b := ↑(pl n (S 10) (i + 1))) (hpl_5 ((i + 1)) (by omega)) ?_
              refine s_callSi (As := [.int (zI (↑(pl n (S 10) (j + 1)))), .int (zI (↑(pl n (S 10) i))), .int (zI (↑(pl n (S 10) (i + 1))))]) (rest := []) ⟨hx, hb, hml, hown, hts⟩ (k_X7_isWithin l (↑(pl n (S 10) (j + 1))) (↑(pl n (S 10) i)) (↑(pl n (S 10) (i + 1))) (by omega) (by omega) (by omega) (by omega) (by omega) (by omega)) (cwS 3 hts (gS hsub q_790 q_791 q_8 q_792) rfl rfl rfl hdX7_isWithin ⟨Nat.le_of_ble_eq_true rfl, Nat.le_of_ble_eq_true rfl⟩) rfl hl.1 rfl (Nat.le_of_ble_eq_true rfl) dX7_isFolded_78 ⟨Nat.le_of_ble_eq_true rfl, Nat.le_of_ble_eq_true rfl⟩ (fun r_23 hq_25 => ?_)
              rw [hq_25]
              refine lv_istore (lv' := [(5, .int (zI (b2 (pB (wth (↑(pl n (S 10) (j + 1))) (↑(pl n (S 10) i)) (↑(pl n (S 10) (i + 1)))))))), (4, .int (zI (b2 (pB (wth (↑(pl n (S 10) j)) (↑(pl n (S 10) i)) (↑(pl n (S 10) (i + 1)))))))), (0, .ref (ad 26)), (1, .ref (ad 10)), (2, .int (zI (↑i))), (3, .int (zI (↑j)))]) hx hb dX7_isFolded_81 hl (by decide) rfl (fun ls hl => ?_)
              refine lv_iload hx hb dX7_isFolded_83 (lv_at hl 1 rfl) ?_
              refine lv_iload hx hb dX7_isFolded_85 (lv_at hl 0 rfl) ?_
              have g_27 := b2_r (pB (wth (↑(pl n (S 10) (j + 1))) (↑(pl n (S 10) i)) (↑(pl n (S 10) (i + 1)))))
              have g_28 := b2_r (pB (wth (↑(pl n (S 10) j)) (↑(pl n (S 10) i)) (↑(pl n (S 10) (i + 1)))))
              refine z_icmp_eq (tgt := 92) hx hb (by omega) (by omega) (by omega) (by omega) dX7_isFolded_87 (by decide) (fun c_26 => ?_) (fun c_26 => ?_)
              · have h9 : True := trivial
                refine z_iinc (lv' := [(3, .int (zI (↑j + 2))), (5, .int (zI (b2 (pB (wth (↑(pl n (S 10) (j + 1))) (↑(pl n (S 10) i)) (↑(pl n (S 10) (i + 1)))))))), (4, .int (zI (b2 (pB (wth (↑(pl n (S 10) j)) (↑(pl n (S 10) i)) (↑(pl n (S 10) (i + 1)))))))), (0, .ref (ad 26)), (1, .ref (ad 10)), (2, .int (zI (↑i)))]) hx hb dX7_isFolded_92 hl (k := 5) rfl (by decide) rfl (fun ls hl => ?_)
                refine lv_goto (tgt := 21) hx hb dX7_isFolded_95 (by decide) ?_
                exact ih_21 (j + 2) _ _ _ (by omega) (fun b g1 g2 g3 g4 => by
            rcases Nat.lt_or_ge b j with g | g
            · exact hJ b g g2 g3 g4
            · have e9 : b = j := by omega
              rw [e9]; exact pB_i.mp c_26) (by omega) hP hR hS (lv_sub hl [3, 4, 5, 0] rfl)
              · have h9 : True := trivial
                refine z_iconst hx hb dX7_isFolded_90 ?_
                exact g_zret (S1 := sA S 9 f_4) (bo := false) hx hb hr hlocks hP hR hS (⟨_, rfl, pF (fun h => c_26 (pB_i.mpr (h i j (by omega) (by omega) (by omega))))⟩) dX7_isFolded_91
        exact cut_21 _ (i + 2) _ _ _ (by omega) (fun b h1 h2 => absurd h1 (by omega)) (Nat.lt_succ_self _) hP hR hS (lv_sub hl [1, 2, 3, 0] rfl)
  exact cut_7 _ 0 _ _ _ (by omega) (fun a b h => absurd h (Nat.not_lt_zero a)) (Nat.lt_succ_self _) hP hR hS (lv_sub hl [1, 2, 0] rfl)
set_option maxHeartbeats 4000000 in
set_option maxRecDepth 100000 in
theorem k_X7_isFolded_11 (l : Launch) (D : va_G) (cI : ClassId) (ad : Nat → Nat) (hinj : mInj ad) (S : St) (hR : RS S) (n : Nat) (hn : S 2 0 = ↑n) (hn7 : n ≤ 7) (hp : prm n (S 11)) : Met l yX7_isFolded (Cond.code yX7_isFolded cX7_isFolded 6 (some .boolean) :: lwT) ({ frames := 1, cells := 0, slots := 0, locals := 22 }) (gPc D (mW cI ad) (mE D cI) S [.ref (ad 26), .ref (ad 11)]) (va_Qi (fun (r : Int32) (S' : St) => ∃ g, S' = sA S 9 g ∧ r = zI (b2 (pB (fdP n (S 11))))) (gB D (mW cI ad)) (mA ad)) 0 0 (mA ad) := by
  refine Met.ofW (cc := cX7_isFolded) (maxL := 6) (ret := (some .boolean)) (by decide) rfl ?_
  intro p e s m args below meth c s₁ B hml hv
  obtain ⟨rfl, hP, hE⟩ := hv
  have hx := B.exec
  have hb := B.bytes
  have hr := B.returns
  have hts := atoms_spec (ws := Cond.code yX7_isFolded cX7_isFolded 6 (some .boolean) :: lwT) B.pre
  have hT := fun w (h : w ∈ lwT) => hts w (List.mem_cons_of_mem _ h)
  have hsub : ∀ w ∈ lwT, w ∈ (Cond.code yX7_isFolded cX7_isFolded 6 (some .boolean) :: lwT) := fun w h => List.mem_cons_of_mem _ h
  have hown : s.vm.findClass RX7 = some m.cls := findClass_of_methodNamed B.named
  have hlocks := B.notSynchronized
  have hK : va_K D vwCl [(cI, .int)] s := hE
  have hS : va_S (mA ad) s.heap s.heap [] := va_S.rf
  have hl := lv_entry ([.ref (ad 26), .ref (ad 11)]) (n := 6) (Nat.le_of_ble_eq_true rfl)
  rw [lg_entry_eq]
  generalize (lg_sl ([.ref (ad 26), .ref (ad 11)]) ++ List.replicate (6 - (lg_sl ([.ref (ad 26), .ref (ad 11)])).length) Slot.unset).toArray = ls at hl ⊢
  have hl : lv_has ls 6 [(0, .ref (ad 26)), (1, .ref (ad 11))] := hl
  refine lv_aload_n hx hb dX7_isFolded_0 rfl (lv_at hl 0 rfl) ?_
  refine lv_aload_n hx hb dX7_isFolded_1 rfl (lv_at hl 1 rfl) ?_
  refine g_callVv (As := [.ref (ad 11)]) (rest := []) ⟨hx, hb, hml, hown, hts⟩ (k_X7_layPlaces_11 l D cI ad hinj S hR n hn hn7 hp) (cwV 1 hts (gV hsub q_786 q_788 q_sX7_layPlaces q_8 q_789) rfl rfl rfl hdX7_layPlaces ⟨Nat.le_of_ble_eq_true rfl, Nat.le_of_ble_eq_true rfl⟩) (mEb D cI) (mEk D cI (mA ad)) hE (va_recv (ci := 7) (q0 := 0) hK hP rfl rfl) hP hS rfl hl.1 rfl (Nat.le_of_ble_eq_true rfl) dX7_isFolded_2 ⟨Nat.le_of_ble_eq_true rfl, Nat.le_of_ble_eq_true rfl⟩ (fun S_2 H locs hq_3 hP hR hS _ => ?_)
  obtain ⟨f_4, rfl, hpl_5⟩ := hq_3
  refine z_iconst hx hb dX7_isFolded_5 ?_
  refine lv_istore_n (lv' := [(2, .int (zI (0))), (0, .ref (ad 26)), (1, .ref (ad 11))]) hx hb dX7_isFolded_6 rfl hl (by decide) rfl (fun ls hl => ?_)
  have cut_7 : ∀ (k9 : Nat) (i : Nat) (H : Heap) (locs : List Loc) (ls : Array Slot), (i ≤ n) → (∀ a b, a < i → a + 2 ≤ b → b + 1 < n → (b - a) % 2 = 0 → crP n (S 11) a b) → (n - i) < k9 → va_P D vwCl (mW cI ad (sA S 9 f_4)) H → RS (sA S 9 f_4) → va_S (mA ad) s.heap H locs → lv_has ls 6 [(0, .ref (ad 26)), (1, .ref (ad 11)), (2, .int (zI (↑i)))] → W p l e (headSpec (Cond.code yX7_isFolded cX7_isFolded 6 (some .boolean) :: lwT) ({ frames := 1, cells := 0, slots := 0, locals := 22 })).room s m ([.ref (ad 26), .ref (ad 11)] : List Value).toArray below meth c H locs 0 0 (MQ below (va_Qi (fun (r : Int32) (S' : St) => ∃ g, S' = sA S 9 g ∧ r = zI (b2 (pB (fdP n (S 11))))) (gB D (mW cI ad)) (mA ad)) ([.ref (ad 26), .ref (ad 11)] : List Value).toArray s 0 0 (mA ad)) (F0 m 7 ls []) := by
    intro k9
    induction k9 with
    | zero =>
      intro i H locs ls hi hI hk9 hP hR hS hl
      exact absurd hk9 (Nat.not_lt_zero _)
    | succ k9 ih_7 =>
      intro i H locs ls hi hI hk9 hP hR hS hl
      refine lv_iload_n hx hb dX7_isFolded_7 rfl (lv_at hl 2 rfl) ?_
      refine z_iconst hx hb dX7_isFolded_8 ?_
      refine z_iadd hx hb dX7_isFolded_9 ?_
      refine lv_aload_n hx hb dX7_isFolded_10 rfl (lv_at hl 0 rfl) ?_
      have g_6 : -2147483648 ≤ S 2 0 ∧ S 2 0 < 2147483648 := hR 2 0 (by decide)
      refine va_get (D := D) (ci := 7) (v := .int (zI (S 2 0))) (C := RX7) (T := TX7) (N := 26) hx hb hT inX7 hown hK hP 0 rfl rfl 2 (by decide) (hT _ q_674) (fun _ h9 => h9) rfl dX7_isFolded_11 ?_
      refine z_icmp_ge (tgt := 104) hx hb (by omega) (by omega) (by omega) (by omega) dX7_isFolded_14 (by decide) (fun c_7 => ?_) (fun c_7 => ?_)
      · have h9 : True := trivial
        refine z_iconst hx hb dX7_isFolded_104 ?_
        exact g_zret (S1 := sA S 9 f_4) (bo := true) hx hb hr hlocks hP hR hS (⟨_, rfl, pT (fun a b g2 g3 g4 => hI a b (by omega) g2 g3 g4)⟩) dX7_isFolded_105
      · have h9 : True := trivial
        refine lv_iload_n hx hb dX7_isFolded_17 rfl (lv_at hl 2 rfl) ?_
        refine z_iconst hx hb dX7_isFolded_18 ?_
        refine z_iadd hx hb dX7_isFolded_19 ?_
        refine lv_istore_n (lv' := [(3, .int (zI (↑i + 2))), (0, .ref (ad 26)), (1, .ref (ad 11)), (2, .int (zI (↑i)))]) hx hb dX7_isFolded_20 rfl hl (by decide) rfl (fun ls hl => ?_)
        have cut_21 : ∀ (k9 : Nat) (j : Nat) (H : Heap) (locs : List Loc) (ls : Array Slot), (i + 1 < n ∧ i + 2 ≤ j ∧ j ≤ n + 1 ∧ (j - i) % 2 = 0) → (∀ b, b < j → i + 2 ≤ b → b + 1 < n → (b - i) % 2 = 0 → crP n (S 11) i b) → (n + 1 - j) < k9 → va_P D vwCl (mW cI ad (sA S 9 f_4)) H → RS (sA S 9 f_4) → va_S (mA ad) s.heap H locs → lv_has ls 6 [(0, .ref (ad 26)), (1, .ref (ad 11)), (2, .int (zI (↑i))), (3, .int (zI (↑j)))] → W p l e (headSpec (Cond.code yX7_isFolded cX7_isFolded 6 (some .boolean) :: lwT) ({ frames := 1, cells := 0, slots := 0, locals := 22 })).room s m ([.ref (ad 26), .ref (ad 11)] : List Value).toArray below meth c H locs 0 0 (MQ below (va_Qi (fun (r : Int32) (S' : St) => ∃ g, S' = sA S 9 g ∧ r = zI (b2 (pB (fdP n (S 11))))) (gB D (mW cI ad)) (mA ad)) ([.ref (ad 26), .ref (ad 11)] : List Value).toArray s 0 0 (mA ad)) (F0 m 21 ls []) := by
          intro k9
          induction k9 with
          | zero =>
            intro j H locs ls h1 hJ hk9 hP hR hS hl
            exact absurd hk9 (Nat.not_lt_zero _)
          | succ k9 ih_21 =>
            intro j H locs ls h1 hJ hk9 hP hR hS hl
            refine lv_iload_n hx hb dX7_isFolded_21 rfl (lv_at hl 3 rfl) ?_
            refine z_iconst hx hb dX7_isFolded_22 ?_
            refine z_iadd hx hb dX7_isFolded_23 ?_
            refine lv_aload_n hx hb dX7_isFolded_24 rfl (lv_at hl 0 rfl) ?_
            have g_8 : -2147483648 ≤ S 2 0 ∧ S 2 0 < 2147483648 := hR 2 0 (by decide)
            refine va_get (D := D) (ci := 7) (v := .int (zI (S 2 0))) (C := RX7) (T := TX7) (N := 26) hx hb hT inX7 hown hK hP 0 rfl rfl 2 (by decide) (hT _ q_674) (fun _ h9 => h9) rfl dX7_isFolded_25 ?_
            refine z_icmp_ge (tgt := 98) hx hb (by omega) (by omega) (by omega) (by omega) dX7_isFolded_28 (by decide) (fun c_9 => ?_) (fun c_9 => ?_)
            · have h9 : True := trivial
              refine z_iinc (lv' := [(2, .int (zI (↑i + 1))), (0, .ref (ad 26)), (1, .ref (ad 11)), (3, .int (zI (↑j)))]) hx hb dX7_isFolded_98 hl (k := 2) rfl (by decide) rfl (fun ls hl => ?_)
              refine lv_goto (tgt := 7) hx hb dX7_isFolded_101 (by decide) ?_
              exact ih_7 (i + 1) _ _ _ (by omega) (fun a b g1 g2 g3 g4 => by
            rcases Nat.lt_or_ge a i with g | g
            · exact hI a b g g2 g3 g4
            · have e9 : a = i := by omega
              rw [e9] at g2 g4 ⊢; exact hJ b (by omega) g2 g3 g4) (by omega) hP hR hS (lv_sub hl [1, 2, 0] rfl)
            · have h9 : True := trivial
              refine lv_aload_n hx hb dX7_isFolded_31 rfl (lv_at hl 0 rfl) ?_
              refine va_get (D := D) (ci := 7) (v := .ref (ad 9)) (C := RX7) (T := TX7) (N := 26) hx hb hT inX7 hown hK hP 0 rfl rfl 9 (by decide) (hT _ q_681) (fun _ h9 => h9) rfl dX7_isFolded_32 ?_
              refine lv_iload_n hx hb dX7_isFolded_35 rfl (lv_at hl 3 rfl) ?_
              have g_10 : -2147483648 ≤ f_4 j ∧ f_4 j < 2147483648 := hR 9 j (by decide)
              refine z_ald (f := f_4) hx hb hK hP 5 0 rfl rfl (by omega) (by omega) (by decide) (j := j) rfl dX7_isFolded_36 ?_
              have g_11 := pl_lt hp (v := j) (by omega)
              refine z_top (b := ↑(pl n (S 11) j)) (hpl_5 j (by omega)) ?_
              refine lv_aload_n hx hb dX7_isFolded_37 rfl (lv_at hl 0 rfl) ?_
              refine va_get (D := D) (ci := 7) (v := .ref (ad 9)) (C := RX7) (T := TX7) (N := 26) hx hb hT inX7 hown hK hP 0 rfl rfl 9 (by decide) (hT _ q_681) (fun _ h9 => h9) rfl dX7_isFolded_38 ?_
              refine lv_iload_n hx hb dX7_isFolded_41 rfl (lv_at hl 2 rfl) ?_
              have g_12 : -2147483648 ≤ f_4 i ∧ f_4 i < 2147483648 := hR 9 i (by decide)
              refine z_ald (f := f_4) hx hb hK hP 5 0 rfl rfl (by omega) (by omega) (by decide) (j := i) rfl dX7_isFolded_42 ?_
              have g_13 := pl_lt hp (v := i) (by omega)
              refine z_top (b := ↑(pl n (S 11) i)) (hpl_5 i (by omega)) ?_
              refine lv_aload_n hx hb dX7_isFolded_43 rfl (lv_at hl 0 rfl) ?_
              refine va_get (D := D) (ci := 7) (v := .ref (ad 9)) (C := RX7) (T := TX7) (N := 26) hx hb hT inX7 hown hK hP 0 rfl rfl 9 (by decide) (hT _ q_681) (fun _ h9 => h9) rfl dX7_isFolded_44 ?_
              refine lv_iload_n hx hb dX7_isFolded_47 rfl (lv_at hl 2 rfl) ?_
              refine z_iconst hx hb dX7_isFolded_48 ?_
              refine z_iadd hx hb dX7_isFolded_49 ?_
              have g_14 : -2147483648 ≤ f_4 (i + 1) ∧ f_4 (i + 1) < 2147483648 := hR 9 ((i + 1)) (by decide)
              refine z_ald (f := f_4) hx hb hK hP 5 0 rfl rfl (by omega) (by omega) (by decide) (j := (i + 1)) rfl dX7_isFolded_50 ?_
              have g_15 := pl_lt hp (v := (i + 1)) (by omega)
              refine z_top (b := ↑(pl n (S 11) (i + 1))) (hpl_5 ((i + 1)) (by omega)) ?_
              refine s_callSi (As := [.int (zI (↑(pl n (S 11) j))), .int (zI (↑(pl n (S 11) i))), .int (zI (↑(pl n (S 11) (i + 1))))]) (rest := []) ⟨hx, hb, hml, hown, hts⟩ (k_X7_isWithin l (↑(pl n (S 11) j)) (↑(pl n (S 11) i)) (↑(pl n (S 11) (i + 1))) (by omega) (by omega) (by omega) (by omega) (by omega) (by omega)) (cwS 3 hts (gS hsub q_790 q_791 q_8 q_792) rfl rfl rfl hdX7_isWithin ⟨Nat.le_of_ble_eq_true rfl, Nat.le_of_ble_eq_true rfl⟩) rfl hl.1 rfl (Nat.le_of_ble_eq_true rfl) dX7_isFolded_51 ⟨Nat.le_of_ble_eq_true rfl, Nat.le_of_ble_eq_true rfl⟩ (fun r_16 hq_18 => ?_)
              rw [hq_18]
              refine lv_istore (lv' := [(4, .int (zI (b2 (pB (wth (↑(pl n (S 11) j)) (↑(pl n (S 11) i)) (↑(pl n (S 11) (i + 1)))))))), (0, .ref (ad 26)), (1, .ref (ad 11)), (2, .int (zI (↑i))), (3, .int (zI (↑j)))]) hx hb dX7_isFolded_54 hl (by decide) rfl (fun ls hl => ?_)
              refine lv_aload_n hx hb dX7_isFolded_56 rfl (lv_at hl 1 rfl) ?_
              refine va_get (D := D) (ci := 7) (v := .ref (ad 9)) (C := RX7) (T := TX7) (N := 26) hx hb hT inX7 hown hK hP 0 rfl rfl 9 (by decide) (hT _ q_681) (fun _ h9 => h9) rfl dX7_isFolded_57 ?_
              refine lv_iload_n hx hb dX7_isFolded_60 rfl (lv_at hl 4 rfl) ?_
              refine z_iconst hx hb dX7_isFolded_61 ?_
              refine z_iadd hx hb dX7_isFolded_62 ?_
              have g_19 : -2147483648 ≤ f_4 (j + 1) ∧ f_4 (j + 1) < 2147483648 := hR 9 ((j + 1)) (by decide)
              refine z_ald (f := f_4) hx hb hK hP 5 0 rfl rfl (by omega) (by omega) (by decide) (j := (j + 1)) rfl dX7_isFolded_63 ?_
              have g_20 := pl_lt hp (v := (j + 1)) (by omega)
              refine z_top (b := ↑(pl n (S 11) (j + 1))) (hpl_5 ((j + 1)) (by omega)) ?_
              refine lv_aload_n hx hb dX7_isFolded_64 rfl (lv_at hl 1 rfl) ?_
              refine va_get (D := D) (ci := 7) (v := .ref (ad 9)) (C := RX7) (T := TX7) (N := 26) hx hb hT inX7 hown hK hP 0 rfl rfl 9 (by decide) (hT _ q_681) (fun _ h9 => h9) rfl dX7_isFolded_65 ?_
              refine lv_iload_n hx hb dX7_isFolded_68 rfl (lv_at hl 3 rfl) ?_
              refine z_ald (f := f_4) hx hb hK hP 5 0 rfl rfl (by omega) (by omega) (by decide) (j := i) rfl dX7_isFolded_69 ?_
              have g_21 := pl_lt hp (v := i) (by omega)
              refine z_top (b := ↑(pl n (S 11) i)) (hpl_5 i (by omega)) ?_
              refine lv_aload_n hx hb dX7_isFolded_70 rfl (lv_at hl 1 rfl) ?_
              refine va_get (D := D) (ci := 7) (v := .ref (ad 9)) (C := RX7) (T := TX7) (N := 26) hx hb hT inX7 hown hK hP 0 rfl rfl 9 (by decide) (hT _ q_681) (fun _ h9 => h9) rfl dX7_isFolded_71 ?_
              refine lv_iload_n hx hb dX7_isFolded_74 rfl (lv_at hl 3 rfl) ?_
              refine z_iconst hx hb dX7_isFolded_75 ?_
              refine z_iadd hx hb dX7_isFolded_76 ?_
              refine z_ald (f := f_4) hx hb hK hP 5 0 rfl rfl (by omega) (by omega) (by decide) (j := (i + 1)) rfl dX7_isFolded_77 ?_
              have g_22 := pl_lt hp (v := (i + 1)) (by omega)
              refine z_top (b := ↑(pl n (S 11) (i + 1))) (hpl_5 ((i + 1)) (by omega)) ?_
              refine s_callSi (As := [.int (zI (↑(pl n (S 11) (j + 1)))), .int (zI (↑(pl n (S 11) i))), .int (zI (↑(pl n (S 11) (i + 1))))]) (rest := []) ⟨hx, hb, hml, hown, hts⟩ (k_X7_isWithin l (↑(pl n (S 11) (j + 1))) (↑(pl n (S 11) i)) (↑(pl n (S 11) (i + 1))) (by omega) (by omega) (by omega) (by omega) (by omega) (by omega)) (cwS 3 hts (gS hsub q_790 q_791 q_8 q_792) rfl rfl rfl hdX7_isWithin ⟨Nat.le_of_ble_eq_true rfl, Nat.le_of_ble_eq_true rfl⟩) rfl hl.1 rfl (Nat.le_of_ble_eq_true rfl) dX7_isFolded_78 ⟨Nat.le_of_ble_eq_true rfl, Nat.le_of_ble_eq_true rfl⟩ (fun r_23 hq_25 => ?_)
              rw [hq_25]
              refine lv_istore (lv' := [(5, .int (zI (b2 (pB (wth (↑(pl n (S 11) (j + 1))) (↑(pl n (S 11) i)) (↑(pl n (S 11) (i + 1)))))))), (4, .int (zI (b2 (pB (wth (↑(pl n (S 11) j)) (↑(pl n (S 11) i)) (↑(pl n (S 11) (i + 1)))))))), (0, .ref (ad 26)), (1, .ref (ad 11)), (2, .int (zI (↑i))), (3, .int (zI (↑j)))]) hx hb dX7_isFolded_81 hl (by decide) rfl (fun ls hl => ?_)
              refine lv_iload hx hb dX7_isFolded_83 (lv_at hl 1 rfl) ?_
              refine lv_iload hx hb dX7_isFolded_85 (lv_at hl 0 rfl) ?_
              have g_27 := b2_r (pB (wth (↑(pl n (S 11) (j + 1))) (↑(pl n (S 11) i)) (↑(pl n (S 11) (i + 1)))))
              have g_28 := b2_r (pB (wth (↑(pl n (S 11) j)) (↑(pl n (S 11) i)) (↑(pl n (S 11) (i + 1)))))
              refine z_icmp_eq (tgt := 92) hx hb (by omega) (by omega) (by omega) (by omega) dX7_isFolded_87 (by decide) (fun c_26 => ?_) (fun c_26 => ?_)
              · have h9 : True := trivial
                refine z_iinc (lv' := [(3, .int (zI (↑j + 2))), (5, .int (zI (b2 (pB (wth (↑(pl n (S 11) (j + 1))) (↑(pl n (S 11) i)) (↑(pl n (S 11) (i + 1)))))))), (4, .int (zI (b2 (pB (wth (↑(pl n (S 11) j)) (↑(pl n (S 11) i)) (↑(pl n (S 11) (i + 1)))))))), (0, .ref (ad 26)), (1, .ref (ad 11)), (2, .int (zI (↑i)))]) hx hb dX7_isFolded_92 hl (k := 5) rfl (by decide) rfl (fun ls hl => ?_)
                refine lv_goto (tgt := 21) hx hb dX7_isFolded_95 (by decide) ?_
                exact ih_21 (j + 2) _ _ _ (by omega) (fun b g1 g2 g3 g4 => by
            rcases Nat.lt_or_ge b j with g | g
            · exact hJ b g g2 g3 g4
            · have e9 : b = j := by omega
              rw [e9]; exact pB_i.mp c_26) (by omega) hP hR hS (lv_sub hl [3, 4, 5, 0] rfl)
              · have h9 : True := trivial
                refine z_iconst hx hb dX7_isFolded_90 ?_
                exact g_zret (S1 := sA S 9 f_4) (bo := false) hx hb hr hlocks hP hR hS (⟨_, rfl, pF (fun h => c_26 (pB_i.mpr (h i j (by omega) (by omega) (by omega))))⟩) dX7_isFolded_91
        exact cut_21 _ (i + 2) _ _ _ (by omega) (fun b h1 h2 => absurd h1 (by omega)) (Nat.lt_succ_self _) hP hR hS (lv_sub hl [1, 2, 3, 0] rfl)
  exact cut_7 _ 0 _ _ _ (by omega) (fun a b h => absurd h (Nat.not_lt_zero a)) (Nat.lt_succ_self _) hP hR hS (lv_sub hl [1, 2, 0] rfl)
set_option maxHeartbeats 4000000 in
set_option maxRecDepth 100000 in
theorem k_X7_orderOf (l : Launch) (D : va_G) (cI : ClassId) (ad : Nat → Nat) (hinj : mInj ad) (S : St) (hR : RS S) (k0 : Nat) (hk0 : k0 < 462) (x : Int) (hk : S 7 k0 = x) (hmin : ∀ j, j < k0 → S 7 j ≠ x) : Met l yX7_orderOf (Cond.code yX7_orderOf cX7_orderOf 3 (some .int) :: lwT) ({ frames := 0, cells := 0, slots := 0, locals := 0 }) (gPc D (mW cI ad) (mE D cI) S [.ref (ad 26), .int (zI (x))]) (va_Qi (fun (r : Int32) (S' : St) => S' = S ∧ r = zI ↑k0) (gB D (mW cI ad)) (mA ad)) 0 0 (mA ad) := by
  refine Met.ofW (cc := cX7_orderOf) (maxL := 3) (ret := (some .int)) (by decide) rfl ?_
  intro p e s m args below meth c s₁ B hml hv
  obtain ⟨rfl, hP, hE⟩ := hv
  have hx := B.exec
  have hb := B.bytes
  have hr := B.returns
  have hts := atoms_spec (ws := Cond.code yX7_orderOf cX7_orderOf 3 (some .int) :: lwT) B.pre
  have hT := fun w (h : w ∈ lwT) => hts w (List.mem_cons_of_mem _ h)
  have hsub : ∀ w ∈ lwT, w ∈ (Cond.code yX7_orderOf cX7_orderOf 3 (some .int) :: lwT) := fun w h => List.mem_cons_of_mem _ h
  have hown : s.vm.findClass RX7 = some m.cls := findClass_of_methodNamed B.named
  have hlocks := B.notSynchronized
  have hK : va_K D vwCl [(cI, .int)] s := hE
  have hS : va_S (mA ad) s.heap s.heap [] := va_S.rf
  have h7 := hR 7 k0 (by decide)
  have hl := lv_entry ([.ref (ad 26), .int (zI (x))]) (n := 3) (Nat.le_of_ble_eq_true rfl)
  rw [lg_entry_eq]
  generalize (lg_sl ([.ref (ad 26), .int (zI (x))]) ++ List.replicate (3 - (lg_sl ([.ref (ad 26), .int (zI (x))])).length) Slot.unset).toArray = ls at hl ⊢
  have hl : lv_has ls 3 [(0, .ref (ad 26)), (1, .int (zI (x)))] := hl
  refine z_iconst hx hb dX7_orderOf_0 ?_
  refine lv_istore_n (lv' := [(2, .int (zI (0))), (0, .ref (ad 26)), (1, .int (zI (x)))]) hx hb dX7_orderOf_1 rfl hl (by decide) rfl (fun ls hl => ?_)
  have cut_2 : ∀ (k9 : Nat) (i : Nat) (H : Heap) (locs : List Loc) (ls : Array Slot), (i ≤ k0) → (k0 - i) < k9 → va_P D vwCl (mW cI ad S) H → RS S → va_S (mA ad) s.heap H locs → lv_has ls 3 [(0, .ref (ad 26)), (1, .int (zI (x))), (2, .int (zI (↑i)))] → W p l e (headSpec (Cond.code yX7_orderOf cX7_orderOf 3 (some .int) :: lwT) ({ frames := 0, cells := 0, slots := 0, locals := 0 })).room s m ([.ref (ad 26), .int (zI (x))] : List Value).toArray below meth c H locs 0 0 (MQ below (va_Qi (fun (r : Int32) (S' : St) => S' = S ∧ r = zI ↑k0) (gB D (mW cI ad)) (mA ad)) ([.ref (ad 26), .int (zI (x))] : List Value).toArray s 0 0 (mA ad)) (F0 m 2 ls []) := by
    intro k9
    induction k9 with
    | zero =>
      intro i H locs ls hi hk9 hP hR hS hl
      exact absurd hk9 (Nat.not_lt_zero _)
    | succ k9 ih_2 =>
      intro i H locs ls hi hk9 hP hR hS hl
      refine lv_aload_n hx hb dX7_orderOf_2 rfl (lv_at hl 0 rfl) ?_
      refine va_get (D := D) (ci := 7) (v := .ref (ad 7)) (C := RX7) (T := TX7) (N := 26) hx hb hT inX7 hown hK hP 0 rfl rfl 7 (by decide) (hT _ q_679) (fun _ h9 => h9) rfl dX7_orderOf_3 ?_
      refine lv_iload_n hx hb dX7_orderOf_6 rfl (lv_at hl 2 rfl) ?_
      have g_1 : -2147483648 ≤ S 7 i ∧ S 7 i < 2147483648 := hR 7 i (by decide)
      refine z_ald (f := S 7) hx hb hK hP 4 0 rfl rfl (by omega) (by omega) (by decide) (j := i) rfl dX7_orderOf_7 ?_
      refine lv_iload_n hx hb dX7_orderOf_8 rfl (lv_at hl 1 rfl) ?_
      refine z_icmp_eq (tgt := 18) hx hb (by omega) (by omega) (by omega) (by omega) dX7_orderOf_9 (by decide) (fun c_2 => ?_) (fun c_2 => ?_)
      · have h9 : True := trivial
        refine lv_iload_n hx hb dX7_orderOf_18 rfl (lv_at hl 2 rfl) ?_
        exact g_iret (S1 := S) (v := zI (↑i)) hx hb hr hlocks hP hR hS (⟨rfl, by rw [show i = k0 from Nat.le_antisymm hi (Nat.not_lt.mp (fun g => hmin i g (by omega)))]⟩) dX7_orderOf_19
      · have h9 : True := trivial
        refine z_iinc (lv' := [(2, .int (zI (↑i + 1))), (0, .ref (ad 26)), (1, .int (zI (x)))]) hx hb dX7_orderOf_12 hl (k := 2) rfl (by decide) rfl (fun ls hl => ?_)
        refine lv_goto (tgt := 2) hx hb dX7_orderOf_15 (by decide) ?_
        exact ih_2 (i + 1) _ _ _ (Nat.lt_of_le_of_ne hi (fun e => c_2 (by rw [e, hk]))) (by have := Nat.lt_of_le_of_ne hi (fun e => c_2 (by rw [e, hk])); omega) hP hR hS (lv_sub hl [1, 2, 0] rfl)
  exact cut_2 _ 0 _ _ _ (by omega) (Nat.lt_succ_self _) hP hR hS (lv_sub hl [1, 2, 0] rfl)
set_option maxHeartbeats 4000000 in
set_option maxRecDepth 100000 in
theorem k_X7_orderNow (l : Launch) (D : va_G) (cI : ClassId) (ad : Nat → Nat) (hinj : mInj ad) (S : St) (hR : RS S) (n : Nat) (hn : S 2 0 = ↑n) (hn7 : n ≤ 7) (k0 : Nat) (hk0 : k0 < 462) (hk : S 7 k0 = cdF (S 6) n) (hmin : ∀ j, j < k0 → S 7 j ≠ cdF (S 6) n) : Met l yX7_orderNow (Cond.code yX7_orderNow cX7_orderNow 1 (some .int) :: lwT) ({ frames := 1, cells := 0, slots := 0, locals := 23 }) (gPc D (mW cI ad) (mE D cI) S [.ref (ad 26)]) (va_Qi (fun (r : Int32) (S' : St) => S' = S ∧ r = zI ↑k0) (gB D (mW cI ad)) (mA ad)) 0 0 (mA ad) := by
  refine Met.ofW (cc := cX7_orderNow) (maxL := 1) (ret := (some .int)) (by decide) rfl ?_
  intro p e s m args below meth c s₁ B hml hv
  obtain ⟨rfl, hP, hE⟩ := hv
  have hx := B.exec
  have hb := B.bytes
  have hr := B.returns
  have hts := atoms_spec (ws := Cond.code yX7_orderNow cX7_orderNow 1 (some .int) :: lwT) B.pre
  have hT := fun w (h : w ∈ lwT) => hts w (List.mem_cons_of_mem _ h)
  have hsub : ∀ w ∈ lwT, w ∈ (Cond.code yX7_orderNow cX7_orderNow 1 (some .int) :: lwT) := fun w h => List.mem_cons_of_mem _ h
  have hown : s.vm.findClass RX7 = some m.cls := findClass_of_methodNamed B.named
  have hlocks := B.notSynchronized
  have hK : va_K D vwCl [(cI, .int)] s := hE
  have hS : va_S (mA ad) s.heap s.heap [] := va_S.rf
  have hl := lv_entry ([.ref (ad 26)]) (n := 1) (Nat.le_of_ble_eq_true rfl)
  rw [lg_entry_eq]
  generalize (lg_sl ([.ref (ad 26)]) ++ List.replicate (1 - (lg_sl ([.ref (ad 26)])).length) Slot.unset).toArray = ls at hl ⊢
  have hl : lv_has ls 1 [(0, .ref (ad 26))] := hl
  refine lv_aload_n hx hb dX7_orderNow_0 rfl (lv_at hl 0 rfl) ?_
  refine lv_aload_n hx hb dX7_orderNow_1 rfl (lv_at hl 0 rfl) ?_
  refine va_get (D := D) (ci := 7) (v := .ref (ad 6)) (C := RX7) (T := TX7) (N := 26) hx hb hT inX7 hown hK hP 0 rfl rfl 6 (by decide) (hT _ q_678) (fun _ h9 => h9) rfl dX7_orderNow_2 ?_
  refine lv_aload_n hx hb dX7_orderNow_5 rfl (lv_at hl 0 rfl) ?_
  have g_1 : -2147483648 ≤ S 2 0 ∧ S 2 0 < 2147483648 := hR 2 0 (by decide)
  refine va_get (D := D) (ci := 7) (v := .int (zI (S 2 0))) (C := RX7) (T := TX7) (N := 26) hx hb hT inX7 hown hK hP 0 rfl rfl 2 (by decide) (hT _ q_674) (fun _ h9 => h9) rfl dX7_orderNow_6 ?_
  refine g_callSi (As := [.ref (ad 6), .int (zI (S 2 0))]) (rest := [.ref (ad 26)]) ⟨hx, hb, hml, hown, hts⟩ (k_X7_codeOf_6 l D cI ad hinj S hR n (S 2 0) (by omega) (by omega)) (cwS 2 hts (gS hsub q_793 q_794 q_8 q_795) rfl rfl rfl hdX7_codeOf ⟨Nat.le_of_ble_eq_true rfl, Nat.le_of_ble_eq_true rfl⟩) (mEb D cI) (mEk D cI (mA ad)) hE hP hS rfl hl.1 rfl (Nat.le_of_ble_eq_true rfl) dX7_orderNow_9 ⟨Nat.le_of_ble_eq_true rfl, Nat.le_of_ble_eq_true rfl⟩ (fun r_2 S_3 H locs hq_4 hP hR hS _ => ?_)
  obtain ⟨hs9, rfl⟩ := hq_4
  obtain rfl := hs9.symm
  refine z_top (b := cdF (S 6) n) rfl ?_
  refine g_callVi (As := [.int (zI (cdF (S 6) n))]) (rest := []) ⟨hx, hb, hml, hown, hts⟩ (k_X7_orderOf l D cI ad hinj S hR (k0) (hk0) (cdF (S 6) n) (hk) (hmin)) (cwV 1 hts (gV hsub q_828 q_830 q_sX7_orderOf q_8 q_831) rfl rfl rfl hdX7_orderOf ⟨Nat.le_of_ble_eq_true rfl, Nat.le_of_ble_eq_true rfl⟩) (mEb D cI) (mEk D cI (mA ad)) hE (va_recv (ci := 7) (q0 := 0) hK hP rfl rfl) hP hS rfl hl.1 rfl (Nat.le_of_ble_eq_true rfl) dX7_orderNow_12 ⟨Nat.le_of_ble_eq_true rfl, Nat.le_of_ble_eq_true rfl⟩ (fun r_5 S_6 H locs hq_7 hP hR hS _ => ?_)
  obtain ⟨hs9, rfl⟩ := hq_7
  obtain rfl := hs9.symm
  refine z_top (b := ↑k0) rfl ?_
  exact g_iret (S1 := S) (v := zI (↑k0)) hx hb hr hlocks hP hR hS (⟨rfl, rfl⟩) dX7_orderNow_15
set_option maxHeartbeats 4000000 in
set_option maxRecDepth 100000 in
theorem k_X7_isOrder (l : Launch) (D : va_G) (cI : ClassId) (ad : Nat → Nat) (hinj : mInj ad) (S : St) (hR : RS S) (x : Int) (hx1 : -2147483648 ≤ x) (hx2 : x < 2147483648) (h80 : 0 ≤ S 8 0) : Met l yX7_isOrder (Cond.code yX7_isOrder cX7_isOrder 2 (some .boolean) :: lwT) ({ frames := 1, cells := 0, slots := 0, locals := 25 }) (gPc D (mW cI ad) (mE D cI) S [.ref (ad 26), .int (zI (x))]) (va_Qi (fun (r : Int32) (S' : St) => S' = S ∧ r = zI (b2 (decide (S 2 0 ≠ 0 ∧ 0 ≤ x ∧ x ≤ S 8 0 - 1)))) (gB D (mW cI ad)) (mA ad)) 0 0 (mA ad) := by
  refine Met.ofW (cc := cX7_isOrder) (maxL := 2) (ret := (some .boolean)) (by decide) rfl ?_
  intro p e s m args below meth c s₁ B hml hv
  obtain ⟨rfl, hP, hE⟩ := hv
  have hx := B.exec
  have hb := B.bytes
  have hr := B.returns
  have hts := atoms_spec (ws := Cond.code yX7_isOrder cX7_isOrder 2 (some .boolean) :: lwT) B.pre
  have hT := fun w (h : w ∈ lwT) => hts w (List.mem_cons_of_mem _ h)
  have hsub : ∀ w ∈ lwT, w ∈ (Cond.code yX7_isOrder cX7_isOrder 2 (some .boolean) :: lwT) := fun w h => List.mem_cons_of_mem _ h
  have hown : s.vm.findClass RX7 = some m.cls := findClass_of_methodNamed B.named
  have hlocks := B.notSynchronized
  have hK : va_K D vwCl [(cI, .int)] s := hE
  have hS : va_S (mA ad) s.heap s.heap [] := va_S.rf
  have hl := lv_entry ([.ref (ad 26), .int (zI (x))]) (n := 2) (Nat.le_of_ble_eq_true rfl)
  rw [lg_entry_eq]
  generalize (lg_sl ([.ref (ad 26), .int (zI (x))]) ++ List.replicate (2 - (lg_sl ([.ref (ad 26), .int (zI (x))])).length) Slot.unset).toArray = ls at hl ⊢
  have hl : lv_has ls 2 [(0, .ref (ad 26)), (1, .int (zI (x)))] := hl
  refine lv_aload_n hx hb dX7_isOrder_0 rfl (lv_at hl 0 rfl) ?_
  refine g_callVi (As := []) (rest := []) ⟨hx, hb, hml, hown, hts⟩ (k_X7_lacks l D cI ad hinj S hR ) (cwV 0 hts (gV hsub q_812 q_814 q_sX7_lacks q_8 q_815) rfl rfl rfl hdX7_lacks ⟨Nat.le_of_ble_eq_true rfl, Nat.le_of_ble_eq_true rfl⟩) (mEb D cI) (mEk D cI (mA ad)) hE (va_recv (ci := 7) (q0 := 0) hK hP rfl rfl) hP hS rfl hl.1 rfl (Nat.le_of_ble_eq_true rfl) dX7_isOrder_1 ⟨Nat.le_of_ble_eq_true rfl, Nat.le_of_ble_eq_true rfl⟩ (fun r_1 S_2 H locs hq_3 hP hR hS _ => ?_)
  obtain ⟨hs9, rfl⟩ := hq_3
  obtain rfl := hs9.symm
  refine z_top (b := b2 (decide (S 2 0 = 0))) rfl ?_
  refine z_ifneB (tgt := 27) hx hb dX7_isOrder_4 (by decide) (fun c_4 => ?_) (fun c_4 => ?_)
  · have h9 : True := trivial
    have c_4 : S 2 0 = 0 := of_decide_eq_true c_4
    refine z_iconst hx hb dX7_isOrder_27 ?_
    exact g_zret (S1 := S) (bo := false) hx hb hr hlocks hP hR hS (⟨rfl, bF (by omega)⟩) dX7_isOrder_28
  · have h9 : True := trivial
    have c_4 : ¬ (S 2 0 = 0) := of_decide_eq_false c_4
    refine lv_iload_n hx hb dX7_isOrder_7 rfl (lv_at hl 1 rfl) ?_
    refine z_i2l hx hb (by omega) (by omega) dX7_isOrder_8 ?_
    refine lv_lconst (v := zL 0) hx hb dX7_isOrder_9 (by decide) ?_
    refine lv_aload_n hx hb dX7_isOrder_10 rfl (lv_at hl 0 rfl) ?_
    have g_5 : -2147483648 ≤ S 8 0 ∧ S 8 0 < 2147483648 := hR 8 0 (by decide)
    refine va_get (D := D) (ci := 7) (v := .int (zI (S 8 0))) (C := RX7) (T := TX7) (N := 26) hx hb hT inX7 hown hK hP 0 rfl rfl 8 (by decide) (hT _ q_680) (fun _ h9 => h9) rfl dX7_isOrder_11 ?_
    refine z_iconst hx hb dX7_isOrder_14 ?_
    refine z_isub hx hb dX7_isOrder_15 ?_
    refine z_i2l hx hb (by omega) (by omega) dX7_isOrder_16 ?_
    refine s_callSi (As := [.long (zL (x)), .long (zL (0)), .long (zL ((S 8 0) - 1))]) (rest := []) ⟨hx, hb, hml, hown, hts⟩ (k_X7_in l x 0 ((S 8 0) - 1) (by omega) (by omega) (by omega) (by omega) (by omega) (by omega)) (cwS 3 hts (gS hsub q_756 q_757 q_8 q_758) rfl rfl rfl hdX7_in ⟨Nat.le_of_ble_eq_true rfl, Nat.le_of_ble_eq_true rfl⟩) rfl hl.1 rfl (Nat.le_of_ble_eq_true rfl) dX7_isOrder_17 ⟨Nat.le_of_ble_eq_true rfl, Nat.le_of_ble_eq_true rfl⟩ (fun r_6 hq_8 => ?_)
    rw [hq_8]
    refine z_ifeqB (tgt := 27) hx hb dX7_isOrder_20 (by decide) (fun c_9 => ?_) (fun c_9 => ?_)
    · have h9 : True := trivial
      have c_9 : ¬ (0 ≤ x ∧ x ≤ ((S 8 0) - 1)) := of_decide_eq_false c_9
      refine z_iconst hx hb dX7_isOrder_27 ?_
      exact g_zret (S1 := S) (bo := false) hx hb hr hlocks hP hR hS (⟨rfl, bF (by omega)⟩) dX7_isOrder_28
    · have h9 : True := trivial
      have c_9 : 0 ≤ x ∧ x ≤ ((S 8 0) - 1) := of_decide_eq_true c_9
      refine z_iconst hx hb dX7_isOrder_23 ?_
      refine lv_goto (tgt := 28) hx hb dX7_isOrder_24 (by decide) ?_
      exact g_zret (S1 := S) (bo := true) hx hb hr hlocks hP hR hS (⟨rfl, bT (by omega)⟩) dX7_isOrder_28
set_option maxHeartbeats 4000000 in
set_option maxRecDepth 100000 in
theorem k_X7_wideOf_6 (l : Launch) (D : va_G) (cI : ClassId) (ad : Nat → Nat) (hinj : mInj ad) (S : St) (hR : RS S) (n : Nat) (hn : S 2 0 = ↑n) (hn7 : n ≤ 7) (hp : prm n (S 6)) (q : Nat) (x : Int) (hxq : x = ↑q) (hq : q + 1 < n) : Met l yX7_wideOf (Cond.code yX7_wideOf cX7_wideOf 5 (some .int) :: lwT) ({ frames := 1, cells := 0, slots := 0, locals := 22 }) (gPc D (mW cI ad) (mE D cI) S [.ref (ad 26), .ref (ad 6), .int (zI (x))]) (va_Qi (fun (r : Int32) (S' : St) => ∃ g, S' = sA S 9 g ∧ r = zI (wdF n (S 5) (S 6) q)) (gB D (mW cI ad)) (mA ad)) 0 0 (mA ad) := by
  refine Met.ofW (cc := cX7_wideOf) (maxL := 5) (ret := (some .int)) (by decide) rfl ?_
  intro p e s m args below meth c s₁ B hml hv
  obtain ⟨rfl, hP, hE⟩ := hv
  have hx := B.exec
  have hb := B.bytes
  have hr := B.returns
  have hts := atoms_spec (ws := Cond.code yX7_wideOf cX7_wideOf 5 (some .int) :: lwT) B.pre
  have hT := fun w (h : w ∈ lwT) => hts w (List.mem_cons_of_mem _ h)
  have hsub : ∀ w ∈ lwT, w ∈ (Cond.code yX7_wideOf cX7_wideOf 5 (some .int) :: lwT) := fun w h => List.mem_cons_of_mem _ h
  have hown : s.vm.findClass RX7 = some m.cls := findClass_of_methodNamed B.named
  have hlocks := B.notSynchronized
  have hK : va_K D vwCl [(cI, .int)] s := hE
  have hS : va_S (mA ad) s.heap s.heap [] := va_S.rf
  have hl := lv_entry ([.ref (ad 26), .ref (ad 6), .int (zI (x))]) (n := 5) (Nat.le_of_ble_eq_true rfl)
  rw [lg_entry_eq]
  generalize (lg_sl ([.ref (ad 26), .ref (ad 6), .int (zI (x))]) ++ List.replicate (5 - (lg_sl ([.ref (ad 26), .ref (ad 6), .int (zI (x))])).length) Slot.unset).toArray = ls at hl ⊢
  have hl : lv_has ls 5 [(0, .ref (ad 26)), (1, .ref (ad 6)), (2, .int (zI (x)))] := hl
  refine lv_aload_n hx hb dX7_wideOf_0 rfl (lv_at hl 0 rfl) ?_
  refine lv_aload_n hx hb dX7_wideOf_1 rfl (lv_at hl 1 rfl) ?_
  refine g_callVv (As := [.ref (ad 6)]) (rest := []) ⟨hx, hb, hml, hown, hts⟩ (k_X7_layPlaces_6 l D cI ad hinj S hR n hn hn7 hp) (cwV 1 hts (gV hsub q_786 q_788 q_sX7_layPlaces q_8 q_789) rfl rfl rfl hdX7_layPlaces ⟨Nat.le_of_ble_eq_true rfl, Nat.le_of_ble_eq_true rfl⟩) (mEb D cI) (mEk D cI (mA ad)) hE (va_recv (ci := 7) (q0 := 0) hK hP rfl rfl) hP hS rfl hl.1 rfl (Nat.le_of_ble_eq_true rfl) dX7_wideOf_2 ⟨Nat.le_of_ble_eq_true rfl, Nat.le_of_ble_eq_true rfl⟩ (fun S_2 H locs hq_3 hP hR hS _ => ?_)
  obtain ⟨f_4, rfl, hpl_5⟩ := hq_3
  refine z_iconst hx hb dX7_wideOf_5 ?_
  refine lv_istore_n (lv' := [(3, .int (zI (0))), (0, .ref (ad 26)), (1, .ref (ad 6)), (2, .int (zI (x)))]) hx hb dX7_wideOf_6 rfl hl (by decide) rfl (fun ls hl => ?_)
  refine z_iconst hx hb dX7_wideOf_7 ?_
  refine lv_istore (lv' := [(4, .int (zI (0))), (3, .int (zI (0))), (0, .ref (ad 26)), (1, .ref (ad 6)), (2, .int (zI (x)))]) hx hb dX7_wideOf_8 hl (by decide) rfl (fun ls hl => ?_)
  have cut_10 : ∀ (k9 : Nat) (i : Nat) (y : Int) (H : Heap) (locs : List Loc) (ls : Array Slot), (i ≤ n) → (y = sm (wdT n (S 5) (S 6) q) i) → (n - i) < k9 → va_P D vwCl (mW cI ad (sA S 9 f_4)) H → RS (sA S 9 f_4) → va_S (mA ad) s.heap H locs → lv_has ls 5 [(0, .ref (ad 26)), (1, .ref (ad 6)), (2, .int (zI (x))), (3, .int (zI (y))), (4, .int (zI (↑i)))] → W p l e (headSpec (Cond.code yX7_wideOf cX7_wideOf 5 (some .int) :: lwT) ({ frames := 1, cells := 0, slots := 0, locals := 22 })).room s m ([.ref (ad 26), .ref (ad 6), .int (zI (x))] : List Value).toArray below meth c H locs 0 0 (MQ below (va_Qi (fun (r : Int32) (S' : St) => ∃ g, S' = sA S 9 g ∧ r = zI (wdF n (S 5) (S 6) q)) (gB D (mW cI ad)) (mA ad)) ([.ref (ad 26), .ref (ad 6), .int (zI (x))] : List Value).toArray s 0 0 (mA ad)) (F0 m 10 ls []) := by
    intro k9
    induction k9 with
    | zero =>
      intro i y H locs ls hi hy hk9 hP hR hS hl
      exact absurd hk9 (Nat.not_lt_zero _)
    | succ k9 ih_10 =>
      intro i y H locs ls hi hy hk9 hP hR hS hl
      refine lv_iload hx hb dX7_wideOf_10 (lv_at hl 4 rfl) ?_
      refine lv_aload_n hx hb dX7_wideOf_12 rfl (lv_at hl 0 rfl) ?_
      have g_6 : -2147483648 ≤ S 2 0 ∧ S 2 0 < 2147483648 := hR 2 0 (by decide)
      refine va_get (D := D) (ci := 7) (v := .int (zI (S 2 0))) (C := RX7) (T := TX7) (N := 26) hx hb hT inX7 hown hK hP 0 rfl rfl 2 (by decide) (hT _ q_674) (fun _ h9 => h9) rfl dX7_wideOf_13 ?_
      refine z_icmp_ge (tgt := 62) hx hb (by omega) (by omega) (by omega) (by omega) dX7_wideOf_16 (by decide) (fun c_7 => ?_) (fun c_7 => ?_)
      · have h9 : True := trivial
        refine lv_iload_n hx hb dX7_wideOf_62 rfl (lv_at hl 3 rfl) ?_
        exact g_iret (S1 := sA S 9 f_4) (v := zI (y)) hx hb hr hlocks hP hR hS (⟨_, rfl, by rw [hy, show i = n by omega]; rfl⟩) dX7_wideOf_63
      · have h9 : True := trivial
        refine lv_iload_n hx hb dX7_wideOf_19 rfl (lv_at hl 3 rfl) ?_
        refine lv_iload hx hb dX7_wideOf_20 (lv_at hl 4 rfl) ?_
        refine lv_aload_n hx hb dX7_wideOf_22 rfl (lv_at hl 0 rfl) ?_
        refine va_get (D := D) (ci := 7) (v := .ref (ad 9)) (C := RX7) (T := TX7) (N := 26) hx hb hT inX7 hown hK hP 0 rfl rfl 9 (by decide) (hT _ q_681) (fun _ h9 => h9) rfl dX7_wideOf_23 ?_
        refine lv_iload_n hx hb dX7_wideOf_26 rfl (lv_at hl 2 rfl) ?_
        have g_8 : -2147483648 ≤ f_4 (x).toNat ∧ f_4 (x).toNat < 2147483648 := hR 9 ((x).toNat) (by decide)
        refine z_ald (f := f_4) hx hb hK hP 5 0 rfl rfl (by omega) (by omega) (by decide) (j := (x).toNat) rfl dX7_wideOf_27 ?_
        have g_9 := pl_lt hp (v := q) (by omega)
        refine z_top (b := ↑(pl n (S 6) q)) (by rw [show (x).toNat = q by omega]; exact hpl_5 q (by omega)) ?_
        refine lv_aload_n hx hb dX7_wideOf_28 rfl (lv_at hl 0 rfl) ?_
        refine va_get (D := D) (ci := 7) (v := .ref (ad 9)) (C := RX7) (T := TX7) (N := 26) hx hb hT inX7 hown hK hP 0 rfl rfl 9 (by decide) (hT _ q_681) (fun _ h9 => h9) rfl dX7_wideOf_29 ?_
        refine lv_iload_n hx hb dX7_wideOf_32 rfl (lv_at hl 2 rfl) ?_
        refine z_iconst hx hb dX7_wideOf_33 ?_
        refine z_iadd hx hb dX7_wideOf_34 ?_
        have g_10 : -2147483648 ≤ f_4 (x + 1).toNat ∧ f_4 (x + 1).toNat < 2147483648 := hR 9 ((x + 1).toNat) (by decide)
        refine z_ald (f := f_4) hx hb hK hP 5 0 rfl rfl (by omega) (by omega) (by decide) (j := (x + 1).toNat) rfl dX7_wideOf_35 ?_
        have g_11 := pl_lt hp (v := (q + 1)) (by omega)
        refine z_top (b := ↑(pl n (S 6) (q + 1))) (by rw [show (x + 1).toNat = (q + 1) by omega]; exact hpl_5 ((q + 1)) (by omega)) ?_
        refine s_callSi (As := [.int (zI (↑i)), .int (zI (↑(pl n (S 6) q))), .int (zI (↑(pl n (S 6) (q + 1))))]) (rest := [.int (zI (y))]) ⟨hx, hb, hml, hown, hts⟩ (k_X7_isWithin l ↑i (↑(pl n (S 6) q)) (↑(pl n (S 6) (q + 1))) (by omega) (by omega) (by omega) (by omega) (by omega) (by omega)) (cwS 3 hts (gS hsub q_790 q_791 q_8 q_792) rfl rfl rfl hdX7_isWithin ⟨Nat.le_of_ble_eq_true rfl, Nat.le_of_ble_eq_true rfl⟩) rfl hl.1 rfl (Nat.le_of_ble_eq_true rfl) dX7_wideOf_36 ⟨Nat.le_of_ble_eq_true rfl, Nat.le_of_ble_eq_true rfl⟩ (fun r_12 hq_14 => ?_)
        rw [hq_14]
        refine z_ifeqB (tgt := 53) hx hb dX7_wideOf_39 (by decide) (fun c_15 => ?_) (fun c_15 => ?_)
        · have h9 : True := trivial
          refine z_iconst hx hb dX7_wideOf_53 ?_
          refine z_iadd hx hb dX7_wideOf_54 ?_
          refine lv_istore_n (lv' := [(3, .int (zI (y + 0))), (0, .ref (ad 26)), (1, .ref (ad 6)), (2, .int (zI (x))), (4, .int (zI (↑i)))]) hx hb dX7_wideOf_55 rfl hl (by decide) rfl (fun ls hl => ?_)
          refine z_iinc (lv' := [(4, .int (zI (↑i + 1))), (3, .int (zI (y + 0))), (0, .ref (ad 26)), (1, .ref (ad 6)), (2, .int (zI (x)))]) hx hb dX7_wideOf_56 hl (k := 4) rfl (by decide) rfl (fun ls hl => ?_)
          refine lv_goto (tgt := 10) hx hb dX7_wideOf_59 (by decide) ?_
          exact ih_10 (i + 1) (y + 0) _ _ _ (by omega) (by rw [sm, wdT_f c_15, hy]) (by omega) hP hR hS (lv_sub hl [2, 3, 4, 1, 0] rfl)
        · have h9 : True := trivial
          refine lv_aload_n hx hb dX7_wideOf_42 rfl (lv_at hl 0 rfl) ?_
          refine lv_aload_n hx hb dX7_wideOf_43 rfl (lv_at hl 1 rfl) ?_
          refine lv_iload hx hb dX7_wideOf_44 (lv_at hl 4 rfl) ?_
          have h8 := hp.1 i (by omega)
          have g_16 : -2147483648 ≤ S 6 i ∧ S 6 i < 2147483648 := hR 6 i (by decide)
          refine z_ald (f := S 6) hx hb hK hP 3 0 rfl rfl (by omega) (by omega) (by decide) (j := i) rfl dX7_wideOf_46 ?_
          refine g_callVi (As := [.int (zI (S 6 i))]) (rest := [.int (zI (y))]) ⟨hx, hb, hml, hown, hts⟩ (k_X7_thick l D cI ad hinj (sA S 9 f_4) hR (S 6 i) (by omega) (by omega)) (cwV 1 hts (gV hsub q_898 q_900 q_sX7_thick q_8 q_901) rfl rfl rfl hdX7_thick ⟨Nat.le_of_ble_eq_true rfl, Nat.le_of_ble_eq_true rfl⟩) (mEb D cI) (mEk D cI (mA ad)) hE (va_recv (ci := 7) (q0 := 0) hK hP rfl rfl) hP hS rfl hl.1 rfl (Nat.le_of_ble_eq_true rfl) dX7_wideOf_47 ⟨Nat.le_of_ble_eq_true rfl, Nat.le_of_ble_eq_true rfl⟩ (fun r_17 S_18 H locs hq_19 hP hR hS _ => ?_)
          obtain ⟨hs9, rfl⟩ := hq_19
          obtain rfl := hs9.symm
          refine z_top (b := thk (S 5 (S 6 i).toNat)) rfl ?_
          refine lv_goto (tgt := 54) hx hb dX7_wideOf_50 (by decide) ?_
          refine z_iadd hx hb dX7_wideOf_54 ?_
          refine lv_istore_n (lv' := [(3, .int (zI (y + (thk (S 5 (S 6 i).toNat))))), (0, .ref (ad 26)), (1, .ref (ad 6)), (2, .int (zI (x))), (4, .int (zI (↑i)))]) hx hb dX7_wideOf_55 rfl hl (by decide) rfl (fun ls hl => ?_)
          refine z_iinc (lv' := [(4, .int (zI (↑i + 1))), (3, .int (zI (y + (thk (S 5 (S 6 i).toNat))))), (0, .ref (ad 26)), (1, .ref (ad 6)), (2, .int (zI (x)))]) hx hb dX7_wideOf_56 hl (k := 4) rfl (by decide) rfl (fun ls hl => ?_)
          refine lv_goto (tgt := 10) hx hb dX7_wideOf_59 (by decide) ?_
          exact ih_10 (i + 1) (y + (thk (S 5 (S 6 i).toNat))) _ _ _ (by omega) (by rw [sm, wdT_t c_15, hy]) (by omega) hP hR hS (lv_sub hl [2, 3, 4, 1, 0] rfl)
  exact cut_10 _ 0 0 _ _ _ (by omega) (rfl) (Nat.lt_succ_self _) hP hR hS (lv_sub hl [2, 3, 4, 1, 0] rfl)
set_option maxHeartbeats 4000000 in
set_option maxRecDepth 100000 in
theorem k_X7_widest_6 (l : Launch) (D : va_G) (cI : ClassId) (ad : Nat → Nat) (hinj : mInj ad) (S : St) (hR : RS S) (n : Nat) (hn : S 2 0 = ↑n) (hn7 : n ≤ 7) (hp : prm n (S 6)) : Met l yX7_widest (Cond.code yX7_widest cX7_widest 5 (some .int) :: lwT) ({ frames := 2, cells := 0, slots := 0, locals := 46 }) (gPc D (mW cI ad) (mE D cI) S [.ref (ad 26), .ref (ad 6)]) (va_Qi (fun (r : Int32) (S' : St) => ∃ g, S' = sA S 9 g ∧ r = zI (mxF (wdF n (S 5) (S 6)) (n - 1))) (gB D (mW cI ad)) (mA ad)) 0 0 (mA ad) := by
  refine Met.ofW (cc := cX7_widest) (maxL := 5) (ret := (some .int)) (by decide) rfl ?_
  intro p e s m args below meth c s₁ B hml hv
  obtain ⟨rfl, hP, hE⟩ := hv
  have hx := B.exec
  have hb := B.bytes
  have hr := B.returns
  have hts := atoms_spec (ws := Cond.code yX7_widest cX7_widest 5 (some .int) :: lwT) B.pre
  have hT := fun w (h : w ∈ lwT) => hts w (List.mem_cons_of_mem _ h)
  have hsub : ∀ w ∈ lwT, w ∈ (Cond.code yX7_widest cX7_widest 5 (some .int) :: lwT) := fun w h => List.mem_cons_of_mem _ h
  have hown : s.vm.findClass RX7 = some m.cls := findClass_of_methodNamed B.named
  have hlocks := B.notSynchronized
  have hK : va_K D vwCl [(cI, .int)] s := hE
  have hS : va_S (mA ad) s.heap s.heap [] := va_S.rf
  have hl := lv_entry ([.ref (ad 26), .ref (ad 6)]) (n := 5) (Nat.le_of_ble_eq_true rfl)
  rw [lg_entry_eq]
  generalize (lg_sl ([.ref (ad 26), .ref (ad 6)]) ++ List.replicate (5 - (lg_sl ([.ref (ad 26), .ref (ad 6)])).length) Slot.unset).toArray = ls at hl ⊢
  have hl : lv_has ls 5 [(0, .ref (ad 26)), (1, .ref (ad 6))] := hl
  refine z_iconst hx hb dX7_widest_0 ?_
  refine lv_istore_n (lv' := [(2, .int (zI (0))), (0, .ref (ad 26)), (1, .ref (ad 6))]) hx hb dX7_widest_1 rfl hl (by decide) rfl (fun ls hl => ?_)
  refine z_iconst hx hb dX7_widest_2 ?_
  refine lv_istore_n (lv' := [(3, .int (zI (0))), (2, .int (zI (0))), (0, .ref (ad 26)), (1, .ref (ad 6))]) hx hb dX7_widest_3 rfl hl (by decide) rfl (fun ls hl => ?_)
  have cut_4 : ∀ (k9 : Nat) (i : Nat) (y : Int) (g : Nat → Int) (H : Heap) (locs : List Loc) (ls : Array Slot), (i ≤ n - 1) → (0 ≤ y ∧ y ≤ 21) → (y = mxF (wdF n (S 5) (S 6)) i) → (n - i) < k9 → va_P D vwCl (mW cI ad (sA S 9 g)) H → RS (sA S 9 g) → va_S (mA ad) s.heap H locs → lv_has ls 5 [(0, .ref (ad 26)), (1, .ref (ad 6)), (2, .int (zI (y))), (3, .int (zI (↑i)))] → W p l e (headSpec (Cond.code yX7_widest cX7_widest 5 (some .int) :: lwT) ({ frames := 2, cells := 0, slots := 0, locals := 46 })).room s m ([.ref (ad 26), .ref (ad 6)] : List Value).toArray below meth c H locs 0 0 (MQ below (va_Qi (fun (r : Int32) (S' : St) => ∃ g, S' = sA S 9 g ∧ r = zI (mxF (wdF n (S 5) (S 6)) (n - 1))) (gB D (mW cI ad)) (mA ad)) ([.ref (ad 26), .ref (ad 6)] : List Value).toArray s 0 0 (mA ad)) (F0 m 4 ls []) := by
    intro k9
    induction k9 with
    | zero =>
      intro i y g H locs ls hi hyr hy hk9 hP hR hS hl
      exact absurd hk9 (Nat.not_lt_zero _)
    | succ k9 ih_4 =>
      intro i y g H locs ls hi hyr hy hk9 hP hR hS hl
      refine lv_iload_n hx hb dX7_widest_4 rfl (lv_at hl 3 rfl) ?_
      refine z_iconst hx hb dX7_widest_5 ?_
      refine z_iadd hx hb dX7_widest_6 ?_
      refine lv_aload_n hx hb dX7_widest_7 rfl (lv_at hl 0 rfl) ?_
      have g_1 : -2147483648 ≤ S 2 0 ∧ S 2 0 < 2147483648 := hR 2 0 (by decide)
      refine va_get (D := D) (ci := 7) (v := .int (zI (S 2 0))) (C := RX7) (T := TX7) (N := 26) hx hb hT inX7 hown hK hP 0 rfl rfl 2 (by decide) (hT _ q_674) (fun _ h9 => h9) rfl dX7_widest_8 ?_
      refine z_icmp_ge (tgt := 41) hx hb (by omega) (by omega) (by omega) (by omega) dX7_widest_11 (by decide) (fun c_2 => ?_) (fun c_2 => ?_)
      · have h9 : True := trivial
        refine lv_iload_n hx hb dX7_widest_41 rfl (lv_at hl 2 rfl) ?_
        exact g_iret (S1 := sA S 9 g) (v := zI (y)) hx hb hr hlocks hP hR hS (⟨_, rfl, by rw [hy, show i = n - 1 by omega]⟩) dX7_widest_42
      · have h9 : True := trivial
        refine lv_aload_n hx hb dX7_widest_14 rfl (lv_at hl 0 rfl) ?_
        refine lv_aload_n hx hb dX7_widest_15 rfl (lv_at hl 1 rfl) ?_
        refine lv_iload_n hx hb dX7_widest_16 rfl (lv_at hl 3 rfl) ?_
        refine g_callVi (As := [.ref (ad 6), .int (zI (↑i))]) (rest := []) ⟨hx, hb, hml, hown, hts⟩ (k_X7_wideOf_6 l D cI ad hinj (sA S 9 g) hR n hn hn7 (hp) (i) ↑i (by omega) (by omega)) (cwV 2 hts (gV hsub q_894 q_896 q_sX7_wideOf q_8 q_897) rfl rfl rfl hdX7_wideOf ⟨Nat.le_of_ble_eq_true rfl, Nat.le_of_ble_eq_true rfl⟩) (mEb D cI) (mEk D cI (mA ad)) hE (va_recv (ci := 7) (q0 := 0) hK hP rfl rfl) hP hS rfl hl.1 rfl (Nat.le_of_ble_eq_true rfl) dX7_widest_17 ⟨Nat.le_of_ble_eq_true rfl, Nat.le_of_ble_eq_true rfl⟩ (fun r_3 S_4 H locs hq_5 hP hR hS _ => ?_)
        obtain ⟨f_6, rfl, rfl⟩ := hq_5
        rw [sA_sA] at hP hR
        refine z_top (b := wdF n (S 5) (S 6) i) rfl ?_
        have g_7 := wdF_r n (S 5) (S 6) i
        refine lv_istore (lv' := [(4, .int (zI (wdF n (S 5) (S 6) i))), (0, .ref (ad 26)), (1, .ref (ad 6)), (2, .int (zI (y))), (3, .int (zI (↑i)))]) hx hb dX7_widest_20 hl (by decide) rfl (fun ls hl => ?_)
        refine lv_iload hx hb dX7_widest_22 (lv_at hl 0 rfl) ?_
        refine lv_iload_n hx hb dX7_widest_24 rfl (lv_at hl 3 rfl) ?_
        refine z_icmp_le (tgt := 33) hx hb (by omega) (by omega) (by omega) (by omega) dX7_widest_25 (by decide) (fun c_8 => ?_) (fun c_8 => ?_)
        · have h9 : True := trivial
          refine lv_iload_n hx hb dX7_widest_33 rfl (lv_at hl 3 rfl) ?_
          refine lv_istore_n (lv' := [(2, .int (zI (y))), (4, .int (zI (wdF n (S 5) (S 6) i))), (0, .ref (ad 26)), (1, .ref (ad 6)), (3, .int (zI (↑i)))]) hx hb dX7_widest_34 rfl hl (by decide) rfl (fun ls hl => ?_)
          refine z_iinc (lv' := [(3, .int (zI (↑i + 1))), (2, .int (zI (y))), (4, .int (zI (wdF n (S 5) (S 6) i))), (0, .ref (ad 26)), (1, .ref (ad 6))]) hx hb dX7_widest_35 hl (k := 4) rfl (by decide) rfl (fun ls hl => ?_)
          refine lv_goto (tgt := 4) hx hb dX7_widest_38 (by decide) ?_
          exact ih_4 (i + 1) y f_6 _ _ _ (by omega) (by omega) (by rw [mxF, ← hy, if_neg (by omega)]) (by omega) hP hR hS (lv_sub hl [3, 4, 1, 0] rfl)
        · have h9 : True := trivial
          refine lv_iload hx hb dX7_widest_28 (lv_at hl 0 rfl) ?_
          refine lv_goto (tgt := 34) hx hb dX7_widest_30 (by decide) ?_
          refine lv_istore_n (lv' := [(2, .int (zI (wdF n (S 5) (S 6) i))), (4, .int (zI (wdF n (S 5) (S 6) i))), (0, .ref (ad 26)), (1, .ref (ad 6)), (3, .int (zI (↑i)))]) hx hb dX7_widest_34 rfl hl (by decide) rfl (fun ls hl => ?_)
          refine z_iinc (lv' := [(3, .int (zI (↑i + 1))), (2, .int (zI (wdF n (S 5) (S 6) i))), (4, .int (zI (wdF n (S 5) (S 6) i))), (0, .ref (ad 26)), (1, .ref (ad 6))]) hx hb dX7_widest_35 hl (k := 4) rfl (by decide) rfl (fun ls hl => ?_)
          refine lv_goto (tgt := 4) hx hb dX7_widest_38 (by decide) ?_
          exact ih_4 (i + 1) (wdF n (S 5) (S 6) i) f_6 _ _ _ (by omega) (by omega) (by rw [mxF, ← hy, if_pos (by omega)]) (by omega) hP hR hS (lv_sub hl [3, 4, 1, 0] rfl)
  have hSe_9 : S = sA S 9 (S 9) := by
    funext k8
    by_cases e80 : k8 = 9
    · subst e80; first | rfl | (funext j8; rfl)
    simp [sA, e80]
  rw [hSe_9] at hP hR
  exact cut_4 _ 0 0 (S 9) _ _ _ (by omega) (by omega) (rfl) (Nat.lt_succ_self _) hP hR hS (lv_sub hl [2, 3, 1, 0] rfl)
set_option maxHeartbeats 4000000 in
set_option maxRecDepth 100000 in
theorem k_X7_wideOf_10 (l : Launch) (D : va_G) (cI : ClassId) (ad : Nat → Nat) (hinj : mInj ad) (S : St) (hR : RS S) (n : Nat) (hn : S 2 0 = ↑n) (hn7 : n ≤ 7) (hp : prm n (S 10)) (q : Nat) (x : Int) (hxq : x = ↑q) (hq : q + 1 < n) : Met l yX7_wideOf (Cond.code yX7_wideOf cX7_wideOf 5 (some .int) :: lwT) ({ frames := 1, cells := 0, slots := 0, locals := 22 }) (gPc D (mW cI ad) (mE D cI) S [.ref (ad 26), .ref (ad 10), .int (zI (x))]) (va_Qi (fun (r : Int32) (S' : St) => ∃ g, S' = sA S 9 g ∧ r = zI (wdF n (S 5) (S 10) q)) (gB D (mW cI ad)) (mA ad)) 0 0 (mA ad) := by
  refine Met.ofW (cc := cX7_wideOf) (maxL := 5) (ret := (some .int)) (by decide) rfl ?_
  intro p e s m args below meth c s₁ B hml hv
  obtain ⟨rfl, hP, hE⟩ := hv
  have hx := B.exec
  have hb := B.bytes
  have hr := B.returns
  have hts := atoms_spec (ws := Cond.code yX7_wideOf cX7_wideOf 5 (some .int) :: lwT) B.pre
  have hT := fun w (h : w ∈ lwT) => hts w (List.mem_cons_of_mem _ h)
  have hsub : ∀ w ∈ lwT, w ∈ (Cond.code yX7_wideOf cX7_wideOf 5 (some .int) :: lwT) := fun w h => List.mem_cons_of_mem _ h
  have hown : s.vm.findClass RX7 = some m.cls := findClass_of_methodNamed B.named
  have hlocks := B.notSynchronized
  have hK : va_K D vwCl [(cI, .int)] s := hE
  have hS : va_S (mA ad) s.heap s.heap [] := va_S.rf
  have hl := lv_entry ([.ref (ad 26), .ref (ad 10), .int (zI (x))]) (n := 5) (Nat.le_of_ble_eq_true rfl)
  rw [lg_entry_eq]
  generalize (lg_sl ([.ref (ad 26), .ref (ad 10), .int (zI (x))]) ++ List.replicate (5 - (lg_sl ([.ref (ad 26), .ref (ad 10), .int (zI (x))])).length) Slot.unset).toArray = ls at hl ⊢
  have hl : lv_has ls 5 [(0, .ref (ad 26)), (1, .ref (ad 10)), (2, .int (zI (x)))] := hl
  refine lv_aload_n hx hb dX7_wideOf_0 rfl (lv_at hl 0 rfl) ?_
  refine lv_aload_n hx hb dX7_wideOf_1 rfl (lv_at hl 1 rfl) ?_
  refine g_callVv (As := [.ref (ad 10)]) (rest := []) ⟨hx, hb, hml, hown, hts⟩ (k_X7_layPlaces_10 l D cI ad hinj S hR n hn hn7 hp) (cwV 1 hts (gV hsub q_786 q_788 q_sX7_layPlaces q_8 q_789) rfl rfl rfl hdX7_layPlaces ⟨Nat.le_of_ble_eq_true rfl, Nat.le_of_ble_eq_true rfl⟩) (mEb D cI) (mEk D cI (mA ad)) hE (va_recv (ci := 7) (q0 := 0) hK hP rfl rfl) hP hS rfl hl.1 rfl (Nat.le_of_ble_eq_true rfl) dX7_wideOf_2 ⟨Nat.le_of_ble_eq_true rfl, Nat.le_of_ble_eq_true rfl⟩ (fun S_2 H locs hq_3 hP hR hS _ => ?_)
  obtain ⟨f_4, rfl, hpl_5⟩ := hq_3
  refine z_iconst hx hb dX7_wideOf_5 ?_
  refine lv_istore_n (lv' := [(3, .int (zI (0))), (0, .ref (ad 26)), (1, .ref (ad 10)), (2, .int (zI (x)))]) hx hb dX7_wideOf_6 rfl hl (by decide) rfl (fun ls hl => ?_)
  refine z_iconst hx hb dX7_wideOf_7 ?_
  refine lv_istore (lv' := [(4, .int (zI (0))), (3, .int (zI (0))), (0, .ref (ad 26)), (1, .ref (ad 10)), (2, .int (zI (x)))]) hx hb dX7_wideOf_8 hl (by decide) rfl (fun ls hl => ?_)
  have cut_10 : ∀ (k9 : Nat) (i : Nat) (y : Int) (H : Heap) (locs : List Loc) (ls : Array Slot), (i ≤ n) → (y = sm (wdT n (S 5) (S 10) q) i) → (n - i) < k9 → va_P D vwCl (mW cI ad (sA S 9 f_4)) H → RS (sA S 9 f_4) → va_S (mA ad) s.heap H locs → lv_has ls 5 [(0, .ref (ad 26)), (1, .ref (ad 10)), (2, .int (zI (x))), (3, .int (zI (y))), (4, .int (zI (↑i)))] → W p l e (headSpec (Cond.code yX7_wideOf cX7_wideOf 5 (some .int) :: lwT) ({ frames := 1, cells := 0, slots := 0, locals := 22 })).room s m ([.ref (ad 26), .ref (ad 10), .int (zI (x))] : List Value).toArray below meth c H locs 0 0 (MQ below (va_Qi (fun (r : Int32) (S' : St) => ∃ g, S' = sA S 9 g ∧ r = zI (wdF n (S 5) (S 10) q)) (gB D (mW cI ad)) (mA ad)) ([.ref (ad 26), .ref (ad 10), .int (zI (x))] : List Value).toArray s 0 0 (mA ad)) (F0 m 10 ls []) := by
    intro k9
    induction k9 with
    | zero =>
      intro i y H locs ls hi hy hk9 hP hR hS hl
      exact absurd hk9 (Nat.not_lt_zero _)
    | succ k9 ih_10 =>
      intro i y H locs ls hi hy hk9 hP hR hS hl
      refine lv_iload hx hb dX7_wideOf_10 (lv_at hl 4 rfl) ?_
      refine lv_aload_n hx hb dX7_wideOf_12 rfl (lv_at hl 0 rfl) ?_
      have g_6 : -2147483648 ≤ S 2 0 ∧ S 2 0 < 2147483648 := hR 2 0 (by decide)
      refine va_get (D := D) (ci := 7) (v := .int (zI (S 2 0))) (C := RX7) (T := TX7) (N := 26) hx hb hT inX7 hown hK hP 0 rfl rfl 2 (by decide) (hT _ q_674) (fun _ h9 => h9) rfl dX7_wideOf_13 ?_
      refine z_icmp_ge (tgt := 62) hx hb (by omega) (by omega) (by omega) (by omega) dX7_wideOf_16 (by decide) (fun c_7 => ?_) (fun c_7 => ?_)
      · have h9 : True := trivial
        refine lv_iload_n hx hb dX7_wideOf_62 rfl (lv_at hl 3 rfl) ?_
        exact g_iret (S1 := sA S 9 f_4) (v := zI (y)) hx hb hr hlocks hP hR hS (⟨_, rfl, by rw [hy, show i = n by omega]; rfl⟩) dX7_wideOf_63
      · have h9 : True := trivial
        refine lv_iload_n hx hb dX7_wideOf_19 rfl (lv_at hl 3 rfl) ?_
        refine lv_iload hx hb dX7_wideOf_20 (lv_at hl 4 rfl) ?_
        refine lv_aload_n hx hb dX7_wideOf_22 rfl (lv_at hl 0 rfl) ?_
        refine va_get (D := D) (ci := 7) (v := .ref (ad 9)) (C := RX7) (T := TX7) (N := 26) hx hb hT inX7 hown hK hP 0 rfl rfl 9 (by decide) (hT _ q_681) (fun _ h9 => h9) rfl dX7_wideOf_23 ?_
        refine lv_iload_n hx hb dX7_wideOf_26 rfl (lv_at hl 2 rfl) ?_
        have g_8 : -2147483648 ≤ f_4 (x).toNat ∧ f_4 (x).toNat < 2147483648 := hR 9 ((x).toNat) (by decide)
        refine z_ald (f := f_4) hx hb hK hP 5 0 rfl rfl (by omega) (by omega) (by decide) (j := (x).toNat) rfl dX7_wideOf_27 ?_
        have g_9 := pl_lt hp (v := q) (by omega)
        refine z_top (b := ↑(pl n (S 10) q)) (by rw [show (x).toNat = q by omega]; exact hpl_5 q (by omega)) ?_
        refine lv_aload_n hx hb dX7_wideOf_28 rfl (lv_at hl 0 rfl) ?_
        refine va_get (D := D) (ci := 7) (v := .ref (ad 9)) (C := RX7) (T := TX7) (N := 26) hx hb hT inX7 hown hK hP 0 rfl rfl 9 (by decide) (hT _ q_681) (fun _ h9 => h9) rfl dX7_wideOf_29 ?_
        refine lv_iload_n hx hb dX7_wideOf_32 rfl (lv_at hl 2 rfl) ?_
        refine z_iconst hx hb dX7_wideOf_33 ?_
        refine z_iadd hx hb dX7_wideOf_34 ?_
        have g_10 : -2147483648 ≤ f_4 (x + 1).toNat ∧ f_4 (x + 1).toNat < 2147483648 := hR 9 ((x + 1).toNat) (by decide)
        refine z_ald (f := f_4) hx hb hK hP 5 0 rfl rfl (by omega) (by omega) (by decide) (j := (x + 1).toNat) rfl dX7_wideOf_35 ?_
        have g_11 := pl_lt hp (v := (q + 1)) (by omega)
        refine z_top (b := ↑(pl n (S 10) (q + 1))) (by rw [show (x + 1).toNat = (q + 1) by omega]; exact hpl_5 ((q + 1)) (by omega)) ?_
        refine s_callSi (As := [.int (zI (↑i)), .int (zI (↑(pl n (S 10) q))), .int (zI (↑(pl n (S 10) (q + 1))))]) (rest := [.int (zI (y))]) ⟨hx, hb, hml, hown, hts⟩ (k_X7_isWithin l ↑i (↑(pl n (S 10) q)) (↑(pl n (S 10) (q + 1))) (by omega) (by omega) (by omega) (by omega) (by omega) (by omega)) (cwS 3 hts (gS hsub q_790 q_791 q_8 q_792) rfl rfl rfl hdX7_isWithin ⟨Nat.le_of_ble_eq_true rfl, Nat.le_of_ble_eq_true rfl⟩) rfl hl.1 rfl (Nat.le_of_ble_eq_true rfl) dX7_wideOf_36 ⟨Nat.le_of_ble_eq_true rfl, Nat.le_of_ble_eq_true rfl⟩ (fun r_12 hq_14 => ?_)
        rw [hq_14]
        refine z_ifeqB (tgt := 53) hx hb dX7_wideOf_39 (by decide) (fun c_15 => ?_) (fun c_15 => ?_)
        · have h9 : True := trivial
          refine z_iconst hx hb dX7_wideOf_53 ?_
          refine z_iadd hx hb dX7_wideOf_54 ?_
          refine lv_istore_n (lv' := [(3, .int (zI (y + 0))), (0, .ref (ad 26)), (1, .ref (ad 10)), (2, .int (zI (x))), (4, .int (zI (↑i)))]) hx hb dX7_wideOf_55 rfl hl (by decide) rfl (fun ls hl => ?_)
          refine z_iinc (lv' := [(4, .int (zI (↑i + 1))), (3, .int (zI (y + 0))), (0, .ref (ad 26)), (1, .ref (ad 10)), (2, .int (zI (x)))]) hx hb dX7_wideOf_56 hl (k := 4) rfl (by decide) rfl (fun ls hl => ?_)
          refine lv_goto (tgt := 10) hx hb dX7_wideOf_59 (by decide) ?_
          exact ih_10 (i + 1) (y + 0) _ _ _ (by omega) (by rw [sm, wdT_f c_15, hy]) (by omega) hP hR hS (lv_sub hl [2, 3, 4, 1, 0] rfl)
        · have h9 : True := trivial
          refine lv_aload_n hx hb dX7_wideOf_42 rfl (lv_at hl 0 rfl) ?_
          refine lv_aload_n hx hb dX7_wideOf_43 rfl (lv_at hl 1 rfl) ?_
          refine lv_iload hx hb dX7_wideOf_44 (lv_at hl 4 rfl) ?_
          have h8 := hp.1 i (by omega)
          have g_16 : -2147483648 ≤ S 10 i ∧ S 10 i < 2147483648 := hR 10 i (by decide)
          refine z_ald (f := S 10) hx hb hK hP 6 0 rfl rfl (by omega) (by omega) (by decide) (j := i) rfl dX7_wideOf_46 ?_
          refine g_callVi (As := [.int (zI (S 10 i))]) (rest := [.int (zI (y))]) ⟨hx, hb, hml, hown, hts⟩ (k_X7_thick l D cI ad hinj (sA S 9 f_4) hR (S 10 i) (by omega) (by omega)) (cwV 1 hts (gV hsub q_898 q_900 q_sX7_thick q_8 q_901) rfl rfl rfl hdX7_thick ⟨Nat.le_of_ble_eq_true rfl, Nat.le_of_ble_eq_true rfl⟩) (mEb D cI) (mEk D cI (mA ad)) hE (va_recv (ci := 7) (q0 := 0) hK hP rfl rfl) hP hS rfl hl.1 rfl (Nat.le_of_ble_eq_true rfl) dX7_wideOf_47 ⟨Nat.le_of_ble_eq_true rfl, Nat.le_of_ble_eq_true rfl⟩ (fun r_17 S_18 H locs hq_19 hP hR hS _ => ?_)
          obtain ⟨hs9, rfl⟩ := hq_19
          obtain rfl := hs9.symm
          refine z_top (b := thk (S 5 (S 10 i).toNat)) rfl ?_
          refine lv_goto (tgt := 54) hx hb dX7_wideOf_50 (by decide) ?_
          refine z_iadd hx hb dX7_wideOf_54 ?_
          refine lv_istore_n (lv' := [(3, .int (zI (y + (thk (S 5 (S 10 i).toNat))))), (0, .ref (ad 26)), (1, .ref (ad 10)), (2, .int (zI (x))), (4, .int (zI (↑i)))]) hx hb dX7_wideOf_55 rfl hl (by decide) rfl (fun ls hl => ?_)
          refine z_iinc (lv' := [(4, .int (zI (↑i + 1))), (3, .int (zI (y + (thk (S 5 (S 10 i).toNat))))), (0, .ref (ad 26)), (1, .ref (ad 10)), (2, .int (zI (x)))]) hx hb dX7_wideOf_56 hl (k := 4) rfl (by decide) rfl (fun ls hl => ?_)
          refine lv_goto (tgt := 10) hx hb dX7_wideOf_59 (by decide) ?_
          exact ih_10 (i + 1) (y + (thk (S 5 (S 10 i).toNat))) _ _ _ (by omega) (by rw [sm, wdT_t c_15, hy]) (by omega) hP hR hS (lv_sub hl [2, 3, 4, 1, 0] rfl)
  exact cut_10 _ 0 0 _ _ _ (by omega) (rfl) (Nat.lt_succ_self _) hP hR hS (lv_sub hl [2, 3, 4, 1, 0] rfl)
set_option maxHeartbeats 4000000 in
set_option maxRecDepth 100000 in
theorem k_X7_widest_10 (l : Launch) (D : va_G) (cI : ClassId) (ad : Nat → Nat) (hinj : mInj ad) (S : St) (hR : RS S) (n : Nat) (hn : S 2 0 = ↑n) (hn7 : n ≤ 7) (hp : prm n (S 10)) : Met l yX7_widest (Cond.code yX7_widest cX7_widest 5 (some .int) :: lwT) ({ frames := 2, cells := 0, slots := 0, locals := 46 }) (gPc D (mW cI ad) (mE D cI) S [.ref (ad 26), .ref (ad 10)]) (va_Qi (fun (r : Int32) (S' : St) => ∃ g, S' = sA S 9 g ∧ r = zI (mxF (wdF n (S 5) (S 10)) (n - 1))) (gB D (mW cI ad)) (mA ad)) 0 0 (mA ad) := by
  refine Met.ofW (cc := cX7_widest) (maxL := 5) (ret := (some .int)) (by decide) rfl ?_
  intro p e s m args below meth c s₁ B hml hv
  obtain ⟨rfl, hP, hE⟩ := hv
  have hx := B.exec
  have hb := B.bytes
  have hr := B.returns
  have hts := atoms_spec (ws := Cond.code yX7_widest cX7_widest 5 (some .int) :: lwT) B.pre
  have hT := fun w (h : w ∈ lwT) => hts w (List.mem_cons_of_mem _ h)
  have hsub : ∀ w ∈ lwT, w ∈ (Cond.code yX7_widest cX7_widest 5 (some .int) :: lwT) := fun w h => List.mem_cons_of_mem _ h
  have hown : s.vm.findClass RX7 = some m.cls := findClass_of_methodNamed B.named
  have hlocks := B.notSynchronized
  have hK : va_K D vwCl [(cI, .int)] s := hE
  have hS : va_S (mA ad) s.heap s.heap [] := va_S.rf
  have hl := lv_entry ([.ref (ad 26), .ref (ad 10)]) (n := 5) (Nat.le_of_ble_eq_true rfl)
  rw [lg_entry_eq]
  generalize (lg_sl ([.ref (ad 26), .ref (ad 10)]) ++ List.replicate (5 - (lg_sl ([.ref (ad 26), .ref (ad 10)])).length) Slot.unset).toArray = ls at hl ⊢
  have hl : lv_has ls 5 [(0, .ref (ad 26)), (1, .ref (ad 10))] := hl
  refine z_iconst hx hb dX7_widest_0 ?_
  refine lv_istore_n (lv' := [(2, .int (zI (0))), (0, .ref (ad 26)), (1, .ref (ad 10))]) hx hb dX7_widest_1 rfl hl (by decide) rfl (fun ls hl => ?_)
  refine z_iconst hx hb dX7_widest_2 ?_
  refine lv_istore_n (lv' := [(3, .int (zI (0))), (2, .int (zI (0))), (0, .ref (ad 26)), (1, .ref (ad 10))]) hx hb dX7_widest_3 rfl hl (by decide) rfl (fun ls hl => ?_)
  have cut_4 : ∀ (k9 : Nat) (i : Nat) (y : Int) (g : Nat → Int) (H : Heap) (locs : List Loc) (ls : Array Slot), (i ≤ n - 1) → (0 ≤ y ∧ y ≤ 21) → (y = mxF (wdF n (S 5) (S 10)) i) → (n - i) < k9 → va_P D vwCl (mW cI ad (sA S 9 g)) H → RS (sA S 9 g) → va_S (mA ad) s.heap H locs → lv_has ls 5 [(0, .ref (ad 26)), (1, .ref (ad 10)), (2, .int (zI (y))), (3, .int (zI (↑i)))] → W p l e (headSpec (Cond.code yX7_widest cX7_widest 5 (some .int) :: lwT) ({ frames := 2, cells := 0, slots := 0, locals := 46 })).room s m ([.ref (ad 26), .ref (ad 10)] : List Value).toArray below meth c H locs 0 0 (MQ below (va_Qi (fun (r : Int32) (S' : St) => ∃ g, S' = sA S 9 g ∧ r = zI (mxF (wdF n (S 5) (S 10)) (n - 1))) (gB D (mW cI ad)) (mA ad)) ([.ref (ad 26), .ref (ad 10)] : List Value).toArray s 0 0 (mA ad)) (F0 m 4 ls []) := by
    intro k9
    induction k9 with
    | zero =>
      intro i y g H locs ls hi hyr hy hk9 hP hR hS hl
      exact absurd hk9 (Nat.not_lt_zero _)
    | succ k9 ih_4 =>
      intro i y g H locs ls hi hyr hy hk9 hP hR hS hl
      refine lv_iload_n hx hb dX7_widest_4 rfl (lv_at hl 3 rfl) ?_
      refine z_iconst hx hb dX7_widest_5 ?_
      refine z_iadd hx hb dX7_widest_6 ?_
      refine lv_aload_n hx hb dX7_widest_7 rfl (lv_at hl 0 rfl) ?_
      have g_1 : -2147483648 ≤ S 2 0 ∧ S 2 0 < 2147483648 := hR 2 0 (by decide)
      refine va_get (D := D) (ci := 7) (v := .int (zI (S 2 0))) (C := RX7) (T := TX7) (N := 26) hx hb hT inX7 hown hK hP 0 rfl rfl 2 (by decide) (hT _ q_674) (fun _ h9 => h9) rfl dX7_widest_8 ?_
      refine z_icmp_ge (tgt := 41) hx hb (by omega) (by omega) (by omega) (by omega) dX7_widest_11 (by decide) (fun c_2 => ?_) (fun c_2 => ?_)
      · have h9 : True := trivial
        refine lv_iload_n hx hb dX7_widest_41 rfl (lv_at hl 2 rfl) ?_
        exact g_iret (S1 := sA S 9 g) (v := zI (y)) hx hb hr hlocks hP hR hS (⟨_, rfl, by rw [hy, show i = n - 1 by omega]⟩) dX7_widest_42
      · have h9 : True := trivial
        refine lv_aload_n hx hb dX7_widest_14 rfl (lv_at hl 0 rfl) ?_
        refine lv_aload_n hx hb dX7_widest_15 rfl (lv_at hl 1 rfl) ?_
        refine lv_iload_n hx hb dX7_widest_16 rfl (lv_at hl 3 rfl) ?_
        refine g_callVi (As := [.ref (ad 10), .int (zI (↑i))]) (rest := []) ⟨hx, hb, hml, hown, hts⟩ (k_X7_wideOf_10 l D cI ad hinj (sA S 9 g) hR n hn hn7 (hp) (i) ↑i (by omega) (by omega)) (cwV 2 hts (gV hsub q_894 q_896 q_sX7_wideOf q_8 q_897) rfl rfl rfl hdX7_wideOf ⟨Nat.le_of_ble_eq_true rfl, Nat.le_of_ble_eq_true rfl⟩) (mEb D cI) (mEk D cI (mA ad)) hE (va_recv (ci := 7) (q0 := 0) hK hP rfl rfl) hP hS rfl hl.1 rfl (Nat.le_of_ble_eq_true rfl) dX7_widest_17 ⟨Nat.le_of_ble_eq_true rfl, Nat.le_of_ble_eq_true rfl⟩ (fun r_3 S_4 H locs hq_5 hP hR hS _ => ?_)
        obtain ⟨f_6, rfl, rfl⟩ := hq_5
        rw [sA_sA] at hP hR
        refine z_top (b := wdF n (S 5) (S 10) i) rfl ?_
        have g_7 := wdF_r n (S 5) (S 10) i
        refine lv_istore (lv' := [(4, .int (zI (wdF n (S 5) (S 10) i))), (0, .ref (ad 26)), (1, .ref (ad 10)), (2, .int (zI (y))), (3, .int (zI (↑i)))]) hx hb dX7_widest_20 hl (by decide) rfl (fun ls hl => ?_)
        refine lv_iload hx hb dX7_widest_22 (lv_at hl 0 rfl) ?_
        refine lv_iload_n hx hb dX7_widest_24 rfl (lv_at hl 3 rfl) ?_
        refine z_icmp_le (tgt := 33) hx hb (by omega) (by omega) (by omega) (by omega) dX7_widest_25 (by decide) (fun c_8 => ?_) (fun c_8 => ?_)
        · have h9 : True := trivial
          refine lv_iload_n hx hb dX7_widest_33 rfl (lv_at hl 3 rfl) ?_
          refine lv_istore_n (lv' := [(2, .int (zI (y))), (4, .int (zI (wdF n (S 5) (S 10) i))), (0, .ref (ad 26)), (1, .ref (ad 10)), (3, .int (zI (↑i)))]) hx hb dX7_widest_34 rfl hl (by decide) rfl (fun ls hl => ?_)
          refine z_iinc (lv' := [(3, .int (zI (↑i + 1))), (2, .int (zI (y))), (4, .int (zI (wdF n (S 5) (S 10) i))), (0, .ref (ad 26)), (1, .ref (ad 10))]) hx hb dX7_widest_35 hl (k := 4) rfl (by decide) rfl (fun ls hl => ?_)
          refine lv_goto (tgt := 4) hx hb dX7_widest_38 (by decide) ?_
          exact ih_4 (i + 1) y f_6 _ _ _ (by omega) (by omega) (by rw [mxF, ← hy, if_neg (by omega)]) (by omega) hP hR hS (lv_sub hl [3, 4, 1, 0] rfl)
        · have h9 : True := trivial
          refine lv_iload hx hb dX7_widest_28 (lv_at hl 0 rfl) ?_
          refine lv_goto (tgt := 34) hx hb dX7_widest_30 (by decide) ?_
          refine lv_istore_n (lv' := [(2, .int (zI (wdF n (S 5) (S 10) i))), (4, .int (zI (wdF n (S 5) (S 10) i))), (0, .ref (ad 26)), (1, .ref (ad 10)), (3, .int (zI (↑i)))]) hx hb dX7_widest_34 rfl hl (by decide) rfl (fun ls hl => ?_)
          refine z_iinc (lv' := [(3, .int (zI (↑i + 1))), (2, .int (zI (wdF n (S 5) (S 10) i))), (4, .int (zI (wdF n (S 5) (S 10) i))), (0, .ref (ad 26)), (1, .ref (ad 10))]) hx hb dX7_widest_35 hl (k := 4) rfl (by decide) rfl (fun ls hl => ?_)
          refine lv_goto (tgt := 4) hx hb dX7_widest_38 (by decide) ?_
          exact ih_4 (i + 1) (wdF n (S 5) (S 10) i) f_6 _ _ _ (by omega) (by omega) (by rw [mxF, ← hy, if_pos (by omega)]) (by omega) hP hR hS (lv_sub hl [3, 4, 1, 0] rfl)
  have hSe_9 : S = sA S 9 (S 9) := by
    funext k8
    by_cases e80 : k8 = 9
    · subst e80; first | rfl | (funext j8; rfl)
    simp [sA, e80]
  rw [hSe_9] at hP hR
  exact cut_4 _ 0 0 (S 9) _ _ _ (by omega) (by omega) (rfl) (Nat.lt_succ_self _) hP hR hS (lv_sub hl [2, 3, 1, 0] rfl)
set_option maxHeartbeats 4000000 in
set_option maxRecDepth 100000 in
theorem k_X7_widerMany_6 (l : Launch) (D : va_G) (cI : ClassId) (ad : Nat → Nat) (hinj : mInj ad) (S : St) (hR : RS S) (n : Nat) (hn : S 2 0 = ↑n) (hn7 : n ≤ 7) (hp : prm n (S 6)) : Met l yX7_widerMany (Cond.code yX7_widerMany cX7_widerMany 4 (some .int) :: lwT) ({ frames := 2, cells := 0, slots := 0, locals := 46 }) (gPc D (mW cI ad) (mE D cI) S [.ref (ad 26), .ref (ad 6)]) (va_Qi (fun (r : Int32) (S' : St) => ∃ g, S' = sA S 9 g ∧ r = zI (cnt (fun q => pB (0 < wdF n (S 5) (S 6) q)) (n - 1))) (gB D (mW cI ad)) (mA ad)) 0 0 (mA ad) := by
  refine Met.ofW (cc := cX7_widerMany) (maxL := 4) (ret := (some .int)) (by decide) rfl ?_
  intro p e s m args below meth c s₁ B hml hv
  obtain ⟨rfl, hP, hE⟩ := hv
  have hx := B.exec
  have hb := B.bytes
  have hr := B.returns
  have hts := atoms_spec (ws := Cond.code yX7_widerMany cX7_widerMany 4 (some .int) :: lwT) B.pre
  have hT := fun w (h : w ∈ lwT) => hts w (List.mem_cons_of_mem _ h)
  have hsub : ∀ w ∈ lwT, w ∈ (Cond.code yX7_widerMany cX7_widerMany 4 (some .int) :: lwT) := fun w h => List.mem_cons_of_mem _ h
  have hown : s.vm.findClass RX7 = some m.cls := findClass_of_methodNamed B.named
  have hlocks := B.notSynchronized
  have hK : va_K D vwCl [(cI, .int)] s := hE
  have hS : va_S (mA ad) s.heap s.heap [] := va_S.rf
  have hl := lv_entry ([.ref (ad 26), .ref (ad 6)]) (n := 4) (Nat.le_of_ble_eq_true rfl)
  rw [lg_entry_eq]
  generalize (lg_sl ([.ref (ad 26), .ref (ad 6)]) ++ List.replicate (4 - (lg_sl ([.ref (ad 26), .ref (ad 6)])).length) Slot.unset).toArray = ls at hl ⊢
  have hl : lv_has ls 4 [(0, .ref (ad 26)), (1, .ref (ad 6))] := hl
  refine z_iconst hx hb dX7_widerMany_0 ?_
  refine lv_istore_n (lv' := [(2, .int (zI (0))), (0, .ref (ad 26)), (1, .ref (ad 6))]) hx hb dX7_widerMany_1 rfl hl (by decide) rfl (fun ls hl => ?_)
  refine z_iconst hx hb dX7_widerMany_2 ?_
  refine lv_istore_n (lv' := [(3, .int (zI (0))), (2, .int (zI (0))), (0, .ref (ad 26)), (1, .ref (ad 6))]) hx hb dX7_widerMany_3 rfl hl (by decide) rfl (fun ls hl => ?_)
  have cut_4 : ∀ (k9 : Nat) (i : Nat) (y : Int) (g : Nat → Int) (H : Heap) (locs : List Loc) (ls : Array Slot), (i ≤ n - 1) → (y = cnt (fun q => pB (0 < wdF n (S 5) (S 6) q)) i) → (n - i) < k9 → va_P D vwCl (mW cI ad (sA S 9 g)) H → RS (sA S 9 g) → va_S (mA ad) s.heap H locs → lv_has ls 4 [(0, .ref (ad 26)), (1, .ref (ad 6)), (2, .int (zI (y))), (3, .int (zI (↑i)))] → W p l e (headSpec (Cond.code yX7_widerMany cX7_widerMany 4 (some .int) :: lwT) ({ frames := 2, cells := 0, slots := 0, locals := 46 })).room s m ([.ref (ad 26), .ref (ad 6)] : List Value).toArray below meth c H locs 0 0 (MQ below (va_Qi (fun (r : Int32) (S' : St) => ∃ g, S' = sA S 9 g ∧ r = zI (cnt (fun q => pB (0 < wdF n (S 5) (S 6) q)) (n - 1))) (gB D (mW cI ad)) (mA ad)) ([.ref (ad 26), .ref (ad 6)] : List Value).toArray s 0 0 (mA ad)) (F0 m 4 ls []) := by
    intro k9
    induction k9 with
    | zero =>
      intro i y g H locs ls hi hy hk9 hP hR hS hl
      exact absurd hk9 (Nat.not_lt_zero _)
    | succ k9 ih_4 =>
      intro i y g H locs ls hi hy hk9 hP hR hS hl
      refine lv_iload_n hx hb dX7_widerMany_4 rfl (lv_at hl 3 rfl) ?_
      refine z_iconst hx hb dX7_widerMany_5 ?_
      refine z_iadd hx hb dX7_widerMany_6 ?_
      refine lv_aload_n hx hb dX7_widerMany_7 rfl (lv_at hl 0 rfl) ?_
      have g_1 : -2147483648 ≤ S 2 0 ∧ S 2 0 < 2147483648 := hR 2 0 (by decide)
      refine va_get (D := D) (ci := 7) (v := .int (zI (S 2 0))) (C := RX7) (T := TX7) (N := 26) hx hb hT inX7 hown hK hP 0 rfl rfl 2 (by decide) (hT _ q_674) (fun _ h9 => h9) rfl dX7_widerMany_8 ?_
      refine z_icmp_ge (tgt := 37) hx hb (by omega) (by omega) (by omega) (by omega) dX7_widerMany_11 (by decide) (fun c_2 => ?_) (fun c_2 => ?_)
      · have h9 : True := trivial
        refine lv_iload_n hx hb dX7_widerMany_37 rfl (lv_at hl 2 rfl) ?_
        exact g_iret (S1 := sA S 9 g) (v := zI (y)) hx hb hr hlocks hP hR hS (⟨_, rfl, by rw [hy, show i = n - 1 by omega]⟩) dX7_widerMany_38
      · have h9 : True := trivial
        refine lv_iload_n hx hb dX7_widerMany_14 rfl (lv_at hl 2 rfl) ?_
        refine lv_aload_n hx hb dX7_widerMany_15 rfl (lv_at hl 0 rfl) ?_
        refine lv_aload_n hx hb dX7_widerMany_16 rfl (lv_at hl 1 rfl) ?_
        refine lv_iload_n hx hb dX7_widerMany_17 rfl (lv_at hl 3 rfl) ?_
        refine g_callVi (As := [.ref (ad 6), .int (zI (↑i))]) (rest := [.int (zI (y))]) ⟨hx, hb, hml, hown, hts⟩ (k_X7_wideOf_6 l D cI ad hinj (sA S 9 g) hR n hn hn7 (hp) (i) ↑i (by omega) (by omega)) (cwV 2 hts (gV hsub q_894 q_896 q_sX7_wideOf q_8 q_897) rfl rfl rfl hdX7_wideOf ⟨Nat.le_of_ble_eq_true rfl, Nat.le_of_ble_eq_true rfl⟩) (mEb D cI) (mEk D cI (mA ad)) hE (va_recv (ci := 7) (q0 := 0) hK hP rfl rfl) hP hS rfl hl.1 rfl (Nat.le_of_ble_eq_true rfl) dX7_widerMany_18 ⟨Nat.le_of_ble_eq_true rfl, Nat.le_of_ble_eq_true rfl⟩ (fun r_3 S_4 H locs hq_5 hP hR hS _ => ?_)
        obtain ⟨f_6, rfl, rfl⟩ := hq_5
        rw [sA_sA] at hP hR
        refine z_top (b := wdF n (S 5) (S 6) i) rfl ?_
        have g_7 := wdF_r n (S 5) (S 6) i
        refine z_if_le (tgt := 28) hx hb (by omega) (by omega) dX7_widerMany_21 (by decide) (fun c_8 => ?_) (fun c_8 => ?_)
        · have h9 : True := trivial
          refine z_iconst hx hb dX7_widerMany_28 ?_
          refine z_iadd hx hb dX7_widerMany_29 ?_
          refine lv_istore_n (lv' := [(2, .int (zI (y + 0))), (0, .ref (ad 26)), (1, .ref (ad 6)), (3, .int (zI (↑i)))]) hx hb dX7_widerMany_30 rfl hl (by decide) rfl (fun ls hl => ?_)
          refine z_iinc (lv' := [(3, .int (zI (↑i + 1))), (2, .int (zI (y + 0))), (0, .ref (ad 26)), (1, .ref (ad 6))]) hx hb dX7_widerMany_31 hl (k := 3) rfl (by decide) rfl (fun ls hl => ?_)
          refine lv_goto (tgt := 4) hx hb dX7_widerMany_34 (by decide) ?_
          exact ih_4 (i + 1) (y + 0) f_6 _ _ _ (by omega) (cnt_f (P := fun q => pB (0 < wdF n (S 5) (S 6) q)) (pB_f.mpr (by omega)) hy) (by omega) hP hR hS (lv_sub hl [2, 3, 1, 0] rfl)
        · have h9 : True := trivial
          refine z_iconst hx hb dX7_widerMany_24 ?_
          refine lv_goto (tgt := 29) hx hb dX7_widerMany_25 (by decide) ?_
          refine z_iadd hx hb dX7_widerMany_29 ?_
          refine lv_istore_n (lv' := [(2, .int (zI (y + 1))), (0, .ref (ad 26)), (1, .ref (ad 6)), (3, .int (zI (↑i)))]) hx hb dX7_widerMany_30 rfl hl (by decide) rfl (fun ls hl => ?_)
          refine z_iinc (lv' := [(3, .int (zI (↑i + 1))), (2, .int (zI (y + 1))), (0, .ref (ad 26)), (1, .ref (ad 6))]) hx hb dX7_widerMany_31 hl (k := 3) rfl (by decide) rfl (fun ls hl => ?_)
          refine lv_goto (tgt := 4) hx hb dX7_widerMany_34 (by decide) ?_
          exact ih_4 (i + 1) (y + 1) f_6 _ _ _ (by omega) (cnt_t (P := fun q => pB (0 < wdF n (S 5) (S 6) q)) (pB_t.mpr (by omega)) hy) (by omega) hP hR hS (lv_sub hl [2, 3, 1, 0] rfl)
  have hSe_9 : S = sA S 9 (S 9) := by
    funext k8
    by_cases e80 : k8 = 9
    · subst e80; first | rfl | (funext j8; rfl)
    simp [sA, e80]
  rw [hSe_9] at hP hR
  exact cut_4 _ 0 0 (S 9) _ _ _ (by omega) (rfl) (Nat.lt_succ_self _) hP hR hS (lv_sub hl [2, 3, 1, 0] rfl)
