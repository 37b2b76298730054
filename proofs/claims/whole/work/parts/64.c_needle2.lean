set_option maxHeartbeats 4000000 in
set_option maxRecDepth 100000 in
theorem k_X1_countThrough (l : Launch) (D : va_G) (cI cZ : ClassId) (ad : Nat → Nat) (az av : Nat) (hinj : cInj ad) (S : St) (hR : RS S) (n N : Nat) (t : Nat → Int) (hT9 : cTab n N t S) (m9 : Nat) (hse : seOK n m9 S) (hnz : n ≠ 0) : Met l yX1_countThrough (Cond.code yX1_countThrough cX1_countThrough 4 (some .int) :: lwT) ({ frames := 2, cells := 0, slots := 0, locals := 45 }) (gPc D (cW cI cZ ad) (cE D cI cZ ad az av) S [.ref (ad 47)]) (va_Qi (fun (r : Int32) (S' : St) => ∃ e31, S' = sA S 31 e31 ∧ (∀ p v, p < n → v < n → e31 (7 * p + v) = ltC (fun k => lkC n (dgF n (t k)) (S 11) (S 12) (S 13) m9) (fun k v => pl n (dgF n (t k)) v) (p + 1) v N) ∧ r = zI (cnt (fun k => pB (lkC n (dgF n (t k)) (S 11) (S 12) (S 13) m9)) N)) (gB D (cW cI cZ ad)) (cA ad)) 0 0 (cA ad) := by
  refine Met.ofW (cc := cX1_countThrough) (maxL := 4) (ret := (some .int)) (by decide) rfl ?_
  intro p e s m args below meth c s₁ B hml hv
  obtain ⟨rfl, hP, hE⟩ := hv
  have hx := B.exec
  have hb := B.bytes
  have hr := B.returns
  have hts := atoms_spec (ws := Cond.code yX1_countThrough cX1_countThrough 4 (some .int) :: lwT) B.pre
  have hT := fun w (h : w ∈ lwT) => hts w (List.mem_cons_of_mem _ h)
  have hsub : ∀ w ∈ lwT, w ∈ (Cond.code yX1_countThrough cX1_countThrough 4 (some .int) :: lwT) := fun w h => List.mem_cons_of_mem _ h
  have hown : s.vm.findClass RX1 = some m.cls := findClass_of_methodNamed B.named
  have hlocks := B.notSynchronized
  have hK : va_K D vwCl [(cI, .int), (cZ, .boolean)] s := hE.1
  have hS : va_S (cA ad) s.heap s.heap [] := va_S.rf
  have hT8 := hT9
  obtain ⟨⟨hn, hN, hn7, hN4⟩, hn0, hO9, hso, htb⟩ := hT9
  have hO := hO9 hnz
  have hl := lv_entry ([.ref (ad 47)]) (n := 4) (Nat.le_of_ble_eq_true rfl)
  rw [lg_entry_eq]
  generalize (lg_sl ([.ref (ad 47)]) ++ List.replicate (4 - (lg_sl ([.ref (ad 47)])).length) Slot.unset).toArray = ls at hl ⊢
  have hl : lv_has ls 4 [(0, .ref (ad 47))] := hl
  refine z_iconst hx hb dX1_countThrough_0 ?_
  refine lv_istore_n (lv' := [(1, .int (zI (0))), (0, .ref (ad 47))]) hx hb dX1_countThrough_1 rfl hl (by decide) rfl (fun ls hl => ?_)
  have cut_2 : ∀ (k9 : Nat) (a9 : Nat) (g : Nat → Int) (H : Heap) (locs : List Loc) (ls : Array Slot), (a9 ≤ 49) → (∀ j, j < a9 → g j = 0) → (49 - a9) < k9 → va_P D vwCl (cW cI cZ ad (sA S 31 g)) H → RS (sA S 31 g) → va_S (cA ad) s.heap H locs → lv_has ls 4 [(0, .ref (ad 47)), (1, .int (zI (↑a9)))] → W p l e (headSpec (Cond.code yX1_countThrough cX1_countThrough 4 (some .int) :: lwT) ({ frames := 2, cells := 0, slots := 0, locals := 45 })).room s m ([.ref (ad 47)] : List Value).toArray below meth c H locs 0 0 (MQ below (va_Qi (fun (r : Int32) (S' : St) => ∃ e31, S' = sA S 31 e31 ∧ (∀ p v, p < n → v < n → e31 (7 * p + v) = ltC (fun k => lkC n (dgF n (t k)) (S 11) (S 12) (S 13) m9) (fun k v => pl n (dgF n (t k)) v) (p + 1) v N) ∧ r = zI (cnt (fun k => pB (lkC n (dgF n (t k)) (S 11) (S 12) (S 13) m9)) N)) (gB D (cW cI cZ ad)) (cA ad)) ([.ref (ad 47)] : List Value).toArray s 0 0 (cA ad)) (F0 m 2 ls []) := by
    intro k9
    induction k9 with
    | zero =>
      intro a9 g H locs ls ha9 hg hk9 hP hR hS hl
      exact absurd hk9 (Nat.not_lt_zero _)
    | succ k9 ih_2 =>
      intro a9 g H locs ls ha9 hg hk9 hP hR hS hl
      refine lv_iload_n hx hb dX1_countThrough_2 rfl (lv_at hl 1 rfl) ?_
      refine lv_aload_n hx hb dX1_countThrough_3 rfl (lv_at hl 0 rfl) ?_
      refine va_get (D := D) (ci := 1) (v := .ref (ad 31)) (C := RX1) (T := TX1) (N := 3) hx hb hT inX1 hown hK hP 7 rfl rfl 2 (by decide) (hT _ q_168) (fun _ h9 => h9) rfl dX1_countThrough_4 ?_
      refine va_alen hx hb hK hP 26 0 rfl rfl (v := zI 49) rfl dX1_countThrough_7 ?_
      refine z_icmp_ge (tgt := 24) hx hb (by omega) (by omega) (by omega) (by omega) dX1_countThrough_8 (by decide) (fun c_1 => ?_) (fun c_1 => ?_)
      · have h9 : True := trivial
        refine z_iconst hx hb dX1_countThrough_24 ?_
        refine lv_istore_n (lv' := [(1, .int (zI (0))), (0, .ref (ad 47))]) hx hb dX1_countThrough_25 rfl hl (by decide) rfl (fun ls hl => ?_)
        refine z_iconst hx hb dX1_countThrough_26 ?_
        refine lv_istore_n (lv' := [(2, .int (zI (0))), (1, .int (zI (0))), (0, .ref (ad 47))]) hx hb dX1_countThrough_27 rfl hl (by decide) rfl (fun ls hl => ?_)
        have cut_28 : ∀ (k9 : Nat) (i : Nat) (y : Int) (g : Nat → Int) (H : Heap) (locs : List Loc) (ls : Array Slot), (i ≤ N) → (y = cnt (fun k => pB (lkC n (dgF n (t k)) (S 11) (S 12) (S 13) m9)) i) → (∀ p v, p < n → v < n → g (7 * p + v) = eqC (fun k => lkC n (dgF n (t k)) (S 11) (S 12) (S 13) m9) (fun k v => pl n (dgF n (t k)) v) p v i) → (N - i) < k9 → va_P D vwCl (cW cI cZ ad (sA S 31 g)) H → RS (sA S 31 g) → va_S (cA ad) s.heap H locs → lv_has ls 4 [(0, .ref (ad 47)), (1, .int (zI (y))), (2, .int (zI (↑i)))] → W p l e (headSpec (Cond.code yX1_countThrough cX1_countThrough 4 (some .int) :: lwT) ({ frames := 2, cells := 0, slots := 0, locals := 45 })).room s m ([.ref (ad 47)] : List Value).toArray below meth c H locs 0 0 (MQ below (va_Qi (fun (r : Int32) (S' : St) => ∃ e31, S' = sA S 31 e31 ∧ (∀ p v, p < n → v < n → e31 (7 * p + v) = ltC (fun k => lkC n (dgF n (t k)) (S 11) (S 12) (S 13) m9) (fun k v => pl n (dgF n (t k)) v) (p + 1) v N) ∧ r = zI (cnt (fun k => pB (lkC n (dgF n (t k)) (S 11) (S 12) (S 13) m9)) N)) (gB D (cW cI cZ ad)) (cA ad)) ([.ref (ad 47)] : List Value).toArray s 0 0 (cA ad)) (F0 m 28 ls []) := by
          intro k9
          induction k9 with
          | zero =>
            intro i y g H locs ls hi hy hg hk9 hP hR hS hl
            exact absurd hk9 (Nat.not_lt_zero _)
          | succ k9 ih_28 =>
            intro i y g H locs ls hi hy hg hk9 hP hR hS hl
            refine lv_iload_n hx hb dX1_countThrough_28 rfl (lv_at hl 2 rfl) ?_
            refine lv_aload_n hx hb dX1_countThrough_29 rfl (lv_at hl 0 rfl) ?_
            refine va_get (D := D) (ci := 1) (v := .ref (ad 42)) (C := RX1) (T := TX1) (N := 3) hx hb hT inX1 hown hK hP 7 rfl rfl 0 (by decide) (hT _ q_166) (fun _ h9 => h9) rfl dX1_countThrough_30 ?_
            have g_2 : -2147483648 ≤ S 3 0 ∧ S 3 0 < 2147483648 := hR 3 0 (by decide)
            refine va_get (D := D) (ci := 0) (v := .int (zI (S 3 0))) (C := RX0) (T := TX0) (N := 5) hx hb hT inX0 hown hK hP 2 rfl rfl 1 (by decide) (hT _ q_52) (fun _ h9 => h9) rfl dX1_countThrough_33 ?_
            refine z_icmp_ge (tgt := 103) hx hb (by omega) (by omega) (by omega) (by omega) dX1_countThrough_36 (by decide) (fun c_3 => ?_) (fun c_3 => ?_)
            · have h9 : True := trivial
              have hiN : i = N := by omega
              rw [hiN] at hg hy
              refine z_iconst hx hb dX1_countThrough_103 ?_
              refine lv_istore_n (lv' := [(2, .int (zI (2))), (0, .ref (ad 47)), (1, .int (zI (y)))]) hx hb dX1_countThrough_104 rfl hl (by decide) rfl (fun ls hl => ?_)
              have cut_105 : ∀ (k9 : Nat) (d : Nat) (g : Nat → Int) (H : Heap) (locs : List Loc) (ls : Array Slot), (2 ≤ d ∧ d ≤ 8) → (∀ p v, p < n → v < n → g (7 * p + v) = if p + 1 < d ∨ (p + 1 = d ∧ v < 0) then ltC (fun k => lkC n (dgF n (t k)) (S 11) (S 12) (S 13) m9) (fun k v => pl n (dgF n (t k)) v) (p + 1) v N else eqC (fun k => lkC n (dgF n (t k)) (S 11) (S 12) (S 13) m9) (fun k v => pl n (dgF n (t k)) v) p v N) → (8 - d) < k9 → va_P D vwCl (cW cI cZ ad (sA S 31 g)) H → RS (sA S 31 g) → va_S (cA ad) s.heap H locs → lv_has ls 4 [(0, .ref (ad 47)), (1, .int (zI (y))), (2, .int (zI (↑d)))] → W p l e (headSpec (Cond.code yX1_countThrough cX1_countThrough 4 (some .int) :: lwT) ({ frames := 2, cells := 0, slots := 0, locals := 45 })).room s m ([.ref (ad 47)] : List Value).toArray below meth c H locs 0 0 (MQ below (va_Qi (fun (r : Int32) (S' : St) => ∃ e31, S' = sA S 31 e31 ∧ (∀ p v, p < n → v < n → e31 (7 * p + v) = ltC (fun k => lkC n (dgF n (t k)) (S 11) (S 12) (S 13) m9) (fun k v => pl n (dgF n (t k)) v) (p + 1) v N) ∧ r = zI (cnt (fun k => pB (lkC n (dgF n (t k)) (S 11) (S 12) (S 13) m9)) N)) (gB D (cW cI cZ ad)) (cA ad)) ([.ref (ad 47)] : List Value).toArray s 0 0 (cA ad)) (F0 m 105 ls []) := by
                intro k9
                induction k9 with
                | zero =>
                  intro d g H locs ls hd hg4 hk9 hP hR hS hl
                  exact absurd hk9 (Nat.not_lt_zero _)
                | succ k9 ih_105 =>
                  intro d g H locs ls hd hg4 hk9 hP hR hS hl
                  refine lv_iload_n hx hb dX1_countThrough_105 rfl (lv_at hl 2 rfl) ?_
                  refine lv_aload_n hx hb dX1_countThrough_106 rfl (lv_at hl 0 rfl) ?_
                  refine va_get (D := D) (ci := 1) (v := .ref (ad 42)) (C := RX1) (T := TX1) (N := 3) hx hb hT inX1 hown hK hP 7 rfl rfl 0 (by decide) (hT _ q_166) (fun _ h9 => h9) rfl dX1_countThrough_107 ?_
                  have g_4 : -2147483648 ≤ S 2 0 ∧ S 2 0 < 2147483648 := hR 2 0 (by decide)
                  refine va_get (D := D) (ci := 0) (v := .int (zI (S 2 0))) (C := RX0) (T := TX0) (N := 5) hx hb hT inX0 hown hK hP 2 rfl rfl 0 (by decide) (hT _ q_46) (fun _ h9 => h9) rfl dX1_countThrough_110 ?_
                  refine z_icmp_gt (tgt := 168) hx hb (by omega) (by omega) (by omega) (by omega) dX1_countThrough_113 (by decide) (fun c_5 => ?_) (fun c_5 => ?_)
                  · have h9 : True := trivial
                    refine lv_iload_n hx hb dX1_countThrough_168 rfl (lv_at hl 1 rfl) ?_
                    exact g_iret (S1 := sA S 31 g) (v := zI (y)) hx hb hr hlocks hP hR hS (⟨_, rfl, fun p v hp hv => by rw [hg4 p v hp hv, if_pos (by omega)], by rw [hy]⟩) dX1_countThrough_169
                  · have h9 : True := trivial
                    refine z_iconst hx hb dX1_countThrough_116 ?_
                    refine lv_istore_n (lv' := [(3, .int (zI (0))), (0, .ref (ad 47)), (1, .int (zI (y))), (2, .int (zI (↑d)))]) hx hb dX1_countThrough_117 rfl hl (by decide) rfl (fun ls hl => ?_)
                    have cut_118 : ∀ (k9 : Nat) (j : Nat) (g : Nat → Int) (H : Heap) (locs : List Loc) (ls : Array Slot), (j ≤ n ∧ d ≤ n) → (∀ p v, p < n → v < n → g (7 * p + v) = if p + 1 < d ∨ (p + 1 = d ∧ v < j) then ltC (fun k => lkC n (dgF n (t k)) (S 11) (S 12) (S 13) m9) (fun k v => pl n (dgF n (t k)) v) (p + 1) v N else eqC (fun k => lkC n (dgF n (t k)) (S 11) (S 12) (S 13) m9) (fun k v => pl n (dgF n (t k)) v) p v N) → (n - j) < k9 → va_P D vwCl (cW cI cZ ad (sA S 31 g)) H → RS (sA S 31 g) → va_S (cA ad) s.heap H locs → lv_has ls 4 [(0, .ref (ad 47)), (1, .int (zI (y))), (2, .int (zI (↑d))), (3, .int (zI (↑j)))] → W p l e (headSpec (Cond.code yX1_countThrough cX1_countThrough 4 (some .int) :: lwT) ({ frames := 2, cells := 0, slots := 0, locals := 45 })).room s m ([.ref (ad 47)] : List Value).toArray below meth c H locs 0 0 (MQ below (va_Qi (fun (r : Int32) (S' : St) => ∃ e31, S' = sA S 31 e31 ∧ (∀ p v, p < n → v < n → e31 (7 * p + v) = ltC (fun k => lkC n (dgF n (t k)) (S 11) (S 12) (S 13) m9) (fun k v => pl n (dgF n (t k)) v) (p + 1) v N) ∧ r = zI (cnt (fun k => pB (lkC n (dgF n (t k)) (S 11) (S 12) (S 13) m9)) N)) (gB D (cW cI cZ ad)) (cA ad)) ([.ref (ad 47)] : List Value).toArray s 0 0 (cA ad)) (F0 m 118 ls []) := by
                      intro k9
                      induction k9 with
                      | zero =>
                        intro j g H locs ls hj hg5 hk9 hP hR hS hl
                        exact absurd hk9 (Nat.not_lt_zero _)
                      | succ k9 ih_118 =>
                        intro j g H locs ls hj hg5 hk9 hP hR hS hl
                        refine lv_iload_n hx hb dX1_countThrough_118 rfl (lv_at hl 3 rfl) ?_
                        refine lv_aload_n hx hb dX1_countThrough_119 rfl (lv_at hl 0 rfl) ?_
                        refine va_get (D := D) (ci := 1) (v := .ref (ad 42)) (C := RX1) (T := TX1) (N := 3) hx hb hT inX1 hown hK hP 7 rfl rfl 0 (by decide) (hT _ q_166) (fun _ h9 => h9) rfl dX1_countThrough_120 ?_
                        have g_6 : -2147483648 ≤ S 2 0 ∧ S 2 0 < 2147483648 := hR 2 0 (by decide)
                        refine va_get (D := D) (ci := 0) (v := .int (zI (S 2 0))) (C := RX0) (T := TX0) (N := 5) hx hb hT inX0 hown hK hP 2 rfl rfl 0 (by decide) (hT _ q_46) (fun _ h9 => h9) rfl dX1_countThrough_123 ?_
                        refine z_icmp_ge (tgt := 162) hx hb (by omega) (by omega) (by omega) (by omega) dX1_countThrough_126 (by decide) (fun c_7 => ?_) (fun c_7 => ?_)
                        · have h9 : True := trivial
                          refine z_iinc (lv' := [(2, .int (zI (↑d + 1))), (0, .ref (ad 47)), (1, .int (zI (y))), (3, .int (zI (↑j)))]) hx hb dX1_countThrough_162 hl (k := 2) rfl (by decide) rfl (fun ls hl => ?_)
                          refine lv_goto (tgt := 105) hx hb dX1_countThrough_165 (by decide) ?_
                          exact ih_105 (d + 1) g _ _ _ (by omega) (thr_row (P := (fun k => lkC n (dgF n (t k)) (S 11) (S 12) (S 13) m9)) (q := (fun k v => pl n (dgF n (t k)) v)) (by omega) hg5) (by omega) hP hR hS (lv_sub hl [1, 2, 0] rfl)
                        · have h9 : True := trivial
                          refine lv_aload_n hx hb dX1_countThrough_129 rfl (lv_at hl 0 rfl) ?_
                          refine va_get (D := D) (ci := 1) (v := .ref (ad 31)) (C := RX1) (T := TX1) (N := 3) hx hb hT inX1 hown hK hP 7 rfl rfl 2 (by decide) (hT _ q_168) (fun _ h9 => h9) rfl dX1_countThrough_130 ?_
                          refine lv_iload_n hx hb dX1_countThrough_133 rfl (lv_at hl 2 rfl) ?_
                          refine s_callSi (As := [.int (zI (↑d))]) (rest := [.ref (ad 31)]) ⟨hx, hb, hml, hown, hts⟩ (k_X1_rowOf l ↑d) (cwS 1 hts (gS hsub q_602 q_603 q_7 q_604) rfl rfl rfl hdX1_rowOf ⟨Nat.le_of_ble_eq_true rfl, Nat.le_of_ble_eq_true rfl⟩) rfl hl.1 rfl (Nat.le_of_ble_eq_true rfl) dX1_countThrough_134 ⟨Nat.le_of_ble_eq_true rfl, Nat.le_of_ble_eq_true rfl⟩ (fun r_8 hq_10 => ?_)
                          rw [hq_10]
                          refine lv_iload_n hx hb dX1_countThrough_137 rfl (lv_at hl 3 rfl) ?_
                          refine z_iadd hx hb dX1_countThrough_138 ?_
                          refine z_top (b := ↑(7 * (d - 1) + j)) (by omega) ?_
                          refine lv_dup2_11 hx hb dX1_countThrough_139 rfl rfl ?_
                          have g_11 : -2147483648 ≤ g (7 * (d - 1) + j) ∧ g (7 * (d - 1) + j) < 2147483648 := hR 31 ((7 * (d - 1) + j)) (by decide)
                          refine z_ald (f := g) hx hb hK hP 26 0 rfl rfl (by omega) (by omega) (by decide) (j := (7 * (d - 1) + j)) rfl dX1_countThrough_140 ?_
                          refine lv_aload_n hx hb dX1_countThrough_141 rfl (lv_at hl 0 rfl) ?_
                          refine va_get (D := D) (ci := 1) (v := .ref (ad 31)) (C := RX1) (T := TX1) (N := 3) hx hb hT inX1 hown hK hP 7 rfl rfl 2 (by decide) (hT _ q_168) (fun _ h9 => h9) rfl dX1_countThrough_142 ?_
                          refine lv_iload_n hx hb dX1_countThrough_145 rfl (lv_at hl 2 rfl) ?_
                          refine z_iconst hx hb dX1_countThrough_146 ?_
                          refine z_isub hx hb dX1_countThrough_147 ?_
                          refine s_callSi (As := [.int (zI (↑d - 1))]) (rest := [.ref (ad 31), .int (zI (g (7 * (d - 1) + j))), .int (zI (↑(7 * (d - 1) + j))), .ref (ad 31)]) ⟨hx, hb, hml, hown, hts⟩ (k_X1_rowOf l (↑d - 1)) (cwS 1 hts (gS hsub q_602 q_603 q_7 q_604) rfl rfl rfl hdX1_rowOf ⟨Nat.le_of_ble_eq_true rfl, Nat.le_of_ble_eq_true rfl⟩) rfl hl.1 rfl (Nat.le_of_ble_eq_true rfl) dX1_countThrough_148 ⟨Nat.le_of_ble_eq_true rfl, Nat.le_of_ble_eq_true rfl⟩ (fun r_12 hq_14 => ?_)
                          rw [hq_14]
                          refine lv_iload_n hx hb dX1_countThrough_151 rfl (lv_at hl 3 rfl) ?_
                          refine z_iadd hx hb dX1_countThrough_152 ?_
                          refine z_top (b := ↑(7 * (d - 2) + j)) (by omega) ?_
                          have g_15 : -2147483648 ≤ g (7 * (d - 2) + j) ∧ g (7 * (d - 2) + j) < 2147483648 := hR 31 ((7 * (d - 2) + j)) (by decide)
                          refine z_ald (f := g) hx hb hK hP 26 0 rfl rfl (by omega) (by omega) (by decide) (j := (7 * (d - 2) + j)) rfl dX1_countThrough_153 ?_
                          have hgr := hg5 (d - 1) j (by omega) (by omega)
                          rw [if_neg (by omega)] at hgr
                          have her := eqC_r (fun k => lkC n (dgF n (t k)) (S 11) (S 12) (S 13) m9) (fun k v => pl n (dgF n (t k)) v) (d - 1) j N
                          have hgr2 := hg5 (d - 2) j (by omega) (by omega)
                          rw [if_pos (by omega)] at hgr2
                          have hlr := ltC_r (fun k => lkC n (dgF n (t k)) (S 11) (S 12) (S 13) m9) (fun k v => pl n (dgF n (t k)) v) (d - 2 + 1) j N
                          refine z_iadd hx hb dX1_countThrough_154 ?_
                          refine z_ast (f := (sA S 31 g) 31) (i := ↑(7 * (d - 1) + j)) (v := (g (7 * (d - 1) + j)) + (g (7 * (d - 2) + j))) hx hb hK hP (cD hinj cI cZ _) hS 26 0 rfl rfl (by omega) (by omega) (by decide) dX1_countThrough_155 (fun H locs hP hS => ?_)
                          have hP : va_P D vwCl (cW cI cZ ad (sA S 31 (uZ g (7 * (d - 1) + j) ((g (7 * (d - 1) + j)) + (g (7 * (d - 2) + j)))))) H := hP
                          have hR : RS (sA S 31 (uZ g (7 * (d - 1) + j) ((g (7 * (d - 1) + j)) + (g (7 * (d - 2) + j))))) := hR.put' (by omega) (by omega)
                          refine z_iinc (lv' := [(3, .int (zI (↑j + 1))), (0, .ref (ad 47)), (1, .int (zI (y))), (2, .int (zI (↑d)))]) hx hb dX1_countThrough_156 hl (k := 3) rfl (by decide) rfl (fun ls hl => ?_)
                          refine lv_goto (tgt := 118) hx hb dX1_countThrough_159 (by decide) ?_
                          exact ih_118 (j + 1) (uZ g (7 * (d - 1) + j) ((g (7 * (d - 1) + j)) + (g (7 * (d - 2) + j)))) _ _ _ (by omega) (thr_sum (P := (fun k => lkC n (dgF n (t k)) (S 11) (S 12) (S 13) m9)) (q := (fun k v => pl n (dgF n (t k)) v)) hn7 (by omega) (by omega) hg5) (by omega) hP hR hS (lv_sub hl [1, 2, 3, 0] rfl)
                    exact cut_118 _ 0 g _ _ _ (by omega) (hg4) (Nat.lt_succ_self _) hP hR hS (lv_sub hl [1, 2, 3, 0] rfl)
              exact cut_105 _ 2 g _ _ _ (by omega) (thr_start (P := (fun k => lkC n (dgF n (t k)) (S 11) (S 12) (S 13) m9)) (q := (fun k v => pl n (dgF n (t k)) v)) hg) (Nat.lt_succ_self _) hP hR hS (lv_sub hl [1, 2, 0] rfl)
            · have h9 : True := trivial
              have hfr := cnt_r (fun k => pB (lkC n (dgF n (t k)) (S 11) (S 12) (S 13) m9)) i
              have cut_97 : ∀ (y2 : Int) (g : Nat → Int) (H : Heap) (locs : List Loc) (ls : Array Slot), (y2 = cnt (fun k => pB (lkC n (dgF n (t k)) (S 11) (S 12) (S 13) m9)) (i + 1)) → (∀ p v, p < n → v < n → g (7 * p + v) = eqC (fun k => lkC n (dgF n (t k)) (S 11) (S 12) (S 13) m9) (fun k v => pl n (dgF n (t k)) v) p v (i + 1)) → va_P D vwCl (cW cI cZ ad (sA S 31 g)) H → RS (sA S 31 g) → va_S (cA ad) s.heap H locs → lv_has ls 4 [(0, .ref (ad 47)), (1, .int (zI (y2))), (2, .int (zI (↑i)))] → W p l e (headSpec (Cond.code yX1_countThrough cX1_countThrough 4 (some .int) :: lwT) ({ frames := 2, cells := 0, slots := 0, locals := 45 })).room s m ([.ref (ad 47)] : List Value).toArray below meth c H locs 0 0 (MQ below (va_Qi (fun (r : Int32) (S' : St) => ∃ e31, S' = sA S 31 e31 ∧ (∀ p v, p < n → v < n → e31 (7 * p + v) = ltC (fun k => lkC n (dgF n (t k)) (S 11) (S 12) (S 13) m9) (fun k v => pl n (dgF n (t k)) v) (p + 1) v N) ∧ r = zI (cnt (fun k => pB (lkC n (dgF n (t k)) (S 11) (S 12) (S 13) m9)) N)) (gB D (cW cI cZ ad)) (cA ad)) ([.ref (ad 47)] : List Value).toArray s 0 0 (cA ad)) (F0 m 97 ls []) := by
                intro y2 g H locs ls hy2 hg2 hP hR hS hl
                refine z_iinc (lv' := [(2, .int (zI (↑i + 1))), (0, .ref (ad 47)), (1, .int (zI (y2)))]) hx hb dX1_countThrough_97 hl (k := 2) rfl (by decide) rfl (fun ls hl => ?_)
                refine lv_goto (tgt := 28) hx hb dX1_countThrough_100 (by decide) ?_
                exact ih_28 (i + 1) y2 g _ _ _ (by omega) (hy2) (hg2) (by omega) hP hR hS (lv_sub hl [1, 2, 0] rfl)
              refine lv_aload_n hx hb dX1_countThrough_39 rfl (lv_at hl 0 rfl) ?_
              refine lv_iload_n hx hb dX1_countThrough_40 rfl (lv_at hl 2 rfl) ?_
              refine g_callVi (As := [.int (zI (↑i))]) (rest := []) ⟨hx, hb, hml, hown, hts⟩ (k_X1_isPossible l D cI cZ ad az av hinj (sA S 31 g) hR n N t hT8 m9 hse i ↑i (by omega) (by omega)) (cwV 1 hts (gV hsub q_585 q_587 q_sX1_isPossible q_7 q_588) rfl rfl rfl hdX1_isPossible ⟨Nat.le_of_ble_eq_true rfl, Nat.le_of_ble_eq_true rfl⟩) (cEb D cI cZ ad az av) (cEk D cI cZ ad az av) hE (va_recv (ci := 1) (q0 := 7) hK hP rfl rfl) hP hS rfl hl.1 rfl (Nat.le_of_ble_eq_true rfl) dX1_countThrough_41 ⟨Nat.le_of_ble_eq_true rfl, Nat.le_of_ble_eq_true rfl⟩ (fun r_16 S_17 H locs hq_18 hP hR hS _ => ?_)
              obtain ⟨hs9, rfl⟩ := hq_18
              obtain rfl := hs9.symm
              refine z_top (b := b2 (pB (lkC n (dgF n (t i)) (S 11) (S 12) (S 13) m9))) rfl ?_
              refine z_ifneB (tgt := 50) hx hb dX1_countThrough_44 (by decide) (fun c_19 => ?_) (fun c_19 => ?_)
              · have h9 : True := trivial
                refine z_iinc (lv' := [(1, .int (zI (y + 1))), (0, .ref (ad 47)), (2, .int (zI (↑i)))]) hx hb dX1_countThrough_50 hl (k := 1) rfl (by decide) rfl (fun ls hl => ?_)
                refine z_iconst hx hb dX1_countThrough_53 ?_
                refine lv_istore_n (lv' := [(3, .int (zI (0))), (1, .int (zI (y + 1))), (0, .ref (ad 47)), (2, .int (zI (↑i)))]) hx hb dX1_countThrough_54 rfl hl (by decide) rfl (fun ls hl => ?_)
                have cut_55 : ∀ (k9 : Nat) (j : Nat) (g : Nat → Int) (H : Heap) (locs : List Loc) (ls : Array Slot), (j ≤ n) → (lkC n (dgF n (t i)) (S 11) (S 12) (S 13) m9) → (∀ p v, p < n → v < n → g (7 * p + v) = if v < j then eqC (fun k => lkC n (dgF n (t k)) (S 11) (S 12) (S 13) m9) (fun k v => pl n (dgF n (t k)) v) p v (i + 1) else eqC (fun k => lkC n (dgF n (t k)) (S 11) (S 12) (S 13) m9) (fun k v => pl n (dgF n (t k)) v) p v i) → (n - j) < k9 → va_P D vwCl (cW cI cZ ad (sA S 31 g)) H → RS (sA S 31 g) → va_S (cA ad) s.heap H locs → lv_has ls 4 [(0, .ref (ad 47)), (1, .int (zI (y + 1))), (2, .int (zI (↑i))), (3, .int (zI (↑j)))] → W p l e (headSpec (Cond.code yX1_countThrough cX1_countThrough 4 (some .int) :: lwT) ({ frames := 2, cells := 0, slots := 0, locals := 45 })).room s m ([.ref (ad 47)] : List Value).toArray below meth c H locs 0 0 (MQ below (va_Qi (fun (r : Int32) (S' : St) => ∃ e31, S' = sA S 31 e31 ∧ (∀ p v, p < n → v < n → e31 (7 * p + v) = ltC (fun k => lkC n (dgF n (t k)) (S 11) (S 12) (S 13) m9) (fun k v => pl n (dgF n (t k)) v) (p + 1) v N) ∧ r = zI (cnt (fun k => pB (lkC n (dgF n (t k)) (S 11) (S 12) (S 13) m9)) N)) (gB D (cW cI cZ ad)) (cA ad)) ([.ref (ad 47)] : List Value).toArray s 0 0 (cA ad)) (F0 m 55 ls []) := by
                  intro k9
                  induction k9 with
                  | zero =>
                    intro j g H locs ls hj hPi hg3 hk9 hP hR hS hl
                    exact absurd hk9 (Nat.not_lt_zero _)
                  | succ k9 ih_55 =>
                    intro j g H locs ls hj hPi hg3 hk9 hP hR hS hl
                    refine lv_iload_n hx hb dX1_countThrough_55 rfl (lv_at hl 3 rfl) ?_
                    refine lv_aload_n hx hb dX1_countThrough_56 rfl (lv_at hl 0 rfl) ?_
                    refine va_get (D := D) (ci := 1) (v := .ref (ad 42)) (C := RX1) (T := TX1) (N := 3) hx hb hT inX1 hown hK hP 7 rfl rfl 0 (by decide) (hT _ q_166) (fun _ h9 => h9) rfl dX1_countThrough_57 ?_
                    have g_20 : -2147483648 ≤ S 2 0 ∧ S 2 0 < 2147483648 := hR 2 0 (by decide)
                    refine va_get (D := D) (ci := 0) (v := .int (zI (S 2 0))) (C := RX0) (T := TX0) (N := 5) hx hb hT inX0 hown hK hP 2 rfl rfl 0 (by decide) (hT _ q_46) (fun _ h9 => h9) rfl dX1_countThrough_60 ?_
                    refine z_icmp_ge (tgt := 97) hx hb (by omega) (by omega) (by omega) (by omega) dX1_countThrough_63 (by decide) (fun c_21 => ?_) (fun c_21 => ?_)
                    · have h9 : True := trivial
                      exact cut_97 (y + 1) g _ _ _ (cnt_t (P := (fun k => pB (lkC n (dgF n (t k)) (S 11) (S 12) (S 13) m9))) (pB_t.mpr hPi) hy) (fun p v hp hv => by rw [hg3 p v hp hv, if_pos (by omega)]) hP hR hS (lv_sub hl [0, 1, 2] rfl)
                    · have h9 : True := trivial
                      have hpi := (hO.2.1 i (by omega)).2.1
                      obtain ⟨w, hw⟩ : ∃ w, pl n (dgF n (t i)) j = w := ⟨_, rfl⟩
                      have hwl := pl_lt hpi (v := j) (by omega)
                      rw [hw] at hwl
                      refine lv_aload_n hx hb dX1_countThrough_66 rfl (lv_at hl 0 rfl) ?_
                      refine va_get (D := D) (ci := 1) (v := .ref (ad 31)) (C := RX1) (T := TX1) (N := 3) hx hb hT inX1 hown hK hP 7 rfl rfl 2 (by decide) (hT _ q_168) (fun _ h9 => h9) rfl dX1_countThrough_67 ?_
                      refine lv_aload_n hx hb dX1_countThrough_70 rfl (lv_at hl 0 rfl) ?_
                      refine va_get (D := D) (ci := 1) (v := .ref (ad 42)) (C := RX1) (T := TX1) (N := 3) hx hb hT inX1 hown hK hP 7 rfl rfl 0 (by decide) (hT _ q_166) (fun _ h9 => h9) rfl dX1_countThrough_71 ?_
                      refine lv_iload_n hx hb dX1_countThrough_74 rfl (lv_at hl 2 rfl) ?_
                      refine lv_iload_n hx hb dX1_countThrough_75 rfl (lv_at hl 3 rfl) ?_
                      refine g_callVi (As := [.int (zI (↑i)), .int (zI (↑j))]) (rest := [.ref (ad 31)]) ⟨hx, hb, hml, hown, hts⟩ (k_X0_placeOf l D cI cZ ad az av hinj (sA S 31 g) hR n N t hT8 ↑i ↑j (by omega) (by omega) (by omega) (by omega)) (cwV 2 hts (gV hsub q_589 q_360 q_361 q_3 q_362) rfl rfl rfl hdX0_placeOf ⟨Nat.le_of_ble_eq_true rfl, Nat.le_of_ble_eq_true rfl⟩) (cEb D cI cZ ad az av) (cEk D cI cZ ad az av) hE (va_recv (ci := 0) (q0 := 2) hK hP rfl rfl) hP hS rfl hl.1 rfl (Nat.le_of_ble_eq_true rfl) dX1_countThrough_76 ⟨Nat.le_of_ble_eq_true rfl, Nat.le_of_ble_eq_true rfl⟩ (fun r_22 S_23 H locs hq_24 hP hR hS _ => ?_)
                      obtain ⟨hs9, rfl⟩ := hq_24
                      obtain rfl := hs9.symm
                      refine z_top (b := plV n N t ↑i ↑j) rfl ?_
                      refine z_top (b := ↑w) (by unfold plV; rw [if_pos (by omega), show (↑i : Int).toNat = i by omega, show (↑j : Int).toNat = j by omega, hw]) ?_
                      refine z_iconst hx hb dX1_countThrough_79 ?_
                      refine z_iadd hx hb dX1_countThrough_80 ?_
                      refine s_callSi (As := [.int (zI (↑w + 1))]) (rest := [.ref (ad 31)]) ⟨hx, hb, hml, hown, hts⟩ (k_X1_rowOf l (↑w + 1)) (cwS 1 hts (gS hsub q_602 q_603 q_7 q_604) rfl rfl rfl hdX1_rowOf ⟨Nat.le_of_ble_eq_true rfl, Nat.le_of_ble_eq_true rfl⟩) rfl hl.1 rfl (Nat.le_of_ble_eq_true rfl) dX1_countThrough_81 ⟨Nat.le_of_ble_eq_true rfl, Nat.le_of_ble_eq_true rfl⟩ (fun r_25 hq_27 => ?_)
                      rw [hq_27]
                      refine lv_iload_n hx hb dX1_countThrough_84 rfl (lv_at hl 3 rfl) ?_
                      refine z_iadd hx hb dX1_countThrough_85 ?_
                      refine z_top (b := ↑(7 * w + j)) (by omega) ?_
                      refine lv_dup2_11 hx hb dX1_countThrough_86 rfl rfl ?_
                      have g_28 : -2147483648 ≤ g (7 * w + j) ∧ g (7 * w + j) < 2147483648 := hR 31 ((7 * w + j)) (by decide)
                      refine z_ald (f := g) hx hb hK hP 26 0 rfl rfl (by omega) (by omega) (by decide) (j := (7 * w + j)) rfl dX1_countThrough_87 ?_
                      have hgr := hg3 w j hwl (by omega)
                      rw [if_neg (by omega)] at hgr
                      have her := eqC_r (fun k => lkC n (dgF n (t k)) (S 11) (S 12) (S 13) m9) (fun k v => pl n (dgF n (t k)) v) w j i
                      refine z_iconst hx hb dX1_countThrough_88 ?_
                      refine z_iadd hx hb dX1_countThrough_89 ?_
                      refine z_ast (f := (sA S 31 g) 31) (i := ↑(7 * w + j)) (v := (g (7 * w + j)) + 1) hx hb hK hP (cD hinj cI cZ _) hS 26 0 rfl rfl (by omega) (by omega) (by decide) dX1_countThrough_90 (fun H locs hP hS => ?_)
                      have hP : va_P D vwCl (cW cI cZ ad (sA S 31 (uZ g (7 * w + j) ((g (7 * w + j)) + 1)))) H := hP
                      have hR : RS (sA S 31 (uZ g (7 * w + j) ((g (7 * w + j)) + 1))) := hR.put' (by omega) (by omega)
                      refine z_iinc (lv' := [(3, .int (zI (↑j + 1))), (0, .ref (ad 47)), (1, .int (zI (y + 1))), (2, .int (zI (↑i)))]) hx hb dX1_countThrough_91 hl (k := 3) rfl (by decide) rfl (fun ls hl => ?_)
                      refine lv_goto (tgt := 55) hx hb dX1_countThrough_94 (by decide) ?_
                      exact ih_55 (j + 1) (uZ g (7 * w + j) ((g (7 * w + j)) + 1)) _ _ _ (by omega) (by omega) (thr_in (P := (fun k => lkC n (dgF n (t k)) (S 11) (S 12) (S 13) m9)) (q := (fun k v => pl n (dgF n (t k)) v)) hn7 (by omega) hPi hw hwl hg3) (by omega) hP hR hS (lv_sub hl [1, 2, 3, 0] rfl)
                exact cut_55 _ 0 g _ _ _ (by omega) (pB_t.mp c_19) (fun p v hp hv => by rw [hg p v hp hv, if_neg (by omega)]) (Nat.lt_succ_self _) hP hR hS (lv_sub hl [2, 1, 3, 0] rfl)
              · have h9 : True := trivial
                refine lv_goto (tgt := 97) hx hb dX1_countThrough_47 (by decide) ?_
                exact cut_97 y g _ _ _ ((Int.add_zero y).symm.trans (cnt_f (P := (fun k => pB (lkC n (dgF n (t k)) (S 11) (S 12) (S 13) m9))) c_19 hy)) (fun p v hp hv => by rw [hg p v hp hv, eqC_n (P := (fun k => lkC n (dgF n (t k)) (S 11) (S 12) (S 13) m9)) (q := (fun k v => pl n (dgF n (t k)) v)) (pB_f.mp c_19)]) hP hR hS (lv_sub hl [0, 1, 2] rfl)
        exact cut_28 _ 0 0 g _ _ _ (by omega) (rfl) (fun p v hp hv => hg _ (by omega)) (Nat.lt_succ_self _) hP hR hS (lv_sub hl [2, 1, 0] rfl)
      · have h9 : True := trivial
        refine lv_aload_n hx hb dX1_countThrough_11 rfl (lv_at hl 0 rfl) ?_
        refine va_get (D := D) (ci := 1) (v := .ref (ad 31)) (C := RX1) (T := TX1) (N := 3) hx hb hT inX1 hown hK hP 7 rfl rfl 2 (by decide) (hT _ q_168) (fun _ h9 => h9) rfl dX1_countThrough_12 ?_
        refine lv_iload_n hx hb dX1_countThrough_15 rfl (lv_at hl 1 rfl) ?_
        refine z_iconst hx hb dX1_countThrough_16 ?_
        refine z_ast (f := (sA S 31 g) 31) (i := ↑a9) (v := 0) hx hb hK hP (cD hinj cI cZ _) hS 26 0 rfl rfl (by omega) (by omega) (by decide) dX1_countThrough_17 (fun H locs hP hS => ?_)
        have hP : va_P D vwCl (cW cI cZ ad (sA S 31 (uZ g a9 0))) H := hP
        have hR : RS (sA S 31 (uZ g a9 0)) := hR.put' (by omega) (by omega)
        refine z_iinc (lv' := [(1, .int (zI (↑a9 + 1))), (0, .ref (ad 47))]) hx hb dX1_countThrough_18 hl (k := 1) rfl (by decide) rfl (fun ls hl => ?_)
        refine lv_goto (tgt := 2) hx hb dX1_countThrough_21 (by decide) ?_
        exact ih_2 (a9 + 1) (uZ g a9 0) _ _ _ (by omega) (fun a ha => by unfold uZ; split <;> first | rfl | exact hg a (by omega)) (by omega) hP hR hS (lv_sub hl [1, 0] rfl)
  have hSe_29 : S = sA S 31 (S 31) := by
    funext k8
    by_cases e80 : k8 = 31
    · subst e80; first | rfl | (funext j8; rfl)
    simp [sA, e80]
  rw [hSe_29] at hP hR
  exact cut_2 _ 0 (S 31) _ _ _ (by omega) (fun j h => absurd h (Nat.not_lt_zero j)) (Nat.lt_succ_self _) hP hR hS (lv_sub hl [1, 0] rfl)
