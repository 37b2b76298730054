set_option maxHeartbeats 4000000 in
set_option maxRecDepth 100000 in
theorem k_X3_spread (l : Launch) (D : va_G) (cI cZ : ClassId) (ad : Nat → Nat) (az av : Nat) (hinj : cInj ad) (S : St) (hR : RS S) (n N : Nat) (t : Nat → Int) (hT9 : cTab n N t S) (hst : stI n N t (S 27) (S 28)) (k0 cq h u : Nat) (hB : BI N (mvE n t) k0 (S 29) (S 30) cq h) (hh : h < cq) (hQ : S 30 h = ↑u) (hcap : sm (cK9 n N t) N ≤ 3964) (x y : Int) (hxu : x = ↑u) (hyc : y = ↑cq) : Met l yX3_spread (Cond.code yX3_spread cX3_spread 6 (some .int) :: lwT) ({ frames := 0, cells := 0, slots := 0, locals := 0 }) (gPc D (cW cI cZ ad) (cE D cI cZ ad az av) S [.ref (ad 46), .int (zI (x)), .int (zI (y))]) (va_Qi (fun (r : Int32) (S' : St) => ∃ e29 e30, S' = sA (sA S 29 e29) 30 e30 ∧ ∃ c2 : Nat, BI N (mvE n t) k0 e29 e30 c2 (h + 1) ∧ r = zI ↑c2) (gB D (cW cI cZ ad)) (cA ad)) 0 0 (cA ad) := by
  refine Met.ofW (cc := cX3_spread) (maxL := 6) (ret := (some .int)) (by decide) rfl ?_
  intro p e s m args below meth c s₁ B hml hv
  obtain ⟨rfl, hP, hE⟩ := hv
  have hx := B.exec
  have hb := B.bytes
  have hr := B.returns
  have hts := atoms_spec (ws := Cond.code yX3_spread cX3_spread 6 (some .int) :: lwT) B.pre
  have hT := fun w (h : w ∈ lwT) => hts w (List.mem_cons_of_mem _ h)
  have hsub : ∀ w ∈ lwT, w ∈ (Cond.code yX3_spread cX3_spread 6 (some .int) :: lwT) := fun w h => List.mem_cons_of_mem _ h
  have hown : s.vm.findClass RX3 = some m.cls := findClass_of_methodNamed B.named
  have hlocks := B.notSynchronized
  have hK : va_K D vwCl [(cI, .int), (cZ, .boolean)] s := hE.1
  have hS : va_S (cA ad) s.heap s.heap [] := va_S.rf
  have hT8 := hT9
  obtain ⟨⟨hn, hN, hn7, hN4⟩, hn0, hO9, hso, htb⟩ := hT9
  have hbh := hB.2.1 h hh
  have huN : u < N := by omega
  have hnz : n ≠ 0 := fun e => by have := hn0 e; omega
  have hO := hO9 hnz
  have hfs := hst.1
  have hsk := hst.2 u huN
  have hlo := sm_nn (cK9_r n N t) u
  have hhi := sm_mono (cK9_r n N t) (show u ≤ u + 1 by omega)
  have hhj := sm_mono (cK9_r n N t) (show u + 1 ≤ N by omega)
  have hcN := BI_le hB
  have hl := lv_entry ([.ref (ad 46), .int (zI (x)), .int (zI (y))]) (n := 6) (Nat.le_of_ble_eq_true rfl)
  rw [lg_entry_eq]
  generalize (lg_sl ([.ref (ad 46), .int (zI (x)), .int (zI (y))]) ++ List.replicate (6 - (lg_sl ([.ref (ad 46), .int (zI (x)), .int (zI (y))])).length) Slot.unset).toArray = ls at hl ⊢
  have hl : lv_has ls 6 [(0, .ref (ad 46)), (1, .int (zI (x))), (2, .int (zI (y)))] := hl
  refine lv_iload_n hx hb dX3_spread_0 rfl (lv_at hl 2 rfl) ?_
  refine lv_istore_n (lv' := [(3, .int (zI (y))), (0, .ref (ad 46)), (1, .int (zI (x))), (2, .int (zI (y)))]) hx hb dX3_spread_1 rfl hl (by decide) rfl (fun ls hl => ?_)
  refine lv_aload_n hx hb dX3_spread_2 rfl (lv_at hl 1 rfl) ?_
  refine va_get (D := D) (ci := 3) (v := .ref (ad 27)) (C := RX3) (T := TX3) (N := 8) hx hb hT inX3 hown hK hP 6 rfl rfl 4 (by decide) (hT _ q_139) (fun _ h9 => h9) rfl dX3_spread_3 ?_
  refine lv_iload_n hx hb dX3_spread_6 rfl (lv_at hl 2 rfl) ?_
  have g_1 : -2147483648 ≤ S 27 (x).toNat ∧ S 27 (x).toNat < 2147483648 := hR 27 ((x).toNat) (by decide)
  refine z_ald (f := S 27) hx hb hK hP 22 0 rfl rfl (by omega) (by omega) (by decide) (j := (x).toNat) rfl dX3_spread_7 ?_
  refine z_top (b := sm (cK9 n N t) u) (by rw [show x.toNat = u by omega]; exact hfs u (by omega)) ?_
  refine lv_istore (lv' := [(4, .int (zI (sm (cK9 n N t) u))), (3, .int (zI (y))), (0, .ref (ad 46)), (1, .int (zI (x))), (2, .int (zI (y)))]) hx hb dX3_spread_8 hl (by decide) rfl (fun ls hl => ?_)
  have cut_10 : ∀ (k9 : Nat) (j : Nat) (zj : Int) (c2 : Nat) (y2 : Int) (F2 : Nat → Int) (Q2 : Nat → Int) (H : Heap) (locs : List Loc) (ls : Array Slot), (zj = ↑j) → ((sm (cK9 n N t) u).toNat ≤ j ∧ j ≤ (sm (cK9 n N t) (u + 1)).toNat) → (y2 = ↑c2) → (BI N (mvE n t) k0 F2 Q2 c2 h) → (h < c2) → (Q2 h = ↑u) → (∀ a, (sm (cK9 n N t) u).toNat ≤ a → a < j → ∀ z, z < N → S 28 a = ↑z → 0 ≤ F2 z ∧ F2 z ≤ F2 u + 1) → ((sm (cK9 n N t) (u + 1)).toNat - j) < k9 → va_P D vwCl (cW cI cZ ad (sA (sA S 29 F2) 30 Q2)) H → RS (sA (sA S 29 F2) 30 Q2) → va_S (cA ad) s.heap H locs → lv_has ls 6 [(0, .ref (ad 46)), (1, .int (zI (x))), (3, .int (zI (y2))), (4, .int (zI (zj)))] → W p l e (headSpec (Cond.code yX3_spread cX3_spread 6 (some .int) :: lwT) ({ frames := 0, cells := 0, slots := 0, locals := 0 })).room s m ([.ref (ad 46), .int (zI (x)), .int (zI (y))] : List Value).toArray below meth c H locs 0 0 (MQ below (va_Qi (fun (r : Int32) (S' : St) => ∃ e29 e30, S' = sA (sA S 29 e29) 30 e30 ∧ ∃ c2 : Nat, BI N (mvE n t) k0 e29 e30 c2 (h + 1) ∧ r = zI ↑c2) (gB D (cW cI cZ ad)) (cA ad)) ([.ref (ad 46), .int (zI (x)), .int (zI (y))] : List Value).toArray s 0 0 (cA ad)) (F0 m 10 ls []) := by
    intro k9
    induction k9 with
    | zero =>
      intro j zj c2 y2 F2 Q2 H locs ls hzj hj hy2 hB2 hhc2 hQu hdone hk9 hP hR hS hl
      exact absurd hk9 (Nat.not_lt_zero _)
    | succ k9 ih_10 =>
      intro j zj c2 y2 F2 Q2 H locs ls hzj hj hy2 hB2 hhc2 hQu hdone hk9 hP hR hS hl
      have hcN2 := BI_le hB2
      have hQt : (Q2 h).toNat = u := by omega
      refine lv_iload hx hb dX3_spread_10 (lv_at hl 3 rfl) ?_
      refine lv_aload_n hx hb dX3_spread_12 rfl (lv_at hl 0 rfl) ?_
      refine va_get (D := D) (ci := 3) (v := .ref (ad 27)) (C := RX3) (T := TX3) (N := 8) hx hb hT inX3 hown hK hP 6 rfl rfl 4 (by decide) (hT _ q_139) (fun _ h9 => h9) rfl dX3_spread_13 ?_
      refine lv_iload_n hx hb dX3_spread_16 rfl (lv_at hl 1 rfl) ?_
      refine z_iconst hx hb dX3_spread_17 ?_
      refine z_iadd hx hb dX3_spread_18 ?_
      have g_2 : -2147483648 ≤ S 27 (x + 1).toNat ∧ S 27 (x + 1).toNat < 2147483648 := hR 27 ((x + 1).toNat) (by decide)
      refine z_ald (f := S 27) hx hb hK hP 22 0 rfl rfl (by omega) (by omega) (by decide) (j := (x + 1).toNat) rfl dX3_spread_19 ?_
      refine z_top (b := sm (cK9 n N t) (u + 1)) (by rw [show (x + 1).toNat = u + 1 by omega]; exact hfs (u + 1) (by omega)) ?_
      refine z_icmp_ge (tgt := 85) hx hb (by omega) (by omega) (by omega) (by omega) dX3_spread_20 (by decide) (fun c_3 => ?_) (fun c_3 => ?_)
      · have h9 : True := trivial
        refine lv_iload_n hx hb dX3_spread_85 rfl (lv_at hl 2 rfl) ?_
        exact g_iret (S1 := sA (sA S 29 F2) 30 Q2) (v := zI (y2)) hx hb hr hlocks hP hR hS (⟨_, _, rfl, c2, BI_next hB2 hhc2 (fun z hz hEz => by rw [hQt] at hEz ⊢; obtain ⟨b, g1, g2, g3⟩ := mv_step hO hn7 huN hz hEz; obtain ⟨j8, g4, g5, g6⟩ := hsk.2 b g1 g2; exact hdone j8 g4 (by omega) z hz (g6.trans g3)), by rw [hy2]⟩) dX3_spread_86
      · have h9 : True := trivial
        obtain ⟨b9, hb1, hb2, hb3⟩ := hsk.1 j (by omega) (by omega)
        obtain ⟨y9, hy1, hyv, hy3⟩ := step_mv hO hn7 huN hb1 hb2
        have hy9 : S 28 j = ↑y9 := hb3.trans hyv
        have h8y : -2147483648 ≤ F2 y9 ∧ F2 y9 < 2147483648 := hR 29 y9 (by decide)
        refine lv_aload_n hx hb dX3_spread_23 rfl (lv_at hl 0 rfl) ?_
        refine va_get (D := D) (ci := 3) (v := .ref (ad 28)) (C := RX3) (T := TX3) (N := 8) hx hb hT inX3 hown hK hP 6 rfl rfl 5 (by decide) (hT _ q_140) (fun _ h9 => h9) rfl dX3_spread_24 ?_
        refine lv_iload hx hb dX3_spread_27 (lv_at hl 3 rfl) ?_
        have g_4 : -2147483648 ≤ S 28 (zj).toNat ∧ S 28 (zj).toNat < 2147483648 := hR 28 ((zj).toNat) (by decide)
        refine z_ald (f := S 28) hx hb hK hP 23 0 rfl rfl (by omega) (by omega) (by decide) (j := (zj).toNat) rfl dX3_spread_29 ?_
        refine z_top (b := ↑y9) (by rw [show zj.toNat = j by omega]; exact hy9) ?_
        refine lv_istore (lv' := [(5, .int (zI (↑y9))), (0, .ref (ad 46)), (1, .int (zI (x))), (3, .int (zI (y2))), (4, .int (zI (zj)))]) hx hb dX3_spread_30 hl (by decide) rfl (fun ls hl => ?_)
        refine lv_aload_n hx hb dX3_spread_32 rfl (lv_at hl 1 rfl) ?_
        refine va_get (D := D) (ci := 3) (v := .ref (ad 29)) (C := RX3) (T := TX3) (N := 8) hx hb hT inX3 hown hK hP 6 rfl rfl 6 (by decide) (hT _ q_141) (fun _ h9 => h9) rfl dX3_spread_33 ?_
        refine lv_iload hx hb dX3_spread_36 (lv_at hl 0 rfl) ?_
        have g_5 : -2147483648 ≤ F2 y9 ∧ F2 y9 < 2147483648 := hR 29 y9 (by decide)
        refine z_ald (f := F2) hx hb hK hP 24 0 rfl rfl (by omega) (by omega) (by decide) (j := y9) rfl dX3_spread_38 ?_
        refine z_top (b := F2 y9) (rfl) ?_
        refine z_iconst hx hb dX3_spread_39 ?_
        refine z_icmp_ne (tgt := 79) hx hb (by omega) (by omega) (by omega) (by omega) dX3_spread_40 (by decide) (fun c_6 => ?_) (fun c_6 => ?_)
        · have h9 : True := trivial
          refine z_iinc (lv' := [(4, .int (zI (zj + 1))), (5, .int (zI (↑y9))), (0, .ref (ad 46)), (1, .int (zI (x))), (3, .int (zI (y2)))]) hx hb dX3_spread_79 hl (k := 4) rfl (by decide) rfl (fun ls hl => ?_)
          refine lv_goto (tgt := 10) hx hb dX3_spread_82 (by decide) ?_
          exact ih_10 (j + 1) (zj + 1) c2 y2 F2 Q2 _ _ _ (by omega) (by omega) (hy2) (hB2) (hhc2) (hQu) (sp_old hdone hy9 (by have h7 := BI_old hB2 hhc2 hy1 (by omega); rw [hQt] at h7; exact h7)) (by omega) hP hR hS (lv_sub hl [2, 3, 4, 0] rfl)
        · have h9 : True := trivial
          have hB3 := BI_new hB2 hhc2 hy1 (by omega) (by rw [hQt]; exact hy3)
          rw [hQt] at hB3
          have hcN3 := BI_le hB3
          have hFu := (hB2.2.1 h hhc2).2.2
          rw [hQt] at hFu
          have h8u : -2147483648 ≤ F2 u ∧ F2 u < 2147483648 := hR 29 u (by decide)
          refine lv_iload_n hx hb dX3_spread_43 rfl (lv_at hl 3 rfl) ?_
          refine z_sipush hx hb dX3_spread_44 (by decide) ?_
          refine z_icmp_lt (tgt := 53) hx hb (by omega) (by omega) (by omega) (by omega) dX3_spread_47 (by decide) (fun c_7 => ?_) (fun c_7 => ?_)
          · have h9 : True := trivial
            refine lv_aload_n hx hb dX3_spread_53 rfl (lv_at hl 1 rfl) ?_
            refine va_get (D := D) (ci := 3) (v := .ref (ad 29)) (C := RX3) (T := TX3) (N := 8) hx hb hT inX3 hown hK hP 6 rfl rfl 6 (by decide) (hT _ q_141) (fun _ h9 => h9) rfl dX3_spread_54 ?_
            refine lv_iload hx hb dX3_spread_57 (lv_at hl 0 rfl) ?_
            refine lv_aload_n hx hb dX3_spread_59 rfl (lv_at hl 1 rfl) ?_
            refine va_get (D := D) (ci := 3) (v := .ref (ad 29)) (C := RX3) (T := TX3) (N := 8) hx hb hT inX3 hown hK hP 6 rfl rfl 6 (by decide) (hT _ q_141) (fun _ h9 => h9) rfl dX3_spread_60 ?_
            refine lv_iload_n hx hb dX3_spread_63 rfl (lv_at hl 2 rfl) ?_
            have g_8 : -2147483648 ≤ F2 (x).toNat ∧ F2 (x).toNat < 2147483648 := hR 29 ((x).toNat) (by decide)
            refine z_ald (f := F2) hx hb hK hP 24 0 rfl rfl (by omega) (by omega) (by decide) (j := (x).toNat) rfl dX3_spread_64 ?_
            refine z_top (b := F2 u) (by rw [show x.toNat = u by omega]) ?_
            refine z_iconst hx hb dX3_spread_65 ?_
            refine z_iadd hx hb dX3_spread_66 ?_
            refine z_ast (f := (sA (sA S 29 F2) 30 Q2) 29) (i := ↑y9) (v := (F2 u) + 1) hx hb hK hP (cD hinj cI cZ _) hS 24 0 rfl rfl (by omega) (by omega) (by decide) dX3_spread_67 (fun H locs hP hS => ?_)
            have hP : va_P D vwCl (cW cI cZ ad (sA (sA (sA S 29 F2) 30 Q2) 29 (uZ F2 y9 ((F2 u) + 1)))) H := hP
            have hR : RS (sA (sA (sA S 29 F2) 30 Q2) 29 (uZ F2 y9 ((F2 u) + 1))) := hR.put (by omega) (by omega)
            refine lv_aload_n hx hb dX3_spread_68 rfl (lv_at hl 1 rfl) ?_
            refine va_get (D := D) (ci := 3) (v := .ref (ad 30)) (C := RX3) (T := TX3) (N := 8) hx hb hT inX3 hown hK hP 6 rfl rfl 7 (by decide) (hT _ q_142) (fun _ h9 => h9) rfl dX3_spread_69 ?_
            refine lv_iload_n hx hb dX3_spread_72 rfl (lv_at hl 3 rfl) ?_
            refine lv_iload hx hb dX3_spread_73 (lv_at hl 0 rfl) ?_
            refine z_ast (f := (sA (sA (sA S 29 F2) 30 Q2) 29 (uZ F2 y9 ((F2 u) + 1))) 30) (i := y2) (v := ↑y9) hx hb hK hP (cD hinj cI cZ _) hS 25 0 rfl rfl (by omega) (by omega) (by decide) dX3_spread_75 (fun H locs hP hS => ?_)
            have hP : va_P D vwCl (cW cI cZ ad (sA (sA (sA (sA S 29 F2) 30 Q2) 29 (uZ F2 y9 ((F2 u) + 1))) 30 (uZ Q2 (y2).toNat ↑y9))) H := hP
            have hR : RS (sA (sA (sA (sA S 29 F2) 30 Q2) 29 (uZ F2 y9 ((F2 u) + 1))) 30 (uZ Q2 (y2).toNat ↑y9)) := hR.put (by omega) (by omega)
            refine z_iinc (lv' := [(3, .int (zI (y2 + 1))), (5, .int (zI (↑y9))), (0, .ref (ad 46)), (1, .int (zI (x))), (4, .int (zI (zj)))]) hx hb dX3_spread_76 hl (k := 3) rfl (by decide) rfl (fun ls hl => ?_)
            refine z_iinc (lv' := [(4, .int (zI (zj + 1))), (3, .int (zI (y2 + 1))), (5, .int (zI (↑y9))), (0, .ref (ad 46)), (1, .int (zI (x)))]) hx hb dX3_spread_79 hl (k := 4) rfl (by decide) rfl (fun ls hl => ?_)
            refine lv_goto (tgt := 10) hx hb dX3_spread_82 (by decide) ?_
            have hSe_9 : sA (sA (sA (sA S 29 F2) 30 Q2) 29 (uZ F2 y9 ((F2 u) + 1))) 30 (uZ Q2 (y2).toNat ↑y9) = sA (sA S 29 (uZ F2 y9 ((F2 u) + 1))) 30 (uZ Q2 (y2).toNat ↑y9) := by
              funext k8
              by_cases e80 : k8 = 29
              · subst e80; first | rfl | (funext j8; rfl)
              by_cases e81 : k8 = 30
              · subst e81; first | rfl | (funext j8; rfl)
              simp [sA, e80, e81]
            rw [hSe_9] at hP hR
            exact ih_10 (j + 1) (zj + 1) (c2 + 1) (y2 + 1) (uZ F2 y9 ((F2 u) + 1)) (uZ Q2 (y2).toNat ↑y9) _ _ _ (by omega) (by omega) (by omega) (by rw [show y2.toNat = c2 by omega]; exact hB3) (by omega) (by rw [show y2.toNat = c2 by omega, uZ_n (by omega)]; exact hQu) (sp_done hdone hy9 (by omega) hFu) (by omega) hP hR hS (lv_sub hl [3, 4, 1, 0] rfl)
          · exact False.elim (by omega)
  have hSe_10 : S = sA (sA S 29 (S 29)) 30 (S 30) := by
    funext k8
    by_cases e80 : k8 = 29
    · subst e80; first | rfl | (funext j8; rfl)
    by_cases e81 : k8 = 30
    · subst e81; first | rfl | (funext j8; rfl)
    simp [sA, e80, e81]
  rw [hSe_10] at hP hR
  exact cut_10 _ ((sm (cK9 n N t) u).toNat) (sm (cK9 n N t) u) cq y (S 29) (S 30) _ _ _ (by omega) (by omega) (hyc) (hB) (hh) (hQ) (fun a h1 h2 => by omega) (Nat.lt_succ_self _) hP hR hS (lv_sub hl [2, 3, 1, 0] rfl)
set_option maxHeartbeats 4000000 in
set_option maxRecDepth 100000 in
theorem k_X3_findSteps (l : Launch) (D : va_G) (cI cZ : ClassId) (ad : Nat → Nat) (az av : Nat) (hinj : cInj ad) (S : St) (hR : RS S) (n N : Nat) (t : Nat → Int) (hT9 : cTab n N t S) (hnz : n ≠ 0) (hcap : sm (cK9 n N t) N ≤ 3964) : Met l yX3_findSteps (Cond.code yX3_findSteps cX3_findSteps 2 none :: lwT) ({ frames := 4, cells := 0, slots := 0, locals := 93 }) (gPc D (cW cI cZ ad) (cE D cI cZ ad az av) S [.ref (ad 46)]) (va_Qv (fun (S' : St) => ∃ e24 e25 e26 e27 e28, S' = sA (sA (sA (sA (sA S 24 e24) 25 e25) 26 e26) 27 e27) 28 e28 ∧ e24 0 = ↑n ∧ e25 0 = -1 ∧ stI n N t e27 e28) (gB D (cW cI cZ ad)) (cA ad)) 0 0 (cA ad) := by
  refine Met.ofW (cc := cX3_findSteps) (maxL := 2) (ret := none) (by decide) rfl ?_
  intro p e s m args below meth c s₁ B hml hv
  obtain ⟨rfl, hP, hE⟩ := hv
  have hx := B.exec
  have hb := B.bytes
  have hr := B.returns
  have hts := atoms_spec (ws := Cond.code yX3_findSteps cX3_findSteps 2 none :: lwT) B.pre
  have hT := fun w (h : w ∈ lwT) => hts w (List.mem_cons_of_mem _ h)
  have hsub : ∀ w ∈ lwT, w ∈ (Cond.code yX3_findSteps cX3_findSteps 2 none :: lwT) := fun w h => List.mem_cons_of_mem _ h
  have hown : s.vm.findClass RX3 = some m.cls := findClass_of_methodNamed B.named
  have hlocks := B.notSynchronized
  have hK : va_K D vwCl [(cI, .int), (cZ, .boolean)] s := hE.1
  have hS : va_S (cA ad) s.heap s.heap [] := va_S.rf
  have hT8 := hT9
  obtain ⟨⟨hn, hN, hn7, hN4⟩, hn0, hO9, hso, htb⟩ := hT9
  have hl := lv_entry ([.ref (ad 46)]) (n := 2) (Nat.le_of_ble_eq_true rfl)
  rw [lg_entry_eq]
  generalize (lg_sl ([.ref (ad 46)]) ++ List.replicate (2 - (lg_sl ([.ref (ad 46)])).length) Slot.unset).toArray = ls at hl ⊢
  have hl : lv_has ls 2 [(0, .ref (ad 46))] := hl
  refine lv_aload_n hx hb dX3_findSteps_0 rfl (lv_at hl 0 rfl) ?_
  refine lv_aload_n hx hb dX3_findSteps_1 rfl (lv_at hl 0 rfl) ?_
  refine va_get (D := D) (ci := 3) (v := .ref (ad 42)) (C := RX3) (T := TX3) (N := 8) hx hb hT inX3 hown hK hP 6 rfl rfl 0 (by decide) (hT _ q_135) (fun _ h9 => h9) rfl dX3_findSteps_2 ?_
  have g_1 : -2147483648 ≤ S 2 0 ∧ S 2 0 < 2147483648 := hR 2 0 (by decide)
  refine va_get (D := D) (ci := 0) (v := .int (zI (S 2 0))) (C := RX0) (T := TX0) (N := 5) hx hb hT inX0 hown hK hP 2 rfl rfl 0 (by decide) (hT _ q_47) (fun _ h9 => h9) rfl dX3_findSteps_5 ?_
  refine va_put (D := D) (ci := 3) (v := .int (zI (S 2 0))) (ty := .int) (C := RX3) (T := TX3) (N := 8) hx hb hT inX3 tyX3 tyX3_ok nmX3 hown hK hP (cD hinj cI cZ _) hS 6 rfl rfl 1 (by decide) (hT _ q_136) (fun _ h9 => h9) rfl (by decide +kernel) rfl rfl (Nat.le_of_ble_eq_true rfl) dX3_findSteps_8 (fun H locs hP _ hS => ?_)
  have hP : va_P D vwCl (cW cI cZ ad (sA S 24 (fun _ => S 2 0))) H := hP
  have hR : RS (sA S 24 (fun _ => S 2 0)) := hR.one (by omega) (by omega)
  refine lv_aload_n hx hb dX3_findSteps_11 rfl (lv_at hl 0 rfl) ?_
  refine z_iconst hx hb dX3_findSteps_12 ?_
  refine va_put (D := D) (ci := 3) (v := .int (zI (-1))) (ty := .int) (C := RX3) (T := TX3) (N := 8) hx hb hT inX3 tyX3 tyX3_ok nmX3 hown hK hP (cD hinj cI cZ _) hS 6 rfl rfl 2 (by decide) (hT _ q_137) (fun _ h9 => h9) rfl (by decide +kernel) rfl rfl (Nat.le_of_ble_eq_true rfl) dX3_findSteps_13 (fun H locs hP _ hS => ?_)
  have hP : va_P D vwCl (cW cI cZ ad (sA (sA S 24 (fun _ => S 2 0)) 25 (fun _ => -1))) H := hP
  have hR : RS (sA (sA S 24 (fun _ => S 2 0)) 25 (fun _ => -1)) := hR.one (by omega) (by omega)
  refine lv_aload_n hx hb dX3_findSteps_16 rfl (lv_at hl 0 rfl) ?_
  refine z_iconst hx hb dX3_findSteps_17 ?_
  refine va_put (D := D) (ci := 3) (v := .int (zI (0))) (ty := .int) (C := RX3) (T := TX3) (N := 8) hx hb hT inX3 tyX3 tyX3_ok nmX3 hown hK hP (cD hinj cI cZ _) hS 6 rfl rfl 3 (by decide) (hT _ q_138) (fun _ h9 => h9) rfl (by decide +kernel) rfl rfl (Nat.le_of_ble_eq_true rfl) dX3_findSteps_18 (fun H locs hP _ hS => ?_)
  have hP : va_P D vwCl (cW cI cZ ad (sA (sA (sA S 24 (fun _ => S 2 0)) 25 (fun _ => -1)) 26 (fun _ => 0))) H := hP
  have hR : RS (sA (sA (sA S 24 (fun _ => S 2 0)) 25 (fun _ => -1)) 26 (fun _ => 0)) := hR.one (by omega) (by omega)
  refine z_iconst hx hb dX3_findSteps_21 ?_
  refine lv_istore_n (lv' := [(1, .int (zI (0))), (0, .ref (ad 46))]) hx hb dX3_findSteps_22 rfl hl (by decide) rfl (fun ls hl => ?_)
  have cut_23 : ∀ (k9 : Nat) (i : Nat) (zc : Nat) (z26 : Int) (g27 : Nat → Int) (g28 : Nat → Int) (H : Heap) (locs : List Loc) (ls : Array Slot), (i ≤ N) → (z26 = ↑zc) → ((↑zc : Int) = sm (cK9 n N t) i) → (∀ k, k < i → g27 k = sm (cK9 n N t) k) → (∀ k, k < i → stK n N t k (sm (cK9 n N t) k).toNat (n * n) g28 (sm (cK9 n N t) (k + 1)).toNat) → (N - i) < k9 → va_P D vwCl (cW cI cZ ad (sA (sA (sA (sA (sA S 24 (fun _ => S 2 0)) 25 (fun _ => -1)) 26 (fun _ => z26)) 27 g27) 28 g28)) H → RS (sA (sA (sA (sA (sA S 24 (fun _ => S 2 0)) 25 (fun _ => -1)) 26 (fun _ => z26)) 27 g27) 28 g28) → va_S (cA ad) s.heap H locs → lv_has ls 2 [(0, .ref (ad 46)), (1, .int (zI (↑i)))] → W p l e (headSpec (Cond.code yX3_findSteps cX3_findSteps 2 none :: lwT) ({ frames := 4, cells := 0, slots := 0, locals := 93 })).room s m ([.ref (ad 46)] : List Value).toArray below meth c H locs 0 0 (MQ below (va_Qv (fun (S' : St) => ∃ e24 e25 e26 e27 e28, S' = sA (sA (sA (sA (sA S 24 e24) 25 e25) 26 e26) 27 e27) 28 e28 ∧ e24 0 = ↑n ∧ e25 0 = -1 ∧ stI n N t e27 e28) (gB D (cW cI cZ ad)) (cA ad)) ([.ref (ad 46)] : List Value).toArray s 0 0 (cA ad)) (F0 m 23 ls []) := by
    intro k9
    induction k9 with
    | zero =>
      intro i zc z26 g27 g28 H locs ls hi hz26 hzc h27 hst hk9 hP hR hS hl
      exact absurd hk9 (Nat.not_lt_zero _)
    | succ k9 ih_23 =>
      intro i zc z26 g27 g28 H locs ls hi hz26 hzc h27 hst hk9 hP hR hS hl
      have hmo := sm_mono (cK9_r n N t) hi
      refine lv_iload_n hx hb dX3_findSteps_23 rfl (lv_at hl 1 rfl) ?_
      refine lv_aload_n hx hb dX3_findSteps_24 rfl (lv_at hl 0 rfl) ?_
      refine va_get (D := D) (ci := 3) (v := .ref (ad 42)) (C := RX3) (T := TX3) (N := 8) hx hb hT inX3 hown hK hP 6 rfl rfl 0 (by decide) (hT _ q_135) (fun _ h9 => h9) rfl dX3_findSteps_25 ?_
      have g_2 : -2147483648 ≤ S 3 0 ∧ S 3 0 < 2147483648 := hR 3 0 (by decide)
      refine va_get (D := D) (ci := 0) (v := .int (zI (S 3 0))) (C := RX0) (T := TX0) (N := 5) hx hb hT inX0 hown hK hP 2 rfl rfl 1 (by decide) (hT _ q_51) (fun _ h9 => h9) rfl dX3_findSteps_28 ?_
      refine z_icmp_ge (tgt := 55) hx hb (by omega) (by omega) (by omega) (by omega) dX3_findSteps_31 (by decide) (fun c_3 => ?_) (fun c_3 => ?_)
      · have h9 : True := trivial
        refine lv_aload_n hx hb dX3_findSteps_55 rfl (lv_at hl 0 rfl) ?_
        refine va_get (D := D) (ci := 3) (v := .ref (ad 27)) (C := RX3) (T := TX3) (N := 8) hx hb hT inX3 hown hK hP 6 rfl rfl 4 (by decide) (hT _ q_139) (fun _ h9 => h9) rfl dX3_findSteps_56 ?_
        refine lv_aload_n hx hb dX3_findSteps_59 rfl (lv_at hl 0 rfl) ?_
        refine va_get (D := D) (ci := 3) (v := .ref (ad 42)) (C := RX3) (T := TX3) (N := 8) hx hb hT inX3 hown hK hP 6 rfl rfl 0 (by decide) (hT _ q_135) (fun _ h9 => h9) rfl dX3_findSteps_60 ?_
        refine va_get (D := D) (ci := 0) (v := .int (zI (S 3 0))) (C := RX0) (T := TX0) (N := 5) hx hb hT inX0 hown hK hP 2 rfl rfl 1 (by decide) (hT _ q_51) (fun _ h9 => h9) rfl dX3_findSteps_63 ?_
        refine lv_aload_n hx hb dX3_findSteps_66 rfl (lv_at hl 0 rfl) ?_
        refine va_get (D := D) (ci := 3) (v := .int (zI (z26))) (C := RX3) (T := TX3) (N := 8) hx hb hT inX3 hown hK hP 6 rfl rfl 3 (by decide) (hT _ q_138) (fun _ h9 => h9) rfl dX3_findSteps_67 ?_
        refine z_ast (f := (sA (sA (sA (sA (sA S 24 (fun _ => S 2 0)) 25 (fun _ => -1)) 26 (fun _ => z26)) 27 g27) 28 g28) 27) (i := S 3 0) (v := z26) hx hb hK hP (cD hinj cI cZ _) hS 22 0 rfl rfl (by omega) (by omega) (by decide) dX3_findSteps_70 (fun H locs hP hS => ?_)
        have hP : va_P D vwCl (cW cI cZ ad (sA (sA (sA (sA (sA (sA S 24 (fun _ => S 2 0)) 25 (fun _ => -1)) 26 (fun _ => z26)) 27 g27) 28 g28) 27 (uZ g27 (S 3 0).toNat z26))) H := hP
        have hR : RS (sA (sA (sA (sA (sA (sA S 24 (fun _ => S 2 0)) 25 (fun _ => -1)) 26 (fun _ => z26)) 27 g27) 28 g28) 27 (uZ g27 (S 3 0).toNat z26)) := hR.put (by omega) (by omega)
        have hSe_4 : sA (sA (sA (sA (sA (sA S 24 (fun _ => S 2 0)) 25 (fun _ => -1)) 26 (fun _ => z26)) 27 g27) 28 g28) 27 (uZ g27 (S 3 0).toNat z26) = sA (sA (sA (sA (sA S 24 (fun _ => S 2 0)) 25 (fun _ => -1)) 26 (fun _ => z26)) 27 (uZ g27 (S 3 0).toNat z26)) 28 g28 := by
          funext k8
          by_cases e80 : k8 = 24
          · subst e80; first | rfl | (funext j8; rfl)
          by_cases e81 : k8 = 25
          · subst e81; first | rfl | (funext j8; rfl)
          by_cases e82 : k8 = 26
          · subst e82; first | rfl | (funext j8; rfl)
          by_cases e83 : k8 = 27
          · subst e83; first | rfl | (funext j8; rfl)
          by_cases e84 : k8 = 28
          · subst e84; first | rfl | (funext j8; rfl)
          simp [sA, e80, e81, e82, e83, e84]
        rw [hSe_4] at hP hR
        exact g_vret (S1 := sA (sA (sA (sA (sA S 24 (fun _ => S 2 0)) 25 (fun _ => -1)) 26 (fun _ => z26)) 27 (uZ g27 (S 3 0).toNat z26)) 28 g28) hx hb hr hlocks hP hR hS (⟨_, _, _, _, _, rfl, hn, rfl, ⟨fun k hk => by rw [show (S 3 0).toNat = N by omega]; unfold uZ; split <;> first | (rename_i e9; rw [e9, hz26, hzc, show i = N by omega]) | exact h27 k (by omega), fun k hk => hst k (by omega)⟩⟩) dX3_findSteps_71
      · have h9 : True := trivial
        refine lv_aload_n hx hb dX3_findSteps_34 rfl (lv_at hl 0 rfl) ?_
        refine va_get (D := D) (ci := 3) (v := .ref (ad 27)) (C := RX3) (T := TX3) (N := 8) hx hb hT inX3 hown hK hP 6 rfl rfl 4 (by decide) (hT _ q_139) (fun _ h9 => h9) rfl dX3_findSteps_35 ?_
        refine lv_iload_n hx hb dX3_findSteps_38 rfl (lv_at hl 1 rfl) ?_
        refine lv_aload_n hx hb dX3_findSteps_39 rfl (lv_at hl 0 rfl) ?_
        refine va_get (D := D) (ci := 3) (v := .int (zI (z26))) (C := RX3) (T := TX3) (N := 8) hx hb hT inX3 hown hK hP 6 rfl rfl 3 (by decide) (hT _ q_138) (fun _ h9 => h9) rfl dX3_findSteps_40 ?_
        refine z_ast (f := (sA (sA (sA (sA (sA S 24 (fun _ => S 2 0)) 25 (fun _ => -1)) 26 (fun _ => z26)) 27 g27) 28 g28) 27) (i := ↑i) (v := z26) hx hb hK hP (cD hinj cI cZ _) hS 22 0 rfl rfl (by omega) (by omega) (by decide) dX3_findSteps_43 (fun H locs hP hS => ?_)
        have hP : va_P D vwCl (cW cI cZ ad (sA (sA (sA (sA (sA (sA S 24 (fun _ => S 2 0)) 25 (fun _ => -1)) 26 (fun _ => z26)) 27 g27) 28 g28) 27 (uZ g27 i z26))) H := hP
        have hR : RS (sA (sA (sA (sA (sA (sA S 24 (fun _ => S 2 0)) 25 (fun _ => -1)) 26 (fun _ => z26)) 27 g27) 28 g28) 27 (uZ g27 i z26)) := hR.put (by omega) (by omega)
        refine lv_aload_n hx hb dX3_findSteps_44 rfl (lv_at hl 0 rfl) ?_
        refine lv_iload_n hx hb dX3_findSteps_45 rfl (lv_at hl 1 rfl) ?_
        refine g_callVv (As := [.int (zI (↑i))]) (rest := []) ⟨hx, hb, hml, hown, hts⟩ (k_X3_findStepsFrom l D cI cZ ad az av hinj (sA (sA (sA (sA (sA (sA S 24 (fun _ => S 2 0)) 25 (fun _ => -1)) 26 (fun _ => z26)) 27 g27) 28 g28) 27 (uZ g27 i z26)) hR n N t hT8 hcap hn i ↑i rfl (by omega) zc hz26 hzc) (cwV 1 hts (gV hsub q_515 q_517 q_sX3_findStepsFrom q_6 q_518) rfl rfl rfl hdX3_findStepsFrom ⟨Nat.le_of_ble_eq_true rfl, Nat.le_of_ble_eq_true rfl⟩) (cEb D cI cZ ad az av) (cEk D cI cZ ad az av) hE (va_recv (ci := 3) (q0 := 6) hK hP rfl rfl) hP hS rfl hl.1 rfl (Nat.le_of_ble_eq_true rfl) dX3_findSteps_46 ⟨Nat.le_of_ble_eq_true rfl, Nat.le_of_ble_eq_true rfl⟩ (fun S_6 H locs hq_7 hP hR hS _ => ?_)
        obtain ⟨e_8, e_9, rfl, hs1_10, hs2_11⟩ := hq_7
        obtain ⟨hi9, hi1, hi2, hi3⟩ := hs1_10
        refine z_iinc (lv' := [(1, .int (zI (↑i + 1))), (0, .ref (ad 46))]) hx hb dX3_findSteps_49 hl (k := 1) rfl (by decide) rfl (fun ls hl => ?_)
        refine lv_goto (tgt := 23) hx hb dX3_findSteps_52 (by decide) ?_
        have hP : va_P D vwCl (cW cI cZ ad (sA (sA (sA (sA (sA (sA (sA (sA (sA S 24 (fun _ => S 2 0)) 25 (fun _ => -1)) 26 (fun _ => z26)) 27 g27) 28 g28) 27 (uZ g27 i z26)) 28 e_8) 26 e_9) 26 (fun _ => e_9 0))) _ := hP
        have hR : RS (sA (sA (sA (sA (sA (sA (sA (sA (sA S 24 (fun _ => S 2 0)) 25 (fun _ => -1)) 26 (fun _ => z26)) 27 g27) 28 g28) 27 (uZ g27 i z26)) 28 e_8) 26 e_9) 26 (fun _ => e_9 0)) := hR.one (hR 26 0 (by decide)).1 (hR 26 0 (by decide)).2
        have hSe_12 : sA (sA (sA (sA (sA (sA (sA (sA (sA S 24 (fun _ => S 2 0)) 25 (fun _ => -1)) 26 (fun _ => z26)) 27 g27) 28 g28) 27 (uZ g27 i z26)) 28 e_8) 26 e_9) 26 (fun _ => e_9 0) = sA (sA (sA (sA (sA S 24 (fun _ => S 2 0)) 25 (fun _ => -1)) 26 (fun _ => e_9 0)) 27 (uZ g27 i z26)) 28 e_8 := by
          funext k8
          by_cases e80 : k8 = 24
          · subst e80; funext j8; first | rfl | exact hsc_24 j8
          by_cases e81 : k8 = 25
          · subst e81; funext j8; first | rfl | exact hsc_25 j8
          by_cases e82 : k8 = 26
          · subst e82; funext j8; first | rfl | exact hsc_26 j8
          by_cases e83 : k8 = 27
          · subst e83; first | rfl | (funext j8; rfl)
          by_cases e84 : k8 = 28
          · subst e84; first | rfl | (funext j8; rfl)
          simp [sA, e80, e81, e82, e83, e84]
        rw [hSe_12] at hP hR
        exact ih_23 (i + 1) hi9 (e_9 0) (uZ g27 i z26) e_8 _ _ _ (by omega) (hi1) (hi2) (fun k hk => by unfold uZ; split <;> first | (rename_i e9; rw [e9, hz26, hzc]) | exact h27 k (by omega)) (fun k hk => (Nat.lt_or_ge k i).elim (fun g => stK_c (hst k g) (fun j hj => hs2_11 j (by have h6 := sm_mono (cK9_r n N t) (show k + 1 ≤ i by omega); omega))) (fun g => by rw [show k = i by omega, ← hi2, ← hzc]; exact hi3)) (by omega) hP hR hS (lv_sub hl [1, 0] rfl)
  have hSe_13 : sA (sA (sA S 24 (fun _ => S 2 0)) 25 (fun _ => -1)) 26 (fun _ => 0) = sA (sA (sA (sA (sA S 24 (fun _ => S 2 0)) 25 (fun _ => -1)) 26 (fun _ => 0)) 27 (S 27)) 28 (S 28) := by
    funext k8
    by_cases e80 : k8 = 24
    · subst e80; funext j8; first | rfl | exact hsc_24 j8
    by_cases e81 : k8 = 25
    · subst e81; funext j8; first | rfl | exact hsc_25 j8
    by_cases e82 : k8 = 26
    · subst e82; funext j8; first | rfl | exact hsc_26 j8
    by_cases e83 : k8 = 27
    · subst e83; first | rfl | (funext j8; rfl)
    by_cases e84 : k8 = 28
    · subst e84; first | rfl | (funext j8; rfl)
    simp [sA, e80, e81, e82, e83, e84]
  rw [hSe_13] at hP hR
  exact cut_23 _ 0 0 0 (S 27) (S 28) _ _ _ (by omega) (rfl) (rfl) (fun k h => absurd h (Nat.not_lt_zero k)) (fun k h => absurd h (Nat.not_lt_zero k)) (Nat.lt_succ_self _) hP hR hS (lv_sub hl [1, 0] rfl)
set_option maxHeartbeats 4000000 in
set_option maxRecDepth 100000 in
theorem k_X3_measureFrom (l : Launch) (D : va_G) (cI cZ : ClassId) (ad : Nat → Nat) (az av : Nat) (hinj : cInj ad) (S : St) (hR : RS S) (n N : Nat) (t : Nat → Int) (hT9 : cTab n N t S) (hnn : 2 ≤ n ∧ n ≤ 7) (hNn : N = nb n) (htn : t = tb n) (hpa : paI S) (k : Nat) (x : Int) (hxk : x = ↑k) (hkN : k < N) : Met l yX3_measureFrom (Cond.code yX3_measureFrom cX3_measureFrom 4 none :: lwT) ({ frames := 5, cells := 0, slots := 0, locals := 114 }) (gPc D (cW cI cZ ad) (cE D cI cZ ad az av) S [.ref (ad 46), .int (zI (x))]) (va_Qv (fun (S' : St) => ∃ e24 e25 e26 e27 e28 e29 e30, S' = sA (sA (sA (sA (sA (sA (sA S 24 e24) 25 e25) 26 e26) 27 e27) 28 e28) 29 e29) 30 e30 ∧ paI S' ∧ isDist N (mvE n t) k e29) (gB D (cW cI cZ ad)) (cA ad)) 0 0 (cA ad) := by
  refine Met.ofW (cc := cX3_measureFrom) (maxL := 4) (ret := none) (by decide) rfl ?_
  intro p e s m args below meth c s₁ B hml hv
  obtain ⟨rfl, hP, hE⟩ := hv
  have hx := B.exec
  have hb := B.bytes
  have hr := B.returns
  have hts := atoms_spec (ws := Cond.code yX3_measureFrom cX3_measureFrom 4 none :: lwT) B.pre
  have hT := fun w (h : w ∈ lwT) => hts w (List.mem_cons_of_mem _ h)
  have hsub : ∀ w ∈ lwT, w ∈ (Cond.code yX3_measureFrom cX3_measureFrom 4 none :: lwT) := fun w h => List.mem_cons_of_mem _ h
  have hown : s.vm.findClass RX3 = some m.cls := findClass_of_methodNamed B.named
  have hlocks := B.notSynchronized
  have hK : va_K D vwCl [(cI, .int), (cZ, .boolean)] s := hE.1
  have hS : va_S (cA ad) s.heap s.heap [] := va_S.rf
  have hT8 := hT9
  obtain ⟨⟨hn, hN, hn7, hN4⟩, hn0, hO9, hso, htb⟩ := hT9
  have hnz : n ≠ 0 := by omega
  have hO := hO9 hnz
  have hcap := tot_cap2 hnn hNn htn
  have hl := lv_entry ([.ref (ad 46), .int (zI (x))]) (n := 4) (Nat.le_of_ble_eq_true rfl)
  rw [lg_entry_eq]
  generalize (lg_sl ([.ref (ad 46), .int (zI (x))]) ++ List.replicate (4 - (lg_sl ([.ref (ad 46), .int (zI (x))])).length) Slot.unset).toArray = ls at hl ⊢
  have hl : lv_has ls 4 [(0, .ref (ad 46)), (1, .int (zI (x)))] := hl
  refine lv_iload_n hx hb dX3_measureFrom_0 rfl (lv_at hl 1 rfl) ?_
  refine z_if_lt (tgt := 15) hx hb (by omega) (by omega) dX3_measureFrom_1 (by decide) (fun c_1 => ?_) (fun c_1 => ?_)
  · exact False.elim (by omega)
  · have h9 : True := trivial
    refine lv_iload_n hx hb dX3_measureFrom_4 rfl (lv_at hl 1 rfl) ?_
    refine lv_aload_n hx hb dX3_measureFrom_5 rfl (lv_at hl 0 rfl) ?_
    refine va_get (D := D) (ci := 3) (v := .ref (ad 42)) (C := RX3) (T := TX3) (N := 8) hx hb hT inX3 hown hK hP 6 rfl rfl 0 (by decide) (hT _ q_135) (fun _ h9 => h9) rfl dX3_measureFrom_6 ?_
    have g_2 : -2147483648 ≤ S 3 0 ∧ S 3 0 < 2147483648 := hR 3 0 (by decide)
    refine va_get (D := D) (ci := 0) (v := .int (zI (S 3 0))) (C := RX0) (T := TX0) (N := 5) hx hb hT inX0 hown hK hP 2 rfl rfl 1 (by decide) (hT _ q_51) (fun _ h9 => h9) rfl dX3_measureFrom_9 ?_
    refine z_icmp_lt (tgt := 16) hx hb (by omega) (by omega) (by omega) (by omega) dX3_measureFrom_12 (by decide) (fun c_3 => ?_) (fun c_3 => ?_)
    · have h9 : True := trivial
      have cut_34 : ∀ (g24 : Nat → Int) (z25 : Int) (g26 : Nat → Int) (g27 : Nat → Int) (g28 : Nat → Int) (H : Heap) (locs : List Loc) (ls : Array Slot), (g24 0 = ↑n) → (stI n N t g27 g28) → (z25 = -1 ∨ ∃ k2 : Nat, k2 < N ∧ z25 = ↑k2 ∧ isDist N (mvE n t) k2 (S 29)) → va_P D vwCl (cW cI cZ ad (sA (sA (sA (sA (sA S 24 g24) 25 (fun _ => z25)) 26 g26) 27 g27) 28 g28)) H → RS (sA (sA (sA (sA (sA S 24 g24) 25 (fun _ => z25)) 26 g26) 27 g27) 28 g28) → va_S (cA ad) s.heap H locs → lv_has ls 4 [(0, .ref (ad 46)), (1, .int (zI (x)))] → W p l e (headSpec (Cond.code yX3_measureFrom cX3_measureFrom 4 none :: lwT) ({ frames := 5, cells := 0, slots := 0, locals := 114 })).room s m ([.ref (ad 46), .int (zI (x))] : List Value).toArray below meth c H locs 0 0 (MQ below (va_Qv (fun (S' : St) => ∃ e24 e25 e26 e27 e28 e29 e30, S' = sA (sA (sA (sA (sA (sA (sA S 24 e24) 25 e25) 26 e26) 27 e27) 28 e28) 29 e29) 30 e30 ∧ paI S' ∧ isDist N (mvE n t) k e29) (gB D (cW cI cZ ad)) (cA ad)) ([.ref (ad 46), .int (zI (x))] : List Value).toArray s 0 0 (cA ad)) (F0 m 34 ls []) := by
        intro g24 z25 g26 g27 g28 H locs ls h24 hst h25 hP hR hS hl
        refine lv_iload_n hx hb dX3_measureFrom_34 rfl (lv_at hl 1 rfl) ?_
        refine lv_aload_n hx hb dX3_measureFrom_35 rfl (lv_at hl 0 rfl) ?_
        have hr25 : -2147483648 ≤ z25 ∧ z25 < 2147483648 := hR 25 0 (by decide)
        refine va_get (D := D) (ci := 3) (v := .int (zI (z25))) (C := RX3) (T := TX3) (N := 8) hx hb hT inX3 hown hK hP 6 rfl rfl 2 (by decide) (hT _ q_137) (fun _ h9 => h9) rfl dX3_measureFrom_36 ?_
        refine z_icmp_ne (tgt := 43) hx hb (by omega) (by omega) (by omega) (by omega) dX3_measureFrom_39 (by decide) (fun c_4 => ?_) (fun c_4 => ?_)
        · have h9 : True := trivial
          refine lv_aload_n hx hb dX3_measureFrom_43 rfl (lv_at hl 0 rfl) ?_
          refine lv_iload_n hx hb dX3_measureFrom_44 rfl (lv_at hl 1 rfl) ?_
          refine va_put (D := D) (ci := 3) (v := .int (zI (x))) (ty := .int) (C := RX3) (T := TX3) (N := 8) hx hb hT inX3 tyX3 tyX3_ok nmX3 hown hK hP (cD hinj cI cZ _) hS 6 rfl rfl 2 (by decide) (hT _ q_137) (fun _ h9 => h9) rfl (by decide +kernel) rfl rfl (Nat.le_of_ble_eq_true rfl) dX3_measureFrom_45 (fun H locs hP _ hS => ?_)
          have hP : va_P D vwCl (cW cI cZ ad (sA (sA (sA (sA (sA (sA S 24 g24) 25 (fun _ => z25)) 26 g26) 27 g27) 28 g28) 25 (fun _ => x))) H := hP
          have hR : RS (sA (sA (sA (sA (sA (sA S 24 g24) 25 (fun _ => z25)) 26 g26) 27 g27) 28 g28) 25 (fun _ => x)) := hR.one (by omega) (by omega)
          refine z_iconst hx hb dX3_measureFrom_48 ?_
          refine lv_istore_n (lv' := [(2, .int (zI (0))), (0, .ref (ad 46)), (1, .int (zI (x)))]) hx hb dX3_measureFrom_49 rfl hl (by decide) rfl (fun ls hl => ?_)
          have cut_50 : ∀ (k9 : Nat) (i : Nat) (f9 : Nat → Int) (H : Heap) (locs : List Loc) (ls : Array Slot), (i ≤ N) → (∀ j, j < i → f9 j = -1) → (N - i) < k9 → va_P D vwCl (cW cI cZ ad (sA (sA (sA (sA (sA (sA S 24 g24) 25 (fun _ => x)) 26 g26) 27 g27) 28 g28) 29 f9)) H → RS (sA (sA (sA (sA (sA (sA S 24 g24) 25 (fun _ => x)) 26 g26) 27 g27) 28 g28) 29 f9) → va_S (cA ad) s.heap H locs → lv_has ls 4 [(0, .ref (ad 46)), (1, .int (zI (x))), (2, .int (zI (↑i)))] → W p l e (headSpec (Cond.code yX3_measureFrom cX3_measureFrom 4 none :: lwT) ({ frames := 5, cells := 0, slots := 0, locals := 114 })).room s m ([.ref (ad 46), .int (zI (x))] : List Value).toArray below meth c H locs 0 0 (MQ below (va_Qv (fun (S' : St) => ∃ e24 e25 e26 e27 e28 e29 e30, S' = sA (sA (sA (sA (sA (sA (sA S 24 e24) 25 e25) 26 e26) 27 e27) 28 e28) 29 e29) 30 e30 ∧ paI S' ∧ isDist N (mvE n t) k e29) (gB D (cW cI cZ ad)) (cA ad)) ([.ref (ad 46), .int (zI (x))] : List Value).toArray s 0 0 (cA ad)) (F0 m 50 ls []) := by
            intro k9
            induction k9 with
            | zero =>
              intro i f9 H locs ls hi hf hk9 hP hR hS hl
              exact absurd hk9 (Nat.not_lt_zero _)
            | succ k9 ih_50 =>
              intro i f9 H locs ls hi hf hk9 hP hR hS hl
              refine lv_iload_n hx hb dX3_measureFrom_50 rfl (lv_at hl 2 rfl) ?_
              refine lv_aload_n hx hb dX3_measureFrom_51 rfl (lv_at hl 0 rfl) ?_
              refine va_get (D := D) (ci := 3) (v := .ref (ad 42)) (C := RX3) (T := TX3) (N := 8) hx hb hT inX3 hown hK hP 6 rfl rfl 0 (by decide) (hT _ q_135) (fun _ h9 => h9) rfl dX3_measureFrom_52 ?_
              have g_5 : -2147483648 ≤ S 3 0 ∧ S 3 0 < 2147483648 := hR 3 0 (by decide)
              refine va_get (D := D) (ci := 0) (v := .int (zI (S 3 0))) (C := RX0) (T := TX0) (N := 5) hx hb hT inX0 hown hK hP 2 rfl rfl 1 (by decide) (hT _ q_51) (fun _ h9 => h9) rfl dX3_measureFrom_55 ?_
              refine z_icmp_ge (tgt := 74) hx hb (by omega) (by omega) (by omega) (by omega) dX3_measureFrom_58 (by decide) (fun c_6 => ?_) (fun c_6 => ?_)
              · have h9 : True := trivial
                refine lv_aload_n hx hb dX3_measureFrom_74 rfl (lv_at hl 0 rfl) ?_
                refine va_get (D := D) (ci := 3) (v := .ref (ad 29)) (C := RX3) (T := TX3) (N := 8) hx hb hT inX3 hown hK hP 6 rfl rfl 6 (by decide) (hT _ q_141) (fun _ h9 => h9) rfl dX3_measureFrom_75 ?_
                refine lv_iload_n hx hb dX3_measureFrom_78 rfl (lv_at hl 1 rfl) ?_
                refine z_iconst hx hb dX3_measureFrom_79 ?_
                refine z_ast (f := (sA (sA (sA (sA (sA (sA S 24 g24) 25 (fun _ => x)) 26 g26) 27 g27) 28 g28) 29 f9) 29) (i := x) (v := 0) hx hb hK hP (cD hinj cI cZ _) hS 24 0 rfl rfl (by omega) (by omega) (by decide) dX3_measureFrom_80 (fun H locs hP hS => ?_)
                have hP : va_P D vwCl (cW cI cZ ad (sA (sA (sA (sA (sA (sA S 24 g24) 25 (fun _ => x)) 26 g26) 27 g27) 28 g28) 29 (uZ f9 (x).toNat 0))) H := hP
                have hR : RS (sA (sA (sA (sA (sA (sA S 24 g24) 25 (fun _ => x)) 26 g26) 27 g27) 28 g28) 29 (uZ f9 (x).toNat 0)) := hR.put' (by omega) (by omega)
                refine lv_aload_n hx hb dX3_measureFrom_81 rfl (lv_at hl 0 rfl) ?_
                refine va_get (D := D) (ci := 3) (v := .ref (ad 30)) (C := RX3) (T := TX3) (N := 8) hx hb hT inX3 hown hK hP 6 rfl rfl 7 (by decide) (hT _ q_142) (fun _ h9 => h9) rfl dX3_measureFrom_82 ?_
                refine z_iconst hx hb dX3_measureFrom_85 ?_
                refine lv_iload_n hx hb dX3_measureFrom_86 rfl (lv_at hl 1 rfl) ?_
                refine z_ast (f := (sA (sA (sA (sA (sA (sA S 24 g24) 25 (fun _ => x)) 26 g26) 27 g27) 28 g28) 29 (uZ f9 (x).toNat 0)) 30) (i := 0) (v := x) hx hb hK hP (cD hinj cI cZ _) hS 25 0 rfl rfl (by omega) (by omega) (by decide) dX3_measureFrom_87 (fun H locs hP hS => ?_)
                have hP : va_P D vwCl (cW cI cZ ad (sA (sA (sA (sA (sA (sA (sA S 24 g24) 25 (fun _ => x)) 26 g26) 27 g27) 28 g28) 29 (uZ f9 (x).toNat 0)) 30 (uZ (S 30) 0 x))) H := hP
                have hR : RS (sA (sA (sA (sA (sA (sA (sA S 24 g24) 25 (fun _ => x)) 26 g26) 27 g27) 28 g28) 29 (uZ f9 (x).toNat 0)) 30 (uZ (S 30) 0 x)) := hR.put (by omega) (by omega)
                refine z_iconst hx hb dX3_measureFrom_88 ?_
                refine lv_istore_n (lv' := [(2, .int (zI (1))), (0, .ref (ad 46)), (1, .int (zI (x)))]) hx hb dX3_measureFrom_89 rfl hl (by decide) rfl (fun ls hl => ?_)
                refine z_iconst hx hb dX3_measureFrom_90 ?_
                refine lv_istore_n (lv' := [(3, .int (zI (0))), (2, .int (zI (1))), (0, .ref (ad 46)), (1, .int (zI (x)))]) hx hb dX3_measureFrom_91 rfl hl (by decide) rfl (fun ls hl => ?_)
                have cut_92 : ∀ (k9 : Nat) (h : Nat) (c9 : Nat) (F : Nat → Int) (Qf : Nat → Int) (H : Heap) (locs : List Loc) (ls : Array Slot), (BI N (mvE n t) k F Qf c9 h) → (N - h) < k9 → va_P D vwCl (cW cI cZ ad (sA (sA (sA (sA (sA (sA (sA S 24 g24) 25 (fun _ => x)) 26 g26) 27 g27) 28 g28) 29 F) 30 Qf)) H → RS (sA (sA (sA (sA (sA (sA (sA S 24 g24) 25 (fun _ => x)) 26 g26) 27 g27) 28 g28) 29 F) 30 Qf) → va_S (cA ad) s.heap H locs → lv_has ls 4 [(0, .ref (ad 46)), (1, .int (zI (x))), (2, .int (zI (↑c9))), (3, .int (zI (↑h)))] → W p l e (headSpec (Cond.code yX3_measureFrom cX3_measureFrom 4 none :: lwT) ({ frames := 5, cells := 0, slots := 0, locals := 114 })).room s m ([.ref (ad 46), .int (zI (x))] : List Value).toArray below meth c H locs 0 0 (MQ below (va_Qv (fun (S' : St) => ∃ e24 e25 e26 e27 e28 e29 e30, S' = sA (sA (sA (sA (sA (sA (sA S 24 e24) 25 e25) 26 e26) 27 e27) 28 e28) 29 e29) 30 e30 ∧ paI S' ∧ isDist N (mvE n t) k e29) (gB D (cW cI cZ ad)) (cA ad)) ([.ref (ad 46), .int (zI (x))] : List Value).toArray s 0 0 (cA ad)) (F0 m 92 ls []) := by
                  intro k9
                  induction k9 with
                  | zero =>
                    intro h c9 F Qf H locs ls hB hk9 hP hR hS hl
                    exact absurd hk9 (Nat.not_lt_zero _)
                  | succ k9 ih_92 =>
                    intro h c9 F Qf H locs ls hB hk9 hP hR hS hl
                    have hcN := BI_le hB
                    have hhc := hB.1.2.1
                    refine lv_iload_n hx hb dX3_measureFrom_92 rfl (lv_at hl 3 rfl) ?_
                    refine lv_iload_n hx hb dX3_measureFrom_93 rfl (lv_at hl 2 rfl) ?_
                    refine z_icmp_ge (tgt := 126) hx hb (by omega) (by omega) (by omega) (by omega) dX3_measureFrom_94 (by decide) (fun c_7 => ?_) (fun c_7 => ?_)
                    · have h9 : True := trivial
                      exact g_vret (S1 := sA (sA (sA (sA (sA (sA (sA S 24 g24) 25 (fun _ => x)) 26 g26) 27 g27) 28 g28) 29 F) 30 Qf) hx hb hr hlocks hP hR hS (⟨_, _, _, _, _, _, _, rfl, paI_of hnn hNn htn h24 hst hkN hxk (BI_end ((show h = c9 by omega) ▸ hB)), BI_end ((show h = c9 by omega) ▸ hB)⟩) dX3_measureFrom_126
                    · have h9 : True := trivial
                      refine lv_iload_n hx hb dX3_measureFrom_97 rfl (lv_at hl 3 rfl) ?_
                      refine lv_aload_n hx hb dX3_measureFrom_98 rfl (lv_at hl 0 rfl) ?_
                      refine va_get (D := D) (ci := 3) (v := .ref (ad 42)) (C := RX3) (T := TX3) (N := 8) hx hb hT inX3 hown hK hP 6 rfl rfl 0 (by decide) (hT _ q_135) (fun _ h9 => h9) rfl dX3_measureFrom_99 ?_
                      have g_8 : -2147483648 ≤ S 3 0 ∧ S 3 0 < 2147483648 := hR 3 0 (by decide)
                      refine va_get (D := D) (ci := 0) (v := .int (zI (S 3 0))) (C := RX0) (T := TX0) (N := 5) hx hb hT inX0 hown hK hP 2 rfl rfl 1 (by decide) (hT _ q_51) (fun _ h9 => h9) rfl dX3_measureFrom_102 ?_
                      refine z_icmp_ge (tgt := 126) hx hb (by omega) (by omega) (by omega) (by omega) dX3_measureFrom_105 (by decide) (fun c_9 => ?_) (fun c_9 => ?_)
                      · exact False.elim (by omega)
                      · have h9 : True := trivial
                        have hbh := hB.2.1 h (by omega)
                        obtain ⟨u, hu⟩ : ∃ u : Nat, Qf h = ↑u := ⟨(Qf h).toNat, by omega⟩
                        refine lv_aload_n hx hb dX3_measureFrom_108 rfl (lv_at hl 0 rfl) ?_
                        refine lv_aload_n hx hb dX3_measureFrom_109 rfl (lv_at hl 0 rfl) ?_
                        refine va_get (D := D) (ci := 3) (v := .ref (ad 30)) (C := RX3) (T := TX3) (N := 8) hx hb hT inX3 hown hK hP 6 rfl rfl 7 (by decide) (hT _ q_142) (fun _ h9 => h9) rfl dX3_measureFrom_110 ?_
                        refine lv_iload_n hx hb dX3_measureFrom_113 rfl (lv_at hl 3 rfl) ?_
                        have g_10 : -2147483648 ≤ Qf h ∧ Qf h < 2147483648 := hR 30 h (by decide)
                        refine z_ald (f := Qf) hx hb hK hP 25 0 rfl rfl (by omega) (by omega) (by decide) (j := h) rfl dX3_measureFrom_114 ?_
                        refine z_top (b := ↑u) (hu) ?_
                        refine lv_iload_n hx hb dX3_measureFrom_115 rfl (lv_at hl 2 rfl) ?_
                        refine g_callVi (As := [.int (zI (↑u)), .int (zI (↑c9))]) (rest := []) ⟨hx, hb, hml, hown, hts⟩ (k_X3_spread l D cI cZ ad az av hinj (sA (sA (sA (sA (sA (sA (sA S 24 g24) 25 (fun _ => x)) 26 g26) 27 g27) 28 g28) 29 F) 30 Qf) hR n N t hT8 hst k c9 h u hB (by omega) hu hcap ↑u ↑c9 rfl rfl) (cwV 2 hts (gV hsub q_525 q_527 q_sX3_spread q_6 q_528) rfl rfl rfl hdX3_spread ⟨Nat.le_of_ble_eq_true rfl, Nat.le_of_ble_eq_true rfl⟩) (cEb D cI cZ ad az av) (cEk D cI cZ ad az av) hE (va_recv (ci := 3) (q0 := 6) hK hP rfl rfl) hP hS rfl hl.1 rfl (Nat.le_of_ble_eq_true rfl) dX3_measureFrom_116 ⟨Nat.le_of_ble_eq_true rfl, Nat.le_of_ble_eq_true rfl⟩ (fun r_11 S_12 H locs hq_13 hP hR hS _ => ?_)
                        obtain ⟨e_14, e_15, rfl, cn_16, hB_17, rfl⟩ := hq_13
                        refine z_top (b := ↑cn_16) rfl ?_
                        refine lv_istore_n (lv' := [(2, .int (zI (↑cn_16))), (0, .ref (ad 46)), (1, .int (zI (x))), (3, .int (zI (↑h)))]) hx hb dX3_measureFrom_119 rfl hl (by decide) rfl (fun ls hl => ?_)
                        refine z_iinc (lv' := [(3, .int (zI (↑h + 1))), (2, .int (zI (↑cn_16))), (0, .ref (ad 46)), (1, .int (zI (x)))]) hx hb dX3_measureFrom_120 hl (k := 3) rfl (by decide) rfl (fun ls hl => ?_)
                        refine lv_goto (tgt := 92) hx hb dX3_measureFrom_123 (by decide) ?_
                        have hSe_18 : sA (sA (sA (sA (sA (sA (sA (sA (sA S 24 g24) 25 (fun _ => x)) 26 g26) 27 g27) 28 g28) 29 F) 30 Qf) 29 e_14) 30 e_15 = sA (sA (sA (sA (sA (sA (sA S 24 g24) 25 (fun _ => x)) 26 g26) 27 g27) 28 g28) 29 e_14) 30 e_15 := by
                          funext k8
                          by_cases e80 : k8 = 24
                          · subst e80; first | rfl | (funext j8; rfl)
                          by_cases e81 : k8 = 25
                          · subst e81; funext j8; first | rfl | exact hsc_25 j8
                          by_cases e82 : k8 = 26
                          · subst e82; first | rfl | (funext j8; rfl)
                          by_cases e83 : k8 = 27
                          · subst e83; first | rfl | (funext j8; rfl)
                          by_cases e84 : k8 = 28
                          · subst e84; first | rfl | (funext j8; rfl)
                          by_cases e85 : k8 = 29
                          · subst e85; first | rfl | (funext j8; rfl)
                          by_cases e86 : k8 = 30
                          · subst e86; first | rfl | (funext j8; rfl)
                          simp [sA, e80, e81, e82, e83, e84, e85, e86]
                        rw [hSe_18] at hP hR
                        exact ih_92 (h + 1) cn_16 e_14 e_15 _ _ _ (hB_17) (by omega) hP hR hS (lv_sub hl [2, 3, 1, 0] rfl)
                exact cut_92 _ 0 1 (uZ f9 (x).toNat 0) (uZ (S 30) 0 x) _ _ _ (by rw [show x.toNat = k by omega, hxk]; exact BI_init hkN (uZ_s _ _ _) (fun z hz hne => by rw [uZ_n hne]; exact hf z (by omega)) (uZ_s _ _ _)) (Nat.lt_succ_self _) hP hR hS (lv_sub hl [2, 3, 1, 0] rfl)
              · have h9 : True := trivial
                refine lv_aload_n hx hb dX3_measureFrom_61 rfl (lv_at hl 0 rfl) ?_
                refine va_get (D := D) (ci := 3) (v := .ref (ad 29)) (C := RX3) (T := TX3) (N := 8) hx hb hT inX3 hown hK hP 6 rfl rfl 6 (by decide) (hT _ q_141) (fun _ h9 => h9) rfl dX3_measureFrom_62 ?_
                refine lv_iload_n hx hb dX3_measureFrom_65 rfl (lv_at hl 2 rfl) ?_
                refine z_iconst hx hb dX3_measureFrom_66 ?_
                refine z_ast (f := (sA (sA (sA (sA (sA (sA S 24 g24) 25 (fun _ => x)) 26 g26) 27 g27) 28 g28) 29 f9) 29) (i := ↑i) (v := -1) hx hb hK hP (cD hinj cI cZ _) hS 24 0 rfl rfl (by omega) (by omega) (by decide) dX3_measureFrom_67 (fun H locs hP hS => ?_)
                have hP : va_P D vwCl (cW cI cZ ad (sA (sA (sA (sA (sA (sA S 24 g24) 25 (fun _ => x)) 26 g26) 27 g27) 28 g28) 29 (uZ f9 i (-1)))) H := hP
                have hR : RS (sA (sA (sA (sA (sA (sA S 24 g24) 25 (fun _ => x)) 26 g26) 27 g27) 28 g28) 29 (uZ f9 i (-1))) := hR.put' (by omega) (by omega)
                refine z_iinc (lv' := [(2, .int (zI (↑i + 1))), (0, .ref (ad 46)), (1, .int (zI (x)))]) hx hb dX3_measureFrom_68 hl (k := 2) rfl (by decide) rfl (fun ls hl => ?_)
                refine lv_goto (tgt := 50) hx hb dX3_measureFrom_71 (by decide) ?_
                exact ih_50 (i + 1) (uZ f9 i (-1)) _ _ _ (by omega) (fun j hj => by unfold uZ; split <;> first | rfl | exact hf j (by omega)) (by omega) hP hR hS (lv_sub hl [1, 2, 0] rfl)
          have hSe_19 : sA (sA (sA (sA (sA (sA S 24 g24) 25 (fun _ => z25)) 26 g26) 27 g27) 28 g28) 25 (fun _ => x) = sA (sA (sA (sA (sA (sA S 24 g24) 25 (fun _ => x)) 26 g26) 27 g27) 28 g28) 29 (S 29) := by
            funext k8
            by_cases e80 : k8 = 24
            · subst e80; first | rfl | (funext j8; rfl)
            by_cases e81 : k8 = 25
            · subst e81; funext j8; first | rfl | exact hsc_25 j8
            by_cases e82 : k8 = 26
            · subst e82; first | rfl | (funext j8; rfl)
            by_cases e83 : k8 = 27
            · subst e83; first | rfl | (funext j8; rfl)
            by_cases e84 : k8 = 28
            · subst e84; first | rfl | (funext j8; rfl)
            by_cases e85 : k8 = 29
            · subst e85; first | rfl | (funext j8; rfl)
            simp [sA, e80, e81, e82, e83, e84, e85]
          rw [hSe_19] at hP hR
          exact cut_50 _ 0 (S 29) _ _ _ (by omega) (fun j h => absurd h (Nat.not_lt_zero j)) (Nat.lt_succ_self _) hP hR hS (lv_sub hl [1, 2, 0] rfl)
        · have h9 : True := trivial
          have hSe_20 : sA (sA (sA (sA (sA S 24 g24) 25 (fun _ => z25)) 26 g26) 27 g27) 28 g28 = sA (sA (sA (sA (sA (sA (sA S 24 g24) 25 (fun _ => z25)) 26 g26) 27 g27) 28 g28) 29 (S 29)) 30 (S 30) := by
            funext k8
            by_cases e80 : k8 = 24
            · subst e80; first | rfl | (funext j8; rfl)
            by_cases e81 : k8 = 25
            · subst e81; first | rfl | (funext j8; rfl)
            by_cases e82 : k8 = 26
            · subst e82; first | rfl | (funext j8; rfl)
            by_cases e83 : k8 = 27
            · subst e83; first | rfl | (funext j8; rfl)
            by_cases e84 : k8 = 28
            · subst e84; first | rfl | (funext j8; rfl)
            by_cases e85 : k8 = 29
            · subst e85; first | rfl | (funext j8; rfl)
            by_cases e86 : k8 = 30
            · subst e86; first | rfl | (funext j8; rfl)
            simp [sA, e80, e81, e82, e83, e84, e85, e86]
          rw [hSe_20] at hP hR
          exact g_vret (S1 := sA (sA (sA (sA (sA (sA (sA S 24 g24) 25 (fun _ => z25)) 26 g26) 27 g27) 28 g28) 29 (S 29)) 30 (S 30)) hx hb hr hlocks hP hR hS (⟨_, _, _, _, _, _, _, rfl, me_end1 hnn hNn htn h24 hst hkN (show z25 = ↑k by omega) h25⟩) dX3_measureFrom_42
      refine lv_aload_n hx hb dX3_measureFrom_16 rfl (lv_at hl 0 rfl) ?_
      have g_21 : -2147483648 ≤ S 24 0 ∧ S 24 0 < 2147483648 := hR 24 0 (by decide)
      refine va_get (D := D) (ci := 3) (v := .int (zI (S 24 0))) (C := RX3) (T := TX3) (N := 8) hx hb hT inX3 hown hK hP 6 rfl rfl 1 (by decide) (hT _ q_136) (fun _ h9 => h9) rfl dX3_measureFrom_17 ?_
      refine lv_aload_n hx hb dX3_measureFrom_20 rfl (lv_at hl 0 rfl) ?_
      refine va_get (D := D) (ci := 3) (v := .ref (ad 42)) (C := RX3) (T := TX3) (N := 8) hx hb hT inX3 hown hK hP 6 rfl rfl 0 (by decide) (hT _ q_135) (fun _ h9 => h9) rfl dX3_measureFrom_21 ?_
      have g_22 : -2147483648 ≤ S 2 0 ∧ S 2 0 < 2147483648 := hR 2 0 (by decide)
      refine va_get (D := D) (ci := 0) (v := .int (zI (S 2 0))) (C := RX0) (T := TX0) (N := 5) hx hb hT inX0 hown hK hP 2 rfl rfl 0 (by decide) (hT _ q_47) (fun _ h9 => h9) rfl dX3_measureFrom_24 ?_
      refine z_icmp_eq (tgt := 34) hx hb (by omega) (by omega) (by omega) (by omega) dX3_measureFrom_27 (by decide) (fun c_23 => ?_) (fun c_23 => ?_)
      · have h9 : True := trivial
        have hP : va_P D vwCl (cW cI cZ ad (sA S 25 (fun _ => S 25 0))) _ := hP
        have hR : RS (sA S 25 (fun _ => S 25 0)) := hR.one (hR 25 0 (by decide)).1 (hR 25 0 (by decide)).2
        have hSe_24 : sA S 25 (fun _ => S 25 0) = sA (sA (sA (sA (sA S 24 (S 24)) 25 (fun _ => S 25 0)) 26 (S 26)) 27 (S 27)) 28 (S 28) := by
          funext k8
          by_cases e80 : k8 = 24
          · subst e80; first | rfl | (funext j8; rfl)
          by_cases e81 : k8 = 25
          · subst e81; funext j8; first | rfl | exact hsc_25 j8
          by_cases e82 : k8 = 26
          · subst e82; first | rfl | (funext j8; rfl)
          by_cases e83 : k8 = 27
          · subst e83; first | rfl | (funext j8; rfl)
          by_cases e84 : k8 = 28
          · subst e84; first | rfl | (funext j8; rfl)
          simp [sA, e80, e81, e82, e83, e84]
        rw [hSe_24] at hP hR
        exact cut_34 (S 24) (S 25 0) (S 26) (S 27) (S 28) _ _ _ (by omega) ((paI_at hNn htn hnz hpa (by omega)).1) ((paI_at hNn htn hnz hpa (by omega)).2) hP hR hS (lv_sub hl [0, 1] rfl)
      · have h9 : True := trivial
        refine lv_aload_n hx hb dX3_measureFrom_30 rfl (lv_at hl 0 rfl) ?_
        refine g_callVv (As := []) (rest := []) ⟨hx, hb, hml, hown, hts⟩ (k_X3_findSteps l D cI cZ ad az av hinj S hR n N t hT8 hnz hcap) (cwV 0 hts (gV hsub q_511 q_513 q_sX3_findSteps q_6 q_514) rfl rfl rfl hdX3_findSteps ⟨Nat.le_of_ble_eq_true rfl, Nat.le_of_ble_eq_true rfl⟩) (cEb D cI cZ ad az av) (cEk D cI cZ ad az av) hE (va_recv (ci := 3) (q0 := 6) hK hP rfl rfl) hP hS rfl hl.1 rfl (Nat.le_of_ble_eq_true rfl) dX3_measureFrom_31 ⟨Nat.le_of_ble_eq_true rfl, Nat.le_of_ble_eq_true rfl⟩ (fun S_26 H locs hq_27 hP hR hS _ => ?_)
        obtain ⟨e_28, e_29, e_30, e_31, e_32, rfl, hf1_33, hf2_34, hf3_35⟩ := hq_27
        have hP : va_P D vwCl (cW cI cZ ad (sA (sA (sA (sA (sA (sA S 24 e_28) 25 e_29) 26 e_30) 27 e_31) 28 e_32) 25 (fun _ => e_29 0))) _ := hP
        have hR : RS (sA (sA (sA (sA (sA (sA S 24 e_28) 25 e_29) 26 e_30) 27 e_31) 28 e_32) 25 (fun _ => e_29 0)) := hR.one (hR 25 0 (by decide)).1 (hR 25 0 (by decide)).2
        have hSe_36 : sA (sA (sA (sA (sA (sA S 24 e_28) 25 e_29) 26 e_30) 27 e_31) 28 e_32) 25 (fun _ => e_29 0) = sA (sA (sA (sA (sA S 24 e_28) 25 (fun _ => e_29 0)) 26 e_30) 27 e_31) 28 e_32 := by
          funext k8
          by_cases e80 : k8 = 24
          · subst e80; first | rfl | (funext j8; rfl)
          by_cases e81 : k8 = 25
          · subst e81; funext j8; first | rfl | exact hsc_25 j8
          by_cases e82 : k8 = 26
          · subst e82; first | rfl | (funext j8; rfl)
          by_cases e83 : k8 = 27
          · subst e83; first | rfl | (funext j8; rfl)
          by_cases e84 : k8 = 28
          · subst e84; first | rfl | (funext j8; rfl)
          simp [sA, e80, e81, e82, e83, e84]
        rw [hSe_36] at hP hR
        exact cut_34 e_28 (e_29 0) e_30 e_31 e_32 _ _ _ (hf1_33) (hf3_35) (Or.inl hf2_34) hP hR hS (lv_sub hl [0, 1] rfl)
    · exact False.elim (by omega)
