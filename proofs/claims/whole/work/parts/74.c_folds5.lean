set_option maxHeartbeats 4000000 in
set_option maxRecDepth 100000 in
theorem k_X0_foldAll (l : Launch) (D : va_G) (cI cZ : ClassId) (ad : Nat → Nat) (az av : Nat) (hinj : cInj ad) (S : St) (hR : RS S) (n0 : Nat) (hn0 : S 2 0 = ↑n0) (n : Nat) (hnn : 2 ≤ n ∧ n ≤ 7) (hold : n0 = n → cTab n (nb n) (tb n) S) (x : Int) (hxn : x = ↑n) : Met l yX0_foldAll (Cond.code yX0_foldAll cX0_foldAll 3 none :: lwT) ({ frames := 10, cells := 0, slots := 0, locals := 230 }) (gPc D (cW cI cZ ad) (cE D cI cZ ad az av) S [.ref (ad 42), .int (zI (x))]) (va_Qv (fun (S' : St) => ∃ e2 e3 e4 e5 e6, S' = sA (sA (sA (sA (sA S 2 e2) 3 e3) 4 e4) 5 e5) 6 e6 ∧ cTab n (nb n) (tb n) (sA (sA (sA (sA (sA S 2 e2) 3 e3) 4 e4) 5 e5) 6 e6)) (gB D (cW cI cZ ad)) (cA ad)) 0 0 (cA ad) := by
  refine Met.ofW (cc := cX0_foldAll) (maxL := 3) (ret := none) (by decide) rfl ?_
  intro p e s m args below meth c s₁ B hml hv
  obtain ⟨rfl, hP, hE⟩ := hv
  have hx := B.exec
  have hb := B.bytes
  have hr := B.returns
  have hts := atoms_spec (ws := Cond.code yX0_foldAll cX0_foldAll 3 none :: lwT) B.pre
  have hT := fun w (h : w ∈ lwT) => hts w (List.mem_cons_of_mem _ h)
  have hsub : ∀ w ∈ lwT, w ∈ (Cond.code yX0_foldAll cX0_foldAll 3 none :: lwT) := fun w h => List.mem_cons_of_mem _ h
  have hown : s.vm.findClass RX0 = some m.cls := findClass_of_methodNamed B.named
  have hlocks := B.notSynchronized
  have hK : va_K D vwCl [(cI, .int), (cZ, .boolean)] s := hE.1
  have hS : va_S (cA ad) s.heap s.heap [] := va_S.rf
  have hn7 := hnn.2
  have hO := OT_tb hnn
  have hlen9 := dfs_len hnn
  have hl := lv_entry ([.ref (ad 42), .int (zI (x))]) (n := 3) (Nat.le_of_ble_eq_true rfl)
  rw [lg_entry_eq]
  generalize (lg_sl ([.ref (ad 42), .int (zI (x))]) ++ List.replicate (3 - (lg_sl ([.ref (ad 42), .int (zI (x))])).length) Slot.unset).toArray = ls at hl ⊢
  have hl : lv_has ls 3 [(0, .ref (ad 42)), (1, .int (zI (x)))] := hl
  refine lv_iload_n hx hb dX0_foldAll_0 rfl (lv_at hl 1 rfl) ?_
  refine lv_aload_n hx hb dX0_foldAll_1 rfl (lv_at hl 0 rfl) ?_
  have g_1 : -2147483648 ≤ S 2 0 ∧ S 2 0 < 2147483648 := hR 2 0 (by decide)
  refine va_get (D := D) (ci := 0) (v := .int (zI (S 2 0))) (C := RX0) (T := TX0) (N := 5) hx hb hT inX0 hown hK hP 2 rfl rfl 0 (by decide) (hT _ q_45) (fun _ h9 => h9) rfl dX0_foldAll_2 ?_
  refine z_icmp_eq (tgt := 14) hx hb (by omega) (by omega) (by omega) (by omega) dX0_foldAll_5 (by decide) (fun c_2 => ?_) (fun c_2 => ?_)
  · have h9 : True := trivial
    have hSe_3 : S = sA (sA (sA (sA (sA S 2 (S 2)) 3 (S 3)) 4 (S 4)) 5 (S 5)) 6 (S 6) := by
      funext k8
      by_cases e80 : k8 = 2
      · subst e80; first | rfl | (funext j8; rfl)
      by_cases e81 : k8 = 3
      · subst e81; first | rfl | (funext j8; rfl)
      by_cases e82 : k8 = 4
      · subst e82; first | rfl | (funext j8; rfl)
      by_cases e83 : k8 = 5
      · subst e83; first | rfl | (funext j8; rfl)
      by_cases e84 : k8 = 6
      · subst e84; first | rfl | (funext j8; rfl)
      simp [sA, e80, e81, e82, e83, e84]
    rw [hSe_3] at hP hR
    exact g_vret (S1 := sA (sA (sA (sA (sA S 2 (S 2)) 3 (S 3)) 4 (S 4)) 5 (S 5)) 6 (S 6)) hx hb hr hlocks hP hR hS (⟨_, _, _, _, _, rfl, by simp only [sA_self]; exact hold (by omega)⟩) dX0_foldAll_14
  · have h9 : True := trivial
    refine lv_iload_n hx hb dX0_foldAll_8 rfl (lv_at hl 1 rfl) ?_
    refine z_bipush hx hb dX0_foldAll_9 (by decide) ?_
    refine z_icmp_le (tgt := 15) hx hb (by omega) (by omega) (by omega) (by omega) dX0_foldAll_11 (by decide) (fun c_4 => ?_) (fun c_4 => ?_)
    · have h9 : True := trivial
      refine lv_aload_n hx hb dX0_foldAll_15 rfl (lv_at hl 0 rfl) ?_
      refine lv_iload_n hx hb dX0_foldAll_16 rfl (lv_at hl 1 rfl) ?_
      refine va_put (D := D) (ci := 0) (v := .int (zI (x))) (ty := .int) (C := RX0) (T := TX0) (N := 5) hx hb hT inX0 tyX0 tyX0_ok nmX0 hown hK hP (cD hinj cI cZ _) hS 2 rfl rfl 0 (by decide) (hT _ q_45) (fun _ h9 => h9) rfl (by decide +kernel) rfl rfl (Nat.le_of_ble_eq_true rfl) dX0_foldAll_17 (fun H locs hP _ hS => ?_)
      have hP : va_P D vwCl (cW cI cZ ad (sA S 2 (fun _ => x))) H := hP
      have hR : RS (sA S 2 (fun _ => x)) := hR.one (by omega) (by omega)
      refine lv_aload_n hx hb dX0_foldAll_20 rfl (lv_at hl 0 rfl) ?_
      refine z_iconst hx hb dX0_foldAll_21 ?_
      refine va_put (D := D) (ci := 0) (v := .int (zI (0))) (ty := .int) (C := RX0) (T := TX0) (N := 5) hx hb hT inX0 tyX0 tyX0_ok nmX0 hown hK hP (cD hinj cI cZ _) hS 2 rfl rfl 1 (by decide) (hT _ q_50) (fun _ h9 => h9) rfl (by decide +kernel) rfl rfl (Nat.le_of_ble_eq_true rfl) dX0_foldAll_22 (fun H locs hP _ hS => ?_)
      have hP : va_P D vwCl (cW cI cZ ad (sA (sA S 2 (fun _ => x)) 3 (fun _ => 0))) H := hP
      have hR : RS (sA (sA S 2 (fun _ => x)) 3 (fun _ => 0)) := hR.one (by omega) (by omega)
      refine z_iconst hx hb dX0_foldAll_25 ?_
      refine lv_istore_n (lv' := [(2, .int (zI (0))), (0, .ref (ad 42)), (1, .int (zI (x)))]) hx hb dX0_foldAll_26 rfl hl (by decide) rfl (fun ls hl => ?_)
      have cut_27 : ∀ (k9 : Nat) (i : Nat) (g6 : Nat → Int) (H : Heap) (locs : List Loc) (ls : Array Slot), (i ≤ 7) → (∀ v, v < i → g6 v = -1) → (7 - i) < k9 → va_P D vwCl (cW cI cZ ad (sA (sA (sA S 2 (fun _ => x)) 3 (fun _ => 0)) 6 g6)) H → RS (sA (sA (sA S 2 (fun _ => x)) 3 (fun _ => 0)) 6 g6) → va_S (cA ad) s.heap H locs → lv_has ls 3 [(0, .ref (ad 42)), (2, .int (zI (↑i)))] → W p l e (headSpec (Cond.code yX0_foldAll cX0_foldAll 3 none :: lwT) ({ frames := 10, cells := 0, slots := 0, locals := 230 })).room s m ([.ref (ad 42), .int (zI (x))] : List Value).toArray below meth c H locs 0 0 (MQ below (va_Qv (fun (S' : St) => ∃ e2 e3 e4 e5 e6, S' = sA (sA (sA (sA (sA S 2 e2) 3 e3) 4 e4) 5 e5) 6 e6 ∧ cTab n (nb n) (tb n) (sA (sA (sA (sA (sA S 2 e2) 3 e3) 4 e4) 5 e5) 6 e6)) (gB D (cW cI cZ ad)) (cA ad)) ([.ref (ad 42), .int (zI (x))] : List Value).toArray s 0 0 (cA ad)) (F0 m 27 ls []) := by
        intro k9
        induction k9 with
        | zero =>
          intro i g6 H locs ls hi hg6 hk9 hP hR hS hl
          exact absurd hk9 (Nat.not_lt_zero _)
        | succ k9 ih_27 =>
          intro i g6 H locs ls hi hg6 hk9 hP hR hS hl
          refine lv_iload_n hx hb dX0_foldAll_27 rfl (lv_at hl 1 rfl) ?_
          refine z_bipush hx hb dX0_foldAll_28 (by decide) ?_
          refine z_icmp_ge (tgt := 46) hx hb (by omega) (by omega) (by omega) (by omega) dX0_foldAll_30 (by decide) (fun c_5 => ?_) (fun c_5 => ?_)
          · have h9 : True := trivial
            refine lv_aload_n hx hb dX0_foldAll_46 rfl (lv_at hl 0 rfl) ?_
            refine z_iconst hx hb dX0_foldAll_47 ?_
            refine z_iconst hx hb dX0_foldAll_48 ?_
            refine g_callSv (As := [.ref (ad 42), .int (zI (0)), .int (zI (0))]) (rest := []) ⟨hx, hb, hml, hown, hts⟩ (k_X0_addBelow_7 l D cI cZ ad az av hinj (sA (sA (sA S 2 (fun _ => x)) 3 (fun _ => 0)) 6 g6) hR n hxn hn7 [] (fun v hv => hg6 v (by omega)) (by decide) 0 rfl n hn7 (gdO_nil n) (by simp) (by rw [hlen9]; have := hO.1; omega) 0 0 rfl rfl) (cwS 3 hts (gS hsub q_325 q_326 q_3 q_327) rfl rfl rfl hdX0_addBelow ⟨Nat.le_of_ble_eq_true rfl, Nat.le_of_ble_eq_true rfl⟩) (cEb D cI cZ ad az av) (cEk D cI cZ ad az av) hE hP hS rfl hl.1 rfl (Nat.le_of_ble_eq_true rfl) dX0_foldAll_49 ⟨Nat.le_of_ble_eq_true rfl, Nat.le_of_ble_eq_true rfl⟩ (fun S_7 H locs hq_8 hP hR hS _ => ?_)
            obtain ⟨e_9, e_10, e_11, e_12, rfl, hq6_13, hq3_14, hqa_15⟩ := hq_8
            have hSe_16 : sA (sA (sA (sA (sA (sA (sA S 2 (fun _ => x)) 3 (fun _ => 0)) 6 g6) 3 e_9) 4 e_10) 5 e_11) 6 e_12 = sA (sA (sA (sA (sA S 2 (fun _ => x)) 3 e_9) 4 e_10) 5 e_11) 6 e_12 := by
              funext k8
              by_cases e80 : k8 = 2
              · subst e80; first | rfl | (funext j8; rfl)
              by_cases e81 : k8 = 3
              · subst e81; first | rfl | (funext j8; rfl)
              by_cases e82 : k8 = 4
              · subst e82; first | rfl | (funext j8; rfl)
              by_cases e83 : k8 = 5
              · subst e83; first | rfl | (funext j8; rfl)
              by_cases e84 : k8 = 6
              · subst e84; first | rfl | (funext j8; rfl)
              simp [sA, e80, e81, e82, e83, e84]
            rw [hSe_16] at hP hR
            exact g_vret (S1 := sA (sA (sA (sA (sA S 2 (fun _ => x)) 3 e_9) 4 e_10) 5 e_11) 6 e_12) hx hb hr hlocks hP hR hS (⟨_, _, _, _, _, rfl, tab_of hnn (show x = ↑n from hxn) (show _ = _ by rw [← hlen9]; exact (hq3_14).trans (Int.zero_add _)) hqa_15⟩) dX0_foldAll_52
          · have h9 : True := trivial
            refine lv_aload_n hx hb dX0_foldAll_33 rfl (lv_at hl 0 rfl) ?_
            refine va_get (D := D) (ci := 0) (v := .ref (ad 6)) (C := RX0) (T := TX0) (N := 5) hx hb hT inX0 hown hK hP 2 rfl rfl 4 (by decide) (hT _ q_57) (fun _ h9 => h9) rfl dX0_foldAll_34 ?_
            refine lv_iload_n hx hb dX0_foldAll_37 rfl (lv_at hl 1 rfl) ?_
            refine z_iconst hx hb dX0_foldAll_38 ?_
            refine z_ast (f := (sA (sA (sA S 2 (fun _ => x)) 3 (fun _ => 0)) 6 g6) 6) (i := ↑i) (v := -1) hx hb hK hP (cD hinj cI cZ _) hS 11 0 rfl rfl (by omega) (by omega) (by decide) dX0_foldAll_39 (fun H locs hP hS => ?_)
            have hP : va_P D vwCl (cW cI cZ ad (sA (sA (sA S 2 (fun _ => x)) 3 (fun _ => 0)) 6 (uZ g6 i (-1)))) H := hP
            have hR : RS (sA (sA (sA S 2 (fun _ => x)) 3 (fun _ => 0)) 6 (uZ g6 i (-1))) := hR.put' (by omega) (by omega)
            refine z_iinc (lv' := [(2, .int (zI (↑i + 1))), (0, .ref (ad 42))]) hx hb dX0_foldAll_40 hl (k := 1) rfl (by decide) rfl (fun ls hl => ?_)
            refine lv_goto (tgt := 27) hx hb dX0_foldAll_43 (by decide) ?_
            exact ih_27 (i + 1) (uZ g6 i (-1)) _ _ _ (by omega) (fun a ha => by unfold uZ; split <;> first | rfl | exact hg6 a (by omega)) (by omega) hP hR hS (lv_sub hl [1, 0] rfl)
      have hSe_17 : sA (sA S 2 (fun _ => x)) 3 (fun _ => 0) = sA (sA (sA S 2 (fun _ => x)) 3 (fun _ => 0)) 6 (S 6) := by
        funext k8
        by_cases e80 : k8 = 2
        · subst e80; funext j8; first | rfl | exact hsc_2 j8
        by_cases e81 : k8 = 3
        · subst e81; funext j8; first | rfl | exact hsc_3 j8
        by_cases e82 : k8 = 6
        · subst e82; first | rfl | (funext j8; rfl)
        simp [sA, e80, e81, e82]
      rw [hSe_17] at hP hR
      exact cut_27 _ 0 (S 6) _ _ _ (by omega) (fun j h => absurd h (Nat.not_lt_zero j)) (Nat.lt_succ_self _) hP hR hS (lv_sub hl [1, 0] rfl)
    · exact False.elim (by omega)
