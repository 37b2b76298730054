set_option maxHeartbeats 4000000 in
set_option maxRecDepth 100000 in
theorem k_X6_asNumber (l : Launch) (o : Bool) : Met l yX6_asNumber (Cond.code yX6_asNumber cX6_asNumber 1 (some .int) :: lwT) ({ frames := 0, cells := 0, slots := 0, locals := 0 }) (va_Pc [.int (zI (b2 (o)))] (fun _ => True)) (vp_Si (fun r : Int32 => r = zI (b2 o))) 0 0 (fun _ => False) := by
  refine Met.ofW (cc := cX6_asNumber) (maxL := 1) (ret := (some .int)) (by decide) rfl ?_
  intro p e s m args below meth c s₁ B hml hv
  obtain ⟨rfl, -⟩ := hv
  have hx := B.exec
  have hb := B.bytes
  have hr := B.returns
  have hts := atoms_spec (ws := Cond.code yX6_asNumber cX6_asNumber 1 (some .int) :: lwT) B.pre
  have hT := fun w (h : w ∈ lwT) => hts w (List.mem_cons_of_mem _ h)
  have hsub : ∀ w ∈ lwT, w ∈ (Cond.code yX6_asNumber cX6_asNumber 1 (some .int) :: lwT) := fun w h => List.mem_cons_of_mem _ h
  have hown : s.vm.findClass RX6 = some m.cls := findClass_of_methodNamed B.named
  have hlocks := B.notSynchronized
  have hl := lv_entry ([.int (zI (b2 (o)))]) (n := 1) (Nat.le_of_ble_eq_true rfl)
  rw [lg_entry_eq]
  generalize (lg_sl ([.int (zI (b2 (o)))]) ++ List.replicate (1 - (lg_sl ([.int (zI (b2 (o)))])).length) Slot.unset).toArray = ls at hl ⊢
  have hl : lv_has ls 1 [(0, .int (zI (b2 (o))))] := hl
  refine lv_iload_n hx hb dX6_asNumber_0 rfl (lv_at hl 0 rfl) ?_
  refine z_ifeqB (tgt := 8) hx hb dX6_asNumber_1 (by decide) (fun c_1 => ?_) (fun c_1 => ?_)
  · have h9 : True := trivial
    refine z_iconst hx hb dX6_asNumber_8 ?_
    exact s_iret (v := zI (0)) hx hb hr hlocks (by rw [c_1]; rfl) dX6_asNumber_9
  · have h9 : True := trivial
    refine z_iconst hx hb dX6_asNumber_4 ?_
    refine lv_goto (tgt := 9) hx hb dX6_asNumber_5 (by decide) ?_
    exact s_iret (v := zI (1)) hx hb hr hlocks (by rw [c_1]; rfl) dX6_asNumber_9
set_option maxHeartbeats 4000000 in
set_option maxRecDepth 100000 in
theorem k_X6_isOfKind (l : Launch) (x k : Int) (hx1 : -2147483648 ≤ x) (hx2 : x < 2147483648) (hk1 : -2147483648 ≤ k) (hk2 : k < 2147483648) : Met l yX6_isOfKind (Cond.code yX6_isOfKind cX6_isOfKind 2 (some .boolean) :: lwT) ({ frames := 0, cells := 0, slots := 0, locals := 0 }) (va_Pc [.int (zI (x)), .int (zI (k))] (fun _ => True)) (vp_Si (fun r : Int32 => r = zI (b2 (pB (okP x k))))) 0 0 (fun _ => False) := by
  refine Met.ofW (cc := cX6_isOfKind) (maxL := 2) (ret := (some .boolean)) (by decide) rfl ?_
  intro p e s m args below meth c s₁ B hml hv
  obtain ⟨rfl, -⟩ := hv
  have hx := B.exec
  have hb := B.bytes
  have hr := B.returns
  have hts := atoms_spec (ws := Cond.code yX6_isOfKind cX6_isOfKind 2 (some .boolean) :: lwT) B.pre
  have hT := fun w (h : w ∈ lwT) => hts w (List.mem_cons_of_mem _ h)
  have hsub : ∀ w ∈ lwT, w ∈ (Cond.code yX6_isOfKind cX6_isOfKind 2 (some .boolean) :: lwT) := fun w h => List.mem_cons_of_mem _ h
  have hown : s.vm.findClass RX6 = some m.cls := findClass_of_methodNamed B.named
  have hlocks := B.notSynchronized
  have hl := lv_entry ([.int (zI (x)), .int (zI (k))]) (n := 2) (Nat.le_of_ble_eq_true rfl)
  rw [lg_entry_eq]
  generalize (lg_sl ([.int (zI (x)), .int (zI (k))]) ++ List.replicate (2 - (lg_sl ([.int (zI (x)), .int (zI (k))])).length) Slot.unset).toArray = ls at hl ⊢
  have hl : lv_has ls 2 [(0, .int (zI (x))), (1, .int (zI (k)))] := hl
  refine lv_iload_n hx hb dX6_isOfKind_0 rfl (lv_at hl 1 rfl) ?_
  refine z_if_eq (tgt := 29) hx hb (by omega) (by omega) dX6_isOfKind_1 (by decide) (fun c_1 => ?_) (fun c_1 => ?_)
  · have h9 : True := trivial
    refine z_iconst hx hb dX6_isOfKind_29 ?_
    refine lv_goto (tgt := 34) hx hb dX6_isOfKind_30 (by decide) ?_
    exact s_zret (bo := true) hx hb hr hlocks (pT (by unfold okP; omega)) dX6_isOfKind_34
  · have h9 : True := trivial
    refine lv_iload_n hx hb dX6_isOfKind_4 rfl (lv_at hl 0 rfl) ?_
    refine lv_iload_n hx hb dX6_isOfKind_5 rfl (lv_at hl 1 rfl) ?_
    refine z_icmp_eq (tgt := 29) hx hb (by omega) (by omega) (by omega) (by omega) dX6_isOfKind_6 (by decide) (fun c_2 => ?_) (fun c_2 => ?_)
    · have h9 : True := trivial
      refine z_iconst hx hb dX6_isOfKind_29 ?_
      refine lv_goto (tgt := 34) hx hb dX6_isOfKind_30 (by decide) ?_
      exact s_zret (bo := true) hx hb hr hlocks (pT (by unfold okP; omega)) dX6_isOfKind_34
    · have h9 : True := trivial
      refine lv_iload_n hx hb dX6_isOfKind_9 rfl (lv_at hl 1 rfl) ?_
      refine z_iconst hx hb dX6_isOfKind_10 ?_
      refine z_icmp_ne (tgt := 19) hx hb (by omega) (by omega) (by omega) (by omega) dX6_isOfKind_11 (by decide) (fun c_3 => ?_) (fun c_3 => ?_)
      · have h9 : True := trivial
        refine lv_iload_n hx hb dX6_isOfKind_19 rfl (lv_at hl 1 rfl) ?_
        refine z_iconst hx hb dX6_isOfKind_20 ?_
        refine z_icmp_ne (tgt := 33) hx hb (by omega) (by omega) (by omega) (by omega) dX6_isOfKind_21 (by decide) (fun c_4 => ?_) (fun c_4 => ?_)
        · have h9 : True := trivial
          refine z_iconst hx hb dX6_isOfKind_33 ?_
          exact s_zret (bo := false) hx hb hr hlocks (pF (by unfold okP; omega)) dX6_isOfKind_34
        · have h9 : True := trivial
          refine lv_iload_n hx hb dX6_isOfKind_24 rfl (lv_at hl 0 rfl) ?_
          refine z_iconst hx hb dX6_isOfKind_25 ?_
          refine z_icmp_ne (tgt := 33) hx hb (by omega) (by omega) (by omega) (by omega) dX6_isOfKind_26 (by decide) (fun c_5 => ?_) (fun c_5 => ?_)
          · have h9 : True := trivial
            refine z_iconst hx hb dX6_isOfKind_33 ?_
            exact s_zret (bo := false) hx hb hr hlocks (pF (by unfold okP; omega)) dX6_isOfKind_34
          · have h9 : True := trivial
            refine z_iconst hx hb dX6_isOfKind_29 ?_
            refine lv_goto (tgt := 34) hx hb dX6_isOfKind_30 (by decide) ?_
            exact s_zret (bo := true) hx hb hr hlocks (pT (by unfold okP; omega)) dX6_isOfKind_34
      · have h9 : True := trivial
        refine lv_iload_n hx hb dX6_isOfKind_14 rfl (lv_at hl 0 rfl) ?_
        refine z_iconst hx hb dX6_isOfKind_15 ?_
        refine z_icmp_eq (tgt := 29) hx hb (by omega) (by omega) (by omega) (by omega) dX6_isOfKind_16 (by decide) (fun c_6 => ?_) (fun c_6 => ?_)
        · have h9 : True := trivial
          refine z_iconst hx hb dX6_isOfKind_29 ?_
          refine lv_goto (tgt := 34) hx hb dX6_isOfKind_30 (by decide) ?_
          exact s_zret (bo := true) hx hb hr hlocks (pT (by unfold okP; omega)) dX6_isOfKind_34
        · have h9 : True := trivial
          refine lv_iload_n hx hb dX6_isOfKind_19 rfl (lv_at hl 1 rfl) ?_
          refine z_iconst hx hb dX6_isOfKind_20 ?_
          refine z_icmp_ne (tgt := 33) hx hb (by omega) (by omega) (by omega) (by omega) dX6_isOfKind_21 (by decide) (fun c_7 => ?_) (fun c_7 => ?_)
          · have h9 : True := trivial
            refine z_iconst hx hb dX6_isOfKind_33 ?_
            exact s_zret (bo := false) hx hb hr hlocks (pF (by unfold okP; omega)) dX6_isOfKind_34
          · have h9 : True := trivial
            refine lv_iload_n hx hb dX6_isOfKind_24 rfl (lv_at hl 0 rfl) ?_
            refine z_iconst hx hb dX6_isOfKind_25 ?_
            refine z_icmp_ne (tgt := 33) hx hb (by omega) (by omega) (by omega) (by omega) dX6_isOfKind_26 (by decide) (fun c_8 => ?_) (fun c_8 => ?_)
            · have h9 : True := trivial
              refine z_iconst hx hb dX6_isOfKind_33 ?_
              exact s_zret (bo := false) hx hb hr hlocks (pF (by unfold okP; omega)) dX6_isOfKind_34
            · have h9 : True := trivial
              refine z_iconst hx hb dX6_isOfKind_29 ?_
              refine lv_goto (tgt := 34) hx hb dX6_isOfKind_30 (by decide) ?_
              exact s_zret (bo := true) hx hb hr hlocks (pT (by unfold okP; omega)) dX6_isOfKind_34
set_option maxHeartbeats 4000000 in
set_option maxRecDepth 100000 in
theorem k_X6_thickness (l : Launch) (x : Int) (hx1 : -2147483648 ≤ x) (hx2 : x < 2147483648) : Met l yX6_thickness (Cond.code yX6_thickness cX6_thickness 1 (some .int) :: lwT) ({ frames := 1, cells := 0, slots := 0, locals := 21 }) (va_Pc [.int (zI (x))] (fun _ => True)) (vp_Si (fun r : Int32 => r = zI (thk x))) 0 0 (fun _ => False) := by
  refine Met.ofW (cc := cX6_thickness) (maxL := 1) (ret := (some .int)) (by decide) rfl ?_
  intro p e s m args below meth c s₁ B hml hv
  obtain ⟨rfl, -⟩ := hv
  have hx := B.exec
  have hb := B.bytes
  have hr := B.returns
  have hts := atoms_spec (ws := Cond.code yX6_thickness cX6_thickness 1 (some .int) :: lwT) B.pre
  have hT := fun w (h : w ∈ lwT) => hts w (List.mem_cons_of_mem _ h)
  have hsub : ∀ w ∈ lwT, w ∈ (Cond.code yX6_thickness cX6_thickness 1 (some .int) :: lwT) := fun w h => List.mem_cons_of_mem _ h
  have hown : s.vm.findClass RX6 = some m.cls := findClass_of_methodNamed B.named
  have hlocks := B.notSynchronized
  have hl := lv_entry ([.int (zI (x))]) (n := 1) (Nat.le_of_ble_eq_true rfl)
  rw [lg_entry_eq]
  generalize (lg_sl ([.int (zI (x))]) ++ List.replicate (1 - (lg_sl ([.int (zI (x))])).length) Slot.unset).toArray = ls at hl ⊢
  have hl : lv_has ls 1 [(0, .int (zI (x)))] := hl
  refine lv_iload_n hx hb dX6_thickness_0 rfl (lv_at hl 0 rfl) ?_
  refine z_iconst hx hb dX6_thickness_1 ?_
  refine s_callSi (As := [.int (zI (x)), .int (zI (1))]) (rest := []) ⟨hx, hb, hml, hown, hts⟩ (k_X6_isOfKind l x 1 (by omega) (by omega) (by omega) (by omega)) (cwS 2 hts (gS hsub q_390 q_364 q_1 q_365) rfl rfl rfl hdX6_isOfKind ⟨Nat.le_of_ble_eq_true rfl, Nat.le_of_ble_eq_true rfl⟩) rfl hl.1 rfl (Nat.le_of_ble_eq_true rfl) dX6_thickness_2 ⟨Nat.le_of_ble_eq_true rfl, Nat.le_of_ble_eq_true rfl⟩ (fun r_1 hq_3 => ?_)
  rw [hq_3]
  refine z_ifeqB (tgt := 12) hx hb dX6_thickness_5 (by decide) (fun c_4 => ?_) (fun c_4 => ?_)
  · have h9 : True := trivial
    refine z_iconst hx hb dX6_thickness_12 ?_
    exact s_iret (v := zI (1)) hx hb hr hlocks (by have h7 := pB_f.mp c_4; unfold okP at h7; unfold thk; split <;> first | rfl | omega) dX6_thickness_13
  · have h9 : True := trivial
    refine z_iconst hx hb dX6_thickness_8 ?_
    refine lv_goto (tgt := 13) hx hb dX6_thickness_9 (by decide) ?_
    exact s_iret (v := zI (3)) hx hb hr hlocks (by have h7 := pB_t.mp c_4; unfold okP at h7; unfold thk; split <;> first | rfl | omega) dX6_thickness_13
set_option maxHeartbeats 4000000 in
set_option maxRecDepth 100000 in
theorem k_X6_seedAfter (l : Launch) (x : Int) (hx0 : 0 ≤ x) (hx2 : x < 2147483648) : Met l yX6_seedAfter (Cond.code yX6_seedAfter cX6_seedAfter 1 (some .int) :: lwT) ({ frames := 0, cells := 0, slots := 0, locals := 0 }) (va_Pc [.int (zI (x))] (fun _ => True)) (vp_Si (fun r : Int32 => r = zI (sdF x))) 0 0 (fun _ => False) := by
  refine Met.ofW (cc := cX6_seedAfter) (maxL := 1) (ret := (some .int)) (by decide) rfl ?_
  intro p e s m args below meth c s₁ B hml hv
  obtain ⟨rfl, -⟩ := hv
  have hx := B.exec
  have hb := B.bytes
  have hr := B.returns
  have hts := atoms_spec (ws := Cond.code yX6_seedAfter cX6_seedAfter 1 (some .int) :: lwT) B.pre
  have hT := fun w (h : w ∈ lwT) => hts w (List.mem_cons_of_mem _ h)
  have hsub : ∀ w ∈ lwT, w ∈ (Cond.code yX6_seedAfter cX6_seedAfter 1 (some .int) :: lwT) := fun w h => List.mem_cons_of_mem _ h
  have hown : s.vm.findClass RX6 = some m.cls := findClass_of_methodNamed B.named
  have hlocks := B.notSynchronized
  have hl := lv_entry ([.int (zI (x))]) (n := 1) (Nat.le_of_ble_eq_true rfl)
  rw [lg_entry_eq]
  generalize (lg_sl ([.int (zI (x))]) ++ List.replicate (1 - (lg_sl ([.int (zI (x))])).length) Slot.unset).toArray = ls at hl ⊢
  have hl : lv_has ls 1 [(0, .int (zI (x)))] := hl
  refine lv_ldc2 (v := zL 1103515245) hx hb hown (hT _ q_613) dX6_seedAfter_0 ?_
  refine lv_iload_n hx hb dX6_seedAfter_3 rfl (lv_at hl 0 rfl) ?_
  refine z_i2l hx hb (by omega) (by omega) dX6_seedAfter_4 ?_
  refine z_lmul hx hb dX6_seedAfter_5 ?_
  refine lv_ldc2 (v := zL 12345) hx hb hown (hT _ q_614) dX6_seedAfter_6 ?_
  refine z_ladd hx hb dX6_seedAfter_9 ?_
  refine lv_ldc2 (v := zL 2147483648) hx hb hown (hT _ q_615) dX6_seedAfter_10 ?_
  refine z_lrem hx hb (by omega) (by omega) (by omega) (by omega) dX6_seedAfter_13 ?_
  refine z_l2i hx hb dX6_seedAfter_14 ?_
  exact s_iret (v := zI (((1103515245 * x) + 12345) % 2147483648)) hx hb hr hlocks (rfl) dX6_seedAfter_15
set_option maxHeartbeats 4000000 in
set_option maxRecDepth 100000 in
theorem k_X6_draw (l : Launch) (x y : Int) (hx0 : 0 ≤ x) (hx2 : x < 2147483648) (hy0 : 0 < y) (hy2 : y < 2147483648) : Met l yX6_draw (Cond.code yX6_draw cX6_draw 2 (some .int) :: lwT) ({ frames := 0, cells := 0, slots := 0, locals := 0 }) (va_Pc [.int (zI (x)), .int (zI (y))] (fun _ => True)) (vp_Si (fun r : Int32 => r = zI (x / 65536 % y))) 0 0 (fun _ => False) := by
  refine Met.ofW (cc := cX6_draw) (maxL := 2) (ret := (some .int)) (by decide) rfl ?_
  intro p e s m args below meth c s₁ B hml hv
  obtain ⟨rfl, -⟩ := hv
  have hx := B.exec
  have hb := B.bytes
  have hr := B.returns
  have hts := atoms_spec (ws := Cond.code yX6_draw cX6_draw 2 (some .int) :: lwT) B.pre
  have hT := fun w (h : w ∈ lwT) => hts w (List.mem_cons_of_mem _ h)
  have hsub : ∀ w ∈ lwT, w ∈ (Cond.code yX6_draw cX6_draw 2 (some .int) :: lwT) := fun w h => List.mem_cons_of_mem _ h
  have hown : s.vm.findClass RX6 = some m.cls := findClass_of_methodNamed B.named
  have hlocks := B.notSynchronized
  have hl := lv_entry ([.int (zI (x)), .int (zI (y))]) (n := 2) (Nat.le_of_ble_eq_true rfl)
  rw [lg_entry_eq]
  generalize (lg_sl ([.int (zI (x)), .int (zI (y))]) ++ List.replicate (2 - (lg_sl ([.int (zI (x)), .int (zI (y))])).length) Slot.unset).toArray = ls at hl ⊢
  have hl : lv_has ls 2 [(0, .int (zI (x))), (1, .int (zI (y)))] := hl
  refine lv_iload_n hx hb dX6_draw_0 rfl (lv_at hl 1 rfl) ?_
  refine z_if_gt (tgt := 8) hx hb (by omega) (by omega) dX6_draw_1 (by decide) (fun c_1 => ?_) (fun c_1 => ?_)
  · have h9 : True := trivial
    refine lv_iload_n hx hb dX6_draw_8 rfl (lv_at hl 0 rfl) ?_
    refine lv_ldcw (v := zI 65536) hx hb hown (hT _ q_619) dX6_draw_9 ?_
    refine z_idiv hx hb (by omega) (by omega) (by omega) (by omega) dX6_draw_12 ?_
    refine lv_iload_n hx hb dX6_draw_13 rfl (lv_at hl 1 rfl) ?_
    refine z_irem hx hb (by omega) (by omega) (by omega) (by omega) dX6_draw_14 ?_
    exact s_iret (v := zI ((x / 65536) % y)) hx hb hr hlocks (rfl) dX6_draw_15
  · exact False.elim (by omega)
set_option maxHeartbeats 4000000 in
set_option maxRecDepth 100000 in
theorem k_X6_commonDivisor (l : Launch) (x y : Int) (hx : 0 ≤ x ∧ x ≤ 462) (hy : 0 ≤ y ∧ y ≤ 462) : Met l yX6_commonDivisor (Cond.code yX6_commonDivisor cX6_commonDivisor 6 (some .int) :: lwT) ({ frames := 1, cells := 0, slots := 0, locals := 21 }) (va_Pc [.int (zI (x)), .int (zI (y))] (fun _ => True)) (vp_Si (fun r : Int32 => r = zI (if 1 < ((Int.gcd x y : Nat) : Int) then ((Int.gcd x y : Nat) : Int) else 1))) 0 0 (fun _ => False) := by
  refine Met.ofW (cc := cX6_commonDivisor) (maxL := 6) (ret := (some .int)) (by decide) rfl ?_
  intro p e s m args below meth c s₁ B hml hv
  obtain ⟨rfl, -⟩ := hv
  have hx := B.exec
  have hb := B.bytes
  have hr := B.returns
  have hts := atoms_spec (ws := Cond.code yX6_commonDivisor cX6_commonDivisor 6 (some .int) :: lwT) B.pre
  have hT := fun w (h : w ∈ lwT) => hts w (List.mem_cons_of_mem _ h)
  have hsub : ∀ w ∈ lwT, w ∈ (Cond.code yX6_commonDivisor cX6_commonDivisor 6 (some .int) :: lwT) := fun w h => List.mem_cons_of_mem _ h
  have hown : s.vm.findClass RX6 = some m.cls := findClass_of_methodNamed B.named
  have hlocks := B.notSynchronized
  have hl := lv_entry ([.int (zI (x)), .int (zI (y))]) (n := 6) (Nat.le_of_ble_eq_true rfl)
  rw [lg_entry_eq]
  generalize (lg_sl ([.int (zI (x)), .int (zI (y))]) ++ List.replicate (6 - (lg_sl ([.int (zI (x)), .int (zI (y))])).length) Slot.unset).toArray = ls at hl ⊢
  have hl : lv_has ls 6 [(0, .int (zI (x))), (1, .int (zI (y)))] := hl
  refine lv_iload_n hx hb dX6_commonDivisor_0 rfl (lv_at hl 0 rfl) ?_
  refine lv_istore_n (lv' := [(2, .int (zI (x))), (0, .int (zI (x))), (1, .int (zI (y)))]) hx hb dX6_commonDivisor_1 rfl hl (by decide) rfl (fun ls hl => ?_)
  refine lv_iload_n hx hb dX6_commonDivisor_2 rfl (lv_at hl 2 rfl) ?_
  refine lv_istore_n (lv' := [(3, .int (zI (y))), (2, .int (zI (x))), (0, .int (zI (x))), (1, .int (zI (y)))]) hx hb dX6_commonDivisor_3 rfl hl (by decide) rfl (fun ls hl => ?_)
  refine z_iconst hx hb dX6_commonDivisor_4 ?_
  refine lv_istore (lv' := [(4, .int (zI (0))), (3, .int (zI (y))), (2, .int (zI (x))), (0, .int (zI (x))), (1, .int (zI (y)))]) hx hb dX6_commonDivisor_5 hl (by decide) rfl (fun ls hl => ?_)
  have cut_7 : ∀ (k9 : Nat) (i : Nat) (xa : Int) (xb : Int) (ls : Array Slot), (0 ≤ xa ∧ xa ≤ 462 ∧ 0 ≤ xb ∧ xb ≤ 462 - ↑i ∧ i ≤ 462) → (Int.gcd xa xb = Int.gcd x y) → (462 - i) < k9 → lv_has ls 6 [(2, .int (zI (xa))), (3, .int (zI (xb))), (4, .int (zI (↑i)))] → W p l e (headSpec (Cond.code yX6_commonDivisor cX6_commonDivisor 6 (some .int) :: lwT) ({ frames := 1, cells := 0, slots := 0, locals := 21 })).room s m ([.int (zI (x)), .int (zI (y))] : List Value).toArray below meth c s.heap [] 0 0 (MQ below (vp_Si (fun r : Int32 => r = zI (if 1 < ((Int.gcd x y : Nat) : Int) then ((Int.gcd x y : Nat) : Int) else 1))) ([.int (zI (x)), .int (zI (y))] : List Value).toArray s 0 0 (fun _ => False)) (F0 m 7 ls []) := by
    intro k9
    induction k9 with
    | zero =>
      intro i xa xb ls hab hg hk9 hl
      exact absurd hk9 (Nat.not_lt_zero _)
    | succ k9 ih_7 =>
      intro i xa xb ls hab hg hk9 hl
      refine lv_iload hx hb dX6_commonDivisor_7 (lv_at hl 2 rfl) ?_
      refine z_sipush hx hb dX6_commonDivisor_9 (by decide) ?_
      refine z_icmp_ge (tgt := 35) hx hb (by omega) (by omega) (by omega) (by omega) dX6_commonDivisor_12 (by decide) (fun c_1 => ?_) (fun c_1 => ?_)
      · have h9 : True := trivial
        have hx0 : xb = 0 := by omega
        rw [hx0] at hg
        have hxa : xa = (Int.gcd x y : Nat) := by rw [← hg]; simp; omega
        refine z_iconst hx hb dX6_commonDivisor_35 ?_
        refine lv_iload_n hx hb dX6_commonDivisor_36 rfl (lv_at hl 0 rfl) ?_
        refine z_mmax hx hb (hml.trans hl.1.symm) hown (hT _ q_564) (hT _ q_258) (hT _ q_11) (hT _ q_mmax) (Nat.le_of_ble_eq_true rfl) (Nat.le_of_ble_eq_true rfl) (Nat.le_of_ble_eq_true rfl) (Nat.le_of_ble_eq_true rfl) (by omega) (by omega) (by omega) (by omega) dX6_commonDivisor_37 ?_
        exact s_iret (v := zI (if (1 : Int) < xa then xa else 1)) hx hb hr hlocks (by rw [hxa]) dX6_commonDivisor_40
      · have h9 : True := trivial
        refine lv_iload_n hx hb dX6_commonDivisor_15 rfl (lv_at hl 1 rfl) ?_
        refine z_if_eq (tgt := 35) hx hb (by omega) (by omega) dX6_commonDivisor_16 (by decide) (fun c_2 => ?_) (fun c_2 => ?_)
        · have h9 : True := trivial
          have hx0 : xb = 0 := by omega
          rw [hx0] at hg
          have hxa : xa = (Int.gcd x y : Nat) := by rw [← hg]; simp; omega
          refine z_iconst hx hb dX6_commonDivisor_35 ?_
          refine lv_iload_n hx hb dX6_commonDivisor_36 rfl (lv_at hl 0 rfl) ?_
          refine z_mmax hx hb (hml.trans hl.1.symm) hown (hT _ q_564) (hT _ q_258) (hT _ q_11) (hT _ q_mmax) (Nat.le_of_ble_eq_true rfl) (Nat.le_of_ble_eq_true rfl) (Nat.le_of_ble_eq_true rfl) (Nat.le_of_ble_eq_true rfl) (by omega) (by omega) (by omega) (by omega) dX6_commonDivisor_37 ?_
          exact s_iret (v := zI (if (1 : Int) < xa then xa else 1)) hx hb hr hlocks (by rw [hxa]) dX6_commonDivisor_40
        · have h9 : True := trivial
          refine lv_iload_n hx hb dX6_commonDivisor_19 rfl (lv_at hl 0 rfl) ?_
          refine lv_iload_n hx hb dX6_commonDivisor_20 rfl (lv_at hl 1 rfl) ?_
          refine z_irem hx hb (by omega) (by omega) (by omega) (by omega) dX6_commonDivisor_21 ?_
          refine lv_istore (lv' := [(5, .int (zI (xa % xb))), (2, .int (zI (xa))), (3, .int (zI (xb))), (4, .int (zI (↑i)))]) hx hb dX6_commonDivisor_22 hl (by decide) rfl (fun ls hl => ?_)
          refine lv_iload_n hx hb dX6_commonDivisor_24 rfl (lv_at hl 2 rfl) ?_
          refine lv_istore_n (lv' := [(2, .int (zI (xb))), (5, .int (zI (xa % xb))), (3, .int (zI (xb))), (4, .int (zI (↑i)))]) hx hb dX6_commonDivisor_25 rfl hl (by decide) rfl (fun ls hl => ?_)
          refine lv_iload hx hb dX6_commonDivisor_26 (lv_at hl 1 rfl) ?_
          refine lv_istore_n (lv' := [(3, .int (zI (xa % xb))), (2, .int (zI (xb))), (5, .int (zI (xa % xb))), (4, .int (zI (↑i)))]) hx hb dX6_commonDivisor_28 rfl hl (by decide) rfl (fun ls hl => ?_)
          refine z_iinc (lv' := [(4, .int (zI (↑i + 1))), (3, .int (zI (xa % xb))), (2, .int (zI (xb))), (5, .int (zI (xa % xb)))]) hx hb dX6_commonDivisor_29 hl (k := 3) rfl (by decide) rfl (fun ls hl => ?_)
          refine lv_goto (tgt := 7) hx hb dX6_commonDivisor_32 (by decide) ?_
          exact ih_7 (i + 1) xb (xa % xb) _ (by have h8 := Int.emod_nonneg xa (show xb ≠ 0 by omega); have h9 := Int.emod_lt_of_pos xa (show 0 < xb by omega); omega) ((ig_step (by omega) (by omega)).trans hg) (by omega) (lv_sub hl [2, 1, 0] rfl)
  exact cut_7 _ 0 x y _ (by omega) (rfl) (Nat.lt_succ_self _) (lv_sub hl [2, 1, 0] rfl)
set_option maxHeartbeats 4000000 in
set_option maxRecDepth 100000 in
theorem k_X1_rowOf (l : Launch) (x : Int) : Met l yX1_rowOf (Cond.code yX1_rowOf cX1_rowOf 1 (some .int) :: lwT) ({ frames := 0, cells := 0, slots := 0, locals := 0 }) (va_Pc [.int (zI (x))] (fun _ => True)) (vp_Si (fun r : Int32 => r = zI ((x - 1) * 7))) 0 0 (fun _ => False) := by
  refine Met.ofW (cc := cX1_rowOf) (maxL := 1) (ret := (some .int)) (by decide) rfl ?_
  intro p e s m args below meth c s₁ B hml hv
  obtain ⟨rfl, -⟩ := hv
  have hx := B.exec
  have hb := B.bytes
  have hr := B.returns
  have hts := atoms_spec (ws := Cond.code yX1_rowOf cX1_rowOf 1 (some .int) :: lwT) B.pre
  have hT := fun w (h : w ∈ lwT) => hts w (List.mem_cons_of_mem _ h)
  have hsub : ∀ w ∈ lwT, w ∈ (Cond.code yX1_rowOf cX1_rowOf 1 (some .int) :: lwT) := fun w h => List.mem_cons_of_mem _ h
  have hown : s.vm.findClass RX1 = some m.cls := findClass_of_methodNamed B.named
  have hlocks := B.notSynchronized
  have hl := lv_entry ([.int (zI (x))]) (n := 1) (Nat.le_of_ble_eq_true rfl)
  rw [lg_entry_eq]
  generalize (lg_sl ([.int (zI (x))]) ++ List.replicate (1 - (lg_sl ([.int (zI (x))])).length) Slot.unset).toArray = ls at hl ⊢
  have hl : lv_has ls 1 [(0, .int (zI (x)))] := hl
  refine lv_iload_n hx hb dX1_rowOf_0 rfl (lv_at hl 0 rfl) ?_
  refine z_iconst hx hb dX1_rowOf_1 ?_
  refine z_isub hx hb dX1_rowOf_2 ?_
  refine z_bipush hx hb dX1_rowOf_3 (by decide) ?_
  refine z_imul hx hb dX1_rowOf_5 ?_
  exact s_iret (v := zI ((x - 1) * 7)) hx hb hr hlocks (rfl) dX1_rowOf_6
set_option maxHeartbeats 4000000 in
set_option maxRecDepth 100000 in
theorem k_X0_shiftOf (l : Launch) (q : Nat) (x : Int) (hxq : x = ↑q) (hq : q < 7) : Met l yX0_shiftOf (Cond.code yX0_shiftOf cX0_shiftOf 1 (some .int) :: lwT) ({ frames := 0, cells := 0, slots := 0, locals := 0 }) (va_Pc [.int (zI (x))] (fun _ => True)) (vp_Si (fun r : Int32 => r = zI ↑(3 * (6 - q)))) 0 0 (fun _ => False) := by
  refine Met.ofW (cc := cX0_shiftOf) (maxL := 1) (ret := (some .int)) (by decide) rfl ?_
  intro p e s m args below meth c s₁ B hml hv
  obtain ⟨rfl, -⟩ := hv
  have hx := B.exec
  have hb := B.bytes
  have hr := B.returns
  have hts := atoms_spec (ws := Cond.code yX0_shiftOf cX0_shiftOf 1 (some .int) :: lwT) B.pre
  have hT := fun w (h : w ∈ lwT) => hts w (List.mem_cons_of_mem _ h)
  have hsub : ∀ w ∈ lwT, w ∈ (Cond.code yX0_shiftOf cX0_shiftOf 1 (some .int) :: lwT) := fun w h => List.mem_cons_of_mem _ h
  have hown : s.vm.findClass RX0 = some m.cls := findClass_of_methodNamed B.named
  have hlocks := B.notSynchronized
  have hl := lv_entry ([.int (zI (x))]) (n := 1) (Nat.le_of_ble_eq_true rfl)
  rw [lg_entry_eq]
  generalize (lg_sl ([.int (zI (x))]) ++ List.replicate (1 - (lg_sl ([.int (zI (x))])).length) Slot.unset).toArray = ls at hl ⊢
  have hl : lv_has ls 1 [(0, .int (zI (x)))] := hl
  refine z_iconst hx hb dX0_shiftOf_0 ?_
  refine z_bipush hx hb dX0_shiftOf_1 (by decide) ?_
  refine lv_iload_n hx hb dX0_shiftOf_3 rfl (lv_at hl 0 rfl) ?_
  refine z_isub hx hb dX0_shiftOf_4 ?_
  refine z_imul hx hb dX0_shiftOf_5 ?_
  exact s_iret (v := zI (3 * (6 - x))) hx hb hr hlocks (by congr 1; omega) dX0_shiftOf_6
set_option maxHeartbeats 4000000 in
set_option maxRecDepth 100000 in
theorem k_X0_leafIn (l : Launch) (q : Nat) (x y : Int) (hyq : y = ↑q) (hq : q < 7) (hx0 : 0 ≤ x) (hx2 : x < 2147483648) : Met l yX0_leafIn (Cond.code yX0_leafIn cX0_leafIn 2 (some .int) :: lwT) ({ frames := 1, cells := 0, slots := 0, locals := 20 }) (va_Pc [.int (zI (x)), .int (zI (y))] (fun _ => True)) (vp_Si (fun r : Int32 => r = zI (x / 2 ^ (3 * (6 - q)) % 8))) 0 0 (fun _ => False) := by
  refine Met.ofW (cc := cX0_leafIn) (maxL := 2) (ret := (some .int)) (by decide) rfl ?_
  intro p e s m args below meth c s₁ B hml hv
  obtain ⟨rfl, -⟩ := hv
  have hx := B.exec
  have hb := B.bytes
  have hr := B.returns
  have hts := atoms_spec (ws := Cond.code yX0_leafIn cX0_leafIn 2 (some .int) :: lwT) B.pre
  have hT := fun w (h : w ∈ lwT) => hts w (List.mem_cons_of_mem _ h)
  have hsub : ∀ w ∈ lwT, w ∈ (Cond.code yX0_leafIn cX0_leafIn 2 (some .int) :: lwT) := fun w h => List.mem_cons_of_mem _ h
  have hown : s.vm.findClass RX0 = some m.cls := findClass_of_methodNamed B.named
  have hlocks := B.notSynchronized
  have hl := lv_entry ([.int (zI (x)), .int (zI (y))]) (n := 2) (Nat.le_of_ble_eq_true rfl)
  rw [lg_entry_eq]
  generalize (lg_sl ([.int (zI (x)), .int (zI (y))]) ++ List.replicate (2 - (lg_sl ([.int (zI (x)), .int (zI (y))])).length) Slot.unset).toArray = ls at hl ⊢
  have hl : lv_has ls 2 [(0, .int (zI (x))), (1, .int (zI (y)))] := hl
  refine lv_iload_n hx hb dX0_leafIn_0 rfl (lv_at hl 0 rfl) ?_
  refine lv_iload_n hx hb dX0_leafIn_1 rfl (lv_at hl 1 rfl) ?_
  refine s_callSi (As := [.int (zI (y))]) (rest := [.int (zI (x))]) ⟨hx, hb, hml, hown, hts⟩ (k_X0_shiftOf l (q) y (by omega) (by omega)) (cwS 1 hts (gS hsub q_344 q_345 q_3 q_346) rfl rfl rfl hdX0_shiftOf ⟨Nat.le_of_ble_eq_true rfl, Nat.le_of_ble_eq_true rfl⟩) rfl hl.1 rfl (Nat.le_of_ble_eq_true rfl) dX0_leafIn_2 ⟨Nat.le_of_ble_eq_true rfl, Nat.le_of_ble_eq_true rfl⟩ (fun r_1 hq_3 => ?_)
  rw [hq_3]
  refine z_ishr hx hb (3 * (6 - q)) (by omega) (by omega) (by omega) (by omega) dX0_leafIn_5 ?_
  have h8 : 0 ≤ x / 2 ^ (3 * (6 - q)) := Int.ediv_nonneg hx0 (Int.pow_nonneg (by decide))
  refine z_bipush hx hb dX0_leafIn_6 (by decide) ?_
  refine z_iandM hx hb (3) (by decide) (by omega) dX0_leafIn_8 ?_
  exact s_iret (v := zI ((x / 2 ^ (3 * (6 - q))) % 2 ^ 3)) hx hb hr hlocks (rfl) dX0_leafIn_9
set_option maxHeartbeats 4000000 in
set_option maxRecDepth 100000 in
theorem k_X0_upTo (l : Launch) (z : Nat) (x y : Int) (hyz : y = ↑z) (hz : z ≤ 18) (hx0 : 0 ≤ x) (hx2 : x < 2147483648) : Met l yX0_upTo (Cond.code yX0_upTo cX0_upTo 2 (some .int) :: lwT) ({ frames := 0, cells := 0, slots := 0, locals := 0 }) (va_Pc [.int (zI (x)), .int (zI (y))] (fun _ => True)) (vp_Si (fun r : Int32 => r = zI (x / 2 ^ (z + 3) * 2 ^ (z + 3)))) 0 0 (fun _ => False) := by
  refine Met.ofW (cc := cX0_upTo) (maxL := 2) (ret := (some .int)) (by decide) rfl ?_
  intro p e s m args below meth c s₁ B hml hv
  obtain ⟨rfl, -⟩ := hv
  have hx := B.exec
  have hb := B.bytes
  have hr := B.returns
  have hts := atoms_spec (ws := Cond.code yX0_upTo cX0_upTo 2 (some .int) :: lwT) B.pre
  have hT := fun w (h : w ∈ lwT) => hts w (List.mem_cons_of_mem _ h)
  have hsub : ∀ w ∈ lwT, w ∈ (Cond.code yX0_upTo cX0_upTo 2 (some .int) :: lwT) := fun w h => List.mem_cons_of_mem _ h
  have hown : s.vm.findClass RX0 = some m.cls := findClass_of_methodNamed B.named
  have hlocks := B.notSynchronized
  have hl := lv_entry ([.int (zI (x)), .int (zI (y))]) (n := 2) (Nat.le_of_ble_eq_true rfl)
  rw [lg_entry_eq]
  generalize (lg_sl ([.int (zI (x)), .int (zI (y))]) ++ List.replicate (2 - (lg_sl ([.int (zI (x)), .int (zI (y))])).length) Slot.unset).toArray = ls at hl ⊢
  have hl : lv_has ls 2 [(0, .int (zI (x))), (1, .int (zI (y)))] := hl
  refine lv_iload_n hx hb dX0_upTo_0 rfl (lv_at hl 0 rfl) ?_
  refine lv_iload_n hx hb dX0_upTo_1 rfl (lv_at hl 1 rfl) ?_
  refine z_iconst hx hb dX0_upTo_2 ?_
  refine z_iadd hx hb dX0_upTo_3 ?_
  refine z_ishr hx hb (z + 3) (by omega) (by omega) (by omega) (by omega) dX0_upTo_4 ?_
  refine lv_iload_n hx hb dX0_upTo_5 rfl (lv_at hl 1 rfl) ?_
  refine z_iconst hx hb dX0_upTo_6 ?_
  refine z_iadd hx hb dX0_upTo_7 ?_
  have h8 : 0 ≤ x / 2 ^ (z + 3) := Int.ediv_nonneg hx0 (Int.pow_nonneg (by decide))
  have h9 : x / 2 ^ (z + 3) * 2 ^ (z + 3) ≤ x := Int.ediv_mul_le x (Int.ne_of_gt (Int.pow_pos (by decide)))
  refine z_ishl hx hb (z + 3) (by omega) (by omega) (by omega) (by omega) dX0_upTo_8 ?_
  exact s_iret (v := zI ((x / 2 ^ (z + 3)) * 2 ^ (z + 3))) hx hb hr hlocks (rfl) dX0_upTo_9
