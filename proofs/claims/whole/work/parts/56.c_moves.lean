set_option maxHeartbeats 4000000 in
set_option maxRecDepth 100000 in
theorem k_X0_find (l : Launch) (D : va_G) (cI cZ : ClassId) (ad : Nat → Nat) (az av : Nat) (hinj : cInj ad) (S : St) (hR : RS S) (N : Nat) (hN : S 3 0 = ↑N) (hN4 : N ≤ 462) (hso : ∀ j k, j < k → k < N → S 4 j < S 4 k) (x : Int) (hx1 : -2147483648 ≤ x) (hx2 : x < 2147483648) : Met l yX0_find (Cond.code yX0_find cX0_find 4 (some .int) :: lwT) ({ frames := 0, cells := 0, slots := 0, locals := 0 }) (gPc D (cW cI cZ ad) (cE D cI cZ ad az av) S [.ref (ad 42), .int (zI (x))]) (va_Qi (fun (r : Int32) (S' : St) => S' = S ∧ r = zI (ixF (S 4) x N)) (gB D (cW cI cZ ad)) (cA ad)) 0 0 (cA ad) := by
  refine Met.ofW (cc := cX0_find) (maxL := 4) (ret := (some .int)) (by decide) rfl ?_
  intro p e s m args below meth c s₁ B hml hv
  obtain ⟨rfl, hP, hE⟩ := hv
  have hx := B.exec
  have hb := B.bytes
  have hr := B.returns
  have hts := atoms_spec (ws := Cond.code yX0_find cX0_find 4 (some .int) :: lwT) B.pre
  have hT := fun w (h : w ∈ lwT) => hts w (List.mem_cons_of_mem _ h)
  have hsub : ∀ w ∈ lwT, w ∈ (Cond.code yX0_find cX0_find 4 (some .int) :: lwT) := fun w h => List.mem_cons_of_mem _ h
  have hown : s.vm.findClass RX0 = some m.cls := findClass_of_methodNamed B.named
  have hlocks := B.notSynchronized
  have hK : va_K D vwCl [(cI, .int), (cZ, .boolean)] s := hE.1
  have hS : va_S (cA ad) s.heap s.heap [] := va_S.rf
  have hdis : ∀ j k, j < N → k < N → S 4 j = S 4 k → j = k := fun j k hj hk e => (Nat.lt_trichotomy j k).elim (fun h => by have := hso j k h hk; omega) (fun h => h.elim id (fun h => by have := hso k j h hj; omega))
  have hl := lv_entry ([.ref (ad 42), .int (zI (x))]) (n := 4) (Nat.le_of_ble_eq_true rfl)
  rw [lg_entry_eq]
  generalize (lg_sl ([.ref (ad 42), .int (zI (x))]) ++ List.replicate (4 - (lg_sl ([.ref (ad 42), .int (zI (x))])).length) Slot.unset).toArray = ls at hl ⊢
  have hl : lv_has ls 4 [(0, .ref (ad 42)), (1, .int (zI (x)))] := hl
  refine z_iconst hx hb dX0_find_0 ?_
  refine lv_istore_n (lv' := [(2, .int (zI (0))), (0, .ref (ad 42)), (1, .int (zI (x)))]) hx hb dX0_find_1 rfl hl (by decide) rfl (fun ls hl => ?_)
  refine z_sipush hx hb dX0_find_2 (by decide) ?_
  refine lv_istore_n (lv' := [(3, .int (zI (256))), (2, .int (zI (0))), (0, .ref (ad 42)), (1, .int (zI (x)))]) hx hb dX0_find_5 rfl hl (by decide) rfl (fun ls hl => ?_)
  have cut_6 : ∀ (k9 : Nat) (f : Nat) (zf : Int) (zs : Int) (w9 : Nat) (H : Heap) (locs : List Loc) (ls : Array Slot), (zf = ↑f) → (zs = 256 ∨ zs = 128 ∨ zs = 64 ∨ zs = 32 ∨ zs = 16 ∨ zs = 8 ∨ zs = 4 ∨ zs = 2 ∨ zs = 1 ∨ zs = 0) → ((zs = 0 → w9 = 1) ∧ (zs ≠ 0 → (w9 : Int) = 2 * zs)) → (f < 1000) → (∀ k, k < N → S 4 k = x → f ≤ k ∧ k < f + w9) → (f = 0 ∨ f < N) → zs.toNat < k9 → va_P D vwCl (cW cI cZ ad S) H → RS S → va_S (cA ad) s.heap H locs → lv_has ls 4 [(0, .ref (ad 42)), (1, .int (zI (x))), (2, .int (zI (zf))), (3, .int (zI (zs)))] → W p l e (headSpec (Cond.code yX0_find cX0_find 4 (some .int) :: lwT) ({ frames := 0, cells := 0, slots := 0, locals := 0 })).room s m ([.ref (ad 42), .int (zI (x))] : List Value).toArray below meth c H locs 0 0 (MQ below (va_Qi (fun (r : Int32) (S' : St) => S' = S ∧ r = zI (ixF (S 4) x N)) (gB D (cW cI cZ ad)) (cA ad)) ([.ref (ad 42), .int (zI (x))] : List Value).toArray s 0 0 (cA ad)) (F0 m 6 ls []) := by
    intro k9
    induction k9 with
    | zero =>
      intro f zf zs w9 H locs ls hzf hs9 hw hf5 hin hff hk9 hP hR hS hl
      exact absurd hk9 (Nat.not_lt_zero _)
    | succ k9 ih_6 =>
      intro f zf zs w9 H locs ls hzf hs9 hw hf5 hin hff hk9 hP hR hS hl
      refine lv_iload_n hx hb dX0_find_6 rfl (lv_at hl 3 rfl) ?_
      refine z_if_le (tgt := 43) hx hb (by omega) (by omega) dX0_find_7 (by decide) (fun c_1 => ?_) (fun c_1 => ?_)
      · have h9 : True := trivial
        refine lv_iload_n hx hb dX0_find_43 rfl (lv_at hl 2 rfl) ?_
        refine lv_aload_n hx hb dX0_find_44 rfl (lv_at hl 0 rfl) ?_
        have g_2 : -2147483648 ≤ S 3 0 ∧ S 3 0 < 2147483648 := hR 3 0 (by decide)
        refine va_get (D := D) (ci := 0) (v := .int (zI (S 3 0))) (C := RX0) (T := TX0) (N := 5) hx hb hT inX0 hown hK hP 2 rfl rfl 1 (by decide) (hT _ q_50) (fun _ h9 => h9) rfl dX0_find_45 ?_
        refine z_icmp_ge (tgt := 65) hx hb (by omega) (by omega) (by omega) (by omega) dX0_find_48 (by decide) (fun c_3 => ?_) (fun c_3 => ?_)
        · have h9 : True := trivial
          refine z_iconst hx hb dX0_find_65 ?_
          exact g_iret (S1 := S) (v := zI (-1)) hx hb hr hlocks hP hR hS (⟨rfl, by rw [ixF_n (fun k hk e => by have h7 := hin k hk e; exact absurd (show k = f by omega) (fun e9 => by rw [e9] at e hk; omega))]⟩) dX0_find_66
        · have h9 : True := trivial
          refine lv_aload_n hx hb dX0_find_51 rfl (lv_at hl 0 rfl) ?_
          refine va_get (D := D) (ci := 0) (v := .ref (ad 4)) (C := RX0) (T := TX0) (N := 5) hx hb hT inX0 hown hK hP 2 rfl rfl 2 (by decide) (hT _ q_55) (fun _ h9 => h9) rfl dX0_find_52 ?_
          refine lv_iload_n hx hb dX0_find_55 rfl (lv_at hl 2 rfl) ?_
          have g_4 : -2147483648 ≤ S 4 (zf).toNat ∧ S 4 (zf).toNat < 2147483648 := hR 4 ((zf).toNat) (by decide)
          refine z_ald (f := S 4) hx hb hK hP 9 0 rfl rfl (by omega) (by omega) (by decide) (j := (zf).toNat) rfl dX0_find_56 ?_
          have hr4 : -2147483648 ≤ S 4 f ∧ S 4 f < 2147483648 := hR 4 _ (by decide)
          refine z_top (b := S 4 f) (by rw [show zf.toNat = f by omega]) ?_
          refine lv_iload_n hx hb dX0_find_57 rfl (lv_at hl 1 rfl) ?_
          refine z_icmp_ne (tgt := 65) hx hb (by omega) (by omega) (by omega) (by omega) dX0_find_58 (by decide) (fun c_5 => ?_) (fun c_5 => ?_)
          · have h9 : True := trivial
            refine z_iconst hx hb dX0_find_65 ?_
            exact g_iret (S1 := S) (v := zI (-1)) hx hb hr hlocks hP hR hS (⟨rfl, by rw [ixF_n (fun k hk e => by have h7 := hin k hk e; exact absurd (show k = f by omega) (fun e9 => by rw [e9] at e hk; omega))]⟩) dX0_find_66
          · have h9 : True := trivial
            refine lv_iload_n hx hb dX0_find_61 rfl (lv_at hl 2 rfl) ?_
            refine lv_goto (tgt := 66) hx hb dX0_find_62 (by decide) ?_
            exact g_iret (S1 := S) (v := zI (zf)) hx hb hr hlocks hP hR hS (⟨rfl, by rw [ixF_f hdis (show f < N by omega) (by omega), hzf]⟩) dX0_find_66
      · have h9 : True := trivial
        refine lv_iload_n hx hb dX0_find_10 rfl (lv_at hl 2 rfl) ?_
        refine lv_iload_n hx hb dX0_find_11 rfl (lv_at hl 3 rfl) ?_
        refine z_iadd hx hb dX0_find_12 ?_
        refine lv_aload_n hx hb dX0_find_13 rfl (lv_at hl 0 rfl) ?_
        have g_6 : -2147483648 ≤ S 3 0 ∧ S 3 0 < 2147483648 := hR 3 0 (by decide)
        refine va_get (D := D) (ci := 0) (v := .int (zI (S 3 0))) (C := RX0) (T := TX0) (N := 5) hx hb hT inX0 hown hK hP 2 rfl rfl 1 (by decide) (hT _ q_50) (fun _ h9 => h9) rfl dX0_find_14 ?_
        refine z_icmp_ge (tgt := 36) hx hb (by omega) (by omega) (by omega) (by omega) dX0_find_17 (by decide) (fun c_7 => ?_) (fun c_7 => ?_)
        · have h9 : True := trivial
          refine lv_iload_n hx hb dX0_find_36 rfl (lv_at hl 3 rfl) ?_
          refine z_iconst hx hb dX0_find_37 ?_
          refine z_idiv hx hb (by omega) (by omega) (by omega) (by omega) dX0_find_38 ?_
          refine lv_istore_n (lv' := [(3, .int (zI (zs / 2))), (0, .ref (ad 42)), (1, .int (zI (x))), (2, .int (zI (zf)))]) hx hb dX0_find_39 rfl hl (by decide) rfl (fun ls hl => ?_)
          refine lv_goto (tgt := 6) hx hb dX0_find_40 (by decide) ?_
          exact ih_6 f zf (zs / 2) zs.toNat _ _ _ (by omega) (by omega) (by omega) (by omega) (fun k hk e => by have := hin k hk e; omega) (by omega) (by omega) hP hR hS (lv_sub hl [1, 2, 3, 0] rfl)
        · have h9 : True := trivial
          refine lv_aload_n hx hb dX0_find_20 rfl (lv_at hl 0 rfl) ?_
          refine va_get (D := D) (ci := 0) (v := .ref (ad 4)) (C := RX0) (T := TX0) (N := 5) hx hb hT inX0 hown hK hP 2 rfl rfl 2 (by decide) (hT _ q_55) (fun _ h9 => h9) rfl dX0_find_21 ?_
          refine lv_iload_n hx hb dX0_find_24 rfl (lv_at hl 2 rfl) ?_
          refine lv_iload_n hx hb dX0_find_25 rfl (lv_at hl 3 rfl) ?_
          refine z_iadd hx hb dX0_find_26 ?_
          have g_8 : -2147483648 ≤ S 4 (zf + zs).toNat ∧ S 4 (zf + zs).toNat < 2147483648 := hR 4 ((zf + zs).toNat) (by decide)
          refine z_ald (f := S 4) hx hb hK hP 9 0 rfl rfl (by omega) (by omega) (by decide) (j := (zf + zs).toNat) rfl dX0_find_27 ?_
          have hr4 : -2147483648 ≤ S 4 (f + zs.toNat) ∧ S 4 (f + zs.toNat) < 2147483648 := hR 4 _ (by decide)
          refine z_top (b := S 4 (f + zs.toNat)) (by rw [show (zf + zs).toNat = f + zs.toNat by omega]) ?_
          refine lv_iload_n hx hb dX0_find_28 rfl (lv_at hl 1 rfl) ?_
          refine z_icmp_gt (tgt := 36) hx hb (by omega) (by omega) (by omega) (by omega) dX0_find_29 (by decide) (fun c_9 => ?_) (fun c_9 => ?_)
          · have h9 : True := trivial
            refine lv_iload_n hx hb dX0_find_36 rfl (lv_at hl 3 rfl) ?_
            refine z_iconst hx hb dX0_find_37 ?_
            refine z_idiv hx hb (by omega) (by omega) (by omega) (by omega) dX0_find_38 ?_
            refine lv_istore_n (lv' := [(3, .int (zI (zs / 2))), (0, .ref (ad 42)), (1, .int (zI (x))), (2, .int (zI (zf)))]) hx hb dX0_find_39 rfl hl (by decide) rfl (fun ls hl => ?_)
            refine lv_goto (tgt := 6) hx hb dX0_find_40 (by decide) ?_
            exact ih_6 f zf (zs / 2) zs.toNat _ _ _ (by omega) (by omega) (by omega) (by omega) (fun k hk e => by have h7 := hin k hk e; have h8 : k < f + zs.toNat := Nat.not_le.mp (fun h => (Nat.lt_or_ge (f + zs.toNat) k).elim (fun g => by have := hso (f + zs.toNat) k g hk; omega) (fun g => absurd (show k = f + zs.toNat by omega) (fun e9 => by rw [e9] at e; omega))); omega) (by omega) (by omega) hP hR hS (lv_sub hl [1, 2, 3, 0] rfl)
          · have h9 : True := trivial
            refine lv_iload_n hx hb dX0_find_32 rfl (lv_at hl 2 rfl) ?_
            refine lv_iload_n hx hb dX0_find_33 rfl (lv_at hl 3 rfl) ?_
            refine z_iadd hx hb dX0_find_34 ?_
            refine lv_istore_n (lv' := [(2, .int (zI (zf + zs))), (0, .ref (ad 42)), (1, .int (zI (x))), (3, .int (zI (zs)))]) hx hb dX0_find_35 rfl hl (by decide) rfl (fun ls hl => ?_)
            refine lv_iload_n hx hb dX0_find_36 rfl (lv_at hl 3 rfl) ?_
            refine z_iconst hx hb dX0_find_37 ?_
            refine z_idiv hx hb (by omega) (by omega) (by omega) (by omega) dX0_find_38 ?_
            refine lv_istore_n (lv' := [(3, .int (zI (zs / 2))), (2, .int (zI (zf + zs))), (0, .ref (ad 42)), (1, .int (zI (x)))]) hx hb dX0_find_39 rfl hl (by decide) rfl (fun ls hl => ?_)
            refine lv_goto (tgt := 6) hx hb dX0_find_40 (by decide) ?_
            exact ih_6 (f + zs.toNat) (zf + zs) (zs / 2) zs.toNat _ _ _ (by omega) (by omega) (by omega) (by omega) (fun k hk e => by have h7 := hin k hk e; have h8 : f + zs.toNat ≤ k := Nat.not_lt.mp (fun h => by have := hso k (f + zs.toNat) h (by omega); omega); omega) (by omega) (by omega) hP hR hS (lv_sub hl [2, 3, 1, 0] rfl)
  exact cut_6 _ 0 0 256 512 _ _ _ (by omega) (by omega) (by omega) (by omega) (fun k hk _ => by omega) (by omega) (Nat.lt_succ_self _) hP hR hS (lv_sub hl [2, 3, 1, 0] rfl)
set_option maxHeartbeats 4000000 in
set_option maxRecDepth 100000 in
theorem k_X0_afterMove (l : Launch) (D : va_G) (cI cZ : ClassId) (ad : Nat → Nat) (az av : Nat) (hinj : cInj ad) (S : St) (hR : RS S) (n N : Nat) (t : Nat → Int) (hT9 : cTab n N t S) (k v0 q0 : Nat) (x y z : Int) (hxk : x = ↑k) (hyv : y = ↑v0) (hzq : z = ↑q0) (hkN : k < N) (hv0 : v0 < n) (hq0 : q0 < n) : Met l yX0_afterMove (Cond.code yX0_afterMove cX0_afterMove 5 (some .int) :: lwT) ({ frames := 2, cells := 0, slots := 0, locals := 45 }) (gPc D (cW cI cZ ad) (cE D cI cZ ad az av) S [.ref (ad 42), .int (zI (x)), .int (zI (y)), .int (zI (z))]) (va_Qi (fun (r : Int32) (S' : St) => S' = S ∧ r = zI (amF n N t k v0 q0)) (gB D (cW cI cZ ad)) (cA ad)) 0 0 (cA ad) := by
  refine Met.ofW (cc := cX0_afterMove) (maxL := 5) (ret := (some .int)) (by decide) rfl ?_
  intro p e s m args below meth c s₁ B hml hv
  obtain ⟨rfl, hP, hE⟩ := hv
  have hx := B.exec
  have hb := B.bytes
  have hr := B.returns
  have hts := atoms_spec (ws := Cond.code yX0_afterMove cX0_afterMove 5 (some .int) :: lwT) B.pre
  have hT := fun w (h : w ∈ lwT) => hts w (List.mem_cons_of_mem _ h)
  have hsub : ∀ w ∈ lwT, w ∈ (Cond.code yX0_afterMove cX0_afterMove 5 (some .int) :: lwT) := fun w h => List.mem_cons_of_mem _ h
  have hown : s.vm.findClass RX0 = some m.cls := findClass_of_methodNamed B.named
  have hlocks := B.notSynchronized
  have hK : va_K D vwCl [(cI, .int), (cZ, .boolean)] s := hE.1
  have hS : va_S (cA ad) s.heap s.heap [] := va_S.rf
  have hT8 := hT9
  obtain ⟨⟨hn, hN, hn7, hN4⟩, hn0, hO9, hso, htb⟩ := hT9
  have hO := hO9 (by omega)
  obtain ⟨a1, a2, a3⟩ := hO.2.1 k hkN
  obtain ⟨b1, b2, b3⟩ := htb k hkN
  have hpl := pl_at a2 hv0
  have h8 := prm8 hn7 a2
  have hd7 := f7_d h8
  have hsq := ct_sorted (fun k hk => (htb k hk).1) hso
  have hl := lv_entry ([.ref (ad 42), .int (zI (x)), .int (zI (y)), .int (zI (z))]) (n := 5) (Nat.le_of_ble_eq_true rfl)
  rw [lg_entry_eq]
  generalize (lg_sl ([.ref (ad 42), .int (zI (x)), .int (zI (y)), .int (zI (z))]) ++ List.replicate (5 - (lg_sl ([.ref (ad 42), .int (zI (x)), .int (zI (y)), .int (zI (z))])).length) Slot.unset).toArray = ls at hl ⊢
  have hl : lv_has ls 5 [(0, .ref (ad 42)), (1, .int (zI (x))), (2, .int (zI (y))), (3, .int (zI (z)))] := hl
  refine lv_aload_n hx hb dX0_afterMove_0 rfl (lv_at hl 0 rfl) ?_
  refine lv_iload_n hx hb dX0_afterMove_1 rfl (lv_at hl 1 rfl) ?_
  refine lv_iload_n hx hb dX0_afterMove_2 rfl (lv_at hl 2 rfl) ?_
  refine g_callVi (As := [.int (zI (x)), .int (zI (y))]) (rest := []) ⟨hx, hb, hml, hown, hts⟩ (k_X0_placeOf l D cI cZ ad az av hinj S hR n N t hT8 x y (by omega) (by omega) (by omega) (by omega)) (cwV 2 hts (gV hsub q_436 q_360 q_361 q_3 q_362) rfl rfl rfl hdX0_placeOf ⟨Nat.le_of_ble_eq_true rfl, Nat.le_of_ble_eq_true rfl⟩) (cEb D cI cZ ad az av) (cEk D cI cZ ad az av) hE (va_recv (ci := 0) (q0 := 2) hK hP rfl rfl) hP hS rfl hl.1 rfl (Nat.le_of_ble_eq_true rfl) dX0_afterMove_3 ⟨Nat.le_of_ble_eq_true rfl, Nat.le_of_ble_eq_true rfl⟩ (fun r_1 S_2 H locs hq_3 hP hR hS _ => ?_)
  obtain ⟨hs9, rfl⟩ := hq_3
  obtain rfl := hs9.symm
  refine z_top (b := plV n N t x y) rfl ?_
  refine z_top (b := ↑(pl n (dgF n (t k)) v0)) (by unfold plV; rw [if_pos (by omega), show x.toNat = k by omega, show y.toNat = v0 by omega]) ?_
  refine lv_istore (lv' := [(4, .int (zI (↑(pl n (dgF n (t k)) v0)))), (0, .ref (ad 42)), (1, .int (zI (x))), (2, .int (zI (y))), (3, .int (zI (z)))]) hx hb dX0_afterMove_6 hl (by decide) rfl (fun ls hl => ?_)
  refine lv_iload hx hb dX0_afterMove_8 (lv_at hl 0 rfl) ?_
  refine z_iconst hx hb dX0_afterMove_10 ?_
  refine z_icmp_eq (tgt := 26) hx hb (by omega) (by omega) (by omega) (by omega) dX0_afterMove_11 (by decide) (fun c_4 => ?_) (fun c_4 => ?_)
  · exact False.elim (by omega)
  · have h9 : True := trivial
    refine lv_iload_n hx hb dX0_afterMove_14 rfl (lv_at hl 4 rfl) ?_
    refine z_if_lt (tgt := 26) hx hb (by omega) (by omega) dX0_afterMove_15 (by decide) (fun c_5 => ?_) (fun c_5 => ?_)
    · exact False.elim (by omega)
    · have h9 : True := trivial
      refine lv_iload_n hx hb dX0_afterMove_18 rfl (lv_at hl 4 rfl) ?_
      refine lv_aload_n hx hb dX0_afterMove_19 rfl (lv_at hl 1 rfl) ?_
      have g_6 : -2147483648 ≤ S 2 0 ∧ S 2 0 < 2147483648 := hR 2 0 (by decide)
      refine va_get (D := D) (ci := 0) (v := .int (zI (S 2 0))) (C := RX0) (T := TX0) (N := 5) hx hb hT inX0 hown hK hP 2 rfl rfl 0 (by decide) (hT _ q_45) (fun _ h9 => h9) rfl dX0_afterMove_20 ?_
      refine z_icmp_lt (tgt := 28) hx hb (by omega) (by omega) (by omega) (by omega) dX0_afterMove_23 (by decide) (fun c_7 => ?_) (fun c_7 => ?_)
      · have h9 : True := trivial
        refine lv_aload_n hx hb dX0_afterMove_28 rfl (lv_at hl 1 rfl) ?_
        refine lv_aload_n hx hb dX0_afterMove_29 rfl (lv_at hl 1 rfl) ?_
        refine va_get (D := D) (ci := 0) (v := .ref (ad 4)) (C := RX0) (T := TX0) (N := 5) hx hb hT inX0 hown hK hP 2 rfl rfl 2 (by decide) (hT _ q_55) (fun _ h9 => h9) rfl dX0_afterMove_30 ?_
        refine lv_iload_n hx hb dX0_afterMove_33 rfl (lv_at hl 2 rfl) ?_
        have g_8 : -2147483648 ≤ S 4 (x).toNat ∧ S 4 (x).toNat < 2147483648 := hR 4 ((x).toNat) (by decide)
        refine z_ald (f := S 4) hx hb hK hP 9 0 rfl rfl (by omega) (by omega) (by decide) (j := (x).toNat) rfl dX0_afterMove_34 ?_
        refine z_top (b := S 4 k) (by rw [show x.toNat = k by omega]) ?_
        refine lv_iload hx hb dX0_afterMove_35 (lv_at hl 0 rfl) ?_
        refine s_callSi (As := [.int (zI (S 4 k)), .int (zI (↑(pl n (dgF n (t k)) v0)))]) (rest := [.ref (ad 42)]) ⟨hx, hb, hml, hown, hts⟩ (k_X0_takeOut l (pl n (dgF n (t k)) v0) (S 4 k) (↑(pl n (dgF n (t k)) v0)) (by omega) (by omega) (f7 n (dgF n (t k))) (hd7) (by rw [b1, cdF_f7 _ 7 hn7, a3])) (cwS 2 hts (gS hsub q_437 q_438 q_3 q_439) rfl rfl rfl hdX0_takeOut ⟨Nat.le_of_ble_eq_true rfl, Nat.le_of_ble_eq_true rfl⟩) rfl hl.1 rfl (Nat.le_of_ble_eq_true rfl) dX0_afterMove_37 ⟨Nat.le_of_ble_eq_true rfl, Nat.le_of_ble_eq_true rfl⟩ (fun r_9 hq_11 => ?_)
        rw [hq_11]
        refine lv_iload_n hx hb dX0_afterMove_40 rfl (lv_at hl 3 rfl) ?_
        refine lv_iload_n hx hb dX0_afterMove_41 rfl (lv_at hl 4 rfl) ?_
        refine s_callSi (As := [.int (zI (cdF (tkF (f7 n (dgF n (t k))) (pl n (dgF n (t k)) v0)) 7)), .int (zI (y)), .int (zI (z))]) (rest := [.ref (ad 42)]) ⟨hx, hb, hml, hown, hts⟩ (k_X0_putIn l (q0) (cdF (tkF (f7 n (dgF n (t k))) (pl n (dgF n (t k)) v0)) 7) y z (by omega) (by omega) (by omega) (tkF (f7 n (dgF n (t k))) (pl n (dgF n (t k)) v0)) (tk_d7 hd7 _) (tk6 hpl.1 hn7) (rfl)) (cwS 3 hts (gS hsub q_443 q_444 q_3 q_445) rfl rfl rfl hdX0_putIn ⟨Nat.le_of_ble_eq_true rfl, Nat.le_of_ble_eq_true rfl⟩) rfl hl.1 rfl (Nat.le_of_ble_eq_true rfl) dX0_afterMove_42 ⟨Nat.le_of_ble_eq_true rfl, Nat.le_of_ble_eq_true rfl⟩ (fun r_12 hq_14 => ?_)
        rw [hq_14]
        have hcr := cdF_r (f := ptF (tkF (f7 n (dgF n (t k))) (pl n (dgF n (t k)) v0)) y q0) (n := 7) (pt_d7 (tk_d7 hd7 _) (by omega) _)
        have h77 : (8 : Int) ^ 7 = 2097152 := by decide
        refine g_callVi (As := [.int (zI (cdF (ptF (tkF (f7 n (dgF n (t k))) (pl n (dgF n (t k)) v0)) y (q0)) 7))]) (rest := []) ⟨hx, hb, hml, hown, hts⟩ (k_X0_find l D cI cZ ad az av hinj S hR (N) (hN) (hN4) (hsq) (cdF (ptF (tkF (f7 n (dgF n (t k))) (pl n (dgF n (t k)) v0)) y (q0)) 7) (by omega) (by omega)) (cwV 1 hts (gV hsub q_446 q_448 q_sX0_find q_3 q_449) rfl rfl rfl hdX0_find ⟨Nat.le_of_ble_eq_true rfl, Nat.le_of_ble_eq_true rfl⟩) (cEb D cI cZ ad az av) (cEk D cI cZ ad az av) hE (va_recv (ci := 0) (q0 := 2) hK hP rfl rfl) hP hS rfl hl.1 rfl (Nat.le_of_ble_eq_true rfl) dX0_afterMove_45 ⟨Nat.le_of_ble_eq_true rfl, Nat.le_of_ble_eq_true rfl⟩ (fun r_15 S_16 H locs hq_17 hP hR hS _ => ?_)
        obtain ⟨hs9, rfl⟩ := hq_17
        obtain rfl := hs9.symm
        refine z_top (b := ixF (S 4) (cdF (ptF (tkF (f7 n (dgF n (t k))) (pl n (dgF n (t k)) v0)) y (q0)) 7) N) rfl ?_
        exact g_iret (S1 := S) (v := zI (ixF (S 4) (cdF (ptF (tkF (f7 n (dgF n (t k))) (pl n (dgF n (t k)) v0)) y (q0)) 7) N)) hx hb hr hlocks hP hR hS (⟨rfl, by rw [hyv, mv_code hn7 a2 hv0 hq0, ix_mul (fun k hk => (htb k hk).1)]; rfl⟩) dX0_afterMove_48
      · exact False.elim (by omega)
set_option maxHeartbeats 4000000 in
set_option maxRecDepth 100000 in
theorem k_X0_afterTurn (l : Launch) (D : va_G) (cI cZ : ClassId) (ad : Nat → Nat) (az av : Nat) (hinj : cInj ad) (S : St) (hR : RS S) (n N : Nat) (t : Nat → Int) (hT9 : cTab n N t S) (k : Nat) (x : Int) (hxk : x = ↑k) (hkN : k < N) (hnz : n ≠ 0) : Met l yX0_afterTurn (Cond.code yX0_afterTurn cX0_afterTurn 4 (some .int) :: lwT) ({ frames := 3, cells := 0, slots := 0, locals := 63 }) (gPc D (cW cI cZ ad) (cE D cI cZ ad az av) S [.ref (ad 42), .int (zI (x))]) (va_Qi (fun (r : Int32) (S' : St) => S' = S ∧ r = zI (tuF n N t k)) (gB D (cW cI cZ ad)) (cA ad)) 0 0 (cA ad) := by
  refine Met.ofW (cc := cX0_afterTurn) (maxL := 4) (ret := (some .int)) (by decide) rfl ?_
  intro p e s m args below meth c s₁ B hml hv
  obtain ⟨rfl, hP, hE⟩ := hv
  have hx := B.exec
  have hb := B.bytes
  have hr := B.returns
  have hts := atoms_spec (ws := Cond.code yX0_afterTurn cX0_afterTurn 4 (some .int) :: lwT) B.pre
  have hT := fun w (h : w ∈ lwT) => hts w (List.mem_cons_of_mem _ h)
  have hsub : ∀ w ∈ lwT, w ∈ (Cond.code yX0_afterTurn cX0_afterTurn 4 (some .int) :: lwT) := fun w h => List.mem_cons_of_mem _ h
  have hown : s.vm.findClass RX0 = some m.cls := findClass_of_methodNamed B.named
  have hlocks := B.notSynchronized
  have hK : va_K D vwCl [(cI, .int), (cZ, .boolean)] s := hE.1
  have hS : va_S (cA ad) s.heap s.heap [] := va_S.rf
  have hT8 := hT9
  obtain ⟨⟨hn, hN, hn7, hN4⟩, hn0, hO9, hso, htb⟩ := hT9
  have hO := hO9 (by omega)
  obtain ⟨a1, a2, a3⟩ := hO.2.1 k hkN
  have h8 := prm8 hn7 a2
  have hsq := ct_sorted (fun k hk => (htb k hk).1) hso
  have h77 : (8 : Int) ^ 7 = 2097152 := by decide
  have hl := lv_entry ([.ref (ad 42), .int (zI (x))]) (n := 4) (Nat.le_of_ble_eq_true rfl)
  rw [lg_entry_eq]
  generalize (lg_sl ([.ref (ad 42), .int (zI (x))]) ++ List.replicate (4 - (lg_sl ([.ref (ad 42), .int (zI (x))])).length) Slot.unset).toArray = ls at hl ⊢
  have hl : lv_has ls 4 [(0, .ref (ad 42)), (1, .int (zI (x)))] := hl
  refine z_iconst hx hb dX0_afterTurn_0 ?_
  refine lv_istore_n (lv' := [(2, .int (zI (0))), (0, .ref (ad 42)), (1, .int (zI (x)))]) hx hb dX0_afterTurn_1 rfl hl (by decide) rfl (fun ls hl => ?_)
  refine z_iconst hx hb dX0_afterTurn_2 ?_
  refine lv_istore_n (lv' := [(3, .int (zI (0))), (2, .int (zI (0))), (0, .ref (ad 42)), (1, .int (zI (x)))]) hx hb dX0_afterTurn_3 rfl hl (by decide) rfl (fun ls hl => ?_)
  have cut_4 : ∀ (k9 : Nat) (i : Nat) (y : Int) (H : Heap) (locs : List Loc) (ls : Array Slot), (i ≤ n) → (y = cdF (f7 i (fun p => dgF n (t k) (n - 1 - p))) 7) → (n - i) < k9 → va_P D vwCl (cW cI cZ ad S) H → RS S → va_S (cA ad) s.heap H locs → lv_has ls 4 [(0, .ref (ad 42)), (1, .int (zI (x))), (2, .int (zI (y))), (3, .int (zI (↑i)))] → W p l e (headSpec (Cond.code yX0_afterTurn cX0_afterTurn 4 (some .int) :: lwT) ({ frames := 3, cells := 0, slots := 0, locals := 63 })).room s m ([.ref (ad 42), .int (zI (x))] : List Value).toArray below meth c H locs 0 0 (MQ below (va_Qi (fun (r : Int32) (S' : St) => S' = S ∧ r = zI (tuF n N t k)) (gB D (cW cI cZ ad)) (cA ad)) ([.ref (ad 42), .int (zI (x))] : List Value).toArray s 0 0 (cA ad)) (F0 m 4 ls []) := by
    intro k9
    induction k9 with
    | zero =>
      intro i y H locs ls hi hy hk9 hP hR hS hl
      exact absurd hk9 (Nat.not_lt_zero _)
    | succ k9 ih_4 =>
      intro i y H locs ls hi hy hk9 hP hR hS hl
      have hdi : d7 (f7 i (fun p => dgF n (t k) (n - 1 - p))) := f7_d (fun p hp => h8 (n - 1 - p) (by omega))
      have hcr := cdF_r (f := f7 i (fun p => dgF n (t k) (n - 1 - p))) (n := 7) hdi
      refine lv_iload_n hx hb dX0_afterTurn_4 rfl (lv_at hl 3 rfl) ?_
      refine lv_aload_n hx hb dX0_afterTurn_5 rfl (lv_at hl 0 rfl) ?_
      have g_1 : -2147483648 ≤ S 2 0 ∧ S 2 0 < 2147483648 := hR 2 0 (by decide)
      refine va_get (D := D) (ci := 0) (v := .int (zI (S 2 0))) (C := RX0) (T := TX0) (N := 5) hx hb hT inX0 hown hK hP 2 rfl rfl 0 (by decide) (hT _ q_45) (fun _ h9 => h9) rfl dX0_afterTurn_6 ?_
      refine z_icmp_ge (tgt := 39) hx hb (by omega) (by omega) (by omega) (by omega) dX0_afterTurn_9 (by decide) (fun c_2 => ?_) (fun c_2 => ?_)
      · have h9 : True := trivial
        refine lv_aload_n hx hb dX0_afterTurn_39 rfl (lv_at hl 0 rfl) ?_
        refine lv_iload_n hx hb dX0_afterTurn_40 rfl (lv_at hl 2 rfl) ?_
        refine g_callVi (As := [.int (zI (y))]) (rest := []) ⟨hx, hb, hml, hown, hts⟩ (k_X0_find l D cI cZ ad az av hinj S hR (N) (hN) (hN4) (hsq) y (by omega) (by omega)) (cwV 1 hts (gV hsub q_446 q_448 q_sX0_find q_3 q_449) rfl rfl rfl hdX0_find ⟨Nat.le_of_ble_eq_true rfl, Nat.le_of_ble_eq_true rfl⟩) (cEb D cI cZ ad az av) (cEk D cI cZ ad az av) hE (va_recv (ci := 0) (q0 := 2) hK hP rfl rfl) hP hS rfl hl.1 rfl (Nat.le_of_ble_eq_true rfl) dX0_afterTurn_41 ⟨Nat.le_of_ble_eq_true rfl, Nat.le_of_ble_eq_true rfl⟩ (fun r_3 S_4 H locs hq_5 hP hR hS _ => ?_)
        obtain ⟨hs9, rfl⟩ := hq_5
        obtain rfl := hs9.symm
        refine z_top (b := ixF (S 4) y N) rfl ?_
        exact g_iret (S1 := S) (v := zI (ixF (S 4) y N)) hx hb hr hlocks hP hR hS (⟨rfl, by rw [hy, show i = n by omega, cdF_f7 _ 7 hn7, ix_mul (fun k hk => (htb k hk).1)]; rfl⟩) dX0_afterTurn_44
      · have h9 : True := trivial
        refine lv_iload_n hx hb dX0_afterTurn_12 rfl (lv_at hl 2 rfl) ?_
        refine lv_aload_n hx hb dX0_afterTurn_13 rfl (lv_at hl 0 rfl) ?_
        refine lv_iload_n hx hb dX0_afterTurn_14 rfl (lv_at hl 1 rfl) ?_
        refine lv_aload_n hx hb dX0_afterTurn_15 rfl (lv_at hl 0 rfl) ?_
        refine va_get (D := D) (ci := 0) (v := .int (zI (S 2 0))) (C := RX0) (T := TX0) (N := 5) hx hb hT inX0 hown hK hP 2 rfl rfl 0 (by decide) (hT _ q_45) (fun _ h9 => h9) rfl dX0_afterTurn_16 ?_
        refine z_iconst hx hb dX0_afterTurn_19 ?_
        refine z_isub hx hb dX0_afterTurn_20 ?_
        refine lv_iload_n hx hb dX0_afterTurn_21 rfl (lv_at hl 3 rfl) ?_
        refine z_isub hx hb dX0_afterTurn_22 ?_
        refine g_callVi (As := [.int (zI (x)), .int (zI (((S 2 0) - 1) - ↑i))]) (rest := [.int (zI (y))]) ⟨hx, hb, hml, hown, hts⟩ (k_X0_leafAt l D cI cZ ad az av hinj S hR n N t hT8 x (((S 2 0) - 1) - ↑i) (by omega) (by omega) (by omega) (by omega)) (cwV 2 hts (gV hsub q_470 q_371 q_372 q_3 q_373) rfl rfl rfl hdX0_leafAt ⟨Nat.le_of_ble_eq_true rfl, Nat.le_of_ble_eq_true rfl⟩) (cEb D cI cZ ad az av) (cEk D cI cZ ad az av) hE (va_recv (ci := 0) (q0 := 2) hK hP rfl rfl) hP hS rfl hl.1 rfl (Nat.le_of_ble_eq_true rfl) dX0_afterTurn_23 ⟨Nat.le_of_ble_eq_true rfl, Nat.le_of_ble_eq_true rfl⟩ (fun r_6 S_7 H locs hq_8 hP hR hS _ => ?_)
        obtain ⟨hs9, rfl⟩ := hq_8
        obtain rfl := hs9.symm
        refine z_top (b := laF n N t x (((S 2 0) - 1) - ↑i)) rfl ?_
        have h9d := h8 (n - 1 - i) (by omega)
        have hpw := pw2 (3 * (6 - i)) (by omega)
        have hpw3 : (2 : Int) ^ (3 * (6 - i) + 3) = 2 ^ (3 * (6 - i)) * 8 := by rw [Int.pow_add]; rfl
        have hb0 : 0 ≤ dgF n (t k) (n - 1 - i) * 2 ^ (3 * (6 - i)) := Int.mul_nonneg h9d.1 (by omega)
        have hb1 : dgF n (t k) (n - 1 - i) * 2 ^ (3 * (6 - i)) < 2 ^ (3 * (6 - i) + 3) := by rw [hpw3, Int.mul_comm]; exact Int.mul_lt_mul_of_pos_left h9d.2 (by omega)
        have hw21 := pw2 (3 * (6 - i) + 3) (by omega)
        refine z_top (b := dgF n (t k) (n - 1 - i)) (by unfold laF; rw [if_pos (by omega), show x.toNat = k by omega, show (S 2 0 - 1 - ↑i).toNat = n - 1 - i by omega]) ?_
        refine lv_iload_n hx hb dX0_afterTurn_26 rfl (lv_at hl 3 rfl) ?_
        refine s_callSi (As := [.int (zI (↑i))]) (rest := [.int (zI (dgF n (t k) (n - 1 - i))), .int (zI (y))]) ⟨hx, hb, hml, hown, hts⟩ (k_X0_shiftOf l (i) ↑i (by omega) (by omega)) (cwS 1 hts (gS hsub q_344 q_345 q_3 q_346) rfl rfl rfl hdX0_shiftOf ⟨Nat.le_of_ble_eq_true rfl, Nat.le_of_ble_eq_true rfl⟩) rfl hl.1 rfl (Nat.le_of_ble_eq_true rfl) dX0_afterTurn_27 ⟨Nat.le_of_ble_eq_true rfl, Nat.le_of_ble_eq_true rfl⟩ (fun r_9 hq_11 => ?_)
        rw [hq_11]
        refine z_ishl hx hb (3 * (6 - i)) (by omega) (by omega) (by omega) (by omega) dX0_afterTurn_30 ?_
        refine z_iorS hx hb (3 * (6 - i) + 3) (by omega) (by rw [hy]; exact rv_mod (by omega)) (by omega) (by omega) dX0_afterTurn_31 ?_
        refine lv_istore_n (lv' := [(2, .int (zI (y + ((dgF n (t k) (n - 1 - i)) * 2 ^ (3 * (6 - i)))))), (0, .ref (ad 42)), (1, .int (zI (x))), (3, .int (zI (↑i)))]) hx hb dX0_afterTurn_32 rfl hl (by decide) rfl (fun ls hl => ?_)
        refine z_iinc (lv' := [(3, .int (zI (↑i + 1))), (2, .int (zI (y + ((dgF n (t k) (n - 1 - i)) * 2 ^ (3 * (6 - i)))))), (0, .ref (ad 42)), (1, .int (zI (x)))]) hx hb dX0_afterTurn_33 hl (k := 3) rfl (by decide) rfl (fun ls hl => ?_)
        refine lv_goto (tgt := 4) hx hb dX0_afterTurn_36 (by decide) ?_
        exact ih_4 (i + 1) (y + ((dgF n (t k) (n - 1 - i)) * 2 ^ (3 * (6 - i)))) _ _ _ (by omega) (by rw [hy]; exact rv_step (g := (fun p => dgF n (t k) (n - 1 - p))) (by omega)) (by omega) hP hR hS (lv_sub hl [2, 3, 1, 0] rfl)
  exact cut_4 _ 0 0 _ _ _ (by omega) (by rw [cdF_f7 _ 7 (by omega)]; simp [cdF]) (Nat.lt_succ_self _) hP hR hS (lv_sub hl [2, 3, 1, 0] rfl)
