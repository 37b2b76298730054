set_option maxHeartbeats 4000000 in
set_option maxRecDepth 100000 in
theorem k_X7_shift_11 (l : Launch) (D : va_G) (cI : ClassId) (ad : Nat → Nat) (hinj : mInj ad) (S : St) (hR : RS S) (n : Nat) (hn7 : n ≤ 7) (hp : prm n (S 11)) (v q : Nat) (x y : Int) (hxv : x = ↑v) (hyq : y = ↑q) (hv : v < n) (hq : q < n) : Met l yX7_shift (Cond.code yX7_shift cX7_shift 4 none :: lwT) ({ frames := 1, cells := 0, slots := 0, locals := 22 }) (gPc D (mW cI ad) (mE D cI) S [.ref (ad 11), .int (zI (x)), .int (zI (y))]) (va_Qv (fun (S' : St) => S' = sA S 11 (shF (S 11) (pl n (S 11) v) q)) (gB D (mW cI ad)) (mA ad)) 0 0 (mA ad) := by
  refine Met.ofW (cc := cX7_shift) (maxL := 4) (ret := none) (by decide) rfl ?_
  intro p e s m args below meth c s₁ B hml hv
  obtain ⟨rfl, hP, hE⟩ := hv
  have hx := B.exec
  have hb := B.bytes
  have hr := B.returns
  have hts := atoms_spec (ws := Cond.code yX7_shift cX7_shift 4 none :: lwT) B.pre
  have hT := fun w (h : w ∈ lwT) => hts w (List.mem_cons_of_mem _ h)
  have hsub : ∀ w ∈ lwT, w ∈ (Cond.code yX7_shift cX7_shift 4 none :: lwT) := fun w h => List.mem_cons_of_mem _ h
  have hown : s.vm.findClass RX7 = some m.cls := findClass_of_methodNamed B.named
  have hlocks := B.notSynchronized
  have hK : va_K D vwCl [(cI, .int)] s := hE
  have hS : va_S (mA ad) s.heap s.heap [] := va_S.rf
  have h7 := pl_at hp hv
  obtain ⟨P, hP0⟩ : ∃ P, P = pl n (S 11) v := ⟨_, rfl⟩
  rw [← hP0] at h7
  have hl := lv_entry ([.ref (ad 11), .int (zI (x)), .int (zI (y))]) (n := 4) (Nat.le_of_ble_eq_true rfl)
  rw [lg_entry_eq]
  generalize (lg_sl ([.ref (ad 11), .int (zI (x)), .int (zI (y))]) ++ List.replicate (4 - (lg_sl ([.ref (ad 11), .int (zI (x)), .int (zI (y))])).length) Slot.unset).toArray = ls at hl ⊢
  have hl : lv_has ls 4 [(0, .ref (ad 11)), (1, .int (zI (x))), (2, .int (zI (y)))] := hl
  refine lv_aload_n hx hb dX7_shift_0 rfl (lv_at hl 0 rfl) ?_
  refine lv_iload_n hx hb dX7_shift_1 rfl (lv_at hl 1 rfl) ?_
  refine g_callSi (As := [.ref (ad 11), .int (zI (x))]) (rest := []) ⟨hx, hb, hml, hown, hts⟩ (k_X7_placeOf_11 l D cI ad hinj S hR n hn7 v x (by omega) hv hp) (cwS 2 hts (gS hsub q_843 q_844 q_8 q_845) rfl rfl rfl hdX7_placeOf ⟨Nat.le_of_ble_eq_true rfl, Nat.le_of_ble_eq_true rfl⟩) (mEb D cI) (mEk D cI (mA ad)) hE hP hS rfl hl.1 rfl (Nat.le_of_ble_eq_true rfl) dX7_shift_2 ⟨Nat.le_of_ble_eq_true rfl, Nat.le_of_ble_eq_true rfl⟩ (fun r_1 S_2 H locs hq_3 hP hR hS _ => ?_)
  obtain ⟨hs9, rfl⟩ := hq_3
  obtain rfl := hs9.symm
  have g_4 := pl_lt (v := v) (hp) (by omega)
  refine z_top (b := ↑(pl n (S 11) v)) rfl ?_
  refine lv_istore_n (lv' := [(3, .int (zI (↑(pl n (S 11) v)))), (0, .ref (ad 11)), (1, .int (zI (x))), (2, .int (zI (y)))]) hx hb dX7_shift_5 rfl hl (by decide) rfl (fun ls hl => ?_)
  have cut_6 : ∀ (k9 : Nat) (a : Nat) (f : Nat → Int) (H : Heap) (locs : List Loc) (ls : Array Slot), (P ≤ a ∧ a < n ∧ (a ≤ q ∨ a = P)) → (∀ j, f j = if P ≤ j ∧ j < a then S 11 (j + 1) else S 11 j) → (q - a) < k9 → va_P D vwCl (mW cI ad (sA S 11 f)) H → RS (sA S 11 f) → va_S (mA ad) s.heap H locs → lv_has ls 4 [(0, .ref (ad 11)), (1, .int (zI (x))), (2, .int (zI (y))), (3, .int (zI (↑a)))] → W p l e (headSpec (Cond.code yX7_shift cX7_shift 4 none :: lwT) ({ frames := 1, cells := 0, slots := 0, locals := 22 })).room s m ([.ref (ad 11), .int (zI (x)), .int (zI (y))] : List Value).toArray below meth c H locs 0 0 (MQ below (va_Qv (fun (S' : St) => S' = sA S 11 (shF (S 11) (pl n (S 11) v) q)) (gB D (mW cI ad)) (mA ad)) ([.ref (ad 11), .int (zI (x)), .int (zI (y))] : List Value).toArray s 0 0 (mA ad)) (F0 m 6 ls []) := by
    intro k9
    induction k9 with
    | zero =>
      intro a f H locs ls ha hf hk9 hP hR hS hl
      exact absurd hk9 (Nat.not_lt_zero _)
    | succ k9 ih_6 =>
      intro a f H locs ls ha hf hk9 hP hR hS hl
      refine lv_iload_n hx hb dX7_shift_6 rfl (lv_at hl 3 rfl) ?_
      refine lv_iload_n hx hb dX7_shift_7 rfl (lv_at hl 2 rfl) ?_
      refine z_icmp_ge (tgt := 25) hx hb (by omega) (by omega) (by omega) (by omega) dX7_shift_8 (by decide) (fun c_5 => ?_) (fun c_5 => ?_)
      · have h9 : True := trivial
        have cut_25 : ∀ (k9 : Nat) (b : Nat) (z : Int) (g : Nat → Int) (H : Heap) (locs : List Loc) (ls : Array Slot), (z = ↑b) → (q ≤ b ∧ b < n ∧ (b ≤ P ∨ b = q)) → (∀ j, g j = if P ≤ j ∧ j < q then S 11 (j + 1) else if b < j ∧ j ≤ P then S 11 (j - 1) else S 11 j) → b < k9 → va_P D vwCl (mW cI ad (sA S 11 g)) H → RS (sA S 11 g) → va_S (mA ad) s.heap H locs → lv_has ls 4 [(0, .ref (ad 11)), (1, .int (zI (x))), (2, .int (zI (y))), (3, .int (zI (z)))] → W p l e (headSpec (Cond.code yX7_shift cX7_shift 4 none :: lwT) ({ frames := 1, cells := 0, slots := 0, locals := 22 })).room s m ([.ref (ad 11), .int (zI (x)), .int (zI (y))] : List Value).toArray below meth c H locs 0 0 (MQ below (va_Qv (fun (S' : St) => S' = sA S 11 (shF (S 11) (pl n (S 11) v) q)) (gB D (mW cI ad)) (mA ad)) ([.ref (ad 11), .int (zI (x)), .int (zI (y))] : List Value).toArray s 0 0 (mA ad)) (F0 m 25 ls []) := by
          intro k9
          induction k9 with
          | zero =>
            intro b z g H locs ls hzb hb0 hg hk9 hP hR hS hl
            exact absurd hk9 (Nat.not_lt_zero _)
          | succ k9 ih_25 =>
            intro b z g H locs ls hzb hb0 hg hk9 hP hR hS hl
            refine lv_iload_n hx hb dX7_shift_25 rfl (lv_at hl 3 rfl) ?_
            refine lv_iload_n hx hb dX7_shift_26 rfl (lv_at hl 2 rfl) ?_
            refine z_icmp_le (tgt := 44) hx hb (by omega) (by omega) (by omega) (by omega) dX7_shift_27 (by decide) (fun c_6 => ?_) (fun c_6 => ?_)
            · have h9 : True := trivial
              refine lv_aload_n hx hb dX7_shift_44 rfl (lv_at hl 0 rfl) ?_
              refine lv_iload_n hx hb dX7_shift_45 rfl (lv_at hl 3 rfl) ?_
              refine lv_iload_n hx hb dX7_shift_46 rfl (lv_at hl 1 rfl) ?_
              refine z_ast (f := (sA S 11 g) 11) (i := z) (v := x) hx hb hK hP (mD hinj cI _) hS 7 0 rfl rfl (by omega) (by omega) (by decide) dX7_shift_47 (fun H locs hP hS => ?_)
              have hP : va_P D vwCl (mW cI ad (sA S 11 (uZ g (z).toNat x))) H := hP
              have hR : RS (sA S 11 (uZ g (z).toNat x)) := hR.put' (by omega) (by omega)
              exact g_vret (S1 := sA S 11 (uZ g (z).toNat x)) hx hb hr hlocks hP hR hS (by
            refine congrArg (sA S 11) (funext fun j => ?_)
            rw [show z.toNat = q by omega, ← hP0]
            unfold uZ shF
            by_cases e9 : j = q
            · rw [if_pos e9, if_pos e9, h7.2, hxv]
            · rw [if_neg e9, if_neg e9, hg, show b = q by omega]) dX7_shift_48
            · have h9 : True := trivial
              refine lv_aload_n hx hb dX7_shift_30 rfl (lv_at hl 0 rfl) ?_
              refine lv_iload_n hx hb dX7_shift_31 rfl (lv_at hl 3 rfl) ?_
              refine lv_aload_n hx hb dX7_shift_32 rfl (lv_at hl 0 rfl) ?_
              refine lv_iload_n hx hb dX7_shift_33 rfl (lv_at hl 3 rfl) ?_
              refine z_iconst hx hb dX7_shift_34 ?_
              refine z_isub hx hb dX7_shift_35 ?_
              have g_7 : -2147483648 ≤ g (z - 1).toNat ∧ g (z - 1).toNat < 2147483648 := hR 11 ((z - 1).toNat) (by decide)
              refine z_ald (f := g) hx hb hK hP 7 0 rfl rfl (by omega) (by omega) (by decide) (j := (z - 1).toNat) rfl dX7_shift_36 ?_
              refine z_ast (f := (sA S 11 g) 11) (i := z) (v := g (z - 1).toNat) hx hb hK hP (mD hinj cI _) hS 7 0 rfl rfl (by omega) (by omega) (by decide) dX7_shift_37 (fun H locs hP hS => ?_)
              have hP : va_P D vwCl (mW cI ad (sA S 11 (uZ g (z).toNat (g (z - 1).toNat)))) H := hP
              have hR : RS (sA S 11 (uZ g (z).toNat (g (z - 1).toNat))) := hR.put' (by omega) (by omega)
              refine z_iinc (lv' := [(3, .int (zI (z + (-1)))), (0, .ref (ad 11)), (1, .int (zI (x))), (2, .int (zI (y)))]) hx hb dX7_shift_38 hl (k := 3) rfl (by decide) rfl (fun ls hl => ?_)
              refine lv_goto (tgt := 25) hx hb dX7_shift_41 (by decide) ?_
              exact ih_25 (b - 1) (z + (-1)) (uZ g (z).toNat (g (z - 1).toNat)) _ _ _ (by omega) (by omega) (fun j => by
            rw [show z.toNat = b by omega]
            unfold uZ
            by_cases e9 : j = b
            · rw [if_pos e9, hg, if_neg (by omega), if_neg (by omega), if_neg (by omega), if_pos (by omega), e9, show (z - 1).toNat = b - 1 by omega]
            · rw [if_neg e9, hg]
              by_cases g9 : P ≤ j ∧ j < q
              · rw [if_pos g9, if_pos g9]
              · rw [if_neg g9, if_neg g9]
                by_cases g8 : b < j ∧ j ≤ P
                · rw [if_pos g8, if_pos (by omega)]
                · rw [if_neg g8, if_neg (by omega)]) (by omega) hP hR hS (lv_sub hl [1, 2, 3, 0] rfl)
        exact cut_25 _ a ↑a f _ _ _ (by omega) (by omega) (fun j => by
          rw [hf]
          by_cases g9 : P ≤ j ∧ j < q
          · rw [if_pos g9, if_pos (by omega)]
          · rw [if_neg g9, if_neg (by omega), if_neg (by omega)]) (Nat.lt_succ_self _) hP hR hS (lv_sub hl [0, 1, 2, 3] rfl)
      · have h9 : True := trivial
        refine lv_aload_n hx hb dX7_shift_11 rfl (lv_at hl 0 rfl) ?_
        refine lv_iload_n hx hb dX7_shift_12 rfl (lv_at hl 3 rfl) ?_
        refine lv_aload_n hx hb dX7_shift_13 rfl (lv_at hl 0 rfl) ?_
        refine lv_iload_n hx hb dX7_shift_14 rfl (lv_at hl 3 rfl) ?_
        refine z_iconst hx hb dX7_shift_15 ?_
        refine z_iadd hx hb dX7_shift_16 ?_
        have g_8 : -2147483648 ≤ f (a + 1) ∧ f (a + 1) < 2147483648 := hR 11 ((a + 1)) (by decide)
        refine z_ald (f := f) hx hb hK hP 7 0 rfl rfl (by omega) (by omega) (by decide) (j := (a + 1)) rfl dX7_shift_17 ?_
        refine z_ast (f := (sA S 11 f) 11) (i := ↑a) (v := f (a + 1)) hx hb hK hP (mD hinj cI _) hS 7 0 rfl rfl (by omega) (by omega) (by decide) dX7_shift_18 (fun H locs hP hS => ?_)
        have hP : va_P D vwCl (mW cI ad (sA S 11 (uZ f a (f (a + 1))))) H := hP
        have hR : RS (sA S 11 (uZ f a (f (a + 1)))) := hR.put' (by omega) (by omega)
        refine z_iinc (lv' := [(3, .int (zI (↑a + 1))), (0, .ref (ad 11)), (1, .int (zI (x))), (2, .int (zI (y)))]) hx hb dX7_shift_19 hl (k := 3) rfl (by decide) rfl (fun ls hl => ?_)
        refine lv_goto (tgt := 6) hx hb dX7_shift_22 (by decide) ?_
        exact ih_6 (a + 1) (uZ f a (f (a + 1))) _ _ _ (by omega) (fun j => by
          unfold uZ
          by_cases e9 : j = a
          · rw [if_pos e9, hf, if_neg (by omega), if_pos (by omega), e9]
          · rw [if_neg e9, hf]
            by_cases g9 : P ≤ j ∧ j < a
            · rw [if_pos g9, if_pos (by omega)]
            · rw [if_neg g9, if_neg (by omega)]) (by omega) hP hR hS (lv_sub hl [1, 2, 3, 0] rfl)
  have hSe_9 : S = sA S 11 (S 11) := by
    funext k8
    by_cases e80 : k8 = 11
    · subst e80; first | rfl | (funext j8; rfl)
    simp [sA, e80]
  rw [hSe_9] at hP hR
  exact cut_6 _ (pl n (S 11) v) (S 11) _ _ _ (by rw [← hP0]; omega) (fun j => by rw [← hP0, if_neg (by omega)]) (Nat.lt_succ_self _) hP hR hS (lv_sub hl [1, 2, 3, 0] rfl)
set_option maxHeartbeats 4000000 in
set_option maxRecDepth 100000 in
theorem k_X7_shift_6 (l : Launch) (D : va_G) (cI : ClassId) (ad : Nat → Nat) (hinj : mInj ad) (S : St) (hR : RS S) (n : Nat) (hn7 : n ≤ 7) (hp : prm n (S 6)) (v q : Nat) (x y : Int) (hxv : x = ↑v) (hyq : y = ↑q) (hv : v < n) (hq : q < n) : Met l yX7_shift (Cond.code yX7_shift cX7_shift 4 none :: lwT) ({ frames := 1, cells := 0, slots := 0, locals := 22 }) (gPc D (mW cI ad) (mE D cI) S [.ref (ad 6), .int (zI (x)), .int (zI (y))]) (va_Qv (fun (S' : St) => S' = sA S 6 (shF (S 6) (pl n (S 6) v) q)) (gB D (mW cI ad)) (mA ad)) 0 0 (mA ad) := by
  refine Met.ofW (cc := cX7_shift) (maxL := 4) (ret := none) (by decide) rfl ?_
  intro p e s m args below meth c s₁ B hml hv
  obtain ⟨rfl, hP, hE⟩ := hv
  have hx := B.exec
  have hb := B.bytes
  have hr := B.returns
  have hts := atoms_spec (ws := Cond.code yX7_shift cX7_shift 4 none :: lwT) B.pre
  have hT := fun w (h : w ∈ lwT) => hts w (List.mem_cons_of_mem _ h)
  have hsub : ∀ w ∈ lwT, w ∈ (Cond.code yX7_shift cX7_shift 4 none :: lwT) := fun w h => List.mem_cons_of_mem _ h
  have hown : s.vm.findClass RX7 = some m.cls := findClass_of_methodNamed B.named
  have hlocks := B.notSynchronized
  have hK : va_K D vwCl [(cI, .int)] s := hE
  have hS : va_S (mA ad) s.heap s.heap [] := va_S.rf
  have h7 := pl_at hp hv
  obtain ⟨P, hP0⟩ : ∃ P, P = pl n (S 6) v := ⟨_, rfl⟩
  rw [← hP0] at h7
  have hl := lv_entry ([.ref (ad 6), .int (zI (x)), .int (zI (y))]) (n := 4) (Nat.le_of_ble_eq_true rfl)
  rw [lg_entry_eq]
  generalize (lg_sl ([.ref (ad 6), .int (zI (x)), .int (zI (y))]) ++ List.replicate (4 - (lg_sl ([.ref (ad 6), .int (zI (x)), .int (zI (y))])).length) Slot.unset).toArray = ls at hl ⊢
  have hl : lv_has ls 4 [(0, .ref (ad 6)), (1, .int (zI (x))), (2, .int (zI (y)))] := hl
  refine lv_aload_n hx hb dX7_shift_0 rfl (lv_at hl 0 rfl) ?_
  refine lv_iload_n hx hb dX7_shift_1 rfl (lv_at hl 1 rfl) ?_
  refine g_callSi (As := [.ref (ad 6), .int (zI (x))]) (rest := []) ⟨hx, hb, hml, hown, hts⟩ (k_X7_placeOf_6 l D cI ad hinj S hR n hn7 v x (by omega) hv hp) (cwS 2 hts (gS hsub q_843 q_844 q_8 q_845) rfl rfl rfl hdX7_placeOf ⟨Nat.le_of_ble_eq_true rfl, Nat.le_of_ble_eq_true rfl⟩) (mEb D cI) (mEk D cI (mA ad)) hE hP hS rfl hl.1 rfl (Nat.le_of_ble_eq_true rfl) dX7_shift_2 ⟨Nat.le_of_ble_eq_true rfl, Nat.le_of_ble_eq_true rfl⟩ (fun r_1 S_2 H locs hq_3 hP hR hS _ => ?_)
  obtain ⟨hs9, rfl⟩ := hq_3
  obtain rfl := hs9.symm
  have g_4 := pl_lt (v := v) (hp) (by omega)
  refine z_top (b := ↑(pl n (S 6) v)) rfl ?_
  refine lv_istore_n (lv' := [(3, .int (zI (↑(pl n (S 6) v)))), (0, .ref (ad 6)), (1, .int (zI (x))), (2, .int (zI (y)))]) hx hb dX7_shift_5 rfl hl (by decide) rfl (fun ls hl => ?_)
  have cut_6 : ∀ (k9 : Nat) (a : Nat) (f : Nat → Int) (H : Heap) (locs : List Loc) (ls : Array Slot), (P ≤ a ∧ a < n ∧ (a ≤ q ∨ a = P)) → (∀ j, f j = if P ≤ j ∧ j < a then S 6 (j + 1) else S 6 j) → (q - a) < k9 → va_P D vwCl (mW cI ad (sA S 6 f)) H → RS (sA S 6 f) → va_S (mA ad) s.heap H locs → lv_has ls 4 [(0, .ref (ad 6)), (1, .int (zI (x))), (2, .int (zI (y))), (3, .int (zI (↑a)))] → W p l e (headSpec (Cond.code yX7_shift cX7_shift 4 none :: lwT) ({ frames := 1, cells := 0, slots := 0, locals := 22 })).room s m ([.ref (ad 6), .int (zI (x)), .int (zI (y))] : List Value).toArray below meth c H locs 0 0 (MQ below (va_Qv (fun (S' : St) => S' = sA S 6 (shF (S 6) (pl n (S 6) v) q)) (gB D (mW cI ad)) (mA ad)) ([.ref (ad 6), .int (zI (x)), .int (zI (y))] : List Value).toArray s 0 0 (mA ad)) (F0 m 6 ls []) := by
    intro k9
    induction k9 with
    | zero =>
      intro a f H locs ls ha hf hk9 hP hR hS hl
      exact absurd hk9 (Nat.not_lt_zero _)
    | succ k9 ih_6 =>
      intro a f H locs ls ha hf hk9 hP hR hS hl
      refine lv_iload_n hx hb dX7_shift_6 rfl (lv_at hl 3 rfl) ?_
      refine lv_iload_n hx hb dX7_shift_7 rfl (lv_at hl 2 rfl) ?_
      refine z_icmp_ge (tgt := 25) hx hb (by omega) (by omega) (by omega) (by omega) dX7_shift_8 (by decide) (fun c_5 => ?_) (fun c_5 => ?_)
      · have h9 : True := trivial
        have cut_25 : ∀ (k9 : Nat) (b : Nat) (z : Int) (g : Nat → Int) (H : Heap) (locs : List Loc) (ls : Array Slot), (z = ↑b) → (q ≤ b ∧ b < n ∧ (b ≤ P ∨ b = q)) → (∀ j, g j = if P ≤ j ∧ j < q then S 6 (j + 1) else if b < j ∧ j ≤ P then S 6 (j - 1) else S 6 j) → b < k9 → va_P D vwCl (mW cI ad (sA S 6 g)) H → RS (sA S 6 g) → va_S (mA ad) s.heap H locs → lv_has ls 4 [(0, .ref (ad 6)), (1, .int (zI (x))), (2, .int (zI (y))), (3, .int (zI (z)))] → W p l e (headSpec (Cond.code yX7_shift cX7_shift 4 none :: lwT) ({ frames := 1, cells := 0, slots := 0, locals := 22 })).room s m ([.ref (ad 6), .int (zI (x)), .int (zI (y))] : List Value).toArray below meth c H locs 0 0 (MQ below (va_Qv (fun (S' : St) => S' = sA S 6 (shF (S 6) (pl n (S 6) v) q)) (gB D (mW cI ad)) (mA ad)) ([.ref (ad 6), .int (zI (x)), .int (zI (y))] : List Value).toArray s 0 0 (mA ad)) (F0 m 25 ls []) := by
          intro k9
          induction k9 with
          | zero =>
            intro b z g H locs ls hzb hb0 hg hk9 hP hR hS hl
            exact absurd hk9 (Nat.not_lt_zero _)
          | succ k9 ih_25 =>
            intro b z g H locs ls hzb hb0 hg hk9 hP hR hS hl
            refine lv_iload_n hx hb dX7_shift_25 rfl (lv_at hl 3 rfl) ?_
            refine lv_iload_n hx hb dX7_shift_26 rfl (lv_at hl 2 rfl) ?_
            refine z_icmp_le (tgt := 44) hx hb (by omega) (by omega) (by omega) (by omega) dX7_shift_27 (by decide) (fun c_6 => ?_) (fun c_6 => ?_)
            · have h9 : True := trivial
              refine lv_aload_n hx hb dX7_shift_44 rfl (lv_at hl 0 rfl) ?_
              refine lv_iload_n hx hb dX7_shift_45 rfl (lv_at hl 3 rfl) ?_
              refine lv_iload_n hx hb dX7_shift_46 rfl (lv_at hl 1 rfl) ?_
              refine z_ast (f := (sA S 6 g) 6) (i := z) (v := x) hx hb hK hP (mD hinj cI _) hS 3 0 rfl rfl (by omega) (by omega) (by decide) dX7_shift_47 (fun H locs hP hS => ?_)
              have hP : va_P D vwCl (mW cI ad (sA S 6 (uZ g (z).toNat x))) H := hP
              have hR : RS (sA S 6 (uZ g (z).toNat x)) := hR.put' (by omega) (by omega)
              exact g_vret (S1 := sA S 6 (uZ g (z).toNat x)) hx hb hr hlocks hP hR hS (by
            refine congrArg (sA S 6) (funext fun j => ?_)
            rw [show z.toNat = q by omega, ← hP0]
            unfold uZ shF
            by_cases e9 : j = q
            · rw [if_pos e9, if_pos e9, h7.2, hxv]
            · rw [if_neg e9, if_neg e9, hg, show b = q by omega]) dX7_shift_48
            · have h9 : True := trivial
              refine lv_aload_n hx hb dX7_shift_30 rfl (lv_at hl 0 rfl) ?_
              refine lv_iload_n hx hb dX7_shift_31 rfl (lv_at hl 3 rfl) ?_
              refine lv_aload_n hx hb dX7_shift_32 rfl (lv_at hl 0 rfl) ?_
              refine lv_iload_n hx hb dX7_shift_33 rfl (lv_at hl 3 rfl) ?_
              refine z_iconst hx hb dX7_shift_34 ?_
              refine z_isub hx hb dX7_shift_35 ?_
              have g_7 : -2147483648 ≤ g (z - 1).toNat ∧ g (z - 1).toNat < 2147483648 := hR 6 ((z - 1).toNat) (by decide)
              refine z_ald (f := g) hx hb hK hP 3 0 rfl rfl (by omega) (by omega) (by decide) (j := (z - 1).toNat) rfl dX7_shift_36 ?_
              refine z_ast (f := (sA S 6 g) 6) (i := z) (v := g (z - 1).toNat) hx hb hK hP (mD hinj cI _) hS 3 0 rfl rfl (by omega) (by omega) (by decide) dX7_shift_37 (fun H locs hP hS => ?_)
              have hP : va_P D vwCl (mW cI ad (sA S 6 (uZ g (z).toNat (g (z - 1).toNat)))) H := hP
              have hR : RS (sA S 6 (uZ g (z).toNat (g (z - 1).toNat))) := hR.put' (by omega) (by omega)
              refine z_iinc (lv' := [(3, .int (zI (z + (-1)))), (0, .ref (ad 6)), (1, .int (zI (x))), (2, .int (zI (y)))]) hx hb dX7_shift_38 hl (k := 3) rfl (by decide) rfl (fun ls hl => ?_)
              refine lv_goto (tgt := 25) hx hb dX7_shift_41 (by decide) ?_
              exact ih_25 (b - 1) (z + (-1)) (uZ g (z).toNat (g (z - 1).toNat)) _ _ _ (by omega) (by omega) (fun j => by
            rw [show z.toNat = b by omega]
            unfold uZ
            by_cases e9 : j = b
            · rw [if_pos e9, hg, if_neg (by omega), if_neg (by omega), if_neg (by omega), if_pos (by omega), e9, show (z - 1).toNat = b - 1 by omega]
            · rw [if_neg e9, hg]
              by_cases g9 : P ≤ j ∧ j < q
              · rw [if_pos g9, if_pos g9]
              · rw [if_neg g9, if_neg g9]
                by_cases g8 : b < j ∧ j ≤ P
                · rw [if_pos g8, if_pos (by omega)]
                · rw [if_neg g8, if_neg (by omega)]) (by omega) hP hR hS (lv_sub hl [1, 2, 3, 0] rfl)
        exact cut_25 _ a ↑a f _ _ _ (by omega) (by omega) (fun j => by
          rw [hf]
          by_cases g9 : P ≤ j ∧ j < q
          · rw [if_pos g9, if_pos (by omega)]
          · rw [if_neg g9, if_neg (by omega), if_neg (by omega)]) (Nat.lt_succ_self _) hP hR hS (lv_sub hl [0, 1, 2, 3] rfl)
      · have h9 : True := trivial
        refine lv_aload_n hx hb dX7_shift_11 rfl (lv_at hl 0 rfl) ?_
        refine lv_iload_n hx hb dX7_shift_12 rfl (lv_at hl 3 rfl) ?_
        refine lv_aload_n hx hb dX7_shift_13 rfl (lv_at hl 0 rfl) ?_
        refine lv_iload_n hx hb dX7_shift_14 rfl (lv_at hl 3 rfl) ?_
        refine z_iconst hx hb dX7_shift_15 ?_
        refine z_iadd hx hb dX7_shift_16 ?_
        have g_8 : -2147483648 ≤ f (a + 1) ∧ f (a + 1) < 2147483648 := hR 6 ((a + 1)) (by decide)
        refine z_ald (f := f) hx hb hK hP 3 0 rfl rfl (by omega) (by omega) (by decide) (j := (a + 1)) rfl dX7_shift_17 ?_
        refine z_ast (f := (sA S 6 f) 6) (i := ↑a) (v := f (a + 1)) hx hb hK hP (mD hinj cI _) hS 3 0 rfl rfl (by omega) (by omega) (by decide) dX7_shift_18 (fun H locs hP hS => ?_)
        have hP : va_P D vwCl (mW cI ad (sA S 6 (uZ f a (f (a + 1))))) H := hP
        have hR : RS (sA S 6 (uZ f a (f (a + 1)))) := hR.put' (by omega) (by omega)
        refine z_iinc (lv' := [(3, .int (zI (↑a + 1))), (0, .ref (ad 6)), (1, .int (zI (x))), (2, .int (zI (y)))]) hx hb dX7_shift_19 hl (k := 3) rfl (by decide) rfl (fun ls hl => ?_)
        refine lv_goto (tgt := 6) hx hb dX7_shift_22 (by decide) ?_
        exact ih_6 (a + 1) (uZ f a (f (a + 1))) _ _ _ (by omega) (fun j => by
          unfold uZ
          by_cases e9 : j = a
          · rw [if_pos e9, hf, if_neg (by omega), if_pos (by omega), e9]
          · rw [if_neg e9, hf]
            by_cases g9 : P ≤ j ∧ j < a
            · rw [if_pos g9, if_pos (by omega)]
            · rw [if_neg g9, if_neg (by omega)]) (by omega) hP hR hS (lv_sub hl [1, 2, 3, 0] rfl)
  have hSe_9 : S = sA S 6 (S 6) := by
    funext k8
    by_cases e80 : k8 = 6
    · subst e80; first | rfl | (funext j8; rfl)
    simp [sA, e80]
  rw [hSe_9] at hP hR
  exact cut_6 _ (pl n (S 6) v) (S 6) _ _ _ (by rw [← hP0]; omega) (fun j => by rw [← hP0, if_neg (by omega)]) (Nat.lt_succ_self _) hP hR hS (lv_sub hl [1, 2, 3, 0] rfl)
set_option maxHeartbeats 4000000 in
set_option maxRecDepth 100000 in
theorem k_X7_shift_18 (l : Launch) (D : va_G) (cI : ClassId) (ad : Nat → Nat) (hinj : mInj ad) (S : St) (hR : RS S) (n : Nat) (hn7 : n ≤ 7) (hp : prm n (S 18)) (v q : Nat) (x y : Int) (hxv : x = ↑v) (hyq : y = ↑q) (hv : v < n) (hq : q < n) : Met l yX7_shift (Cond.code yX7_shift cX7_shift 4 none :: lwT) ({ frames := 1, cells := 0, slots := 0, locals := 22 }) (gPc D (mW cI ad) (mE D cI) S [.ref (ad 18), .int (zI (x)), .int (zI (y))]) (va_Qv (fun (S' : St) => S' = sA S 18 (shF (S 18) (pl n (S 18) v) q)) (gB D (mW cI ad)) (mA ad)) 0 0 (mA ad) := by
  refine Met.ofW (cc := cX7_shift) (maxL := 4) (ret := none) (by decide) rfl ?_
  intro p e s m args below meth c s₁ B hml hv
  obtain ⟨rfl, hP, hE⟩ := hv
  have hx := B.exec
  have hb := B.bytes
  have hr := B.returns
  have hts := atoms_spec (ws := Cond.code yX7_shift cX7_shift 4 none :: lwT) B.pre
  have hT := fun w (h : w ∈ lwT) => hts w (List.mem_cons_of_mem _ h)
  have hsub : ∀ w ∈ lwT, w ∈ (Cond.code yX7_shift cX7_shift 4 none :: lwT) := fun w h => List.mem_cons_of_mem _ h
  have hown : s.vm.findClass RX7 = some m.cls := findClass_of_methodNamed B.named
  have hlocks := B.notSynchronized
  have hK : va_K D vwCl [(cI, .int)] s := hE
  have hS : va_S (mA ad) s.heap s.heap [] := va_S.rf
  have h7 := pl_at hp hv
  obtain ⟨P, hP0⟩ : ∃ P, P = pl n (S 18) v := ⟨_, rfl⟩
  rw [← hP0] at h7
  have hl := lv_entry ([.ref (ad 18), .int (zI (x)), .int (zI (y))]) (n := 4) (Nat.le_of_ble_eq_true rfl)
  rw [lg_entry_eq]
  generalize (lg_sl ([.ref (ad 18), .int (zI (x)), .int (zI (y))]) ++ List.replicate (4 - (lg_sl ([.ref (ad 18), .int (zI (x)), .int (zI (y))])).length) Slot.unset).toArray = ls at hl ⊢
  have hl : lv_has ls 4 [(0, .ref (ad 18)), (1, .int (zI (x))), (2, .int (zI (y)))] := hl
  refine lv_aload_n hx hb dX7_shift_0 rfl (lv_at hl 0 rfl) ?_
  refine lv_iload_n hx hb dX7_shift_1 rfl (lv_at hl 1 rfl) ?_
  refine g_callSi (As := [.ref (ad 18), .int (zI (x))]) (rest := []) ⟨hx, hb, hml, hown, hts⟩ (k_X7_placeOf_18 l D cI ad hinj S hR n hn7 v x (by omega) hv hp) (cwS 2 hts (gS hsub q_843 q_844 q_8 q_845) rfl rfl rfl hdX7_placeOf ⟨Nat.le_of_ble_eq_true rfl, Nat.le_of_ble_eq_true rfl⟩) (mEb D cI) (mEk D cI (mA ad)) hE hP hS rfl hl.1 rfl (Nat.le_of_ble_eq_true rfl) dX7_shift_2 ⟨Nat.le_of_ble_eq_true rfl, Nat.le_of_ble_eq_true rfl⟩ (fun r_1 S_2 H locs hq_3 hP hR hS _ => ?_)
  obtain ⟨hs9, rfl⟩ := hq_3
  obtain rfl := hs9.symm
  have g_4 := pl_lt (v := v) (hp) (by omega)
  refine z_top (b := ↑(pl n (S 18) v)) rfl ?_
  refine lv_istore_n (lv' := [(3, .int (zI (↑(pl n (S 18) v)))), (0, .ref (ad 18)), (1, .int (zI (x))), (2, .int (zI (y)))]) hx hb dX7_shift_5 rfl hl (by decide) rfl (fun ls hl => ?_)
  have cut_6 : ∀ (k9 : Nat) (a : Nat) (f : Nat → Int) (H : Heap) (locs : List Loc) (ls : Array Slot), (P ≤ a ∧ a < n ∧ (a ≤ q ∨ a = P)) → (∀ j, f j = if P ≤ j ∧ j < a then S 18 (j + 1) else S 18 j) → (q - a) < k9 → va_P D vwCl (mW cI ad (sA S 18 f)) H → RS (sA S 18 f) → va_S (mA ad) s.heap H locs → lv_has ls 4 [(0, .ref (ad 18)), (1, .int (zI (x))), (2, .int (zI (y))), (3, .int (zI (↑a)))] → W p l e (headSpec (Cond.code yX7_shift cX7_shift 4 none :: lwT) ({ frames := 1, cells := 0, slots := 0, locals := 22 })).room s m ([.ref (ad 18), .int (zI (x)), .int (zI (y))] : List Value).toArray below meth c H locs 0 0 (MQ below (va_Qv (fun (S' : St) => S' = sA S 18 (shF (S 18) (pl n (S 18) v) q)) (gB D (mW cI ad)) (mA ad)) ([.ref (ad 18), .int (zI (x)), .int (zI (y))] : List Value).toArray s 0 0 (mA ad)) (F0 m 6 ls []) := by
    intro k9
    induction k9 with
    | zero =>
      intro a f H locs ls ha hf hk9 hP hR hS hl
      exact absurd hk9 (Nat.not_lt_zero _)
    | succ k9 ih_6 =>
      intro a f H locs ls ha hf hk9 hP hR hS hl
      refine lv_iload_n hx hb dX7_shift_6 rfl (lv_at hl 3 rfl) ?_
      refine lv_iload_n hx hb dX7_shift_7 rfl (lv_at hl 2 rfl) ?_
      refine z_icmp_ge (tgt := 25) hx hb (by omega) (by omega) (by omega) (by omega) dX7_shift_8 (by decide) (fun c_5 => ?_) (fun c_5 => ?_)
      · have h9 : True := trivial
        have cut_25 : ∀ (k9 : Nat) (b : Nat) (z : Int) (g : Nat → Int) (H : Heap) (locs : List Loc) (ls : Array Slot), (z = ↑b) → (q ≤ b ∧ b < n ∧ (b ≤ P ∨ b = q)) → (∀ j, g j = if P ≤ j ∧ j < q then S 18 (j + 1) else if b < j ∧ j ≤ P then S 18 (j - 1) else S 18 j) → b < k9 → va_P D vwCl (mW cI ad (sA S 18 g)) H → RS (sA S 18 g) → va_S (mA ad) s.heap H locs → lv_has ls 4 [(0, .ref (ad 18)), (1, .int (zI (x))), (2, .int (zI (y))), (3, .int (zI (z)))] → W p l e (headSpec (Cond.code yX7_shift cX7_shift 4 none :: lwT) ({ frames := 1, cells := 0, slots := 0, locals := 22 })).room s m ([.ref (ad 18), .int (zI (x)), .int (zI (y))] : List Value).toArray below meth c H locs 0 0 (MQ below (va_Qv (fun (S' : St) => S' = sA S 18 (shF (S 18) (pl n (S 18) v) q)) (gB D (mW cI ad)) (mA ad)) ([.ref (ad 18), .int (zI (x)), .int (zI (y))] : List Value).toArray s 0 0 (mA ad)) (F0 m 25 ls []) := by
          intro k9
          induction k9 with
          | zero =>
            intro b z g H locs ls hzb hb0 hg hk9 hP hR hS hl
            exact absurd hk9 (Nat.not_lt_zero _)
          | succ k9 ih_25 =>
            intro b z g H locs ls hzb hb0 hg hk9 hP hR hS hl
            refine lv_iload_n hx hb dX7_shift_25 rfl (lv_at hl 3 rfl) ?_
            refine lv_iload_n hx hb dX7_shift_26 rfl (lv_at hl 2 rfl) ?_
            refine z_icmp_le (tgt := 44) hx hb (by omega) (by omega) (by omega) (by omega) dX7_shift_27 (by decide) (fun c_6 => ?_) (fun c_6 => ?_)
            · have h9 : True := trivial
              refine lv_aload_n hx hb dX7_shift_44 rfl (lv_at hl 0 rfl) ?_
              refine lv_iload_n hx hb dX7_shift_45 rfl (lv_at hl 3 rfl) ?_
              refine lv_iload_n hx hb dX7_shift_46 rfl (lv_at hl 1 rfl) ?_
              refine z_ast (f := (sA S 18 g) 18) (i := z) (v := x) hx hb hK hP (mD hinj cI _) hS 11 0 rfl rfl (by omega) (by omega) (by decide) dX7_shift_47 (fun H locs hP hS => ?_)
              have hP : va_P D vwCl (mW cI ad (sA S 18 (uZ g (z).toNat x))) H := hP
              have hR : RS (sA S 18 (uZ g (z).toNat x)) := hR.put' (by omega) (by omega)
              exact g_vret (S1 := sA S 18 (uZ g (z).toNat x)) hx hb hr hlocks hP hR hS (by
            refine congrArg (sA S 18) (funext fun j => ?_)
            rw [show z.toNat = q by omega, ← hP0]
            unfold uZ shF
            by_cases e9 : j = q
            · rw [if_pos e9, if_pos e9, h7.2, hxv]
            · rw [if_neg e9, if_neg e9, hg, show b = q by omega]) dX7_shift_48
            · have h9 : True := trivial
              refine lv_aload_n hx hb dX7_shift_30 rfl (lv_at hl 0 rfl) ?_
              refine lv_iload_n hx hb dX7_shift_31 rfl (lv_at hl 3 rfl) ?_
              refine lv_aload_n hx hb dX7_shift_32 rfl (lv_at hl 0 rfl) ?_
              refine lv_iload_n hx hb dX7_shift_33 rfl (lv_at hl 3 rfl) ?_
              refine z_iconst hx hb dX7_shift_34 ?_
              refine z_isub hx hb dX7_shift_35 ?_
              have g_7 : -2147483648 ≤ g (z - 1).toNat ∧ g (z - 1).toNat < 2147483648 := hR 18 ((z - 1).toNat) (by decide)
              refine z_ald (f := g) hx hb hK hP 11 0 rfl rfl (by omega) (by omega) (by decide) (j := (z - 1).toNat) rfl dX7_shift_36 ?_
              refine z_ast (f := (sA S 18 g) 18) (i := z) (v := g (z - 1).toNat) hx hb hK hP (mD hinj cI _) hS 11 0 rfl rfl (by omega) (by omega) (by decide) dX7_shift_37 (fun H locs hP hS => ?_)
              have hP : va_P D vwCl (mW cI ad (sA S 18 (uZ g (z).toNat (g (z - 1).toNat)))) H := hP
              have hR : RS (sA S 18 (uZ g (z).toNat (g (z - 1).toNat))) := hR.put' (by omega) (by omega)
              refine z_iinc (lv' := [(3, .int (zI (z + (-1)))), (0, .ref (ad 18)), (1, .int (zI (x))), (2, .int (zI (y)))]) hx hb dX7_shift_38 hl (k := 3) rfl (by decide) rfl (fun ls hl => ?_)
              refine lv_goto (tgt := 25) hx hb dX7_shift_41 (by decide) ?_
              exact ih_25 (b - 1) (z + (-1)) (uZ g (z).toNat (g (z - 1).toNat)) _ _ _ (by omega) (by omega) (fun j => by
            rw [show z.toNat = b by omega]
            unfold uZ
            by_cases e9 : j = b
            · rw [if_pos e9, hg, if_neg (by omega), if_neg (by omega), if_neg (by omega), if_pos (by omega), e9, show (z - 1).toNat = b - 1 by omega]
            · rw [if_neg e9, hg]
              by_cases g9 : P ≤ j ∧ j < q
              · rw [if_pos g9, if_pos g9]
              · rw [if_neg g9, if_neg g9]
                by_cases g8 : b < j ∧ j ≤ P
                · rw [if_pos g8, if_pos (by omega)]
                · rw [if_neg g8, if_neg (by omega)]) (by omega) hP hR hS (lv_sub hl [1, 2, 3, 0] rfl)
        exact cut_25 _ a ↑a f _ _ _ (by omega) (by omega) (fun j => by
          rw [hf]
          by_cases g9 : P ≤ j ∧ j < q
          · rw [if_pos g9, if_pos (by omega)]
          · rw [if_neg g9, if_neg (by omega), if_neg (by omega)]) (Nat.lt_succ_self _) hP hR hS (lv_sub hl [0, 1, 2, 3] rfl)
      · have h9 : True := trivial
        refine lv_aload_n hx hb dX7_shift_11 rfl (lv_at hl 0 rfl) ?_
        refine lv_iload_n hx hb dX7_shift_12 rfl (lv_at hl 3 rfl) ?_
        refine lv_aload_n hx hb dX7_shift_13 rfl (lv_at hl 0 rfl) ?_
        refine lv_iload_n hx hb dX7_shift_14 rfl (lv_at hl 3 rfl) ?_
        refine z_iconst hx hb dX7_shift_15 ?_
        refine z_iadd hx hb dX7_shift_16 ?_
        have g_8 : -2147483648 ≤ f (a + 1) ∧ f (a + 1) < 2147483648 := hR 18 ((a + 1)) (by decide)
        refine z_ald (f := f) hx hb hK hP 11 0 rfl rfl (by omega) (by omega) (by decide) (j := (a + 1)) rfl dX7_shift_17 ?_
        refine z_ast (f := (sA S 18 f) 18) (i := ↑a) (v := f (a + 1)) hx hb hK hP (mD hinj cI _) hS 11 0 rfl rfl (by omega) (by omega) (by decide) dX7_shift_18 (fun H locs hP hS => ?_)
        have hP : va_P D vwCl (mW cI ad (sA S 18 (uZ f a (f (a + 1))))) H := hP
        have hR : RS (sA S 18 (uZ f a (f (a + 1)))) := hR.put' (by omega) (by omega)
        refine z_iinc (lv' := [(3, .int (zI (↑a + 1))), (0, .ref (ad 18)), (1, .int (zI (x))), (2, .int (zI (y)))]) hx hb dX7_shift_19 hl (k := 3) rfl (by decide) rfl (fun ls hl => ?_)
        refine lv_goto (tgt := 6) hx hb dX7_shift_22 (by decide) ?_
        exact ih_6 (a + 1) (uZ f a (f (a + 1))) _ _ _ (by omega) (fun j => by
          unfold uZ
          by_cases e9 : j = a
          · rw [if_pos e9, hf, if_neg (by omega), if_pos (by omega), e9]
          · rw [if_neg e9, hf]
            by_cases g9 : P ≤ j ∧ j < a
            · rw [if_pos g9, if_pos (by omega)]
            · rw [if_neg g9, if_neg (by omega)]) (by omega) hP hR hS (lv_sub hl [1, 2, 3, 0] rfl)
  have hSe_9 : S = sA S 18 (S 18) := by
    funext k8
    by_cases e80 : k8 = 18
    · subst e80; first | rfl | (funext j8; rfl)
    simp [sA, e80]
  rw [hSe_9] at hP hR
  exact cut_6 _ (pl n (S 18) v) (S 18) _ _ _ (by rw [← hP0]; omega) (fun j => by rw [← hP0, if_neg (by omega)]) (Nat.lt_succ_self _) hP hR hS (lv_sub hl [1, 2, 3, 0] rfl)
set_option maxHeartbeats 4000000 in
set_option maxRecDepth 100000 in
theorem k_X7_trade (l : Launch) (D : va_G) (cI : ClassId) (ad : Nat → Nat) (hinj : mInj ad) (S : St) (hR : RS S) (a b : Nat) (x y : Int) (hxa : x = ↑a) (hyb : y = ↑b) (ha : a < 7) (hb0 : b < 7) : Met l yX7_trade (Cond.code yX7_trade cX7_trade 4 none :: lwT) ({ frames := 0, cells := 0, slots := 0, locals := 0 }) (gPc D (mW cI ad) (mE D cI) S [.ref (ad 26), .int (zI (x)), .int (zI (y))]) (va_Qv (fun (S' : St) => S' = sA S 10 (swF (S 10) a b)) (gB D (mW cI ad)) (mA ad)) 0 0 (mA ad) := by
  refine Met.ofW (cc := cX7_trade) (maxL := 4) (ret := none) (by decide) rfl ?_
  intro p e s m args below meth c s₁ B hml hv
  obtain ⟨rfl, hP, hE⟩ := hv
  have hx := B.exec
  have hb := B.bytes
  have hr := B.returns
  have hts := atoms_spec (ws := Cond.code yX7_trade cX7_trade 4 none :: lwT) B.pre
  have hT := fun w (h : w ∈ lwT) => hts w (List.mem_cons_of_mem _ h)
  have hsub : ∀ w ∈ lwT, w ∈ (Cond.code yX7_trade cX7_trade 4 none :: lwT) := fun w h => List.mem_cons_of_mem _ h
  have hown : s.vm.findClass RX7 = some m.cls := findClass_of_methodNamed B.named
  have hlocks := B.notSynchronized
  have hK : va_K D vwCl [(cI, .int)] s := hE
  have hS : va_S (mA ad) s.heap s.heap [] := va_S.rf
  have hl := lv_entry ([.ref (ad 26), .int (zI (x)), .int (zI (y))]) (n := 4) (Nat.le_of_ble_eq_true rfl)
  rw [lg_entry_eq]
  generalize (lg_sl ([.ref (ad 26), .int (zI (x)), .int (zI (y))]) ++ List.replicate (4 - (lg_sl ([.ref (ad 26), .int (zI (x)), .int (zI (y))])).length) Slot.unset).toArray = ls at hl ⊢
  have hl : lv_has ls 4 [(0, .ref (ad 26)), (1, .int (zI (x))), (2, .int (zI (y)))] := hl
  refine lv_aload_n hx hb dX7_trade_0 rfl (lv_at hl 0 rfl) ?_
  refine va_get (D := D) (ci := 7) (v := .ref (ad 10)) (C := RX7) (T := TX7) (N := 26) hx hb hT inX7 hown hK hP 0 rfl rfl 10 (by decide) (hT _ q_682) (fun _ h9 => h9) rfl dX7_trade_1 ?_
  refine lv_iload_n hx hb dX7_trade_4 rfl (lv_at hl 1 rfl) ?_
  have g_1 : -2147483648 ≤ S 10 (x).toNat ∧ S 10 (x).toNat < 2147483648 := hR 10 ((x).toNat) (by decide)
  refine z_ald (f := S 10) hx hb hK hP 6 0 rfl rfl (by omega) (by omega) (by decide) (j := (x).toNat) rfl dX7_trade_5 ?_
  refine lv_istore_n (lv' := [(3, .int (zI (S 10 (x).toNat))), (0, .ref (ad 26)), (1, .int (zI (x))), (2, .int (zI (y)))]) hx hb dX7_trade_6 rfl hl (by decide) rfl (fun ls hl => ?_)
  refine lv_aload_n hx hb dX7_trade_7 rfl (lv_at hl 1 rfl) ?_
  refine va_get (D := D) (ci := 7) (v := .ref (ad 10)) (C := RX7) (T := TX7) (N := 26) hx hb hT inX7 hown hK hP 0 rfl rfl 10 (by decide) (hT _ q_682) (fun _ h9 => h9) rfl dX7_trade_8 ?_
  refine lv_iload_n hx hb dX7_trade_11 rfl (lv_at hl 2 rfl) ?_
  refine lv_aload_n hx hb dX7_trade_12 rfl (lv_at hl 1 rfl) ?_
  refine va_get (D := D) (ci := 7) (v := .ref (ad 10)) (C := RX7) (T := TX7) (N := 26) hx hb hT inX7 hown hK hP 0 rfl rfl 10 (by decide) (hT _ q_682) (fun _ h9 => h9) rfl dX7_trade_13 ?_
  refine lv_iload_n hx hb dX7_trade_16 rfl (lv_at hl 3 rfl) ?_
  have g_2 : -2147483648 ≤ S 10 (y).toNat ∧ S 10 (y).toNat < 2147483648 := hR 10 ((y).toNat) (by decide)
  refine z_ald (f := S 10) hx hb hK hP 6 0 rfl rfl (by omega) (by omega) (by decide) (j := (y).toNat) rfl dX7_trade_17 ?_
  refine z_ast (f := S 10) (i := x) (v := S 10 (y).toNat) hx hb hK hP (mD hinj cI _) hS 6 0 rfl rfl (by omega) (by omega) (by decide) dX7_trade_18 (fun H locs hP hS => ?_)
  have hP : va_P D vwCl (mW cI ad (sA S 10 (uZ (S 10) (x).toNat (S 10 (y).toNat)))) H := hP
  have hR : RS (sA S 10 (uZ (S 10) (x).toNat (S 10 (y).toNat))) := hR.put (by omega) (by omega)
  refine lv_aload_n hx hb dX7_trade_19 rfl (lv_at hl 1 rfl) ?_
  refine va_get (D := D) (ci := 7) (v := .ref (ad 10)) (C := RX7) (T := TX7) (N := 26) hx hb hT inX7 hown hK hP 0 rfl rfl 10 (by decide) (hT _ q_682) (fun _ h9 => h9) rfl dX7_trade_20 ?_
  refine lv_iload_n hx hb dX7_trade_23 rfl (lv_at hl 3 rfl) ?_
  refine lv_iload_n hx hb dX7_trade_24 rfl (lv_at hl 0 rfl) ?_
  refine z_ast (f := (sA S 10 (uZ (S 10) (x).toNat (S 10 (y).toNat))) 10) (i := y) (v := S 10 (x).toNat) hx hb hK hP (mD hinj cI _) hS 6 0 rfl rfl (by omega) (by omega) (by decide) dX7_trade_25 (fun H locs hP hS => ?_)
  have hP : va_P D vwCl (mW cI ad (sA S 10 (uZ (uZ (S 10) (x).toNat (S 10 (y).toNat)) (y).toNat (S 10 (x).toNat)))) H := hP
  have hR : RS (sA S 10 (uZ (uZ (S 10) (x).toNat (S 10 (y).toNat)) (y).toNat (S 10 (x).toNat))) := hR.put' (by omega) (by omega)
  exact g_vret (S1 := sA S 10 (uZ (uZ (S 10) (x).toNat (S 10 (y).toNat)) (y).toNat (S 10 (x).toNat))) hx hb hr hlocks hP hR hS (by rw [show x.toNat = a by omega, show y.toNat = b by omega]; rfl) dX7_trade_26
set_option maxHeartbeats 4000000 in
set_option maxRecDepth 100000 in
theorem k_X7_codeBy_6 (l : Launch) (D : va_G) (cI : ClassId) (ad : Nat → Nat) (hinj : mInj ad) (S : St) (hR : RS S) (n : Nat) (hn : S 2 0 = ↑n) (hn7 : n ≤ 7) (hp : prm n (S 6)) (v q : Nat) (x y : Int) (hxv : x = ↑v) (hyq : y = ↑q) (hv : v < n) (hq : q < n) : Met l yX7_codeBy (Cond.code yX7_codeBy cX7_codeBy 4 (some .int) :: lwT) ({ frames := 2, cells := 0, slots := 0, locals := 47 }) (gPc D (mW cI ad) (mE D cI) S [.ref (ad 26), .ref (ad 6), .int (zI (x)), .int (zI (y))]) (va_Qi (fun (r : Int32) (S' : St) => ∃ f g, S' = sA (sA S 11 f) 9 g ∧ r = zI (cbF n (S 6) v q)) (gB D (mW cI ad)) (mA ad)) 0 0 (mA ad) := by
  refine Met.ofW (cc := cX7_codeBy) (maxL := 4) (ret := (some .int)) (by decide) rfl ?_
  intro p e s m args below meth c s₁ B hml hv
  obtain ⟨rfl, hP, hE⟩ := hv
  have hx := B.exec
  have hb := B.bytes
  have hr := B.returns
  have hts := atoms_spec (ws := Cond.code yX7_codeBy cX7_codeBy 4 (some .int) :: lwT) B.pre
  have hT := fun w (h : w ∈ lwT) => hts w (List.mem_cons_of_mem _ h)
  have hsub : ∀ w ∈ lwT, w ∈ (Cond.code yX7_codeBy cX7_codeBy 4 (some .int) :: lwT) := fun w h => List.mem_cons_of_mem _ h
  have hown : s.vm.findClass RX7 = some m.cls := findClass_of_methodNamed B.named
  have hlocks := B.notSynchronized
  have hK : va_K D vwCl [(cI, .int)] s := hE
  have hS : va_S (mA ad) s.heap s.heap [] := va_S.rf
  have h7 := pl_at hp hv
  have hl := lv_entry ([.ref (ad 26), .ref (ad 6), .int (zI (x)), .int (zI (y))]) (n := 4) (Nat.le_of_ble_eq_true rfl)
  rw [lg_entry_eq]
  generalize (lg_sl ([.ref (ad 26), .ref (ad 6), .int (zI (x)), .int (zI (y))]) ++ List.replicate (4 - (lg_sl ([.ref (ad 26), .ref (ad 6), .int (zI (x)), .int (zI (y))])).length) Slot.unset).toArray = ls at hl ⊢
  have hl : lv_has ls 4 [(0, .ref (ad 26)), (1, .ref (ad 6)), (2, .int (zI (x))), (3, .int (zI (y)))] := hl
  refine lv_aload_n hx hb dX7_codeBy_0 rfl (lv_at hl 1 rfl) ?_
  refine lv_aload_n hx hb dX7_codeBy_1 rfl (lv_at hl 0 rfl) ?_
  refine va_get (D := D) (ci := 7) (v := .ref (ad 11)) (C := RX7) (T := TX7) (N := 26) hx hb hT inX7 hown hK hP 0 rfl rfl 11 (by decide) (hT _ q_683) (fun _ h9 => h9) rfl dX7_codeBy_2 ?_
  refine g_callSv (As := [.ref (ad 6), .ref (ad 11)]) (rest := []) ⟨hx, hb, hml, hown, hts⟩ (k_X7_copy_6_11 l D cI ad hinj S hR ) (cwS 2 hts (gS hsub q_840 q_841 q_8 q_842) rfl rfl rfl hdX7_copy ⟨Nat.le_of_ble_eq_true rfl, Nat.le_of_ble_eq_true rfl⟩) (mEb D cI) (mEk D cI (mA ad)) hE hP hS rfl hl.1 rfl (Nat.le_of_ble_eq_true rfl) dX7_codeBy_5 ⟨Nat.le_of_ble_eq_true rfl, Nat.le_of_ble_eq_true rfl⟩ (fun S_2 H locs hq_3 hP hR hS _ => ?_)
  obtain ⟨f_4, rfl, hcp_5⟩ := hq_3
  have hcf : ∀ j, j < n → f_4 j = S 6 j := fun j hj => hcp_5 j (by omega)
  have hpf : prm n f_4 := prm_c hcf hp
  have hpe := pl_c hcf v
  have hsh := shF_c hcf h7.1 hq
  have hps := shF_prm hpf (p := pl n f_4 v) (q := q) (by rw [hpe]; exact h7.1) hq
  refine lv_aload_n hx hb dX7_codeBy_8 rfl (lv_at hl 1 rfl) ?_
  refine lv_iload_n hx hb dX7_codeBy_9 rfl (lv_at hl 2 rfl) ?_
  refine g_callSi (As := [.ref (ad 6), .int (zI (x))]) (rest := []) ⟨hx, hb, hml, hown, hts⟩ (k_X7_placeOf_6 l D cI ad hinj (sA S 11 f_4) hR n hn7 v x (by omega) hv hp) (cwS 2 hts (gS hsub q_843 q_844 q_8 q_845) rfl rfl rfl hdX7_placeOf ⟨Nat.le_of_ble_eq_true rfl, Nat.le_of_ble_eq_true rfl⟩) (mEb D cI) (mEk D cI (mA ad)) hE hP hS rfl hl.1 rfl (Nat.le_of_ble_eq_true rfl) dX7_codeBy_10 ⟨Nat.le_of_ble_eq_true rfl, Nat.le_of_ble_eq_true rfl⟩ (fun r_6 S_7 H locs hq_8 hP hR hS _ => ?_)
  obtain ⟨hs9, rfl⟩ := hq_8
  obtain rfl := hs9.symm
  have g_9 := pl_lt (v := v) (hp) (by omega)
  refine z_top (b := ↑(pl n (S 6) v)) rfl ?_
  refine lv_iload_n hx hb dX7_codeBy_13 rfl (lv_at hl 3 rfl) ?_
  refine z_icmp_ne (tgt := 19) hx hb (by omega) (by omega) (by omega) (by omega) dX7_codeBy_14 (by decide) (fun c_10 => ?_) (fun c_10 => ?_)
  · have h9 : True := trivial
    refine lv_aload_n hx hb dX7_codeBy_19 rfl (lv_at hl 0 rfl) ?_
    refine va_get (D := D) (ci := 7) (v := .ref (ad 11)) (C := RX7) (T := TX7) (N := 26) hx hb hT inX7 hown hK hP 0 rfl rfl 11 (by decide) (hT _ q_683) (fun _ h9 => h9) rfl dX7_codeBy_20 ?_
    refine lv_iload_n hx hb dX7_codeBy_23 rfl (lv_at hl 2 rfl) ?_
    refine lv_iload_n hx hb dX7_codeBy_24 rfl (lv_at hl 3 rfl) ?_
    refine g_callSv (As := [.ref (ad 11), .int (zI (x)), .int (zI (y))]) (rest := []) ⟨hx, hb, hml, hown, hts⟩ (k_X7_shift_11 l D cI ad hinj (sA S 11 f_4) hR n hn7 hpf v q x y (by omega) (by omega) hv hq) (cwS 3 hts (gS hsub q_846 q_847 q_8 q_848) rfl rfl rfl hdX7_shift ⟨Nat.le_of_ble_eq_true rfl, Nat.le_of_ble_eq_true rfl⟩) (mEb D cI) (mEk D cI (mA ad)) hE hP hS rfl hl.1 rfl (Nat.le_of_ble_eq_true rfl) dX7_codeBy_25 ⟨Nat.le_of_ble_eq_true rfl, Nat.le_of_ble_eq_true rfl⟩ (fun S_12 H locs hq_13 hP hR hS _ => ?_)
    obtain rfl := hq_13
    rw [sA_sA] at hP hR
    have hP : va_P D vwCl (mW cI ad (sA S 11 (shF f_4 (pl n f_4 v) q))) H := hP
    have hR : RS (sA S 11 (shF f_4 (pl n f_4 v) q)) := hR
    refine lv_aload_n hx hb dX7_codeBy_28 rfl (lv_at hl 0 rfl) ?_
    refine lv_aload_n hx hb dX7_codeBy_29 rfl (lv_at hl 0 rfl) ?_
    refine va_get (D := D) (ci := 7) (v := .ref (ad 11)) (C := RX7) (T := TX7) (N := 26) hx hb hT inX7 hown hK hP 0 rfl rfl 11 (by decide) (hT _ q_683) (fun _ h9 => h9) rfl dX7_codeBy_30 ?_
    refine g_callVi (As := [.ref (ad 11)]) (rest := []) ⟨hx, hb, hml, hown, hts⟩ (k_X7_isFolded_11 l D cI ad hinj (sA S 11 (shF f_4 (pl n f_4 v) q)) hR n hn hn7 hps) (cwV 1 hts (gV hsub q_782 q_784 q_sX7_isFolded q_8 q_785) rfl rfl rfl hdX7_isFolded ⟨Nat.le_of_ble_eq_true rfl, Nat.le_of_ble_eq_true rfl⟩) (mEb D cI) (mEk D cI (mA ad)) hE (va_recv (ci := 7) (q0 := 0) hK hP rfl rfl) hP hS rfl hl.1 rfl (Nat.le_of_ble_eq_true rfl) dX7_codeBy_33 ⟨Nat.le_of_ble_eq_true rfl, Nat.le_of_ble_eq_true rfl⟩ (fun r_14 S_15 H locs hq_16 hP hR hS _ => ?_)
    obtain ⟨f_17, rfl, rfl⟩ := hq_16
    refine z_top (b := b2 (pB (fdP n (shF f_4 (pl n f_4 v) q)))) rfl ?_
    refine z_ifeqB (tgt := 53) hx hb dX7_codeBy_36 (by decide) (fun c_18 => ?_) (fun c_18 => ?_)
    · have h9 : True := trivial
      refine z_iconst hx hb dX7_codeBy_53 ?_
      exact g_iret (S1 := sA (sA S 11 (shF f_4 (pl n f_4 v) q)) 9 f_17) (v := zI (-1)) hx hb hr hlocks hP hR hS (⟨_, _, rfl, by unfold cbF; rw [if_neg (by omega), if_neg (by rw [← pB_c (fdP_c hsh), ← hpe, c_18]; decide)]⟩) dX7_codeBy_54
    · have h9 : True := trivial
      refine lv_aload_n hx hb dX7_codeBy_39 rfl (lv_at hl 0 rfl) ?_
      refine va_get (D := D) (ci := 7) (v := .ref (ad 11)) (C := RX7) (T := TX7) (N := 26) hx hb hT inX7 hown hK hP 0 rfl rfl 11 (by decide) (hT _ q_683) (fun _ h9 => h9) rfl dX7_codeBy_40 ?_
      refine lv_aload_n hx hb dX7_codeBy_43 rfl (lv_at hl 0 rfl) ?_
      have g_19 : -2147483648 ≤ S 2 0 ∧ S 2 0 < 2147483648 := hR 2 0 (by decide)
      refine va_get (D := D) (ci := 7) (v := .int (zI (S 2 0))) (C := RX7) (T := TX7) (N := 26) hx hb hT inX7 hown hK hP 0 rfl rfl 2 (by decide) (hT _ q_674) (fun _ h9 => h9) rfl dX7_codeBy_44 ?_
      refine g_callSi (As := [.ref (ad 11), .int (zI (S 2 0))]) (rest := []) ⟨hx, hb, hml, hown, hts⟩ (k_X7_codeOf_11 l D cI ad hinj (sA (sA S 11 (shF f_4 (pl n f_4 v) q)) 9 f_17) hR n (S 2 0) (by omega) (by omega)) (cwS 2 hts (gS hsub q_793 q_794 q_8 q_795) rfl rfl rfl hdX7_codeOf ⟨Nat.le_of_ble_eq_true rfl, Nat.le_of_ble_eq_true rfl⟩) (mEb D cI) (mEk D cI (mA ad)) hE hP hS rfl hl.1 rfl (Nat.le_of_ble_eq_true rfl) dX7_codeBy_47 ⟨Nat.le_of_ble_eq_true rfl, Nat.le_of_ble_eq_true rfl⟩ (fun r_20 S_21 H locs hq_22 hP hR hS _ => ?_)
      obtain ⟨hs9, rfl⟩ := hq_22
      obtain rfl := hs9.symm
      refine z_top (b := cdF (shF f_4 (pl n f_4 v) q) n) rfl ?_
      refine lv_goto (tgt := 54) hx hb dX7_codeBy_50 (by decide) ?_
      exact g_iret (S1 := sA (sA S 11 (shF f_4 (pl n f_4 v) q)) 9 f_17) (v := zI (cdF (shF f_4 (pl n f_4 v) q) n)) hx hb hr hlocks hP hR hS (⟨_, _, rfl, by unfold cbF; rw [if_neg (by omega), if_pos (by rw [← pB_c (fdP_c hsh), ← hpe]; exact c_18), ← cdF_c hsh, ← hpe]⟩) dX7_codeBy_54
  · have h9 : True := trivial
    refine z_iconst hx hb dX7_codeBy_17 ?_
    exact g_iret (S1 := sA S 11 f_4) (v := zI (-1)) hx hb hr hlocks hP hR hS (⟨_, S 9, (sA_self _ 9).symm, by unfold cbF; rw [if_pos (by omega)]⟩) dX7_codeBy_18
set_option maxHeartbeats 4000000 in
set_option maxRecDepth 100000 in
theorem k_X7_codeBy_10 (l : Launch) (D : va_G) (cI : ClassId) (ad : Nat → Nat) (hinj : mInj ad) (S : St) (hR : RS S) (n : Nat) (hn : S 2 0 = ↑n) (hn7 : n ≤ 7) (hp : prm n (S 10)) (v q : Nat) (x y : Int) (hxv : x = ↑v) (hyq : y = ↑q) (hv : v < n) (hq : q < n) : Met l yX7_codeBy (Cond.code yX7_codeBy cX7_codeBy 4 (some .int) :: lwT) ({ frames := 2, cells := 0, slots := 0, locals := 47 }) (gPc D (mW cI ad) (mE D cI) S [.ref (ad 26), .ref (ad 10), .int (zI (x)), .int (zI (y))]) (va_Qi (fun (r : Int32) (S' : St) => ∃ f g, S' = sA (sA S 11 f) 9 g ∧ r = zI (cbF n (S 10) v q)) (gB D (mW cI ad)) (mA ad)) 0 0 (mA ad) := by
  refine Met.ofW (cc := cX7_codeBy) (maxL := 4) (ret := (some .int)) (by decide) rfl ?_
  intro p e s m args below meth c s₁ B hml hv
  obtain ⟨rfl, hP, hE⟩ := hv
  have hx := B.exec
  have hb := B.bytes
  have hr := B.returns
  have hts := atoms_spec (ws := Cond.code yX7_codeBy cX7_codeBy 4 (some .int) :: lwT) B.pre
  have hT := fun w (h : w ∈ lwT) => hts w (List.mem_cons_of_mem _ h)
  have hsub : ∀ w ∈ lwT, w ∈ (Cond.code yX7_codeBy cX7_codeBy 4 (some .int) :: lwT) := fun w h => List.mem_cons_of_mem _ h
  have hown : s.vm.findClass RX7 = some m.cls := findClass_of_methodNamed B.named
  have hlocks := B.notSynchronized
  have hK : va_K D vwCl [(cI, .int)] s := hE
  have hS : va_S (mA ad) s.heap s.heap [] := va_S.rf
  have h7 := pl_at hp hv
  have hl := lv_entry ([.ref (ad 26), .ref (ad 10), .int (zI (x)), .int (zI (y))]) (n := 4) (Nat.le_of_ble_eq_true rfl)
  rw [lg_entry_eq]
  generalize (lg_sl ([.ref (ad 26), .ref (ad 10), .int (zI (x)), .int (zI (y))]) ++ List.replicate (4 - (lg_sl ([.ref (ad 26), .ref (ad 10), .int (zI (x)), .int (zI (y))])).length) Slot.unset).toArray = ls at hl ⊢
  have hl : lv_has ls 4 [(0, .ref (ad 26)), (1, .ref (ad 10)), (2, .int (zI (x))), (3, .int (zI (y)))] := hl
  refine lv_aload_n hx hb dX7_codeBy_0 rfl (lv_at hl 1 rfl) ?_
  refine lv_aload_n hx hb dX7_codeBy_1 rfl (lv_at hl 0 rfl) ?_
  refine va_get (D := D) (ci := 7) (v := .ref (ad 11)) (C := RX7) (T := TX7) (N := 26) hx hb hT inX7 hown hK hP 0 rfl rfl 11 (by decide) (hT _ q_683) (fun _ h9 => h9) rfl dX7_codeBy_2 ?_
  refine g_callSv (As := [.ref (ad 10), .ref (ad 11)]) (rest := []) ⟨hx, hb, hml, hown, hts⟩ (k_X7_copy_10_11 l D cI ad hinj S hR ) (cwS 2 hts (gS hsub q_840 q_841 q_8 q_842) rfl rfl rfl hdX7_copy ⟨Nat.le_of_ble_eq_true rfl, Nat.le_of_ble_eq_true rfl⟩) (mEb D cI) (mEk D cI (mA ad)) hE hP hS rfl hl.1 rfl (Nat.le_of_ble_eq_true rfl) dX7_codeBy_5 ⟨Nat.le_of_ble_eq_true rfl, Nat.le_of_ble_eq_true rfl⟩ (fun S_2 H locs hq_3 hP hR hS _ => ?_)
  obtain ⟨f_4, rfl, hcp_5⟩ := hq_3
  have hcf : ∀ j, j < n → f_4 j = S 10 j := fun j hj => hcp_5 j (by omega)
  have hpf : prm n f_4 := prm_c hcf hp
  have hpe := pl_c hcf v
  have hsh := shF_c hcf h7.1 hq
  have hps := shF_prm hpf (p := pl n f_4 v) (q := q) (by rw [hpe]; exact h7.1) hq
  refine lv_aload_n hx hb dX7_codeBy_8 rfl (lv_at hl 1 rfl) ?_
  refine lv_iload_n hx hb dX7_codeBy_9 rfl (lv_at hl 2 rfl) ?_
  refine g_callSi (As := [.ref (ad 10), .int (zI (x))]) (rest := []) ⟨hx, hb, hml, hown, hts⟩ (k_X7_placeOf_10 l D cI ad hinj (sA S 11 f_4) hR n hn7 v x (by omega) hv hp) (cwS 2 hts (gS hsub q_843 q_844 q_8 q_845) rfl rfl rfl hdX7_placeOf ⟨Nat.le_of_ble_eq_true rfl, Nat.le_of_ble_eq_true rfl⟩) (mEb D cI) (mEk D cI (mA ad)) hE hP hS rfl hl.1 rfl (Nat.le_of_ble_eq_true rfl) dX7_codeBy_10 ⟨Nat.le_of_ble_eq_true rfl, Nat.le_of_ble_eq_true rfl⟩ (fun r_6 S_7 H locs hq_8 hP hR hS _ => ?_)
  obtain ⟨hs9, rfl⟩ := hq_8
  obtain rfl := hs9.symm
  have g_9 := pl_lt (v := v) (hp) (by omega)
  refine z_top (b := ↑(pl n (S 10) v)) rfl ?_
  refine lv_iload_n hx hb dX7_codeBy_13 rfl (lv_at hl 3 rfl) ?_
  refine z_icmp_ne (tgt := 19) hx hb (by omega) (by omega) (by omega) (by omega) dX7_codeBy_14 (by decide) (fun c_10 => ?_) (fun c_10 => ?_)
  · have h9 : True := trivial
    refine lv_aload_n hx hb dX7_codeBy_19 rfl (lv_at hl 0 rfl) ?_
    refine va_get (D := D) (ci := 7) (v := .ref (ad 11)) (C := RX7) (T := TX7) (N := 26) hx hb hT inX7 hown hK hP 0 rfl rfl 11 (by decide) (hT _ q_683) (fun _ h9 => h9) rfl dX7_codeBy_20 ?_
    refine lv_iload_n hx hb dX7_codeBy_23 rfl (lv_at hl 2 rfl) ?_
    refine lv_iload_n hx hb dX7_codeBy_24 rfl (lv_at hl 3 rfl) ?_
    refine g_callSv (As := [.ref (ad 11), .int (zI (x)), .int (zI (y))]) (rest := []) ⟨hx, hb, hml, hown, hts⟩ (k_X7_shift_11 l D cI ad hinj (sA S 11 f_4) hR n hn7 hpf v q x y (by omega) (by omega) hv hq) (cwS 3 hts (gS hsub q_846 q_847 q_8 q_848) rfl rfl rfl hdX7_shift ⟨Nat.le_of_ble_eq_true rfl, Nat.le_of_ble_eq_true rfl⟩) (mEb D cI) (mEk D cI (mA ad)) hE hP hS rfl hl.1 rfl (Nat.le_of_ble_eq_true rfl) dX7_codeBy_25 ⟨Nat.le_of_ble_eq_true rfl, Nat.le_of_ble_eq_true rfl⟩ (fun S_12 H locs hq_13 hP hR hS _ => ?_)
    obtain rfl := hq_13
    rw [sA_sA] at hP hR
    have hP : va_P D vwCl (mW cI ad (sA S 11 (shF f_4 (pl n f_4 v) q))) H := hP
    have hR : RS (sA S 11 (shF f_4 (pl n f_4 v) q)) := hR
    refine lv_aload_n hx hb dX7_codeBy_28 rfl (lv_at hl 0 rfl) ?_
    refine lv_aload_n hx hb dX7_codeBy_29 rfl (lv_at hl 0 rfl) ?_
    refine va_get (D := D) (ci := 7) (v := .ref (ad 11)) (C := RX7) (T := TX7) (N := 26) hx hb hT inX7 hown hK hP 0 rfl rfl 11 (by decide) (hT _ q_683) (fun _ h9 => h9) rfl dX7_codeBy_30 ?_
    refine g_callVi (As := [.ref (ad 11)]) (rest := []) ⟨hx, hb, hml, hown, hts⟩ (k_X7_isFolded_11 l D cI ad hinj (sA S 11 (shF f_4 (pl n f_4 v) q)) hR n hn hn7 hps) (cwV 1 hts (gV hsub q_782 q_784 q_sX7_isFolded q_8 q_785) rfl rfl rfl hdX7_isFolded ⟨Nat.le_of_ble_eq_true rfl, Nat.le_of_ble_eq_true rfl⟩) (mEb D cI) (mEk D cI (mA ad)) hE (va_recv (ci := 7) (q0 := 0) hK hP rfl rfl) hP hS rfl hl.1 rfl (Nat.le_of_ble_eq_true rfl) dX7_codeBy_33 ⟨Nat.le_of_ble_eq_true rfl, Nat.le_of_ble_eq_true rfl⟩ (fun r_14 S_15 H locs hq_16 hP hR hS _ => ?_)
    obtain ⟨f_17, rfl, rfl⟩ := hq_16
    refine z_top (b := b2 (pB (fdP n (shF f_4 (pl n f_4 v) q)))) rfl ?_
    refine z_ifeqB (tgt := 53) hx hb dX7_codeBy_36 (by decide) (fun c_18 => ?_) (fun c_18 => ?_)
    · have h9 : True := trivial
      refine z_iconst hx hb dX7_codeBy_53 ?_
      exact g_iret (S1 := sA (sA S 11 (shF f_4 (pl n f_4 v) q)) 9 f_17) (v := zI (-1)) hx hb hr hlocks hP hR hS (⟨_, _, rfl, by unfold cbF; rw [if_neg (by omega), if_neg (by rw [← pB_c (fdP_c hsh), ← hpe, c_18]; decide)]⟩) dX7_codeBy_54
    · have h9 : True := trivial
      refine lv_aload_n hx hb dX7_codeBy_39 rfl (lv_at hl 0 rfl) ?_
      refine va_get (D := D) (ci := 7) (v := .ref (ad 11)) (C := RX7) (T := TX7) (N := 26) hx hb hT inX7 hown hK hP 0 rfl rfl 11 (by decide) (hT _ q_683) (fun _ h9 => h9) rfl dX7_codeBy_40 ?_
      refine lv_aload_n hx hb dX7_codeBy_43 rfl (lv_at hl 0 rfl) ?_
      have g_19 : -2147483648 ≤ S 2 0 ∧ S 2 0 < 2147483648 := hR 2 0 (by decide)
      refine va_get (D := D) (ci := 7) (v := .int (zI (S 2 0))) (C := RX7) (T := TX7) (N := 26) hx hb hT inX7 hown hK hP 0 rfl rfl 2 (by decide) (hT _ q_674) (fun _ h9 => h9) rfl dX7_codeBy_44 ?_
      refine g_callSi (As := [.ref (ad 11), .int (zI (S 2 0))]) (rest := []) ⟨hx, hb, hml, hown, hts⟩ (k_X7_codeOf_11 l D cI ad hinj (sA (sA S 11 (shF f_4 (pl n f_4 v) q)) 9 f_17) hR n (S 2 0) (by omega) (by omega)) (cwS 2 hts (gS hsub q_793 q_794 q_8 q_795) rfl rfl rfl hdX7_codeOf ⟨Nat.le_of_ble_eq_true rfl, Nat.le_of_ble_eq_true rfl⟩) (mEb D cI) (mEk D cI (mA ad)) hE hP hS rfl hl.1 rfl (Nat.le_of_ble_eq_true rfl) dX7_codeBy_47 ⟨Nat.le_of_ble_eq_true rfl, Nat.le_of_ble_eq_true rfl⟩ (fun r_20 S_21 H locs hq_22 hP hR hS _ => ?_)
      obtain ⟨hs9, rfl⟩ := hq_22
      obtain rfl := hs9.symm
      refine z_top (b := cdF (shF f_4 (pl n f_4 v) q) n) rfl ?_
      refine lv_goto (tgt := 54) hx hb dX7_codeBy_50 (by decide) ?_
      exact g_iret (S1 := sA (sA S 11 (shF f_4 (pl n f_4 v) q)) 9 f_17) (v := zI (cdF (shF f_4 (pl n f_4 v) q) n)) hx hb hr hlocks hP hR hS (⟨_, _, rfl, by unfold cbF; rw [if_neg (by omega), if_pos (by rw [← pB_c (fdP_c hsh), ← hpe]; exact c_18), ← cdF_c hsh, ← hpe]⟩) dX7_codeBy_54
  · have h9 : True := trivial
    refine z_iconst hx hb dX7_codeBy_17 ?_
    exact g_iret (S1 := sA S 11 f_4) (v := zI (-1)) hx hb hr hlocks hP hR hS (⟨_, S 9, (sA_self _ 9).symm, by unfold cbF; rw [if_pos (by omega)]⟩) dX7_codeBy_18
set_option maxHeartbeats 4000000 in
set_option maxRecDepth 100000 in
theorem k_X7_codeBy_18 (l : Launch) (D : va_G) (cI : ClassId) (ad : Nat → Nat) (hinj : mInj ad) (S : St) (hR : RS S) (n : Nat) (hn : S 2 0 = ↑n) (hn7 : n ≤ 7) (hp : prm n (S 18)) (v q : Nat) (x y : Int) (hxv : x = ↑v) (hyq : y = ↑q) (hv : v < n) (hq : q < n) : Met l yX7_codeBy (Cond.code yX7_codeBy cX7_codeBy 4 (some .int) :: lwT) ({ frames := 2, cells := 0, slots := 0, locals := 47 }) (gPc D (mW cI ad) (mE D cI) S [.ref (ad 26), .ref (ad 18), .int (zI (x)), .int (zI (y))]) (va_Qi (fun (r : Int32) (S' : St) => ∃ f g, S' = sA (sA S 11 f) 9 g ∧ r = zI (cbF n (S 18) v q)) (gB D (mW cI ad)) (mA ad)) 0 0 (mA ad) := by
  refine Met.ofW (cc := cX7_codeBy) (maxL := 4) (ret := (some .int)) (by decide) rfl ?_
  intro p e s m args below meth c s₁ B hml hv
  obtain ⟨rfl, hP, hE⟩ := hv
  have hx := B.exec
  have hb := B.bytes
  have hr := B.returns
  have hts := atoms_spec (ws := Cond.code yX7_codeBy cX7_codeBy 4 (some .int) :: lwT) B.pre
  have hT := fun w (h : w ∈ lwT) => hts w (List.mem_cons_of_mem _ h)
  have hsub : ∀ w ∈ lwT, w ∈ (Cond.code yX7_codeBy cX7_codeBy 4 (some .int) :: lwT) := fun w h => List.mem_cons_of_mem _ h
  have hown : s.vm.findClass RX7 = some m.cls := findClass_of_methodNamed B.named
  have hlocks := B.notSynchronized
  have hK : va_K D vwCl [(cI, .int)] s := hE
  have hS : va_S (mA ad) s.heap s.heap [] := va_S.rf
  have h7 := pl_at hp hv
  have hl := lv_entry ([.ref (ad 26), .ref (ad 18), .int (zI (x)), .int (zI (y))]) (n := 4) (Nat.le_of_ble_eq_true rfl)
  rw [lg_entry_eq]
  generalize (lg_sl ([.ref (ad 26), .ref (ad 18), .int (zI (x)), .int (zI (y))]) ++ List.replicate (4 - (lg_sl ([.ref (ad 26), .ref (ad 18), .int (zI (x)), .int (zI (y))])).length) Slot.unset).toArray = ls at hl ⊢
  have hl : lv_has ls 4 [(0, .ref (ad 26)), (1, .ref (ad 18)), (2, .int (zI (x))), (3, .int (zI (y)))] := hl
  refine lv_aload_n hx hb dX7_codeBy_0 rfl (lv_at hl 1 rfl) ?_
  refine lv_aload_n hx hb dX7_codeBy_1 rfl (lv_at hl 0 rfl) ?_
  refine va_get (D := D) (ci := 7) (v := .ref (ad 11)) (C := RX7) (T := TX7) (N := 26) hx hb hT inX7 hown hK hP 0 rfl rfl 11 (by decide) (hT _ q_683) (fun _ h9 => h9) rfl dX7_codeBy_2 ?_
  refine g_callSv (As := [.ref (ad 18), .ref (ad 11)]) (rest := []) ⟨hx, hb, hml, hown, hts⟩ (k_X7_copy_18_11 l D cI ad hinj S hR ) (cwS 2 hts (gS hsub q_840 q_841 q_8 q_842) rfl rfl rfl hdX7_copy ⟨Nat.le_of_ble_eq_true rfl, Nat.le_of_ble_eq_true rfl⟩) (mEb D cI) (mEk D cI (mA ad)) hE hP hS rfl hl.1 rfl (Nat.le_of_ble_eq_true rfl) dX7_codeBy_5 ⟨Nat.le_of_ble_eq_true rfl, Nat.le_of_ble_eq_true rfl⟩ (fun S_2 H locs hq_3 hP hR hS _ => ?_)
  obtain ⟨f_4, rfl, hcp_5⟩ := hq_3
  have hcf : ∀ j, j < n → f_4 j = S 18 j := fun j hj => hcp_5 j (by omega)
  have hpf : prm n f_4 := prm_c hcf hp
  have hpe := pl_c hcf v
  have hsh := shF_c hcf h7.1 hq
  have hps := shF_prm hpf (p := pl n f_4 v) (q := q) (by rw [hpe]; exact h7.1) hq
  refine lv_aload_n hx hb dX7_codeBy_8 rfl (lv_at hl 1 rfl) ?_
  refine lv_iload_n hx hb dX7_codeBy_9 rfl (lv_at hl 2 rfl) ?_
  refine g_callSi (As := [.ref (ad 18), .int (zI (x))]) (rest := []) ⟨hx, hb, hml, hown, hts⟩ (k_X7_placeOf_18 l D cI ad hinj (sA S 11 f_4) hR n hn7 v x (by omega) hv hp) (cwS 2 hts (gS hsub q_843 q_844 q_8 q_845) rfl rfl rfl hdX7_placeOf ⟨Nat.le_of_ble_eq_true rfl, Nat.le_of_ble_eq_true rfl⟩) (mEb D cI) (mEk D cI (mA ad)) hE hP hS rfl hl.1 rfl (Nat.le_of_ble_eq_true rfl) dX7_codeBy_10 ⟨Nat.le_of_ble_eq_true rfl, Nat.le_of_ble_eq_true rfl⟩ (fun r_6 S_7 H locs hq_8 hP hR hS _ => ?_)
  obtain ⟨hs9, rfl⟩ := hq_8
  obtain rfl := hs9.symm
  have g_9 := pl_lt (v := v) (hp) (by omega)
  refine z_top (b := ↑(pl n (S 18) v)) rfl ?_
  refine lv_iload_n hx hb dX7_codeBy_13 rfl (lv_at hl 3 rfl) ?_
  refine z_icmp_ne (tgt := 19) hx hb (by omega) (by omega) (by omega) (by omega) dX7_codeBy_14 (by decide) (fun c_10 => ?_) (fun c_10 => ?_)
  · have h9 : True := trivial
    refine lv_aload_n hx hb dX7_codeBy_19 rfl (lv_at hl 0 rfl) ?_
    refine va_get (D := D) (ci := 7) (v := .ref (ad 11)) (C := RX7) (T := TX7) (N := 26) hx hb hT inX7 hown hK hP 0 rfl rfl 11 (by decide) (hT _ q_683) (fun _ h9 => h9) rfl dX7_codeBy_20 ?_
    refine lv_iload_n hx hb dX7_codeBy_23 rfl (lv_at hl 2 rfl) ?_
    refine lv_iload_n hx hb dX7_codeBy_24 rfl (lv_at hl 3 rfl) ?_
    refine g_callSv (As := [.ref (ad 11), .int (zI (x)), .int (zI (y))]) (rest := []) ⟨hx, hb, hml, hown, hts⟩ (k_X7_shift_11 l D cI ad hinj (sA S 11 f_4) hR n hn7 hpf v q x y (by omega) (by omega) hv hq) (cwS 3 hts (gS hsub q_846 q_847 q_8 q_848) rfl rfl rfl hdX7_shift ⟨Nat.le_of_ble_eq_true rfl, Nat.le_of_ble_eq_true rfl⟩) (mEb D cI) (mEk D cI (mA ad)) hE hP hS rfl hl.1 rfl (Nat.le_of_ble_eq_true rfl) dX7_codeBy_25 ⟨Nat.le_of_ble_eq_true rfl, Nat.le_of_ble_eq_true rfl⟩ (fun S_12 H locs hq_13 hP hR hS _ => ?_)
    obtain rfl := hq_13
    rw [sA_sA] at hP hR
    have hP : va_P D vwCl (mW cI ad (sA S 11 (shF f_4 (pl n f_4 v) q))) H := hP
    have hR : RS (sA S 11 (shF f_4 (pl n f_4 v) q)) := hR
    refine lv_aload_n hx hb dX7_codeBy_28 rfl (lv_at hl 0 rfl) ?_
    refine lv_aload_n hx hb dX7_codeBy_29 rfl (lv_at hl 0 rfl) ?_
    refine va_get (D := D) (ci := 7) (v := .ref (ad 11)) (C := RX7) (T := TX7) (N := 26) hx hb hT inX7 hown hK hP 0 rfl rfl 11 (by decide) (hT _ q_683) (fun _ h9 => h9) rfl dX7_codeBy_30 ?_
    refine g_callVi (As := [.ref (ad 11)]) (rest := []) ⟨hx, hb, hml, hown, hts⟩ (k_X7_isFolded_11 l D cI ad hinj (sA S 11 (shF f_4 (pl n f_4 v) q)) hR n hn hn7 hps) (cwV 1 hts (gV hsub q_782 q_784 q_sX7_isFolded q_8 q_785) rfl rfl rfl hdX7_isFolded ⟨Nat.le_of_ble_eq_true rfl, Nat.le_of_ble_eq_true rfl⟩) (mEb D cI) (mEk D cI (mA ad)) hE (va_recv (ci := 7) (q0 := 0) hK hP rfl rfl) hP hS rfl hl.1 rfl (Nat.le_of_ble_eq_true rfl) dX7_codeBy_33 ⟨Nat.le_of_ble_eq_true rfl, Nat.le_of_ble_eq_true rfl⟩ (fun r_14 S_15 H locs hq_16 hP hR hS _ => ?_)
    obtain ⟨f_17, rfl, rfl⟩ := hq_16
    refine z_top (b := b2 (pB (fdP n (shF f_4 (pl n f_4 v) q)))) rfl ?_
    refine z_ifeqB (tgt := 53) hx hb dX7_codeBy_36 (by decide) (fun c_18 => ?_) (fun c_18 => ?_)
    · have h9 : True := trivial
      refine z_iconst hx hb dX7_codeBy_53 ?_
      exact g_iret (S1 := sA (sA S 11 (shF f_4 (pl n f_4 v) q)) 9 f_17) (v := zI (-1)) hx hb hr hlocks hP hR hS (⟨_, _, rfl, by unfold cbF; rw [if_neg (by omega), if_neg (by rw [← pB_c (fdP_c hsh), ← hpe, c_18]; decide)]⟩) dX7_codeBy_54
    · have h9 : True := trivial
      refine lv_aload_n hx hb dX7_codeBy_39 rfl (lv_at hl 0 rfl) ?_
      refine va_get (D := D) (ci := 7) (v := .ref (ad 11)) (C := RX7) (T := TX7) (N := 26) hx hb hT inX7 hown hK hP 0 rfl rfl 11 (by decide) (hT _ q_683) (fun _ h9 => h9) rfl dX7_codeBy_40 ?_
      refine lv_aload_n hx hb dX7_codeBy_43 rfl (lv_at hl 0 rfl) ?_
      have g_19 : -2147483648 ≤ S 2 0 ∧ S 2 0 < 2147483648 := hR 2 0 (by decide)
      refine va_get (D := D) (ci := 7) (v := .int (zI (S 2 0))) (C := RX7) (T := TX7) (N := 26) hx hb hT inX7 hown hK hP 0 rfl rfl 2 (by decide) (hT _ q_674) (fun _ h9 => h9) rfl dX7_codeBy_44 ?_
      refine g_callSi (As := [.ref (ad 11), .int (zI (S 2 0))]) (rest := []) ⟨hx, hb, hml, hown, hts⟩ (k_X7_codeOf_11 l D cI ad hinj (sA (sA S 11 (shF f_4 (pl n f_4 v) q)) 9 f_17) hR n (S 2 0) (by omega) (by omega)) (cwS 2 hts (gS hsub q_793 q_794 q_8 q_795) rfl rfl rfl hdX7_codeOf ⟨Nat.le_of_ble_eq_true rfl, Nat.le_of_ble_eq_true rfl⟩) (mEb D cI) (mEk D cI (mA ad)) hE hP hS rfl hl.1 rfl (Nat.le_of_ble_eq_true rfl) dX7_codeBy_47 ⟨Nat.le_of_ble_eq_true rfl, Nat.le_of_ble_eq_true rfl⟩ (fun r_20 S_21 H locs hq_22 hP hR hS _ => ?_)
      obtain ⟨hs9, rfl⟩ := hq_22
      obtain rfl := hs9.symm
      refine z_top (b := cdF (shF f_4 (pl n f_4 v) q) n) rfl ?_
      refine lv_goto (tgt := 54) hx hb dX7_codeBy_50 (by decide) ?_
      exact g_iret (S1 := sA (sA S 11 (shF f_4 (pl n f_4 v) q)) 9 f_17) (v := zI (cdF (shF f_4 (pl n f_4 v) q) n)) hx hb hr hlocks hP hR hS (⟨_, _, rfl, by unfold cbF; rw [if_neg (by omega), if_pos (by rw [← pB_c (fdP_c hsh), ← hpe]; exact c_18), ← cdF_c hsh, ← hpe]⟩) dX7_codeBy_54
  · have h9 : True := trivial
    refine z_iconst hx hb dX7_codeBy_17 ?_
    exact g_iret (S1 := sA S 11 f_4) (v := zI (-1)) hx hb hr hlocks hP hR hS (⟨_, S 9, (sA_self _ 9).symm, by unfold cbF; rw [if_pos (by omega)]⟩) dX7_codeBy_18
set_option maxHeartbeats 4000000 in
set_option maxRecDepth 100000 in
theorem k_X7_isFitOrder (l : Launch) (D : va_G) (cI : ClassId) (ad : Nat → Nat) (hinj : mInj ad) (S : St) (hR : RS S) (n : Nat) (hn : S 2 0 = ↑n) (hn7 : n ≤ 7) (k0 : Nat) (x : Int) (hxk : x = ↑k0) (hk0 : k0 < 462) (hc0 : 0 ≤ S 7 k0) (hp : prm n (dgF n (S 7 k0))) : Met l yX7_isFitOrder (Cond.code yX7_isFitOrder cX7_isFitOrder 2 (some .boolean) :: lwT) ({ frames := 4, cells := 0, slots := 0, locals := 89 }) (gPc D (mW cI ad) (mE D cI) S [.ref (ad 26), .int (zI (x))]) (va_Qi (fun (r : Int32) (S' : St) => ∃ f, S' = sA S 10 f ∧ (∀ j, j < n → f j = dgF n (S 7 k0) j) ∧ r = zI (b2 (pB (fitP n (S 5) (dgF n (S 7 k0)))))) (gB D (mW cI ad)) (mA ad)) 0 0 (mA ad) := by
  refine Met.ofW (cc := cX7_isFitOrder) (maxL := 2) (ret := (some .boolean)) (by decide) rfl ?_
  intro p e s m args below meth c s₁ B hml hv
  obtain ⟨rfl, hP, hE⟩ := hv
  have hx := B.exec
  have hb := B.bytes
  have hr := B.returns
  have hts := atoms_spec (ws := Cond.code yX7_isFitOrder cX7_isFitOrder 2 (some .boolean) :: lwT) B.pre
  have hT := fun w (h : w ∈ lwT) => hts w (List.mem_cons_of_mem _ h)
  have hsub : ∀ w ∈ lwT, w ∈ (Cond.code yX7_isFitOrder cX7_isFitOrder 2 (some .boolean) :: lwT) := fun w h => List.mem_cons_of_mem _ h
  have hown : s.vm.findClass RX7 = some m.cls := findClass_of_methodNamed B.named
  have hlocks := B.notSynchronized
  have hK : va_K D vwCl [(cI, .int)] s := hE
  have hS : va_S (mA ad) s.heap s.heap [] := va_S.rf
  have hl := lv_entry ([.ref (ad 26), .int (zI (x))]) (n := 2) (Nat.le_of_ble_eq_true rfl)
  rw [lg_entry_eq]
  generalize (lg_sl ([.ref (ad 26), .int (zI (x))]) ++ List.replicate (2 - (lg_sl ([.ref (ad 26), .int (zI (x))])).length) Slot.unset).toArray = ls at hl ⊢
  have hl : lv_has ls 2 [(0, .ref (ad 26)), (1, .int (zI (x)))] := hl
  refine lv_aload_n hx hb dX7_isFitOrder_0 rfl (lv_at hl 0 rfl) ?_
  refine lv_aload_n hx hb dX7_isFitOrder_1 rfl (lv_at hl 0 rfl) ?_
  refine va_get (D := D) (ci := 7) (v := .ref (ad 7)) (C := RX7) (T := TX7) (N := 26) hx hb hT inX7 hown hK hP 0 rfl rfl 7 (by decide) (hT _ q_679) (fun _ h9 => h9) rfl dX7_isFitOrder_2 ?_
  refine lv_iload_n hx hb dX7_isFitOrder_5 rfl (lv_at hl 1 rfl) ?_
  have g_1 : -2147483648 ≤ S 7 (x).toNat ∧ S 7 (x).toNat < 2147483648 := hR 7 ((x).toNat) (by decide)
  refine z_ald (f := S 7) hx hb hK hP 4 0 rfl rfl (by omega) (by omega) (by decide) (j := (x).toNat) rfl dX7_isFitOrder_6 ?_
  have h8 := hR 7 k0 (by decide)
  refine z_top (b := S 7 k0) (by rw [show x.toNat = k0 by omega]) ?_
  refine lv_aload_n hx hb dX7_isFitOrder_7 rfl (lv_at hl 0 rfl) ?_
  refine va_get (D := D) (ci := 7) (v := .ref (ad 10)) (C := RX7) (T := TX7) (N := 26) hx hb hT inX7 hown hK hP 0 rfl rfl 10 (by decide) (hT _ q_682) (fun _ h9 => h9) rfl dX7_isFitOrder_8 ?_
  refine g_callVv (As := [.int (zI (S 7 k0)), .ref (ad 10)]) (rest := []) ⟨hx, hb, hml, hown, hts⟩ (k_X7_layRow_10 l D cI ad hinj S hR n hn hn7 (S 7 k0) (by omega) (by omega)) (cwV 2 hts (gV hsub q_832 q_834 q_sX7_layRow q_8 q_835) rfl rfl rfl hdX7_layRow ⟨Nat.le_of_ble_eq_true rfl, Nat.le_of_ble_eq_true rfl⟩) (mEb D cI) (mEk D cI (mA ad)) hE (va_recv (ci := 7) (q0 := 0) hK hP rfl rfl) hP hS rfl hl.1 rfl (Nat.le_of_ble_eq_true rfl) dX7_isFitOrder_11 ⟨Nat.le_of_ble_eq_true rfl, Nat.le_of_ble_eq_true rfl⟩ (fun S_3 H locs hq_4 hP hR hS _ => ?_)
  obtain ⟨f_5, rfl, hlr_6⟩ := hq_4
  refine lv_aload_n hx hb dX7_isFitOrder_14 rfl (lv_at hl 0 rfl) ?_
  refine lv_aload_n hx hb dX7_isFitOrder_15 rfl (lv_at hl 0 rfl) ?_
  refine va_get (D := D) (ci := 7) (v := .ref (ad 10)) (C := RX7) (T := TX7) (N := 26) hx hb hT inX7 hown hK hP 0 rfl rfl 10 (by decide) (hT _ q_682) (fun _ h9 => h9) rfl dX7_isFitOrder_16 ?_
  refine g_callVi (As := [.ref (ad 10)]) (rest := []) ⟨hx, hb, hml, hown, hts⟩ (k_X7_isFit_10 l D cI ad hinj (sA S 10 f_5) hR n hn hn7 (prm_c hlr_6 hp)) (cwV 1 hts (gV hsub q_866 q_868 q_sX7_isFit q_8 q_869) rfl rfl rfl hdX7_isFit ⟨Nat.le_of_ble_eq_true rfl, Nat.le_of_ble_eq_true rfl⟩) (mEb D cI) (mEk D cI (mA ad)) hE (va_recv (ci := 7) (q0 := 0) hK hP rfl rfl) hP hS rfl hl.1 rfl (Nat.le_of_ble_eq_true rfl) dX7_isFitOrder_19 ⟨Nat.le_of_ble_eq_true rfl, Nat.le_of_ble_eq_true rfl⟩ (fun r_7 S_8 H locs hq_9 hP hR hS _ => ?_)
  obtain ⟨hs9, rfl⟩ := hq_9
  obtain rfl := hs9.symm
  refine z_top (b := b2 (pB (fitP n (S 5) f_5))) rfl ?_
  exact g_zret (S1 := sA S 10 f_5) (bo := (pB (fitP n (S 5) f_5))) hx hb hr hlocks hP hR hS (⟨_, rfl, hlr_6, by rw [pB_c (fitP_c hlr_6)]⟩) dX7_isFitOrder_22
