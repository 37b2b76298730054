/-! the start: what the tables and the constants give -/
theorem c_pos (cI cZ : ClassId) (ad : Nat → Nat) (S : St) {r : Nat} (h : cAd r = true) : ∃ (k : Nat) (q : Nat × va_E), cRegs[k]? = some r ∧ (cW cI cZ ad S)[k]? = some q ∧ q.1 = ad r := by
  have hm : r ∈ cRegs := by simpa [cAd, cRegs] using h
  obtain ⟨k, hk⟩ := List.getElem?_of_mem hm
  have h1 : ((cW cI cZ ad S).map (fun q => q.1))[k]? = some (ad r) := by rw [cW_map, List.getElem?_map, hk]; rfl
  rw [List.getElem?_map] at h1
  cases h2 : (cW cI cZ ad S)[k]? with
  | none => rw [h2] at h1; cases h1
  | some q => rw [h2] at h1; exact ⟨k, q, hk, h2, Option.some.inj h1⟩
theorem m_pos (cI : ClassId) (ad : Nat → Nat) (S : St) {r : Nat} (h : mAd r = true) : ∃ (k : Nat) (q : Nat × va_E), mRegs[k]? = some r ∧ (mW cI ad S)[k]? = some q ∧ q.1 = ad r := by
  have hm : r ∈ mRegs := by simpa [mAd, mRegs] using h
  obtain ⟨k, hk⟩ := List.getElem?_of_mem hm
  have h1 : ((mW cI ad S).map (fun q => q.1))[k]? = some (ad r) := by rw [mW_map, List.getElem?_map, hk]; rfl
  rw [List.getElem?_map] at h1
  cases h2 : (mW cI ad S)[k]? with
  | none => rw [h2] at h1; cases h1
  | some q => rw [h2] at h1; exact ⟨k, q, hk, h2, Option.some.inj h1⟩
theorem cInj_of {A : Nat → Prop} {cI cZ : ClassId} {ad : Nat → Nat} {S : St} (hD : va_D A (cW cI cZ ad S)) : cInj ad := fun i j hi hj h => by
  obtain ⟨k, q, a1, a2, a3⟩ := c_pos cI cZ ad S hi
  obtain ⟨k', q', b1, b2, b3⟩ := c_pos cI cZ ad S hj
  have hk := hD.1 k k' q q' a2 b2 (by rw [a3, b3]; exact h)
  subst hk
  exact Option.some.inj (a1.symm.trans b1)
theorem mInj_of {A : Nat → Prop} {cI : ClassId} {ad : Nat → Nat} {S : St} (hD : va_D A (mW cI ad S)) : mInj ad := fun i j hi hj h => by
  obtain ⟨k, q, a1, a2, a3⟩ := m_pos cI ad S hi
  obtain ⟨k', q', b1, b2, b3⟩ := m_pos cI ad S hj
  have hk := hD.1 k k' q q' a2 b2 (by rw [a3, b3]; exact h)
  subst hk
  exact Option.some.inj (a1.symm.trans b1)
theorem cA_of {A : Nat → Prop} {cI cZ : ClassId} {ad : Nat → Nat} {S : St} (hD : va_D A (cW cI cZ ad S)) : ∀ q, cA ad q → A q := fun q ⟨r, h1, h2⟩ => by
  obtain ⟨k, x, a1, a2, a3⟩ := c_pos cI cZ ad S h1
  have := hD.2 k x a2
  rw [h2, ← a3]; exact this
theorem mA_of {A : Nat → Prop} {cI : ClassId} {ad : Nat → Nat} {S : St} (hD : va_D A (mW cI ad S)) : ∀ q, mA ad q → A q := fun q ⟨r, h1, h2⟩ => by
  obtain ⟨k, x, a1, a2, a3⟩ := m_pos cI ad S h1
  have := hD.2 k x a2
  rw [h2, ← a3]; exact this
theorem dj_of {A : Nat → Prop} {cI cZ : ClassId} {ad ad2 : Nat → Nat} {S T : St} (hD : va_D A (cW cI cZ ad S ++ mW cI ad2 T)) : ∀ q, cA ad q → ¬ mA ad2 q := fun q ⟨r, h1, h2⟩ ⟨r', g1, g2⟩ => by
  obtain ⟨k, x, a1, a2, a3⟩ := c_pos cI cZ ad S h1
  obtain ⟨k', x', b1, b2, b3⟩ := m_pos cI ad2 T g1
  have hl : (cW cI cZ ad S).length = 27 := rfl
  have hk27 : k < 27 := by rw [← hl]; exact (List.getElem?_eq_some_iff.mp a2).1
  have e1 : (cW cI cZ ad S ++ mW cI ad2 T)[k]? = some x := by rw [List.getElem?_append_left (by omega)]; exact a2
  have e2 : (cW cI cZ ad S ++ mW cI ad2 T)[27 + k']? = some x' := by
    rw [List.getElem?_append_right (by omega), hl, show 27 + k' - 27 = k' by omega]; exact b2
  have := hD.1 k (27 + k') x x' e1 e2 (by rw [a3, b3, ← h2, ← g2])
  omega
theorem va_eqr {args : Array Value} {s : State} {t u : Term} {a : Nat} (h : (Cond.eq t u).before args s = true) (ht : t.eval args s none [] s = some (.ref a)) : u.eval args s none [] s = some (.ref a) := by
  cases hv : u.eval args s none [] s with
  | none => simp [Cond.before, Cond.holds, Cond.value, hv, ht] at h
  | some w =>
    simp only [Cond.before, Cond.holds, Cond.value, hv, ht] at h
    cases w <;> simp_all
set_option maxRecDepth 100000 in
theorem e_strings {args : Array Value} {s : State} (hgv : (Jvm.Cond.and given_1 narrow_1).before args s = true) (hts : ∀ w ∈ lw_tbl, w.before args s = true) : ∃ az av : Nat, vk_R RX2 19 "lbwct" az s ∧ vk_R RX6 251 "lbwct" az s ∧ vk_S 1 [5] [[108, 98, 119, 99, 116]] (fun _ => az) (fun _ => av) (fun q => s.heap.size ≤ q) s s.heap ∧ va_Z "java/lang/String" "COMPACT_STRINGS" "Z" (.int 1) (fun q => s.heap.size ≤ q) s s.heap := by
  have hf := flat_of_before _ hgv
  have hA : ∀ a : Nat, a < s.heap.size → ¬ (fun q => s.heap.size ≤ q) a := fun a h g => Nat.lt_irrefl _ (Nat.lt_of_lt_of_le h g)
  obtain ⟨adK, adV, hSt, hev⟩ := vk_Sof (args := args) (s := s) (N := 1) (tm := fun _ => Term.string "FoldedStrip$Page" 19) (len := [5]) (byt := [[108, 98, 119, 99, 116]]) (A := fun q => s.heap.size ≤ q)
    (fun i hi => by rw [show i = 0 by omega]; decide) (fun i hi => hf _ (by decide +kernel)) (fun i hi => hf _ (by decide +kernel)) (fun i hi => hf _ (by decide +kernel)) (fun i hi => by rw [show i = 0 by omega]; exact hf _ (by decide +kernel))
    (fun i hi j hj => by
      rw [show i = 0 by omega] at hj ⊢
      have hj : j < 5 := hj
      rcases (show j = 0 ∨ j = 1 ∨ j = 2 ∨ j = 3 ∨ j = 4 by omega) with e | e | e | e | e <;> subst e <;> exact hf _ (by decide +kernel))
    (fun i j hi hj h => absurd (show i = j by omega) h) hA
  have h0 := hev 0 (by omega)
  refine ⟨adK 0, adV 0, vk_R.of (A := args) (hts _ (List.mem_append_right _ (List.mem_append_left _ (List.mem_of_getElem? (i := 228) rfl)))) h0, vk_R.of (A := args) (hts _ (List.mem_append_right _ (List.mem_append_right _ (List.mem_append_left _ (List.mem_of_getElem? (i := 172) rfl))))) (va_eqr (hf _ (by decide +kernel)) h0), ⟨fun i hi => ?_, fun i j hi hj _ => by omega⟩, va_Zof (hts _ (List.mem_append_right _ (List.mem_append_right _ (List.mem_append_left _ (List.mem_of_getElem? (i := 2) rfl))))) (hts _ (lwT_sub _ q_9)) (va_eqt (hf _ (by decide +kernel))) hA⟩
  have e : i = 0 := by omega
  subst e
  exact hSt.1 0 hi

set_option maxHeartbeats 4000000 in
set_option maxRecDepth 100000 in
theorem whole_start {p : Program} {e : Env} {s : State} {m : MethodId} {below : List Frame} {meth : Method} {c : Code} (l : Launch) (hflags : l.flags = flags0) {b L : Nat} {xs : Nat → Int32} (hL : L ≤ 2048) (C0 : lw_At p s m meth c b L xs) : W p l e room_1 s m #[Value.ref b] below meth c s.heap [] 0 0 (lw_Z below #[Value.ref b] s) (entryFrame m ([Value.ref b] : List Value).toArray 4) := by
  obtain ⟨hx, hb, hr, hml, hown0, hts, hX, hbl, hlocks, hgv⟩ := C0
  have hown : s.vm.findClass RL = some m.cls := hown0
  have hT := fun w (h : w ∈ lwT) => hts w (lwT_sub w h)
  have hA : ∀ q : Nat, s.heap.size ≤ q → (fun q : Nat => s.heap.size ≤ q) q := fun _ h => h
  obtain ⟨c0, i0, k0⟩ := u_known (C := RX0) (T := TX0) (N := 5) (n := 5) hT inX0 (hT _ q_40)
  obtain ⟨c1, i1, k1⟩ := u_known (C := RX1) (T := TX1) (N := 3) (n := 3) hT inX1 (hT _ q_161)
  obtain ⟨c2, i2, k2⟩ := u_known (C := RX2) (T := TX2) (N := 2) (n := 2) hT inX2 (hT _ q_24)
  obtain ⟨c3, i3, k3⟩ := u_known (C := RX3) (T := TX3) (N := 8) (n := 8) hT inX3 (hT _ q_130)
  obtain ⟨c4, i4, k4⟩ := u_known (C := RX4) (T := TX4) (N := 7) (n := 7) hT inX4 (hT _ q_70)
  obtain ⟨c5, i5, k5⟩ := u_known (C := RX5) (T := TX5) (N := 5) (n := 5) hT inX5 (hT _ q_107)
  obtain ⟨c6, i6, k6⟩ := u_known (C := RX6) (T := TX6) (N := 9) (n := 9) hT inX6 (hT _ q_16)
  obtain ⟨c7, i7, k7⟩ := u_known (C := RX7) (T := TX7) (N := 26) (n := 26) hT inX7 (hT _ q_667)
  obtain ⟨D, hKc⟩ : ∃ D : va_G, ∀ (k : Nat) (q : vw_C), vwCl[k]? = some q → u_Kn s q.1 q.2.1 q.2.2 (D.1 k) (D.2 k) := by
    refine ⟨(fun k => match k with | 0 => c0 | 1 => c1 | 2 => c2 | 3 => c3 | 4 => c4 | 5 => c5 | 6 => c6 | _ => c7, fun k => match k with | 0 => i0 | 1 => i1 | 2 => i2 | 3 => i3 | 4 => i4 | 5 => i5 | 6 => i6 | _ => i7), ?_⟩
    intro k q hq
    match k, hq with
    | 0, hq => cases hq; exact k0
    | 1, hq => cases hq; exact k1
    | 2, hq => cases hq; exact k2
    | 3, hq => cases hq; exact k3
    | 4, hq => cases hq; exact k4
    | 5, hq => cases hq; exact k5
    | 6, hq => cases hq; exact k6
    | 7, hq => cases hq; exact k7
    | k + 8, hq => simp [vwCl] at hq
  obtain ⟨cI, kI, mI, f1, f2, f3⟩ := Cond.arrayClass_spec (hT _ q_38)
  obtain ⟨cZ, kZ, mZ, g1, g2, g3⟩ := Cond.arrayClass_spec (hT _ q_105)
  have hK : va_K D vwCl [(cI, .int), (cZ, .boolean)] s := ⟨hKc, fun k q h => by
    match k, h with
    | 0, h => cases h; exact ⟨fun n z => ⟨fun k h => (by cases h), kI, f2, mI, f3⟩, f1⟩
    | 1, h => cases h; exact ⟨fun n z => ⟨fun k h => (by cases h), kZ, g2, mZ, g3⟩, g1⟩
    | k + 2, h => simp at h⟩
  obtain ⟨az, av, hz1, hz2, hz3, hz4⟩ := e_strings hgv hts
  have hw2 : va_Nw (.methodLinkNest RX6 9 yX2_init RX6) s := va_Nw.of rfl (hts _ (List.mem_append_right _ (List.mem_append_left _ (List.mem_of_getElem? (i := 25) rfl))))
  have hw0 : va_Nw (.methodLinkNest RX6 18 yX0_init RX6) s := va_Nw.of rfl (hts _ (List.mem_append_right _ (List.mem_append_left _ (List.mem_of_getElem? (i := 41) rfl))))
  have hw4 : va_Nw (.methodLinkNest RX6 25 yX4_init RX6) s := va_Nw.of rfl (hts _ (List.mem_append_right _ (List.mem_append_left _ (List.mem_of_getElem? (i := 71) rfl))))
  have hwK : va_Nw (.methodLinkNest RX5 50 yX6_isOfKind RX6) s := va_Nw.of rfl (hts _ (List.mem_append_right _ (List.mem_append_right _ (List.mem_append_left _ (List.mem_of_getElem? (i := 123) rfl)))))
  have hwT : va_Nw (.methodLinkNest RX5 68 yX6_thickness RX6) s := va_Nw.of rfl (hts _ (List.mem_append_right _ (List.mem_append_right _ (List.mem_append_left _ (List.mem_of_getElem? (i := 147) rfl)))))
  have hS : va_S (fun q : Nat => s.heap.size ≤ q) s.heap s.heap [] := va_S.rf
  have hP : va_P D vwCl [] s.heap := fun k q h => by simp at h
  have hD : va_D (fun q : Nat => s.heap.size ≤ q) [] := ⟨fun i j p q h => by simp at h, fun k q h => by simp at h⟩
  have hl := lv_entry ([.ref b]) (n := 4) (Nat.le_of_ble_eq_true rfl)
  rw [lg_entry_eq]
  generalize (lg_sl ([.ref b]) ++ List.replicate (4 - (lg_sl ([.ref b])).length) Slot.unset).toArray = ls at hl ⊢
  have hl : lv_has ls 4 [(0, .ref b)] := hl
  refine va_new (ci := 6) (fs := [.null, .null, .null, .null, .null, .null, .null, .int (zI 0), .int (zI 0)]) (C := RX6) (T := TX6) (N := 9) hx hb hT inX6 tyX6 tyX6_ok hown (hT _ q_15) (hT _ q_16) (hT _ q_1) hK hP hD hS hA rfl (fun j hj => by rcases (show j = 0 ∨ j = 1 ∨ j = 2 ∨ j = 3 ∨ j = 4 ∨ j = 5 ∨ j = 6 ∨ j = 7 ∨ j = 8 by omega) with rfl | rfl | rfl | rfl | rfl | rfl | rfl | rfl | rfl <;> rfl) (Nat.le_of_ble_eq_true rfl) (Nat.le_of_ble_eq_true rfl) dL_law_0 (fun q0 H hP hD hS => ?_)
  have hP : va_P D vwCl [(q0, .inr (6, [.null, .null, .null, .null, .null, .null, .null, .int (zI 0), .int (zI 0)]))] H := hP
  have hD : va_D (fun q : Nat => s.heap.size ≤ q) [(q0, .inr (6, [.null, .null, .null, .null, .null, .null, .null, .int (zI 0), .int (zI 0)]))] := hD
  refine W.widen (k := 1) (n := 9) (Nat.le_of_ble_eq_true rfl) (Nat.le_of_ble_eq_true rfl) ?_
  refine lv_dup hx hb dL_law_3 rfl ?_
  refine i_run (b := q0) (As := []) (w0 := [(q0, .inr (6, [.null, .null, .null, .null, .null, .null, .null, .int (zI 0), .int (zI 0)]))]) (wr := []) (Wf := fun ad : Nat → Nat => cW cI cZ ad cS0) (va_runI (As := []) (rest := [.ref q0]) ⟨hx, hb, hml, hown, hts⟩ (i_X6 l D cI cZ q0 H.size) (cwI 0 hts (gI lwT_sub q_19) rfl rfl rfl (hT _ q_1) (hT _ q_17) (hT _ q_18) rfl hdX6_init.2 ⟨Nat.le_of_ble_eq_true rfl, Nat.le_of_ble_eq_true rfl⟩) ⟨fun a U g mk q => ⟨q.1, q.2.1, q.2.2.1, va_K.moved (u := U) (U := U.calling g mk a) (Vm.Alike.refl U.vm) q.2.2.2.1, va_Nw.same (u := U) rfl rfl q.2.2.2.2.1, va_Nw.same (u := U) rfl rfl q.2.2.2.2.2.1, va_Nw.same (u := U) rfl rfl q.2.2.2.2.2.2⟩, fun U hU hw => ⟨rfl, by rw [hU], by rw [hU]; exact hP, va_K.moved hw.alike hK, va_Nw.warmM hw hw2, va_Nw.warmM hw hw0, va_Nw.warmM hw hw4⟩⟩ rfl rfl hl.1 rfl (lv_room (Nat.le_of_ble_eq_true rfl)) dL_law_4 ⟨Nat.le_of_ble_eq_true rfl, Nat.le_of_ble_eq_true rfl⟩) hP hD hS hA [0] [] rfl rfl (by decide) (by decide) (fun ad H locs hq hP hD hS => ?_)
  have hP : va_P D vwCl (cW cI cZ ad cS0) H := hP
  have hD : va_D (fun q : Nat => s.heap.size ≤ q) (cW cI cZ ad cS0) := hD
  rw [← hq]
  refine W.widen (k := 27) (n := 7360) (Nat.le_of_ble_eq_true rfl) (Nat.le_of_ble_eq_true rfl) ?_
  refine lv_astore_n (lv' := [(1, .ref (ad 40)), (0, .ref b)]) hx hb dL_law_7 rfl hl (by decide) rfl (fun ls hl => ?_)
  refine va_new (ci := 7) (fs := [.null, .int (zI 0), .int (zI 0), .int (zI 0), .int (zI 0), .null, .null, .null, .int (zI 0), .null, .null, .null, .null, .null, .int (zI 0), .int (zI 0), .null, .int (zI 0), .null, .int (zI 0), .int (zI 0), .int (zI 0), .null, .null, .null, .long (zL 0)]) (C := RX7) (T := TX7) (N := 26) hx hb hT inX7 tyX7 tyX7_ok hown (hT _ q_666) (hT _ q_667) (hT _ q_8) hK hP hD hS hA rfl (fun j hj => by rcases (show j = 0 ∨ j = 1 ∨ j = 2 ∨ j = 3 ∨ j = 4 ∨ j = 5 ∨ j = 6 ∨ j = 7 ∨ j = 8 ∨ j = 9 ∨ j = 10 ∨ j = 11 ∨ j = 12 ∨ j = 13 ∨ j = 14 ∨ j = 15 ∨ j = 16 ∨ j = 17 ∨ j = 18 ∨ j = 19 ∨ j = 20 ∨ j = 21 ∨ j = 22 ∨ j = 23 ∨ j = 24 ∨ j = 25 by omega) with rfl | rfl | rfl | rfl | rfl | rfl | rfl | rfl | rfl | rfl | rfl | rfl | rfl | rfl | rfl | rfl | rfl | rfl | rfl | rfl | rfl | rfl | rfl | rfl | rfl | rfl <;> rfl) (Nat.le_of_ble_eq_true rfl) (Nat.le_of_ble_eq_true rfl) dL_law_8 (fun q1 H hP hD hS => ?_)
  refine W.widen (k := 28) (n := 7386) (Nat.le_of_ble_eq_true rfl) (Nat.le_of_ble_eq_true rfl) ?_
  refine lv_dup hx hb dL_law_11 rfl ?_
  refine i_callI (As := []) (rest := [.ref q1]) (w0 := [(q1, .inr (7, [.null, .int (zI 0), .int (zI 0), .int (zI 0), .int (zI 0), .null, .null, .null, .int (zI 0), .null, .null, .null, .null, .null, .int (zI 0), .int (zI 0), .null, .int (zI 0), .null, .int (zI 0), .int (zI 0), .int (zI 0), .null, .null, .null, .long (zL 0)]))]) (wr := cW cI cZ ad cS0) (Wf := fun ad : Nat → Nat => mW cI ad mS0) ⟨hx, hb, hml, hown, hts⟩ (i_X7 l D cI cZ q1 H.size) (cwI 0 hts (gI lwT_sub q_670) rfl rfl rfl (hT _ q_8) (hT _ q_668) (hT _ q_669) rfl hdX7_init.2 ⟨Nat.le_of_ble_eq_true rfl, Nat.le_of_ble_eq_true rfl⟩) hK hP hD hS hA [27] [0, 1, 2, 3, 4, 5, 6, 7, 8, 9, 10, 11, 12, 13, 14, 15, 16, 17, 18, 19, 20, 21, 22, 23, 24, 25, 26] rfl rfl rfl (by decide) (by decide) rfl hl.1 rfl (Nat.le_of_ble_eq_true rfl) dL_law_12 ⟨Nat.le_of_ble_eq_true rfl, Nat.le_of_ble_eq_true rfl⟩ (fun ad2 H locs hq hP hD hS => ?_)
  rw [← hq]
  refine W.widen (k := 600000) (n := 7302249) (Nat.le_of_ble_eq_true rfl) (Nat.le_of_ble_eq_true rfl) ?_
  refine lv_astore_n (lv' := [(2, .ref (ad2 26)), (1, .ref (ad 40)), (0, .ref b)]) hx hb dL_law_15 rfl hl (by decide) rfl (fun ls hl => ?_)
  refine z_iconst hx hb dL_law_16 ?_
  refine lv_istore_n (lv' := [(3, .int (zI 0)), (2, .ref (ad2 26)), (1, .ref (ad 40)), (0, .ref b)]) hx hb dL_law_17 rfl hl (by decide) rfl (fun ls hl => ?_)
  have hPc : va_P D vwCl (cW cI cZ ad cS0) H := hP.sub (ws' := cW cI cZ ad cS0) [0, 1, 2, 3, 4, 5, 6, 7, 8, 9, 10, 11, 12, 13, 14, 15, 16, 17, 18, 19, 20, 21, 22, 23, 24, 25, 26] rfl
  have hPm : va_P D vwCl (mW cI ad2 mS0) H := hP.sub (ws' := mW cI ad2 mS0) [27, 28, 29, 30, 31, 32, 33, 34, 35, 36, 37, 38, 39, 40, 41] rfl
  have hDc : va_D (fun q : Nat => s.heap.size ≤ q) (cW cI cZ ad cS0) := hD.sub (ws' := cW cI cZ ad cS0) [0, 1, 2, 3, 4, 5, 6, 7, 8, 9, 10, 11, 12, 13, 14, 15, 16, 17, 18, 19, 20, 21, 22, 23, 24, 25, 26] (by decide) rfl
  have hDm : va_D (fun q : Nat => s.heap.size ≤ q) (mW cI ad2 mS0) := hD.sub (ws' := mW cI ad2 mS0) [27, 28, 29, 30, 31, 32, 33, 34, 35, 36, 37, 38, 39, 40, 41] (by decide) rfl
  have hac := cA_of hDc
  have hEc : cE D cI cZ ad az av s := ⟨hK, hwK, hwT, hz1, hz2, hz3.narrow hac, hz4.narrow hac⟩
  exact law_loop ⟨hx, hb, hml, hown, hts, hX, hbl, hL, hEc, hK.sub [0] rfl, cInj_of hDc, mInj_of hDm, hac, mA_of hDm, dj_of hD⟩ hr hlocks (L + 1) 0 cS0 mS0 H locs ls (by omega) (by omega) J_0 ⟨hPc, hPm, RS_0 25, RS_0 19, hS⟩ (lv_sub hl [3, 2, 1, 0] rfl)
