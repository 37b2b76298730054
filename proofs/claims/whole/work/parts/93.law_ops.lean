set_option maxHeartbeats 4000000 in
set_option maxRecDepth 100000 in
theorem o_letter {p : Program} {l : Launch} {e : Env} {s : State} {m : MethodId} {below : List Frame} {meth : Method} {c : Code} {b L : Nat} {xs : Nat → Int32} {D : va_G} {cI cZ : ClassId} {ad ad2 : Nat → Nat} {az av : Nat} (K : LC p s m c b L xs D cI cZ ad ad2 az av) {i : Nat} (hi : i + 4 ≤ L) {C M : St} (hJ : JJ i C M) {H : Heap} {locs : List Loc} {ls : Array Slot} (hI : LI D cI cZ ad ad2 s C M H locs) (hl : lv_has ls 4 [(0, .ref b), (1, .ref (ad 40)), (2, .ref (ad2 26)), (3, .int (zI ↑i))]) (cont : ∀ (C M : St) (H : Heap) (locs : List Loc), JJ (i + 4) C M → LI D cI cZ ad ad2 s C M H locs → LG p l e s m below meth c b H locs (F0 m 888 ls [])) : LG p l e s m below meth c b H locs (F0 m 164 ls []) := by
  obtain ⟨hx, hb, hml, hown, hts, hX, hbl, hL, hEc, hEm, hic, him, hac, ham, hdj⟩ := K
  obtain ⟨n, sz, k0, m9, hJ⟩ := hJ
  obtain ⟨⟨hc1, hm1, hsz9⟩, hpg, hnn, hn7, hT0, hV0, hT9, hV9, ⟨hk8, hk0⟩, ⟨hm2, hst, h80, hp⟩, hse, ⟨hm15, hsg⟩⟩ := J_use hJ
  obtain ⟨hd, -, hk, hO, htt, hs⟩ := J_row hJ
  have hpa := hJ.2.2.2.2.2.2.2.2
  obtain ⟨hPc, hPm, hRc, hRm, hS⟩ := hI
  have hKc : va_K D vwCl [(cI, .int), (cZ, .boolean)] s := hEc.1
  have hKm : va_K D vwCl [(cI, .int)] s := hEm
  unfold LG at cont ⊢
  refine lv_aload_n hx hb dL_law_164 rfl (lv_at hl 1 rfl) ?_
  refine lv_aload_n hx hb dL_law_165 rfl (lv_at hl 0 rfl) ?_
  refine lv_iload_n hx hb dL_law_166 rfl (lv_at hl 3 rfl) ?_
  refine z_iconst hx hb dL_law_167 ?_
  refine z_iadd hx hb dL_law_168 ?_
  refine l_sld hx hb hX hbl hS hL (j := i + 1) (by omega) (by omega) dL_law_169 ?_
  refine h_callVi (As := [.int (zI (xs (i + 1)).toInt)]) (rest := []) ⟨hx, hb, hml, hown, hts⟩ (k_X6_letter l D cI cZ ad az av hic C hRc (xs (i + 1)).toInt (x_1 _) (x_2 _) sz hc1 hsz9) (cwV 1 hts (gV lwT_sub q_204 q_205 q_206 q_1 q_207) rfl rfl rfl hdX6_letter ⟨Nat.le_of_ble_eq_true rfl, Nat.le_of_ble_eq_true rfl⟩) (cEb D cI cZ ad az av) (cEk D cI cZ ad az av) hEc (va_recv (ci := 6) (q0 := 0) hKc hPc rfl rfl) hPc hS (fun _ h => h) hac rfl hl.1 rfl (Nat.le_of_ble_eq_true rfl) dL_law_170 ⟨Nat.le_of_ble_eq_true rfl, Nat.le_of_ble_eq_true rfl⟩ (fun r C9 H locs hqc hPc hRc hS hk9 => ?_)
  have hPm := keepM hdj hPm hk9
  refine lv_aload_n hx hb dL_law_173 rfl (lv_at hl 2 rfl) ?_
  refine lv_aload_n hx hb dL_law_174 rfl (lv_at hl 0 rfl) ?_
  refine lv_iload_n hx hb dL_law_175 rfl (lv_at hl 3 rfl) ?_
  refine z_iconst hx hb dL_law_176 ?_
  refine z_iadd hx hb dL_law_177 ?_
  refine l_sld hx hb hX hbl hS hL (j := i + 1) (by omega) (by omega) dL_law_178 ?_
  refine h_callVi (As := [.int (zI (xs (i + 1)).toInt)]) (rest := [.int r]) ⟨hx, hb, hml, hown, hts⟩ (k_X7_letter l D cI ad2 him M hRm (xs (i + 1)).toInt (x_1 _) (x_2 _) sz hm1 hsz9) (cwV 1 hts (gV lwT_sub q_751 q_752 q_753 q_8 q_754) rfl rfl rfl hdX7_letter ⟨Nat.le_of_ble_eq_true rfl, Nat.le_of_ble_eq_true rfl⟩) (mEb D cI) (mEk D cI (mA ad2)) hEm (va_recv (ci := 7) (q0 := 0) hKm hPm rfl rfl) hPm hS (fun _ h => h) ham rfl hl.1 rfl (Nat.le_of_ble_eq_true rfl) dL_law_179 ⟨Nat.le_of_ble_eq_true rfl, Nat.le_of_ble_eq_true rfl⟩ (fun r9 M9 H locs hqm hPm hRm hS hk9 => ?_)
  have hPc := keepC hdj hPc hk9
  obtain ⟨he, hJ9⟩ := s_letter hJ hqc hqm
  subst he
  refine lv_icmp_eq (tgt := 888) hx hb dL_law_182 (by decide) (fun _ => ?_) (fun h => absurd rfl h)
  exact cont _ _ _ _ hJ9 ⟨hPc, hPm, hRc, hRm, hS⟩
set_option maxHeartbeats 4000000 in
set_option maxRecDepth 100000 in
theorem o_blank {p : Program} {l : Launch} {e : Env} {s : State} {m : MethodId} {below : List Frame} {meth : Method} {c : Code} {b L : Nat} {xs : Nat → Int32} {D : va_G} {cI cZ : ClassId} {ad ad2 : Nat → Nat} {az av : Nat} (K : LC p s m c b L xs D cI cZ ad ad2 az av) {i : Nat} (hi : i + 4 ≤ L) {C M : St} (hJ : JJ i C M) {H : Heap} {locs : List Loc} {ls : Array Slot} (hI : LI D cI cZ ad ad2 s C M H locs) (hl : lv_has ls 4 [(0, .ref b), (1, .ref (ad 40)), (2, .ref (ad2 26)), (3, .int (zI ↑i))]) (cont : ∀ (C M : St) (H : Heap) (locs : List Loc), JJ (i + 4) C M → LI D cI cZ ad ad2 s C M H locs → LG p l e s m below meth c b H locs (F0 m 888 ls [])) : LG p l e s m below meth c b H locs (F0 m 187 ls []) := by
  obtain ⟨hx, hb, hml, hown, hts, hX, hbl, hL, hEc, hEm, hic, him, hac, ham, hdj⟩ := K
  obtain ⟨n, sz, k0, m9, hJ⟩ := hJ
  obtain ⟨⟨hc1, hm1, hsz9⟩, hpg, hnn, hn7, hT0, hV0, hT9, hV9, ⟨hk8, hk0⟩, ⟨hm2, hst, h80, hp⟩, hse, ⟨hm15, hsg⟩⟩ := J_use hJ
  obtain ⟨hd, -, hk, hO, htt, hs⟩ := J_row hJ
  have hpa := hJ.2.2.2.2.2.2.2.2
  obtain ⟨hPc, hPm, hRc, hRm, hS⟩ := hI
  have hKc : va_K D vwCl [(cI, .int), (cZ, .boolean)] s := hEc.1
  have hKm : va_K D vwCl [(cI, .int)] s := hEm
  unfold LG at cont ⊢
  refine lv_aload_n hx hb dL_law_187 rfl (lv_at hl 1 rfl) ?_
  refine h_callVi (As := []) (rest := []) ⟨hx, hb, hml, hown, hts⟩ (k_X6_blank l D cI cZ ad az av hic C hRc ) (cwV 0 hts (gV lwT_sub q_212 q_213 q_214 q_1 q_215) rfl rfl rfl hdX6_blank ⟨Nat.le_of_ble_eq_true rfl, Nat.le_of_ble_eq_true rfl⟩) (cEb D cI cZ ad az av) (cEk D cI cZ ad az av) hEc (va_recv (ci := 6) (q0 := 0) hKc hPc rfl rfl) hPc hS (fun _ h => h) hac rfl hl.1 rfl (Nat.le_of_ble_eq_true rfl) dL_law_188 ⟨Nat.le_of_ble_eq_true rfl, Nat.le_of_ble_eq_true rfl⟩ (fun r C9 H locs hqc hPc hRc hS hk9 => ?_)
  have hPm := keepM hdj hPm hk9
  refine lv_aload_n hx hb dL_law_191 rfl (lv_at hl 2 rfl) ?_
  refine h_callVi (As := []) (rest := [.int r]) ⟨hx, hb, hml, hown, hts⟩ (k_X7_blank l D cI ad2 him M hRm ) (cwV 0 hts (gV lwT_sub q_759 q_760 q_761 q_8 q_762) rfl rfl rfl hdX7_blank ⟨Nat.le_of_ble_eq_true rfl, Nat.le_of_ble_eq_true rfl⟩) (mEb D cI) (mEk D cI (mA ad2)) hEm (va_recv (ci := 7) (q0 := 0) hKm hPm rfl rfl) hPm hS (fun _ h => h) ham rfl hl.1 rfl (Nat.le_of_ble_eq_true rfl) dL_law_192 ⟨Nat.le_of_ble_eq_true rfl, Nat.le_of_ble_eq_true rfl⟩ (fun r9 M9 H locs hqm hPm hRm hS hk9 => ?_)
  have hPc := keepC hdj hPc hk9
  obtain ⟨he, hJ9⟩ := s_blank hJ hqc hqm
  subst he
  refine lv_icmp_eq (tgt := 888) hx hb dL_law_195 (by decide) (fun _ => ?_) (fun h => absurd rfl h)
  exact cont _ _ _ _ hJ9 ⟨hPc, hPm, hRc, hRm, hS⟩
set_option maxHeartbeats 4000000 in
set_option maxRecDepth 100000 in
theorem o_fault {p : Program} {l : Launch} {e : Env} {s : State} {m : MethodId} {below : List Frame} {meth : Method} {c : Code} {b L : Nat} {xs : Nat → Int32} {D : va_G} {cI cZ : ClassId} {ad ad2 : Nat → Nat} {az av : Nat} (K : LC p s m c b L xs D cI cZ ad ad2 az av) {i : Nat} (hi : i + 4 ≤ L) {C M : St} (hJ : JJ i C M) {H : Heap} {locs : List Loc} {ls : Array Slot} (hI : LI D cI cZ ad ad2 s C M H locs) (hl : lv_has ls 4 [(0, .ref b), (1, .ref (ad 40)), (2, .ref (ad2 26)), (3, .int (zI ↑i))]) (cont : ∀ (C M : St) (H : Heap) (locs : List Loc), JJ (i + 4) C M → LI D cI cZ ad ad2 s C M H locs → LG p l e s m below meth c b H locs (F0 m 888 ls [])) : LG p l e s m below meth c b H locs (F0 m 200 ls []) := by
  obtain ⟨hx, hb, hml, hown, hts, hX, hbl, hL, hEc, hEm, hic, him, hac, ham, hdj⟩ := K
  obtain ⟨n, sz, k0, m9, hJ⟩ := hJ
  obtain ⟨⟨hc1, hm1, hsz9⟩, hpg, hnn, hn7, hT0, hV0, hT9, hV9, ⟨hk8, hk0⟩, ⟨hm2, hst, h80, hp⟩, hse, ⟨hm15, hsg⟩⟩ := J_use hJ
  obtain ⟨hd, -, hk, hO, htt, hs⟩ := J_row hJ
  have hpa := hJ.2.2.2.2.2.2.2.2
  obtain ⟨hPc, hPm, hRc, hRm, hS⟩ := hI
  have hKc : va_K D vwCl [(cI, .int), (cZ, .boolean)] s := hEc.1
  have hKm : va_K D vwCl [(cI, .int)] s := hEm
  unfold LG at cont ⊢
  refine lv_aload_n hx hb dL_law_200 rfl (lv_at hl 1 rfl) ?_
  refine h_callVi (As := []) (rest := []) ⟨hx, hb, hml, hown, hts⟩ (k_X6_fault l D cI cZ ad az av hic C hRc sz hc1 hsz9 hpg) (cwV 0 hts (gV lwT_sub q_216 q_217 q_218 q_1 q_219) rfl rfl rfl hdX6_fault ⟨Nat.le_of_ble_eq_true rfl, Nat.le_of_ble_eq_true rfl⟩) (cEb D cI cZ ad az av) (cEk D cI cZ ad az av) hEc (va_recv (ci := 6) (q0 := 0) hKc hPc rfl rfl) hPc hS (fun _ h => h) hac rfl hl.1 rfl (Nat.le_of_ble_eq_true rfl) dL_law_201 ⟨Nat.le_of_ble_eq_true rfl, Nat.le_of_ble_eq_true rfl⟩ (fun r C9 H locs hqc hPc hRc hS hk9 => ?_)
  have hPm := keepM hdj hPm hk9
  refine lv_aload_n hx hb dL_law_204 rfl (lv_at hl 2 rfl) ?_
  refine h_callVi (As := []) (rest := [.int r]) ⟨hx, hb, hml, hown, hts⟩ (k_X7_fault l D cI ad2 him M hRm sz hm1 hsz9) (cwV 0 hts (gV lwT_sub q_763 q_764 q_765 q_8 q_766) rfl rfl rfl hdX7_fault ⟨Nat.le_of_ble_eq_true rfl, Nat.le_of_ble_eq_true rfl⟩) (mEb D cI) (mEk D cI (mA ad2)) hEm (va_recv (ci := 7) (q0 := 0) hKm hPm rfl rfl) hPm hS (fun _ h => h) ham rfl hl.1 rfl (Nat.le_of_ble_eq_true rfl) dL_law_205 ⟨Nat.le_of_ble_eq_true rfl, Nat.le_of_ble_eq_true rfl⟩ (fun r9 M9 H locs hqm hPm hRm hS hk9 => ?_)
  have hPc := keepC hdj hPc hk9
  obtain ⟨he, hJ9⟩ := s_fault hJ hqc hqm
  subst he
  refine lv_icmp_eq (tgt := 888) hx hb dL_law_208 (by decide) (fun _ => ?_) (fun h => absurd rfl h)
  exact cont _ _ _ _ hJ9 ⟨hPc, hPm, hRc, hRm, hS⟩
set_option maxHeartbeats 4000000 in
set_option maxRecDepth 100000 in
theorem o_strip {p : Program} {l : Launch} {e : Env} {s : State} {m : MethodId} {below : List Frame} {meth : Method} {c : Code} {b L : Nat} {xs : Nat → Int32} {D : va_G} {cI cZ : ClassId} {ad ad2 : Nat → Nat} {az av : Nat} (K : LC p s m c b L xs D cI cZ ad ad2 az av) {i : Nat} (hi : i + 4 ≤ L) {C M : St} (hJ : JJ i C M) {H : Heap} {locs : List Loc} {ls : Array Slot} (hI : LI D cI cZ ad ad2 s C M H locs) (hl : lv_has ls 4 [(0, .ref b), (1, .ref (ad 40)), (2, .ref (ad2 26)), (3, .int (zI ↑i))]) (cont : ∀ (C M : St) (H : Heap) (locs : List Loc), JJ (i + 4) C M → LI D cI cZ ad ad2 s C M H locs → LG p l e s m below meth c b H locs (F0 m 888 ls [])) : LG p l e s m below meth c b H locs (F0 m 213 ls []) := by
  obtain ⟨hx, hb, hml, hown, hts, hX, hbl, hL, hEc, hEm, hic, him, hac, ham, hdj⟩ := K
  obtain ⟨n, sz, k0, m9, hJ⟩ := hJ
  obtain ⟨⟨hc1, hm1, hsz9⟩, hpg, hnn, hn7, hT0, hV0, hT9, hV9, ⟨hk8, hk0⟩, ⟨hm2, hst, h80, hp⟩, hse, ⟨hm15, hsg⟩⟩ := J_use hJ
  obtain ⟨hd, -, hk, hO, htt, hs⟩ := J_row hJ
  have hpa := hJ.2.2.2.2.2.2.2.2
  obtain ⟨hPc, hPm, hRc, hRm, hS⟩ := hI
  have hKc : va_K D vwCl [(cI, .int), (cZ, .boolean)] s := hEc.1
  have hKm : va_K D vwCl [(cI, .int)] s := hEm
  unfold LG at cont ⊢
  refine lv_aload_n hx hb dL_law_213 rfl (lv_at hl 1 rfl) ?_
  refine h_callVi (As := []) (rest := []) ⟨hx, hb, hml, hown, hts⟩ (k_X6_strip l D cI cZ ad az av hic C hRc sz hc1 hsz9 hpg n (nb n) (tb n) hT0 hV0 rfl rfl (by have := hJ.2.2.2.2.2.2.1; unfold JR at this; omega)) (cwV 0 hts (gV lwT_sub q_316 q_317 q_318 q_1 q_319) rfl rfl rfl hdX6_strip ⟨Nat.le_of_ble_eq_true rfl, Nat.le_of_ble_eq_true rfl⟩) (cEb D cI cZ ad az av) (cEk D cI cZ ad az av) hEc (va_recv (ci := 6) (q0 := 0) hKc hPc rfl rfl) hPc hS (fun _ h => h) hac rfl hl.1 rfl (Nat.le_of_ble_eq_true rfl) dL_law_214 ⟨Nat.le_of_ble_eq_true rfl, Nat.le_of_ble_eq_true rfl⟩ (fun r C9 H locs hqc hPc hRc hS hk9 => ?_)
  have hPm := keepM hdj hPm hk9
  refine lv_aload_n hx hb dL_law_217 rfl (lv_at hl 2 rfl) ?_
  refine h_callVi (As := []) (rest := [.int r]) ⟨hx, hb, hml, hown, hts⟩ (k_X7_strip l D cI ad2 him M hRm sz hm1 hsz9 (by have := hJ.2.2.2.2.2.2.1; unfold JR at this; omega) (fct sz) (unL sz) (fun q1 q2 => ⟨run_tb ⟨q1, q2⟩, by rw [pfx_tb ⟨q1, q2⟩, List.length_map]; exact (OT_tb ⟨q1, q2⟩).1⟩)) (cwV 0 hts (gV lwT_sub q_774 q_775 q_776 q_8 q_777) rfl rfl rfl hdX7_strip ⟨Nat.le_of_ble_eq_true rfl, Nat.le_of_ble_eq_true rfl⟩) (mEb D cI) (mEk D cI (mA ad2)) hEm (va_recv (ci := 7) (q0 := 0) hKm hPm rfl rfl) hPm hS (fun _ h => h) ham rfl hl.1 rfl (Nat.le_of_ble_eq_true rfl) dL_law_218 ⟨Nat.le_of_ble_eq_true rfl, Nat.le_of_ble_eq_true rfl⟩ (fun r9 M9 H locs hqm hPm hRm hS hk9 => ?_)
  have hPc := keepC hdj hPc hk9
  obtain ⟨he, hJ9⟩ := s_strip hJ hqc hqm
  subst he
  refine lv_icmp_eq (tgt := 888) hx hb dL_law_221 (by decide) (fun _ => ?_) (fun h => absurd rfl h)
  exact cont _ _ _ _ hJ9 ⟨hPc, hPm, hRc, hRm, hS⟩
set_option maxHeartbeats 4000000 in
set_option maxRecDepth 100000 in
theorem o_leaf {p : Program} {l : Launch} {e : Env} {s : State} {m : MethodId} {below : List Frame} {meth : Method} {c : Code} {b L : Nat} {xs : Nat → Int32} {D : va_G} {cI cZ : ClassId} {ad ad2 : Nat → Nat} {az av : Nat} (K : LC p s m c b L xs D cI cZ ad ad2 az av) {i : Nat} (hi : i + 4 ≤ L) {C M : St} (hJ : JJ i C M) {H : Heap} {locs : List Loc} {ls : Array Slot} (hI : LI D cI cZ ad ad2 s C M H locs) (hl : lv_has ls 4 [(0, .ref b), (1, .ref (ad 40)), (2, .ref (ad2 26)), (3, .int (zI ↑i))]) (cont : ∀ (C M : St) (H : Heap) (locs : List Loc), JJ (i + 4) C M → LI D cI cZ ad ad2 s C M H locs → LG p l e s m below meth c b H locs (F0 m 888 ls [])) : LG p l e s m below meth c b H locs (F0 m 226 ls []) := by
  obtain ⟨hx, hb, hml, hown, hts, hX, hbl, hL, hEc, hEm, hic, him, hac, ham, hdj⟩ := K
  obtain ⟨n, sz, k0, m9, hJ⟩ := hJ
  obtain ⟨⟨hc1, hm1, hsz9⟩, hpg, hnn, hn7, hT0, hV0, hT9, hV9, ⟨hk8, hk0⟩, ⟨hm2, hst, h80, hp⟩, hse, ⟨hm15, hsg⟩⟩ := J_use hJ
  obtain ⟨hd, -, hk, hO, htt, hs⟩ := J_row hJ
  have hpa := hJ.2.2.2.2.2.2.2.2
  obtain ⟨hPc, hPm, hRc, hRm, hS⟩ := hI
  have hKc : va_K D vwCl [(cI, .int), (cZ, .boolean)] s := hEc.1
  have hKm : va_K D vwCl [(cI, .int)] s := hEm
  unfold LG at cont ⊢
  refine lv_aload_n hx hb dL_law_226 rfl (lv_at hl 1 rfl) ?_
  refine lv_aload_n hx hb dL_law_227 rfl (lv_at hl 0 rfl) ?_
  refine lv_iload_n hx hb dL_law_228 rfl (lv_at hl 3 rfl) ?_
  refine z_iconst hx hb dL_law_229 ?_
  refine z_iadd hx hb dL_law_230 ?_
  refine l_sld hx hb hX hbl hS hL (j := i + 1) (by omega) (by omega) dL_law_231 ?_
  refine lv_aload_n hx hb dL_law_232 rfl (lv_at hl 0 rfl) ?_
  refine lv_iload_n hx hb dL_law_233 rfl (lv_at hl 3 rfl) ?_
  refine z_iconst hx hb dL_law_234 ?_
  refine z_iadd hx hb dL_law_235 ?_
  refine l_sld hx hb hX hbl hS hL (j := i + 2) (by omega) (by omega) dL_law_236 ?_
  refine h_callVi (As := [.int (zI (xs (i + 1)).toInt), .int (zI (xs (i + 2)).toInt)]) (rest := []) ⟨hx, hb, hml, hown, hts⟩ (k_X6_leaf l D cI cZ ad az av hic C hRc n (nb n) (M 7) hT9 hV9 k0 hk8 hk0 (xs (i + 1)).toInt (xs (i + 2)).toInt (x_1 _) (x_2 _) (x_1 _) (x_2 _)) (cwV 2 hts (gV lwT_sub q_391 q_392 q_393 q_1 q_394) rfl rfl rfl hdX6_leaf ⟨Nat.le_of_ble_eq_true rfl, Nat.le_of_ble_eq_true rfl⟩) (cEb D cI cZ ad az av) (cEk D cI cZ ad az av) hEc (va_recv (ci := 6) (q0 := 0) hKc hPc rfl rfl) hPc hS (fun _ h => h) hac rfl hl.1 rfl (Nat.le_of_ble_eq_true rfl) dL_law_237 ⟨Nat.le_of_ble_eq_true rfl, Nat.le_of_ble_eq_true rfl⟩ (fun r C9 H locs hqc hPc hRc hS hk9 => ?_)
  have hPm := keepM hdj hPm hk9
  refine lv_aload_n hx hb dL_law_240 rfl (lv_at hl 2 rfl) ?_
  refine lv_aload_n hx hb dL_law_241 rfl (lv_at hl 0 rfl) ?_
  refine lv_iload_n hx hb dL_law_242 rfl (lv_at hl 3 rfl) ?_
  refine z_iconst hx hb dL_law_243 ?_
  refine z_iadd hx hb dL_law_244 ?_
  refine l_sld hx hb hX hbl hS hL (j := i + 1) (by omega) (by omega) dL_law_245 ?_
  refine lv_aload_n hx hb dL_law_246 rfl (lv_at hl 0 rfl) ?_
  refine lv_iload_n hx hb dL_law_247 rfl (lv_at hl 3 rfl) ?_
  refine z_iconst hx hb dL_law_248 ?_
  refine z_iadd hx hb dL_law_249 ?_
  refine l_sld hx hb hX hbl hS hL (j := i + 2) (by omega) (by omega) dL_law_250 ?_
  refine h_callVi (As := [.int (zI (xs (i + 1)).toInt), .int (zI (xs (i + 2)).toInt)]) (rest := [.int r]) ⟨hx, hb, hml, hown, hts⟩ (k_X7_leaf l D cI ad2 him M hRm n hm2 hn7 (nb n) k0 hst h80 hp (xs (i + 1)).toInt (xs (i + 2)).toInt (x_1 _) (x_2 _) (x_1 _) (x_2 _)) (cwV 2 hts (gV lwT_sub q_914 q_915 q_916 q_8 q_917) rfl rfl rfl hdX7_leaf ⟨Nat.le_of_ble_eq_true rfl, Nat.le_of_ble_eq_true rfl⟩) (mEb D cI) (mEk D cI (mA ad2)) hEm (va_recv (ci := 7) (q0 := 0) hKm hPm rfl rfl) hPm hS (fun _ h => h) ham rfl hl.1 rfl (Nat.le_of_ble_eq_true rfl) dL_law_251 ⟨Nat.le_of_ble_eq_true rfl, Nat.le_of_ble_eq_true rfl⟩ (fun r9 M9 H locs hqm hPm hRm hS hk9 => ?_)
  have hPc := keepC hdj hPc hk9
  obtain ⟨hM9, hr9⟩ := hqm
  have hmk : mK M M9 := by rw [hM9]; exact mK_rf _
  obtain ⟨he, hJ9⟩ := s_eq hJ hmk hqc hr9 (leaf2 hk hd hp _ _)
  subst he
  refine lv_icmp_eq (tgt := 888) hx hb dL_law_254 (by decide) (fun _ => ?_) (fun h => absurd rfl h)
  exact cont _ _ _ _ hJ9 ⟨hPc, hPm, hRc, hRm, hS⟩
set_option maxHeartbeats 4000000 in
set_option maxRecDepth 100000 in
theorem o_as {p : Program} {l : Launch} {e : Env} {s : State} {m : MethodId} {below : List Frame} {meth : Method} {c : Code} {b L : Nat} {xs : Nat → Int32} {D : va_G} {cI cZ : ClassId} {ad ad2 : Nat → Nat} {az av : Nat} (K : LC p s m c b L xs D cI cZ ad ad2 az av) {i : Nat} (hi : i + 4 ≤ L) {C M : St} (hJ : JJ i C M) {H : Heap} {locs : List Loc} {ls : Array Slot} (hI : LI D cI cZ ad ad2 s C M H locs) (hl : lv_has ls 4 [(0, .ref b), (1, .ref (ad 40)), (2, .ref (ad2 26)), (3, .int (zI ↑i))]) (cont : ∀ (C M : St) (H : Heap) (locs : List Loc), JJ (i + 4) C M → LI D cI cZ ad ad2 s C M H locs → LG p l e s m below meth c b H locs (F0 m 888 ls [])) : LG p l e s m below meth c b H locs (F0 m 259 ls []) := by
  obtain ⟨hx, hb, hml, hown, hts, hX, hbl, hL, hEc, hEm, hic, him, hac, ham, hdj⟩ := K
  obtain ⟨n, sz, k0, m9, hJ⟩ := hJ
  obtain ⟨⟨hc1, hm1, hsz9⟩, hpg, hnn, hn7, hT0, hV0, hT9, hV9, ⟨hk8, hk0⟩, ⟨hm2, hst, h80, hp⟩, hse, ⟨hm15, hsg⟩⟩ := J_use hJ
  obtain ⟨hd, -, hk, hO, htt, hs⟩ := J_row hJ
  have hpa := hJ.2.2.2.2.2.2.2.2
  obtain ⟨hPc, hPm, hRc, hRm, hS⟩ := hI
  have hKc : va_K D vwCl [(cI, .int), (cZ, .boolean)] s := hEc.1
  have hKm : va_K D vwCl [(cI, .int)] s := hEm
  unfold LG at cont ⊢
  refine lv_aload_n hx hb dL_law_259 rfl (lv_at hl 1 rfl) ?_
  refine lv_aload_n hx hb dL_law_260 rfl (lv_at hl 0 rfl) ?_
  refine lv_iload_n hx hb dL_law_261 rfl (lv_at hl 3 rfl) ?_
  refine z_iconst hx hb dL_law_262 ?_
  refine z_iadd hx hb dL_law_263 ?_
  refine l_sld hx hb hX hbl hS hL (j := i + 1) (by omega) (by omega) dL_law_264 ?_
  refine lv_aload_n hx hb dL_law_265 rfl (lv_at hl 0 rfl) ?_
  refine lv_iload_n hx hb dL_law_266 rfl (lv_at hl 3 rfl) ?_
  refine z_iconst hx hb dL_law_267 ?_
  refine z_iadd hx hb dL_law_268 ?_
  refine l_sld hx hb hX hbl hS hL (j := i + 2) (by omega) (by omega) dL_law_269 ?_
  refine h_callVi (As := [.int (zI (xs (i + 1)).toInt), .int (zI (xs (i + 2)).toInt)]) (rest := []) ⟨hx, hb, hml, hown, hts⟩ (k_X6_as l D cI cZ ad az av hic C hRc n (nb n) (M 7) hT9 hV9 k0 hk8 hk0 (xs (i + 1)).toInt (xs (i + 2)).toInt (x_1 _) (x_2 _) (x_1 _) (x_2 _)) (cwV 2 hts (gV lwT_sub q_405 q_406 q_407 q_1 q_408) rfl rfl rfl hdX6_as ⟨Nat.le_of_ble_eq_true rfl, Nat.le_of_ble_eq_true rfl⟩) (cEb D cI cZ ad az av) (cEk D cI cZ ad az av) hEc (va_recv (ci := 6) (q0 := 0) hKc hPc rfl rfl) hPc hS (fun _ h => h) hac rfl hl.1 rfl (Nat.le_of_ble_eq_true rfl) dL_law_270 ⟨Nat.le_of_ble_eq_true rfl, Nat.le_of_ble_eq_true rfl⟩ (fun r C9 H locs hqc hPc hRc hS hk9 => ?_)
  have hPm := keepM hdj hPm hk9
  refine lv_aload_n hx hb dL_law_273 rfl (lv_at hl 2 rfl) ?_
  refine lv_aload_n hx hb dL_law_274 rfl (lv_at hl 0 rfl) ?_
  refine lv_iload_n hx hb dL_law_275 rfl (lv_at hl 3 rfl) ?_
  refine z_iconst hx hb dL_law_276 ?_
  refine z_iadd hx hb dL_law_277 ?_
  refine l_sld hx hb hX hbl hS hL (j := i + 1) (by omega) (by omega) dL_law_278 ?_
  refine lv_aload_n hx hb dL_law_279 rfl (lv_at hl 0 rfl) ?_
  refine lv_iload_n hx hb dL_law_280 rfl (lv_at hl 3 rfl) ?_
  refine z_iconst hx hb dL_law_281 ?_
  refine z_iadd hx hb dL_law_282 ?_
  refine l_sld hx hb hX hbl hS hL (j := i + 2) (by omega) (by omega) dL_law_283 ?_
  refine h_callVi (As := [.int (zI (xs (i + 1)).toInt), .int (zI (xs (i + 2)).toInt)]) (rest := [.int r]) ⟨hx, hb, hml, hown, hts⟩ (k_X7_as l D cI ad2 him M hRm n hm2 hn7 (nb n) k0 hst h80 hp (xs (i + 1)).toInt (xs (i + 2)).toInt (x_1 _) (x_2 _) (x_1 _) (x_2 _)) (cwV 2 hts (gV lwT_sub q_922 q_923 q_924 q_8 q_925) rfl rfl rfl hdX7_as ⟨Nat.le_of_ble_eq_true rfl, Nat.le_of_ble_eq_true rfl⟩) (mEb D cI) (mEk D cI (mA ad2)) hEm (va_recv (ci := 7) (q0 := 0) hKm hPm rfl rfl) hPm hS (fun _ h => h) ham rfl hl.1 rfl (Nat.le_of_ble_eq_true rfl) dL_law_284 ⟨Nat.le_of_ble_eq_true rfl, Nat.le_of_ble_eq_true rfl⟩ (fun r9 M9 H locs hqm hPm hRm hS hk9 => ?_)
  have hPc := keepC hdj hPc hk9
  obtain ⟨hM9, hr9⟩ := hqm
  have hmk : mK M M9 := by rw [hM9]; exact mK_rf _
  obtain ⟨he, hJ9⟩ := s_eq hJ hmk hqc hr9 (as2 hk _ _)
  subst he
  refine lv_icmp_eq (tgt := 888) hx hb dL_law_287 (by decide) (fun _ => ?_) (fun h => absurd rfl h)
  exact cont _ _ _ _ hJ9 ⟨hPc, hPm, hRc, hRm, hS⟩
set_option maxHeartbeats 4000000 in
set_option maxRecDepth 100000 in
theorem o_hinge {p : Program} {l : Launch} {e : Env} {s : State} {m : MethodId} {below : List Frame} {meth : Method} {c : Code} {b L : Nat} {xs : Nat → Int32} {D : va_G} {cI cZ : ClassId} {ad ad2 : Nat → Nat} {az av : Nat} (K : LC p s m c b L xs D cI cZ ad ad2 az av) {i : Nat} (hi : i + 4 ≤ L) {C M : St} (hJ : JJ i C M) {H : Heap} {locs : List Loc} {ls : Array Slot} (hI : LI D cI cZ ad ad2 s C M H locs) (hl : lv_has ls 4 [(0, .ref b), (1, .ref (ad 40)), (2, .ref (ad2 26)), (3, .int (zI ↑i))]) (cont : ∀ (C M : St) (H : Heap) (locs : List Loc), JJ (i + 4) C M → LI D cI cZ ad ad2 s C M H locs → LG p l e s m below meth c b H locs (F0 m 888 ls [])) : LG p l e s m below meth c b H locs (F0 m 292 ls []) := by
  obtain ⟨hx, hb, hml, hown, hts, hX, hbl, hL, hEc, hEm, hic, him, hac, ham, hdj⟩ := K
  obtain ⟨n, sz, k0, m9, hJ⟩ := hJ
  obtain ⟨⟨hc1, hm1, hsz9⟩, hpg, hnn, hn7, hT0, hV0, hT9, hV9, ⟨hk8, hk0⟩, ⟨hm2, hst, h80, hp⟩, hse, ⟨hm15, hsg⟩⟩ := J_use hJ
  obtain ⟨hd, -, hk, hO, htt, hs⟩ := J_row hJ
  have hpa := hJ.2.2.2.2.2.2.2.2
  obtain ⟨hPc, hPm, hRc, hRm, hS⟩ := hI
  have hKc : va_K D vwCl [(cI, .int), (cZ, .boolean)] s := hEc.1
  have hKm : va_K D vwCl [(cI, .int)] s := hEm
  unfold LG at cont ⊢
  refine lv_aload_n hx hb dL_law_292 rfl (lv_at hl 1 rfl) ?_
  refine lv_aload_n hx hb dL_law_293 rfl (lv_at hl 0 rfl) ?_
  refine lv_iload_n hx hb dL_law_294 rfl (lv_at hl 3 rfl) ?_
  refine z_iconst hx hb dL_law_295 ?_
  refine z_iadd hx hb dL_law_296 ?_
  refine l_sld hx hb hX hbl hS hL (j := i + 1) (by omega) (by omega) dL_law_297 ?_
  refine lv_aload_n hx hb dL_law_298 rfl (lv_at hl 0 rfl) ?_
  refine lv_iload_n hx hb dL_law_299 rfl (lv_at hl 3 rfl) ?_
  refine z_iconst hx hb dL_law_300 ?_
  refine z_iadd hx hb dL_law_301 ?_
  refine l_sld hx hb hX hbl hS hL (j := i + 2) (by omega) (by omega) dL_law_302 ?_
  refine h_callVi (As := [.int (zI (xs (i + 1)).toInt), .int (zI (xs (i + 2)).toInt)]) (rest := []) ⟨hx, hb, hml, hown, hts⟩ (k_X6_hinge l D cI cZ ad az av hic C hRc n (nb n) (M 7) hT9 hV9 k0 hk8 hk0 (xs (i + 1)).toInt (xs (i + 2)).toInt (x_1 _) (x_2 _) (x_1 _) (x_2 _)) (cwV 2 hts (gV lwT_sub q_414 q_415 q_416 q_1 q_417) rfl rfl rfl hdX6_hinge ⟨Nat.le_of_ble_eq_true rfl, Nat.le_of_ble_eq_true rfl⟩) (cEb D cI cZ ad az av) (cEk D cI cZ ad az av) hEc (va_recv (ci := 6) (q0 := 0) hKc hPc rfl rfl) hPc hS (fun _ h => h) hac rfl hl.1 rfl (Nat.le_of_ble_eq_true rfl) dL_law_303 ⟨Nat.le_of_ble_eq_true rfl, Nat.le_of_ble_eq_true rfl⟩ (fun r C9 H locs hqc hPc hRc hS hk9 => ?_)
  have hPm := keepM hdj hPm hk9
  refine lv_aload_n hx hb dL_law_306 rfl (lv_at hl 2 rfl) ?_
  refine lv_aload_n hx hb dL_law_307 rfl (lv_at hl 0 rfl) ?_
  refine lv_iload_n hx hb dL_law_308 rfl (lv_at hl 3 rfl) ?_
  refine z_iconst hx hb dL_law_309 ?_
  refine z_iadd hx hb dL_law_310 ?_
  refine l_sld hx hb hX hbl hS hL (j := i + 1) (by omega) (by omega) dL_law_311 ?_
  refine lv_aload_n hx hb dL_law_312 rfl (lv_at hl 0 rfl) ?_
  refine lv_iload_n hx hb dL_law_313 rfl (lv_at hl 3 rfl) ?_
  refine z_iconst hx hb dL_law_314 ?_
  refine z_iadd hx hb dL_law_315 ?_
  refine l_sld hx hb hX hbl hS hL (j := i + 2) (by omega) (by omega) dL_law_316 ?_
  refine h_callVi (As := [.int (zI (xs (i + 1)).toInt), .int (zI (xs (i + 2)).toInt)]) (rest := [.int r]) ⟨hx, hb, hml, hown, hts⟩ (k_X7_hinge l D cI ad2 him M hRm n hm2 hn7 (nb n) k0 hst h80 hp (xs (i + 1)).toInt (xs (i + 2)).toInt (x_1 _) (x_2 _) (x_1 _) (x_2 _)) (cwV 2 hts (gV lwT_sub q_927 q_928 q_929 q_8 q_930) rfl rfl rfl hdX7_hinge ⟨Nat.le_of_ble_eq_true rfl, Nat.le_of_ble_eq_true rfl⟩) (mEb D cI) (mEk D cI (mA ad2)) hEm (va_recv (ci := 7) (q0 := 0) hKm hPm rfl rfl) hPm hS (fun _ h => h) ham rfl hl.1 rfl (Nat.le_of_ble_eq_true rfl) dL_law_317 ⟨Nat.le_of_ble_eq_true rfl, Nat.le_of_ble_eq_true rfl⟩ (fun r9 M9 H locs hqm hPm hRm hS hk9 => ?_)
  have hPc := keepC hdj hPc hk9
  obtain ⟨s0, hM9, hr9⟩ := hqm
  have hmk : mK M M9 := by rw [hM9]; exact mK1 rfl
  obtain ⟨he, hJ9⟩ := s_eq hJ hmk hqc hr9 (hinge2 hk hd hp _ _)
  subst he
  refine lv_icmp_eq (tgt := 888) hx hb dL_law_320 (by decide) (fun _ => ?_) (fun h => absurd rfl h)
  exact cont _ _ _ _ hJ9 ⟨hPc, hPm, hRc, hRm, hS⟩
set_option maxHeartbeats 4000000 in
set_option maxRecDepth 100000 in
theorem o_at {p : Program} {l : Launch} {e : Env} {s : State} {m : MethodId} {below : List Frame} {meth : Method} {c : Code} {b L : Nat} {xs : Nat → Int32} {D : va_G} {cI cZ : ClassId} {ad ad2 : Nat → Nat} {az av : Nat} (K : LC p s m c b L xs D cI cZ ad ad2 az av) {i : Nat} (hi : i + 4 ≤ L) {C M : St} (hJ : JJ i C M) {H : Heap} {locs : List Loc} {ls : Array Slot} (hI : LI D cI cZ ad ad2 s C M H locs) (hl : lv_has ls 4 [(0, .ref b), (1, .ref (ad 40)), (2, .ref (ad2 26)), (3, .int (zI ↑i))]) (cont : ∀ (C M : St) (H : Heap) (locs : List Loc), JJ (i + 4) C M → LI D cI cZ ad ad2 s C M H locs → LG p l e s m below meth c b H locs (F0 m 888 ls [])) : LG p l e s m below meth c b H locs (F0 m 325 ls []) := by
  obtain ⟨hx, hb, hml, hown, hts, hX, hbl, hL, hEc, hEm, hic, him, hac, ham, hdj⟩ := K
  obtain ⟨n, sz, k0, m9, hJ⟩ := hJ
  obtain ⟨⟨hc1, hm1, hsz9⟩, hpg, hnn, hn7, hT0, hV0, hT9, hV9, ⟨hk8, hk0⟩, ⟨hm2, hst, h80, hp⟩, hse, ⟨hm15, hsg⟩⟩ := J_use hJ
  obtain ⟨hd, -, hk, hO, htt, hs⟩ := J_row hJ
  have hpa := hJ.2.2.2.2.2.2.2.2
  obtain ⟨hPc, hPm, hRc, hRm, hS⟩ := hI
  have hKc : va_K D vwCl [(cI, .int), (cZ, .boolean)] s := hEc.1
  have hKm : va_K D vwCl [(cI, .int)] s := hEm
  unfold LG at cont ⊢
  refine lv_aload_n hx hb dL_law_325 rfl (lv_at hl 1 rfl) ?_
  refine lv_aload_n hx hb dL_law_326 rfl (lv_at hl 0 rfl) ?_
  refine lv_iload_n hx hb dL_law_327 rfl (lv_at hl 3 rfl) ?_
  refine z_iconst hx hb dL_law_328 ?_
  refine z_iadd hx hb dL_law_329 ?_
  refine l_sld hx hb hX hbl hS hL (j := i + 1) (by omega) (by omega) dL_law_330 ?_
  refine h_callVi (As := [.int (zI (xs (i + 1)).toInt)]) (rest := []) ⟨hx, hb, hml, hown, hts⟩ (k_X6_at l D cI cZ ad az av hic C hRc n (nb n) (M 7) hT9 hV9 k0 hk8 hk0 (xs (i + 1)).toInt (x_1 _) (x_2 _)) (cwV 1 hts (gV lwT_sub q_419 q_420 q_421 q_1 q_422) rfl rfl rfl hdX6_at ⟨Nat.le_of_ble_eq_true rfl, Nat.le_of_ble_eq_true rfl⟩) (cEb D cI cZ ad az av) (cEk D cI cZ ad az av) hEc (va_recv (ci := 6) (q0 := 0) hKc hPc rfl rfl) hPc hS (fun _ h => h) hac rfl hl.1 rfl (Nat.le_of_ble_eq_true rfl) dL_law_331 ⟨Nat.le_of_ble_eq_true rfl, Nat.le_of_ble_eq_true rfl⟩ (fun r C9 H locs hqc hPc hRc hS hk9 => ?_)
  have hPm := keepM hdj hPm hk9
  refine lv_aload_n hx hb dL_law_334 rfl (lv_at hl 2 rfl) ?_
  refine lv_aload_n hx hb dL_law_335 rfl (lv_at hl 0 rfl) ?_
  refine lv_iload_n hx hb dL_law_336 rfl (lv_at hl 3 rfl) ?_
  refine z_iconst hx hb dL_law_337 ?_
  refine z_iadd hx hb dL_law_338 ?_
  refine l_sld hx hb hX hbl hS hL (j := i + 1) (by omega) (by omega) dL_law_339 ?_
  refine h_callVi (As := [.int (zI (xs (i + 1)).toInt)]) (rest := [.int r]) ⟨hx, hb, hml, hown, hts⟩ (k_X7_at l D cI ad2 him M hRm n hm2 hn7 (nb n) k0 hst h80 hp (xs (i + 1)).toInt (x_1 _) (x_2 _)) (cwV 1 hts (gV lwT_sub q_931 q_932 q_933 q_8 q_934) rfl rfl rfl hdX7_at ⟨Nat.le_of_ble_eq_true rfl, Nat.le_of_ble_eq_true rfl⟩) (mEb D cI) (mEk D cI (mA ad2)) hEm (va_recv (ci := 7) (q0 := 0) hKm hPm rfl rfl) hPm hS (fun _ h => h) ham rfl hl.1 rfl (Nat.le_of_ble_eq_true rfl) dL_law_340 ⟨Nat.le_of_ble_eq_true rfl, Nat.le_of_ble_eq_true rfl⟩ (fun r9 M9 H locs hqm hPm hRm hS hk9 => ?_)
  have hPc := keepC hdj hPc hk9
  obtain ⟨hM9, hr9⟩ := hqm
  have hmk : mK M M9 := by rw [hM9]; exact mK_rf _
  obtain ⟨he, hJ9⟩ := s_eq hJ hmk hqc hr9 (at2 hd _)
  subst he
  refine lv_icmp_eq (tgt := 888) hx hb dL_law_343 (by decide) (fun _ => ?_) (fun h => absurd rfl h)
  exact cont _ _ _ _ hJ9 ⟨hPc, hPm, hRc, hRm, hS⟩
set_option maxHeartbeats 4000000 in
set_option maxRecDepth 100000 in
theorem o_may {p : Program} {l : Launch} {e : Env} {s : State} {m : MethodId} {below : List Frame} {meth : Method} {c : Code} {b L : Nat} {xs : Nat → Int32} {D : va_G} {cI cZ : ClassId} {ad ad2 : Nat → Nat} {az av : Nat} (K : LC p s m c b L xs D cI cZ ad ad2 az av) {i : Nat} (hi : i + 4 ≤ L) {C M : St} (hJ : JJ i C M) {H : Heap} {locs : List Loc} {ls : Array Slot} (hI : LI D cI cZ ad ad2 s C M H locs) (hl : lv_has ls 4 [(0, .ref b), (1, .ref (ad 40)), (2, .ref (ad2 26)), (3, .int (zI ↑i))]) (cont : ∀ (C M : St) (H : Heap) (locs : List Loc), JJ (i + 4) C M → LI D cI cZ ad ad2 s C M H locs → LG p l e s m below meth c b H locs (F0 m 888 ls [])) : LG p l e s m below meth c b H locs (F0 m 348 ls []) := by
  obtain ⟨hx, hb, hml, hown, hts, hX, hbl, hL, hEc, hEm, hic, him, hac, ham, hdj⟩ := K
  obtain ⟨n, sz, k0, m9, hJ⟩ := hJ
  obtain ⟨⟨hc1, hm1, hsz9⟩, hpg, hnn, hn7, hT0, hV0, hT9, hV9, ⟨hk8, hk0⟩, ⟨hm2, hst, h80, hp⟩, hse, ⟨hm15, hsg⟩⟩ := J_use hJ
  obtain ⟨hd, -, hk, hO, htt, hs⟩ := J_row hJ
  have hpa := hJ.2.2.2.2.2.2.2.2
  obtain ⟨hPc, hPm, hRc, hRm, hS⟩ := hI
  have hKc : va_K D vwCl [(cI, .int), (cZ, .boolean)] s := hEc.1
  have hKm : va_K D vwCl [(cI, .int)] s := hEm
  unfold LG at cont ⊢
  refine lv_aload_n hx hb dL_law_348 rfl (lv_at hl 1 rfl) ?_
  refine lv_aload_n hx hb dL_law_349 rfl (lv_at hl 0 rfl) ?_
  refine lv_iload_n hx hb dL_law_350 rfl (lv_at hl 3 rfl) ?_
  refine z_iconst hx hb dL_law_351 ?_
  refine z_iadd hx hb dL_law_352 ?_
  refine l_sld hx hb hX hbl hS hL (j := i + 1) (by omega) (by omega) dL_law_353 ?_
  refine lv_aload_n hx hb dL_law_354 rfl (lv_at hl 0 rfl) ?_
  refine lv_iload_n hx hb dL_law_355 rfl (lv_at hl 3 rfl) ?_
  refine z_iconst hx hb dL_law_356 ?_
  refine z_iadd hx hb dL_law_357 ?_
  refine l_sld hx hb hX hbl hS hL (j := i + 2) (by omega) (by omega) dL_law_358 ?_
  refine h_callVi (As := [.int (zI (xs (i + 1)).toInt), .int (zI (xs (i + 2)).toInt)]) (rest := []) ⟨hx, hb, hml, hown, hts⟩ (k_X6_may l D cI cZ ad az av hic C hRc n (nb n) (M 7) hT9 hV9 k0 hk8 hk0 (xs (i + 1)).toInt (xs (i + 2)).toInt (x_1 _) (x_2 _) (x_1 _) (x_2 _)) (cwV 2 hts (gV lwT_sub q_428 q_429 q_430 q_1 q_431) rfl rfl rfl hdX6_may ⟨Nat.le_of_ble_eq_true rfl, Nat.le_of_ble_eq_true rfl⟩) (cEb D cI cZ ad az av) (cEk D cI cZ ad az av) hEc (va_recv (ci := 6) (q0 := 0) hKc hPc rfl rfl) hPc hS (fun _ h => h) hac rfl hl.1 rfl (Nat.le_of_ble_eq_true rfl) dL_law_359 ⟨Nat.le_of_ble_eq_true rfl, Nat.le_of_ble_eq_true rfl⟩ (fun r C9 H locs hqc hPc hRc hS hk9 => ?_)
  have hPm := keepM hdj hPm hk9
  refine lv_aload_n hx hb dL_law_362 rfl (lv_at hl 2 rfl) ?_
  refine lv_aload_n hx hb dL_law_363 rfl (lv_at hl 0 rfl) ?_
  refine lv_iload_n hx hb dL_law_364 rfl (lv_at hl 3 rfl) ?_
  refine z_iconst hx hb dL_law_365 ?_
  refine z_iadd hx hb dL_law_366 ?_
  refine l_sld hx hb hX hbl hS hL (j := i + 1) (by omega) (by omega) dL_law_367 ?_
  refine lv_aload_n hx hb dL_law_368 rfl (lv_at hl 0 rfl) ?_
  refine lv_iload_n hx hb dL_law_369 rfl (lv_at hl 3 rfl) ?_
  refine z_iconst hx hb dL_law_370 ?_
  refine z_iadd hx hb dL_law_371 ?_
  refine l_sld hx hb hX hbl hS hL (j := i + 2) (by omega) (by omega) dL_law_372 ?_
  refine h_callVi (As := [.int (zI (xs (i + 1)).toInt), .int (zI (xs (i + 2)).toInt)]) (rest := [.int r]) ⟨hx, hb, hml, hown, hts⟩ (k_X7_may l D cI ad2 him M hRm n hm2 hn7 (nb n) k0 hst h80 hp (xs (i + 1)).toInt (xs (i + 2)).toInt (x_1 _) (x_2 _) (x_1 _) (x_2 _)) (cwV 2 hts (gV lwT_sub q_935 q_936 q_937 q_8 q_938) rfl rfl rfl hdX7_may ⟨Nat.le_of_ble_eq_true rfl, Nat.le_of_ble_eq_true rfl⟩) (mEb D cI) (mEk D cI (mA ad2)) hEm (va_recv (ci := 7) (q0 := 0) hKm hPm rfl rfl) hPm hS (fun _ h => h) ham rfl hl.1 rfl (Nat.le_of_ble_eq_true rfl) dL_law_373 ⟨Nat.le_of_ble_eq_true rfl, Nat.le_of_ble_eq_true rfl⟩ (fun r9 M9 H locs hqm hPm hRm hS hk9 => ?_)
  have hPc := keepC hdj hPc hk9
  obtain ⟨s0, s1, hM9, hr9⟩ := hqm
  have hmk : mK M M9 := by rw [hM9]; exact (mK1 rfl).tr (mK1 rfl)
  obtain ⟨he, hJ9⟩ := s_eq hJ hmk hqc hr9 (may2 hd hp _ _)
  subst he
  refine lv_icmp_eq (tgt := 888) hx hb dL_law_376 (by decide) (fun _ => ?_) (fun h => absurd rfl h)
  exact cont _ _ _ _ hJ9 ⟨hPc, hPm, hRc, hRm, hS⟩
set_option maxHeartbeats 4000000 in
set_option maxRecDepth 100000 in
theorem o_move {p : Program} {l : Launch} {e : Env} {s : State} {m : MethodId} {below : List Frame} {meth : Method} {c : Code} {b L : Nat} {xs : Nat → Int32} {D : va_G} {cI cZ : ClassId} {ad ad2 : Nat → Nat} {az av : Nat} (K : LC p s m c b L xs D cI cZ ad ad2 az av) {i : Nat} (hi : i + 4 ≤ L) {C M : St} (hJ : JJ i C M) {H : Heap} {locs : List Loc} {ls : Array Slot} (hI : LI D cI cZ ad ad2 s C M H locs) (hl : lv_has ls 4 [(0, .ref b), (1, .ref (ad 40)), (2, .ref (ad2 26)), (3, .int (zI ↑i))]) (cont : ∀ (C M : St) (H : Heap) (locs : List Loc), JJ (i + 4) C M → LI D cI cZ ad ad2 s C M H locs → LG p l e s m below meth c b H locs (F0 m 888 ls [])) : LG p l e s m below meth c b H locs (F0 m 381 ls []) := by
  obtain ⟨hx, hb, hml, hown, hts, hX, hbl, hL, hEc, hEm, hic, him, hac, ham, hdj⟩ := K
  obtain ⟨n, sz, k0, m9, hJ⟩ := hJ
  obtain ⟨⟨hc1, hm1, hsz9⟩, hpg, hnn, hn7, hT0, hV0, hT9, hV9, ⟨hk8, hk0⟩, ⟨hm2, hst, h80, hp⟩, hse, ⟨hm15, hsg⟩⟩ := J_use hJ
  obtain ⟨hd, -, hk, hO, htt, hs⟩ := J_row hJ
  have hpa := hJ.2.2.2.2.2.2.2.2
  obtain ⟨hPc, hPm, hRc, hRm, hS⟩ := hI
  have hKc : va_K D vwCl [(cI, .int), (cZ, .boolean)] s := hEc.1
  have hKm : va_K D vwCl [(cI, .int)] s := hEm
  unfold LG at cont ⊢
  refine lv_aload_n hx hb dL_law_381 rfl (lv_at hl 1 rfl) ?_
  refine lv_aload_n hx hb dL_law_382 rfl (lv_at hl 0 rfl) ?_
  refine lv_iload_n hx hb dL_law_383 rfl (lv_at hl 3 rfl) ?_
  refine z_iconst hx hb dL_law_384 ?_
  refine z_iadd hx hb dL_law_385 ?_
  refine l_sld hx hb hX hbl hS hL (j := i + 1) (by omega) (by omega) dL_law_386 ?_
  refine lv_aload_n hx hb dL_law_387 rfl (lv_at hl 0 rfl) ?_
  refine lv_iload_n hx hb dL_law_388 rfl (lv_at hl 3 rfl) ?_
  refine z_iconst hx hb dL_law_389 ?_
  refine z_iadd hx hb dL_law_390 ?_
  refine l_sld hx hb hX hbl hS hL (j := i + 2) (by omega) (by omega) dL_law_391 ?_
  refine h_callVi (As := [.int (zI (xs (i + 1)).toInt), .int (zI (xs (i + 2)).toInt)]) (rest := []) ⟨hx, hb, hml, hown, hts⟩ (k_X6_move l D cI cZ ad az av hic C hRc n (nb n) (M 7) hT9 hV9 k0 hk8 hk0 (xs (i + 1)).toInt (xs (i + 2)).toInt (x_1 _) (x_2 _) (x_1 _) (x_2 _)) (cwV 2 hts (gV lwT_sub q_450 q_451 q_452 q_1 q_453) rfl rfl rfl hdX6_move ⟨Nat.le_of_ble_eq_true rfl, Nat.le_of_ble_eq_true rfl⟩) (cEb D cI cZ ad az av) (cEk D cI cZ ad az av) hEc (va_recv (ci := 6) (q0 := 0) hKc hPc rfl rfl) hPc hS (fun _ h => h) hac rfl hl.1 rfl (Nat.le_of_ble_eq_true rfl) dL_law_392 ⟨Nat.le_of_ble_eq_true rfl, Nat.le_of_ble_eq_true rfl⟩ (fun r C9 H locs hqc hPc hRc hS hk9 => ?_)
  have hPm := keepM hdj hPm hk9
  refine lv_aload_n hx hb dL_law_395 rfl (lv_at hl 2 rfl) ?_
  refine lv_aload_n hx hb dL_law_396 rfl (lv_at hl 0 rfl) ?_
  refine lv_iload_n hx hb dL_law_397 rfl (lv_at hl 3 rfl) ?_
  refine z_iconst hx hb dL_law_398 ?_
  refine z_iadd hx hb dL_law_399 ?_
  refine l_sld hx hb hX hbl hS hL (j := i + 1) (by omega) (by omega) dL_law_400 ?_
  refine lv_aload_n hx hb dL_law_401 rfl (lv_at hl 0 rfl) ?_
  refine lv_iload_n hx hb dL_law_402 rfl (lv_at hl 3 rfl) ?_
  refine z_iconst hx hb dL_law_403 ?_
  refine z_iadd hx hb dL_law_404 ?_
  refine l_sld hx hb hX hbl hS hL (j := i + 2) (by omega) (by omega) dL_law_405 ?_
  refine h_callVi (As := [.int (zI (xs (i + 1)).toInt), .int (zI (xs (i + 2)).toInt)]) (rest := [.int r]) ⟨hx, hb, hml, hown, hts⟩ (k_X7_move l D cI ad2 him M hRm n hm2 hn7 (nb n) k0 hst h80 hp ⟨hJ.2.2.2.2.1.2.1, hJ.2.2.2.2.1.2.2⟩ (xs (i + 1)).toInt (xs (i + 2)).toInt (x_1 _) (x_2 _) (x_1 _) (x_2 _)) (cwV 2 hts (gV lwT_sub q_969 q_970 q_971 q_8 q_972) rfl rfl rfl hdX7_move ⟨Nat.le_of_ble_eq_true rfl, Nat.le_of_ble_eq_true rfl⟩) (mEb D cI) (mEk D cI (mA ad2)) hEm (va_recv (ci := 7) (q0 := 0) hKm hPm rfl rfl) hPm hS (fun _ h => h) ham rfl hl.1 rfl (Nat.le_of_ble_eq_true rfl) dL_law_406 ⟨Nat.le_of_ble_eq_true rfl, Nat.le_of_ble_eq_true rfl⟩ (fun r9 M9 H locs hqm hPm hRm hS hk9 => ?_)
  have hPc := keepC hdj hPc hk9
  obtain ⟨he, hJ9⟩ := s_move hJ hqc hqm
  subst he
  refine lv_icmp_eq (tgt := 888) hx hb dL_law_409 (by decide) (fun _ => ?_) (fun h => absurd rfl h)
  exact cont _ _ _ _ hJ9 ⟨hPc, hPm, hRc, hRm, hS⟩
set_option maxHeartbeats 4000000 in
set_option maxRecDepth 100000 in
theorem o_turn {p : Program} {l : Launch} {e : Env} {s : State} {m : MethodId} {below : List Frame} {meth : Method} {c : Code} {b L : Nat} {xs : Nat → Int32} {D : va_G} {cI cZ : ClassId} {ad ad2 : Nat → Nat} {az av : Nat} (K : LC p s m c b L xs D cI cZ ad ad2 az av) {i : Nat} (hi : i + 4 ≤ L) {C M : St} (hJ : JJ i C M) {H : Heap} {locs : List Loc} {ls : Array Slot} (hI : LI D cI cZ ad ad2 s C M H locs) (hl : lv_has ls 4 [(0, .ref b), (1, .ref (ad 40)), (2, .ref (ad2 26)), (3, .int (zI ↑i))]) (cont : ∀ (C M : St) (H : Heap) (locs : List Loc), JJ (i + 4) C M → LI D cI cZ ad ad2 s C M H locs → LG p l e s m below meth c b H locs (F0 m 888 ls [])) : LG p l e s m below meth c b H locs (F0 m 414 ls []) := by
  obtain ⟨hx, hb, hml, hown, hts, hX, hbl, hL, hEc, hEm, hic, him, hac, ham, hdj⟩ := K
  obtain ⟨n, sz, k0, m9, hJ⟩ := hJ
  obtain ⟨⟨hc1, hm1, hsz9⟩, hpg, hnn, hn7, hT0, hV0, hT9, hV9, ⟨hk8, hk0⟩, ⟨hm2, hst, h80, hp⟩, hse, ⟨hm15, hsg⟩⟩ := J_use hJ
  obtain ⟨hd, -, hk, hO, htt, hs⟩ := J_row hJ
  have hpa := hJ.2.2.2.2.2.2.2.2
  obtain ⟨hPc, hPm, hRc, hRm, hS⟩ := hI
  have hKc : va_K D vwCl [(cI, .int), (cZ, .boolean)] s := hEc.1
  have hKm : va_K D vwCl [(cI, .int)] s := hEm
  unfold LG at cont ⊢
  refine lv_aload_n hx hb dL_law_414 rfl (lv_at hl 1 rfl) ?_
  refine h_callVi (As := []) (rest := []) ⟨hx, hb, hml, hown, hts⟩ (k_X6_turn l D cI cZ ad az av hic C hRc n (nb n) (M 7) hT9 hV9 k0 hk8 hk0) (cwV 0 hts (gV lwT_sub q_458 q_459 q_460 q_1 q_461) rfl rfl rfl hdX6_turn ⟨Nat.le_of_ble_eq_true rfl, Nat.le_of_ble_eq_true rfl⟩) (cEb D cI cZ ad az av) (cEk D cI cZ ad az av) hEc (va_recv (ci := 6) (q0 := 0) hKc hPc rfl rfl) hPc hS (fun _ h => h) hac rfl hl.1 rfl (Nat.le_of_ble_eq_true rfl) dL_law_415 ⟨Nat.le_of_ble_eq_true rfl, Nat.le_of_ble_eq_true rfl⟩ (fun r C9 H locs hqc hPc hRc hS hk9 => ?_)
  have hPm := keepM hdj hPm hk9
  refine lv_aload_n hx hb dL_law_418 rfl (lv_at hl 2 rfl) ?_
  refine h_callVi (As := []) (rest := [.int r]) ⟨hx, hb, hml, hown, hts⟩ (k_X7_turn l D cI ad2 him M hRm n hm2 hn7 (nb n) k0 hst h80 hp) (cwV 0 hts (gV lwT_sub q_977 q_978 q_979 q_8 q_980) rfl rfl rfl hdX7_turn ⟨Nat.le_of_ble_eq_true rfl, Nat.le_of_ble_eq_true rfl⟩) (mEb D cI) (mEk D cI (mA ad2)) hEm (va_recv (ci := 7) (q0 := 0) hKm hPm rfl rfl) hPm hS (fun _ h => h) ham rfl hl.1 rfl (Nat.le_of_ble_eq_true rfl) dL_law_419 ⟨Nat.le_of_ble_eq_true rfl, Nat.le_of_ble_eq_true rfl⟩ (fun r9 M9 H locs hqm hPm hRm hS hk9 => ?_)
  have hPc := keepC hdj hPc hk9
  obtain ⟨he, hJ9⟩ := s_turn hJ hqc hqm
  subst he
  refine lv_icmp_eq (tgt := 888) hx hb dL_law_422 (by decide) (fun _ => ?_) (fun h => absurd rfl h)
  exact cont _ _ _ _ hJ9 ⟨hPc, hPm, hRc, hRm, hS⟩
set_option maxHeartbeats 4000000 in
set_option maxRecDepth 100000 in
theorem o_lay {p : Program} {l : Launch} {e : Env} {s : State} {m : MethodId} {below : List Frame} {meth : Method} {c : Code} {b L : Nat} {xs : Nat → Int32} {D : va_G} {cI cZ : ClassId} {ad ad2 : Nat → Nat} {az av : Nat} (K : LC p s m c b L xs D cI cZ ad ad2 az av) {i : Nat} (hi : i + 4 ≤ L) {C M : St} (hJ : JJ i C M) {H : Heap} {locs : List Loc} {ls : Array Slot} (hI : LI D cI cZ ad ad2 s C M H locs) (hl : lv_has ls 4 [(0, .ref b), (1, .ref (ad 40)), (2, .ref (ad2 26)), (3, .int (zI ↑i))]) (cont : ∀ (C M : St) (H : Heap) (locs : List Loc), JJ (i + 4) C M → LI D cI cZ ad ad2 s C M H locs → LG p l e s m below meth c b H locs (F0 m 888 ls [])) : LG p l e s m below meth c b H locs (F0 m 427 ls []) := by
  obtain ⟨hx, hb, hml, hown, hts, hX, hbl, hL, hEc, hEm, hic, him, hac, ham, hdj⟩ := K
  obtain ⟨n, sz, k0, m9, hJ⟩ := hJ
  obtain ⟨⟨hc1, hm1, hsz9⟩, hpg, hnn, hn7, hT0, hV0, hT9, hV9, ⟨hk8, hk0⟩, ⟨hm2, hst, h80, hp⟩, hse, ⟨hm15, hsg⟩⟩ := J_use hJ
  obtain ⟨hd, -, hk, hO, htt, hs⟩ := J_row hJ
  have hpa := hJ.2.2.2.2.2.2.2.2
  obtain ⟨hPc, hPm, hRc, hRm, hS⟩ := hI
  have hKc : va_K D vwCl [(cI, .int), (cZ, .boolean)] s := hEc.1
  have hKm : va_K D vwCl [(cI, .int)] s := hEm
  unfold LG at cont ⊢
  refine lv_aload_n hx hb dL_law_427 rfl (lv_at hl 1 rfl) ?_
  refine lv_aload_n hx hb dL_law_428 rfl (lv_at hl 0 rfl) ?_
  refine lv_iload_n hx hb dL_law_429 rfl (lv_at hl 3 rfl) ?_
  refine z_iconst hx hb dL_law_430 ?_
  refine z_iadd hx hb dL_law_431 ?_
  refine l_sld hx hb hX hbl hS hL (j := i + 1) (by omega) (by omega) dL_law_432 ?_
  refine h_callVi (As := [.int (zI (xs (i + 1)).toInt)]) (rest := []) ⟨hx, hb, hml, hown, hts⟩ (k_X6_lay l D cI cZ ad az av hic C hRc n (nb n) (M 7) hT9 hV9 k0 hk8 hk0 (xs (i + 1)).toInt (x_1 _) (x_2 _)) (cwV 1 hts (gV lwT_sub q_471 q_472 q_473 q_1 q_474) rfl rfl rfl hdX6_lay ⟨Nat.le_of_ble_eq_true rfl, Nat.le_of_ble_eq_true rfl⟩) (cEb D cI cZ ad az av) (cEk D cI cZ ad az av) hEc (va_recv (ci := 6) (q0 := 0) hKc hPc rfl rfl) hPc hS (fun _ h => h) hac rfl hl.1 rfl (Nat.le_of_ble_eq_true rfl) dL_law_433 ⟨Nat.le_of_ble_eq_true rfl, Nat.le_of_ble_eq_true rfl⟩ (fun r C9 H locs hqc hPc hRc hS hk9 => ?_)
  have hPm := keepM hdj hPm hk9
  refine lv_aload_n hx hb dL_law_436 rfl (lv_at hl 2 rfl) ?_
  refine lv_aload_n hx hb dL_law_437 rfl (lv_at hl 0 rfl) ?_
  refine lv_iload_n hx hb dL_law_438 rfl (lv_at hl 3 rfl) ?_
  refine z_iconst hx hb dL_law_439 ?_
  refine z_iadd hx hb dL_law_440 ?_
  refine l_sld hx hb hX hbl hS hL (j := i + 1) (by omega) (by omega) dL_law_441 ?_
  refine h_callVi (As := [.int (zI (xs (i + 1)).toInt)]) (rest := [.int r]) ⟨hx, hb, hml, hown, hts⟩ (k_X7_lay l D cI ad2 him M hRm n hm2 hn7 (nb n) k0 hst h80 hp (xs (i + 1)).toInt (x_1 _) (x_2 _)) (cwV 1 hts (gV lwT_sub q_981 q_982 q_983 q_8 q_984) rfl rfl rfl hdX7_lay ⟨Nat.le_of_ble_eq_true rfl, Nat.le_of_ble_eq_true rfl⟩) (mEb D cI) (mEk D cI (mA ad2)) hEm (va_recv (ci := 7) (q0 := 0) hKm hPm rfl rfl) hPm hS (fun _ h => h) ham rfl hl.1 rfl (Nat.le_of_ble_eq_true rfl) dL_law_442 ⟨Nat.le_of_ble_eq_true rfl, Nat.le_of_ble_eq_true rfl⟩ (fun r9 M9 H locs hqm hPm hRm hS hk9 => ?_)
  have hPc := keepC hdj hPc hk9
  obtain ⟨he, hJ9⟩ := s_lay hJ hqc hqm
  subst he
  refine lv_icmp_eq (tgt := 888) hx hb dL_law_445 (by decide) (fun _ => ?_) (fun h => absurd rfl h)
  exact cont _ _ _ _ hJ9 ⟨hPc, hPm, hRc, hRm, hS⟩
set_option maxHeartbeats 4000000 in
set_option maxRecDepth 100000 in
theorem o_change {p : Program} {l : Launch} {e : Env} {s : State} {m : MethodId} {below : List Frame} {meth : Method} {c : Code} {b L : Nat} {xs : Nat → Int32} {D : va_G} {cI cZ : ClassId} {ad ad2 : Nat → Nat} {az av : Nat} (K : LC p s m c b L xs D cI cZ ad ad2 az av) {i : Nat} (hi : i + 4 ≤ L) {C M : St} (hJ : JJ i C M) {H : Heap} {locs : List Loc} {ls : Array Slot} (hI : LI D cI cZ ad ad2 s C M H locs) (hl : lv_has ls 4 [(0, .ref b), (1, .ref (ad 40)), (2, .ref (ad2 26)), (3, .int (zI ↑i))]) (cont : ∀ (C M : St) (H : Heap) (locs : List Loc), JJ (i + 4) C M → LI D cI cZ ad ad2 s C M H locs → LG p l e s m below meth c b H locs (F0 m 888 ls [])) : LG p l e s m below meth c b H locs (F0 m 450 ls []) := by
  obtain ⟨hx, hb, hml, hown, hts, hX, hbl, hL, hEc, hEm, hic, him, hac, ham, hdj⟩ := K
  obtain ⟨n, sz, k0, m9, hJ⟩ := hJ
  obtain ⟨⟨hc1, hm1, hsz9⟩, hpg, hnn, hn7, hT0, hV0, hT9, hV9, ⟨hk8, hk0⟩, ⟨hm2, hst, h80, hp⟩, hse, ⟨hm15, hsg⟩⟩ := J_use hJ
  obtain ⟨hd, -, hk, hO, htt, hs⟩ := J_row hJ
  have hpa := hJ.2.2.2.2.2.2.2.2
  obtain ⟨hPc, hPm, hRc, hRm, hS⟩ := hI
  have hKc : va_K D vwCl [(cI, .int), (cZ, .boolean)] s := hEc.1
  have hKm : va_K D vwCl [(cI, .int)] s := hEm
  unfold LG at cont ⊢
  refine lv_aload_n hx hb dL_law_450 rfl (lv_at hl 1 rfl) ?_
  refine lv_aload_n hx hb dL_law_451 rfl (lv_at hl 0 rfl) ?_
  refine lv_iload_n hx hb dL_law_452 rfl (lv_at hl 3 rfl) ?_
  refine z_iconst hx hb dL_law_453 ?_
  refine z_iadd hx hb dL_law_454 ?_
  refine l_sld hx hb hX hbl hS hL (j := i + 1) (by omega) (by omega) dL_law_455 ?_
  refine lv_aload_n hx hb dL_law_456 rfl (lv_at hl 0 rfl) ?_
  refine lv_iload_n hx hb dL_law_457 rfl (lv_at hl 3 rfl) ?_
  refine z_iconst hx hb dL_law_458 ?_
  refine z_iadd hx hb dL_law_459 ?_
  refine l_sld hx hb hX hbl hS hL (j := i + 2) (by omega) (by omega) dL_law_460 ?_
  refine h_callVi (As := [.int (zI (xs (i + 1)).toInt), .int (zI (xs (i + 2)).toInt)]) (rest := []) ⟨hx, hb, hml, hown, hts⟩ (k_X6_change l D cI cZ ad az av hic C hRc n (nb n) (tb n) hT0 hV0 k0 hk8 hk0 (xs (i + 1)).toInt (xs (i + 2)).toInt (x_1 _) (x_2 _) (x_1 _) (x_2 _)) (cwV 2 hts (gV lwT_sub q_479 q_480 q_481 q_1 q_482) rfl rfl rfl hdX6_change ⟨Nat.le_of_ble_eq_true rfl, Nat.le_of_ble_eq_true rfl⟩) (cEb D cI cZ ad az av) (cEk D cI cZ ad az av) hEc (va_recv (ci := 6) (q0 := 0) hKc hPc rfl rfl) hPc hS (fun _ h => h) hac rfl hl.1 rfl (Nat.le_of_ble_eq_true rfl) dL_law_461 ⟨Nat.le_of_ble_eq_true rfl, Nat.le_of_ble_eq_true rfl⟩ (fun r C9 H locs hqc hPc hRc hS hk9 => ?_)
  have hPm := keepM hdj hPm hk9
  refine lv_aload_n hx hb dL_law_464 rfl (lv_at hl 2 rfl) ?_
  refine lv_aload_n hx hb dL_law_465 rfl (lv_at hl 0 rfl) ?_
  refine lv_iload_n hx hb dL_law_466 rfl (lv_at hl 3 rfl) ?_
  refine z_iconst hx hb dL_law_467 ?_
  refine z_iadd hx hb dL_law_468 ?_
  refine l_sld hx hb hX hbl hS hL (j := i + 1) (by omega) (by omega) dL_law_469 ?_
  refine lv_aload_n hx hb dL_law_470 rfl (lv_at hl 0 rfl) ?_
  refine lv_iload_n hx hb dL_law_471 rfl (lv_at hl 3 rfl) ?_
  refine z_iconst hx hb dL_law_472 ?_
  refine z_iadd hx hb dL_law_473 ?_
  refine l_sld hx hb hX hbl hS hL (j := i + 2) (by omega) (by omega) dL_law_474 ?_
  refine h_callVi (As := [.int (zI (xs (i + 1)).toInt), .int (zI (xs (i + 2)).toInt)]) (rest := [.int r]) ⟨hx, hb, hml, hown, hts⟩ (k_X7_change l D cI ad2 him M hRm n hm2 hn7 (nb n) k0 hst h80 hp (xs (i + 1)).toInt (xs (i + 2)).toInt (x_1 _) (x_2 _) (x_1 _) (x_2 _)) (cwV 2 hts (gV lwT_sub q_985 q_986 q_987 q_8 q_988) rfl rfl rfl hdX7_change ⟨Nat.le_of_ble_eq_true rfl, Nat.le_of_ble_eq_true rfl⟩) (mEb D cI) (mEk D cI (mA ad2)) hEm (va_recv (ci := 7) (q0 := 0) hKm hPm rfl rfl) hPm hS (fun _ h => h) ham rfl hl.1 rfl (Nat.le_of_ble_eq_true rfl) dL_law_475 ⟨Nat.le_of_ble_eq_true rfl, Nat.le_of_ble_eq_true rfl⟩ (fun r9 M9 H locs hqm hPm hRm hS hk9 => ?_)
  have hPc := keepC hdj hPc hk9
  obtain ⟨he, hJ9⟩ := s_change hJ hqc hqm
  subst he
  refine lv_icmp_eq (tgt := 888) hx hb dL_law_478 (by decide) (fun _ => ?_) (fun h => absurd rfl h)
  exact cont _ _ _ _ hJ9 ⟨hPc, hPm, hRc, hRm, hS⟩
set_option maxHeartbeats 4000000 in
set_option maxRecDepth 100000 in
theorem o_orders {p : Program} {l : Launch} {e : Env} {s : State} {m : MethodId} {below : List Frame} {meth : Method} {c : Code} {b L : Nat} {xs : Nat → Int32} {D : va_G} {cI cZ : ClassId} {ad ad2 : Nat → Nat} {az av : Nat} (K : LC p s m c b L xs D cI cZ ad ad2 az av) {i : Nat} (hi : i + 4 ≤ L) {C M : St} (hJ : JJ i C M) {H : Heap} {locs : List Loc} {ls : Array Slot} (hI : LI D cI cZ ad ad2 s C M H locs) (hl : lv_has ls 4 [(0, .ref b), (1, .ref (ad 40)), (2, .ref (ad2 26)), (3, .int (zI ↑i))]) (cont : ∀ (C M : St) (H : Heap) (locs : List Loc), JJ (i + 4) C M → LI D cI cZ ad ad2 s C M H locs → LG p l e s m below meth c b H locs (F0 m 888 ls [])) : LG p l e s m below meth c b H locs (F0 m 483 ls []) := by
  obtain ⟨hx, hb, hml, hown, hts, hX, hbl, hL, hEc, hEm, hic, him, hac, ham, hdj⟩ := K
  obtain ⟨n, sz, k0, m9, hJ⟩ := hJ
  obtain ⟨⟨hc1, hm1, hsz9⟩, hpg, hnn, hn7, hT0, hV0, hT9, hV9, ⟨hk8, hk0⟩, ⟨hm2, hst, h80, hp⟩, hse, ⟨hm15, hsg⟩⟩ := J_use hJ
  obtain ⟨hd, -, hk, hO, htt, hs⟩ := J_row hJ
  have hpa := hJ.2.2.2.2.2.2.2.2
  obtain ⟨hPc, hPm, hRc, hRm, hS⟩ := hI
  have hKc : va_K D vwCl [(cI, .int), (cZ, .boolean)] s := hEc.1
  have hKm : va_K D vwCl [(cI, .int)] s := hEm
  unfold LG at cont ⊢
  refine lv_aload_n hx hb dL_law_483 rfl (lv_at hl 1 rfl) ?_
  refine lv_aload_n hx hb dL_law_484 rfl (lv_at hl 0 rfl) ?_
  refine lv_iload_n hx hb dL_law_485 rfl (lv_at hl 3 rfl) ?_
  refine z_iconst hx hb dL_law_486 ?_
  refine z_iadd hx hb dL_law_487 ?_
  refine l_sld hx hb hX hbl hS hL (j := i + 1) (by omega) (by omega) dL_law_488 ?_
  refine h_callVi (As := [.int (zI (xs (i + 1)).toInt)]) (rest := []) ⟨hx, hb, hml, hown, hts⟩ (k_X6_orders l D cI cZ ad az av hic C hRc n (nb n) (M 7) hT9 hV9 k0 hk8 hk0 (xs (i + 1)).toInt (x_1 _) (x_2 _)) (cwV 1 hts (gV lwT_sub q_483 q_484 q_485 q_1 q_486) rfl rfl rfl hdX6_orders ⟨Nat.le_of_ble_eq_true rfl, Nat.le_of_ble_eq_true rfl⟩) (cEb D cI cZ ad az av) (cEk D cI cZ ad az av) hEc (va_recv (ci := 6) (q0 := 0) hKc hPc rfl rfl) hPc hS (fun _ h => h) hac rfl hl.1 rfl (Nat.le_of_ble_eq_true rfl) dL_law_489 ⟨Nat.le_of_ble_eq_true rfl, Nat.le_of_ble_eq_true rfl⟩ (fun r C9 H locs hqc hPc hRc hS hk9 => ?_)
  have hPm := keepM hdj hPm hk9
  refine lv_aload_n hx hb dL_law_492 rfl (lv_at hl 2 rfl) ?_
  refine lv_aload_n hx hb dL_law_493 rfl (lv_at hl 0 rfl) ?_
  refine lv_iload_n hx hb dL_law_494 rfl (lv_at hl 3 rfl) ?_
  refine z_iconst hx hb dL_law_495 ?_
  refine z_iadd hx hb dL_law_496 ?_
  refine l_sld hx hb hX hbl hS hL (j := i + 1) (by omega) (by omega) dL_law_497 ?_
  refine h_callVi (As := [.int (zI (xs (i + 1)).toInt)]) (rest := [.int r]) ⟨hx, hb, hml, hown, hts⟩ (k_X7_orders l D cI ad2 him M hRm n hm2 hn7 (nb n) k0 hst h80 hp (xs (i + 1)).toInt (x_1 _) (x_2 _)) (cwV 1 hts (gV lwT_sub q_939 q_940 q_941 q_8 q_942) rfl rfl rfl hdX7_orders ⟨Nat.le_of_ble_eq_true rfl, Nat.le_of_ble_eq_true rfl⟩) (mEb D cI) (mEk D cI (mA ad2)) hEm (va_recv (ci := 7) (q0 := 0) hKm hPm rfl rfl) hPm hS (fun _ h => h) ham rfl hl.1 rfl (Nat.le_of_ble_eq_true rfl) dL_law_498 ⟨Nat.le_of_ble_eq_true rfl, Nat.le_of_ble_eq_true rfl⟩ (fun r9 M9 H locs hqm hPm hRm hS hk9 => ?_)
  have hPc := keepC hdj hPc hk9
  obtain ⟨s0, hM9, hr9⟩ := hqm
  have hmk : mK M M9 := by rw [hM9]; exact mK1 rfl
  obtain ⟨he, hJ9⟩ := s_eq hJ hmk hqc hr9 (orders2 hO hk hd hp _ _)
  subst he
  refine lv_icmp_eq (tgt := 888) hx hb dL_law_501 (by decide) (fun _ => ?_) (fun h => absurd rfl h)
  exact cont _ _ _ _ hJ9 ⟨hPc, hPm, hRc, hRm, hS⟩
set_option maxHeartbeats 4000000 in
set_option maxRecDepth 100000 in
theorem o_order {p : Program} {l : Launch} {e : Env} {s : State} {m : MethodId} {below : List Frame} {meth : Method} {c : Code} {b L : Nat} {xs : Nat → Int32} {D : va_G} {cI cZ : ClassId} {ad ad2 : Nat → Nat} {az av : Nat} (K : LC p s m c b L xs D cI cZ ad ad2 az av) {i : Nat} (hi : i + 4 ≤ L) {C M : St} (hJ : JJ i C M) {H : Heap} {locs : List Loc} {ls : Array Slot} (hI : LI D cI cZ ad ad2 s C M H locs) (hl : lv_has ls 4 [(0, .ref b), (1, .ref (ad 40)), (2, .ref (ad2 26)), (3, .int (zI ↑i))]) (cont : ∀ (C M : St) (H : Heap) (locs : List Loc), JJ (i + 4) C M → LI D cI cZ ad ad2 s C M H locs → LG p l e s m below meth c b H locs (F0 m 888 ls [])) : LG p l e s m below meth c b H locs (F0 m 506 ls []) := by
  obtain ⟨hx, hb, hml, hown, hts, hX, hbl, hL, hEc, hEm, hic, him, hac, ham, hdj⟩ := K
  obtain ⟨n, sz, k0, m9, hJ⟩ := hJ
  obtain ⟨⟨hc1, hm1, hsz9⟩, hpg, hnn, hn7, hT0, hV0, hT9, hV9, ⟨hk8, hk0⟩, ⟨hm2, hst, h80, hp⟩, hse, ⟨hm15, hsg⟩⟩ := J_use hJ
  obtain ⟨hd, -, hk, hO, htt, hs⟩ := J_row hJ
  have hpa := hJ.2.2.2.2.2.2.2.2
  obtain ⟨hPc, hPm, hRc, hRm, hS⟩ := hI
  have hKc : va_K D vwCl [(cI, .int), (cZ, .boolean)] s := hEc.1
  have hKm : va_K D vwCl [(cI, .int)] s := hEm
  unfold LG at cont ⊢
  refine lv_aload_n hx hb dL_law_506 rfl (lv_at hl 1 rfl) ?_
  refine lv_aload_n hx hb dL_law_507 rfl (lv_at hl 0 rfl) ?_
  refine lv_iload_n hx hb dL_law_508 rfl (lv_at hl 3 rfl) ?_
  refine z_iconst hx hb dL_law_509 ?_
  refine z_iadd hx hb dL_law_510 ?_
  refine l_sld hx hb hX hbl hS hL (j := i + 1) (by omega) (by omega) dL_law_511 ?_
  refine lv_aload_n hx hb dL_law_512 rfl (lv_at hl 0 rfl) ?_
  refine lv_iload_n hx hb dL_law_513 rfl (lv_at hl 3 rfl) ?_
  refine z_iconst hx hb dL_law_514 ?_
  refine z_iadd hx hb dL_law_515 ?_
  refine l_sld hx hb hX hbl hS hL (j := i + 2) (by omega) (by omega) dL_law_516 ?_
  refine h_callVi (As := [.int (zI (xs (i + 1)).toInt), .int (zI (xs (i + 2)).toInt)]) (rest := []) ⟨hx, hb, hml, hown, hts⟩ (k_X6_order l D cI cZ ad az av hic C hRc n (nb n) (M 7) hT9 hV9 k0 hk8 hk0 (xs (i + 1)).toInt (xs (i + 2)).toInt (x_1 _) (x_2 _) (x_1 _) (x_2 _)) (cwV 2 hts (gV lwT_sub q_491 q_492 q_493 q_1 q_494) rfl rfl rfl hdX6_order ⟨Nat.le_of_ble_eq_true rfl, Nat.le_of_ble_eq_true rfl⟩) (cEb D cI cZ ad az av) (cEk D cI cZ ad az av) hEc (va_recv (ci := 6) (q0 := 0) hKc hPc rfl rfl) hPc hS (fun _ h => h) hac rfl hl.1 rfl (Nat.le_of_ble_eq_true rfl) dL_law_517 ⟨Nat.le_of_ble_eq_true rfl, Nat.le_of_ble_eq_true rfl⟩ (fun r C9 H locs hqc hPc hRc hS hk9 => ?_)
  have hPm := keepM hdj hPm hk9
  refine lv_aload_n hx hb dL_law_520 rfl (lv_at hl 2 rfl) ?_
  refine lv_aload_n hx hb dL_law_521 rfl (lv_at hl 0 rfl) ?_
  refine lv_iload_n hx hb dL_law_522 rfl (lv_at hl 3 rfl) ?_
  refine z_iconst hx hb dL_law_523 ?_
  refine z_iadd hx hb dL_law_524 ?_
  refine l_sld hx hb hX hbl hS hL (j := i + 1) (by omega) (by omega) dL_law_525 ?_
  refine lv_aload_n hx hb dL_law_526 rfl (lv_at hl 0 rfl) ?_
  refine lv_iload_n hx hb dL_law_527 rfl (lv_at hl 3 rfl) ?_
  refine z_iconst hx hb dL_law_528 ?_
  refine z_iadd hx hb dL_law_529 ?_
  refine l_sld hx hb hX hbl hS hL (j := i + 2) (by omega) (by omega) dL_law_530 ?_
  refine h_callVi (As := [.int (zI (xs (i + 1)).toInt), .int (zI (xs (i + 2)).toInt)]) (rest := [.int r]) ⟨hx, hb, hml, hown, hts⟩ (k_X7_order l D cI ad2 him M hRm n hm2 hn7 (nb n) k0 hst h80 hp (xs (i + 1)).toInt (xs (i + 2)).toInt (x_1 _) (x_2 _) (x_1 _) (x_2 _)) (cwV 2 hts (gV lwT_sub q_951 q_952 q_953 q_8 q_954) rfl rfl rfl hdX7_order ⟨Nat.le_of_ble_eq_true rfl, Nat.le_of_ble_eq_true rfl⟩) (mEb D cI) (mEk D cI (mA ad2)) hEm (va_recv (ci := 7) (q0 := 0) hKm hPm rfl rfl) hPm hS (fun _ h => h) ham rfl hl.1 rfl (Nat.le_of_ble_eq_true rfl) dL_law_531 ⟨Nat.le_of_ble_eq_true rfl, Nat.le_of_ble_eq_true rfl⟩ (fun r9 M9 H locs hqm hPm hRm hS hk9 => ?_)
  have hPc := keepC hdj hPc hk9
  obtain ⟨s0, s1, hM9, hr9⟩ := hqm
  have hmk : mK M M9 := by rw [hM9]; exact (mK1 rfl).tr (mK1 rfl)
  obtain ⟨he, hJ9⟩ := s_eq hJ hmk hqc hr9 (order2 hO hk _ _)
  subst he
  refine lv_icmp_eq (tgt := 888) hx hb dL_law_534 (by decide) (fun _ => ?_) (fun h => absurd rfl h)
  exact cont _ _ _ _ hJ9 ⟨hPc, hPm, hRc, hRm, hS⟩
