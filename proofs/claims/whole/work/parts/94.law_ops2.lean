set_option maxHeartbeats 4000000 in
set_option maxRecDepth 100000 in
theorem o_tops {p : Program} {l : Launch} {e : Env} {s : State} {m : MethodId} {below : List Frame} {meth : Method} {c : Code} {b L : Nat} {xs : Nat → Int32} {D : va_G} {cI cZ : ClassId} {ad ad2 : Nat → Nat} {az av : Nat} (K : LC p s m c b L xs D cI cZ ad ad2 az av) {i : Nat} (hi : i + 4 ≤ L) {C M : St} (hJ : JJ i C M) {H : Heap} {locs : List Loc} {ls : Array Slot} (hI : LI D cI cZ ad ad2 s C M H locs) (hl : lv_has ls 4 [(0, .ref b), (1, .ref (ad 40)), (2, .ref (ad2 26)), (3, .int (zI ↑i))]) (cont : ∀ (C M : St) (H : Heap) (locs : List Loc), JJ (i + 4) C M → LI D cI cZ ad ad2 s C M H locs → LG p l e s m below meth c b H locs (F0 m 888 ls [])) : LG p l e s m below meth c b H locs (F0 m 539 ls []) := by
  obtain ⟨hx, hb, hml, hown, hts, hX, hbl, hL, hEc, hEm, hic, him, hac, ham, hdj⟩ := K
  obtain ⟨n, sz, k0, m9, hJ⟩ := hJ
  obtain ⟨⟨hc1, hm1, hsz9⟩, hpg, hnn, hn7, hT0, hV0, hT9, hV9, ⟨hk8, hk0⟩, ⟨hm2, hst, h80, hp⟩, hse, ⟨hm15, hsg⟩⟩ := J_use hJ
  obtain ⟨hd, -, hk, hO, htt, hs⟩ := J_row hJ
  have hpa := hJ.2.2.2.2.2.2.2.2
  obtain ⟨hPc, hPm, hRc, hRm, hS⟩ := hI
  have hKc : va_K D vwCl [(cI, .int), (cZ, .boolean)] s := hEc.1
  have hKm : va_K D vwCl [(cI, .int)] s := hEm
  unfold LG at cont ⊢
  refine lv_aload_n hx hb dL_law_539 rfl (lv_at hl 1 rfl) ?_
  refine lv_aload_n hx hb dL_law_540 rfl (lv_at hl 0 rfl) ?_
  refine lv_iload_n hx hb dL_law_541 rfl (lv_at hl 3 rfl) ?_
  refine z_iconst hx hb dL_law_542 ?_
  refine z_iadd hx hb dL_law_543 ?_
  refine l_sld hx hb hX hbl hS hL (j := i + 1) (by omega) (by omega) dL_law_544 ?_
  refine lv_aload_n hx hb dL_law_545 rfl (lv_at hl 0 rfl) ?_
  refine lv_iload_n hx hb dL_law_546 rfl (lv_at hl 3 rfl) ?_
  refine z_iconst hx hb dL_law_547 ?_
  refine z_iadd hx hb dL_law_548 ?_
  refine l_sld hx hb hX hbl hS hL (j := i + 2) (by omega) (by omega) dL_law_549 ?_
  refine h_callVi (As := [.int (zI (xs (i + 1)).toInt), .int (zI (xs (i + 2)).toInt)]) (rest := []) ⟨hx, hb, hml, hown, hts⟩ (k_X6_tops l D cI cZ ad az av hic C hRc n (nb n) (M 7) hT9 hV9 k0 hk8 hk0 (xs (i + 1)).toInt (xs (i + 2)).toInt (x_1 _) (x_2 _) (x_1 _) (x_2 _)) (cwV 2 hts (gV lwT_sub q_499 q_500 q_501 q_1 q_502) rfl rfl rfl hdX6_tops ⟨Nat.le_of_ble_eq_true rfl, Nat.le_of_ble_eq_true rfl⟩) (cEb D cI cZ ad az av) (cEk D cI cZ ad az av) hEc (va_recv (ci := 6) (q0 := 0) hKc hPc rfl rfl) hPc hS (fun _ h => h) hac rfl hl.1 rfl (Nat.le_of_ble_eq_true rfl) dL_law_550 ⟨Nat.le_of_ble_eq_true rfl, Nat.le_of_ble_eq_true rfl⟩ (fun r C9 H locs hqc hPc hRc hS hk9 => ?_)
  have hPm := keepM hdj hPm hk9
  refine lv_aload_n hx hb dL_law_553 rfl (lv_at hl 2 rfl) ?_
  refine lv_aload_n hx hb dL_law_554 rfl (lv_at hl 0 rfl) ?_
  refine lv_iload_n hx hb dL_law_555 rfl (lv_at hl 3 rfl) ?_
  refine z_iconst hx hb dL_law_556 ?_
  refine z_iadd hx hb dL_law_557 ?_
  refine l_sld hx hb hX hbl hS hL (j := i + 1) (by omega) (by omega) dL_law_558 ?_
  refine lv_aload_n hx hb dL_law_559 rfl (lv_at hl 0 rfl) ?_
  refine lv_iload_n hx hb dL_law_560 rfl (lv_at hl 3 rfl) ?_
  refine z_iconst hx hb dL_law_561 ?_
  refine z_iadd hx hb dL_law_562 ?_
  refine l_sld hx hb hX hbl hS hL (j := i + 2) (by omega) (by omega) dL_law_563 ?_
  refine h_callVi (As := [.int (zI (xs (i + 1)).toInt), .int (zI (xs (i + 2)).toInt)]) (rest := [.int r]) ⟨hx, hb, hml, hown, hts⟩ (k_X7_tops l D cI ad2 him M hRm n hm2 hn7 (nb n) k0 hst h80 hp (xs (i + 1)).toInt (xs (i + 2)).toInt (x_1 _) (x_2 _) (x_1 _) (x_2 _)) (cwV 2 hts (gV lwT_sub q_961 q_962 q_963 q_8 q_964) rfl rfl rfl hdX7_tops ⟨Nat.le_of_ble_eq_true rfl, Nat.le_of_ble_eq_true rfl⟩) (mEb D cI) (mEk D cI (mA ad2)) hEm (va_recv (ci := 7) (q0 := 0) hKm hPm rfl rfl) hPm hS (fun _ h => h) ham rfl hl.1 rfl (Nat.le_of_ble_eq_true rfl) dL_law_564 ⟨Nat.le_of_ble_eq_true rfl, Nat.le_of_ble_eq_true rfl⟩ (fun r9 M9 H locs hqm hPm hRm hS hk9 => ?_)
  have hPc := keepC hdj hPc hk9
  obtain ⟨s0, hM9, hr9⟩ := hqm
  have hmk : mK M M9 := by rw [hM9]; exact mK1 rfl
  obtain ⟨he, hJ9⟩ := s_eq hJ hmk hqc hr9 (tops2 hO hk _ _)
  subst he
  refine lv_icmp_eq (tgt := 888) hx hb dL_law_567 (by decide) (fun _ => ?_) (fun h => absurd rfl h)
  exact cont _ _ _ _ hJ9 ⟨hPc, hPm, hRc, hRm, hS⟩
set_option maxHeartbeats 4000000 in
set_option maxRecDepth 100000 in
theorem o_near {p : Program} {l : Launch} {e : Env} {s : State} {m : MethodId} {below : List Frame} {meth : Method} {c : Code} {b L : Nat} {xs : Nat → Int32} {D : va_G} {cI cZ : ClassId} {ad ad2 : Nat → Nat} {az av : Nat} (K : LC p s m c b L xs D cI cZ ad ad2 az av) {i : Nat} (hi : i + 4 ≤ L) {C M : St} (hJ : JJ i C M) {H : Heap} {locs : List Loc} {ls : Array Slot} (hI : LI D cI cZ ad ad2 s C M H locs) (hl : lv_has ls 4 [(0, .ref b), (1, .ref (ad 40)), (2, .ref (ad2 26)), (3, .int (zI ↑i))]) (cont : ∀ (C M : St) (H : Heap) (locs : List Loc), JJ (i + 4) C M → LI D cI cZ ad ad2 s C M H locs → LG p l e s m below meth c b H locs (F0 m 888 ls [])) : LG p l e s m below meth c b H locs (F0 m 572 ls []) := by
  obtain ⟨hx, hb, hml, hown, hts, hX, hbl, hL, hEc, hEm, hic, him, hac, ham, hdj⟩ := K
  obtain ⟨n, sz, k0, m9, hJ⟩ := hJ
  obtain ⟨⟨hc1, hm1, hsz9⟩, hpg, hnn, hn7, hT0, hV0, hT9, hV9, ⟨hk8, hk0⟩, ⟨hm2, hst, h80, hp⟩, hse, ⟨hm15, hsg⟩⟩ := J_use hJ
  obtain ⟨hd, -, hk, hO, htt, hs⟩ := J_row hJ
  have hpa := hJ.2.2.2.2.2.2.2.2
  obtain ⟨hPc, hPm, hRc, hRm, hS⟩ := hI
  have hKc : va_K D vwCl [(cI, .int), (cZ, .boolean)] s := hEc.1
  have hKm : va_K D vwCl [(cI, .int)] s := hEm
  unfold LG at cont ⊢
  refine lv_aload_n hx hb dL_law_572 rfl (lv_at hl 1 rfl) ?_
  refine lv_aload_n hx hb dL_law_573 rfl (lv_at hl 0 rfl) ?_
  refine lv_iload_n hx hb dL_law_574 rfl (lv_at hl 3 rfl) ?_
  refine z_iconst hx hb dL_law_575 ?_
  refine z_iadd hx hb dL_law_576 ?_
  refine l_sld hx hb hX hbl hS hL (j := i + 1) (by omega) (by omega) dL_law_577 ?_
  refine h_callVi (As := [.int (zI (xs (i + 1)).toInt)]) (rest := []) ⟨hx, hb, hml, hown, hts⟩ (k_X6_near l D cI cZ ad az av hic C hRc n (nb n) (tb n) hT0 hV0 k0 hk8 hk0 hnn rfl rfl hpa (xs (i + 1)).toInt (x_1 _) (x_2 _)) (cwV 1 hts (gV lwT_sub q_503 q_504 q_505 q_1 q_506) rfl rfl rfl hdX6_near ⟨Nat.le_of_ble_eq_true rfl, Nat.le_of_ble_eq_true rfl⟩) (cEb D cI cZ ad az av) (cEk D cI cZ ad az av) hEc (va_recv (ci := 6) (q0 := 0) hKc hPc rfl rfl) hPc hS (fun _ h => h) hac rfl hl.1 rfl (Nat.le_of_ble_eq_true rfl) dL_law_578 ⟨Nat.le_of_ble_eq_true rfl, Nat.le_of_ble_eq_true rfl⟩ (fun r C9 H locs hqc hPc hRc hS hk9 => ?_)
  have hPm := keepM hdj hPm hk9
  refine lv_aload_n hx hb dL_law_581 rfl (lv_at hl 2 rfl) ?_
  refine lv_aload_n hx hb dL_law_582 rfl (lv_at hl 0 rfl) ?_
  refine lv_iload_n hx hb dL_law_583 rfl (lv_at hl 3 rfl) ?_
  refine z_iconst hx hb dL_law_584 ?_
  refine z_iadd hx hb dL_law_585 ?_
  refine l_sld hx hb hX hbl hS hL (j := i + 1) (by omega) (by omega) dL_law_586 ?_
  refine h_callVi (As := [.int (zI (xs (i + 1)).toInt)]) (rest := [.int r]) ⟨hx, hb, hml, hown, hts⟩ (k_X7_near l D cI ad2 him M hRm n hm2 hn7 (nb n) k0 hst h80 hp (xs (i + 1)).toInt (x_1 _) (x_2 _)) (cwV 1 hts (gV lwT_sub q_804 q_805 q_806 q_8 q_807) rfl rfl rfl hdX7_near ⟨Nat.le_of_ble_eq_true rfl, Nat.le_of_ble_eq_true rfl⟩) (mEb D cI) (mEk D cI (mA ad2)) hEm (va_recv (ci := 7) (q0 := 0) hKm hPm rfl rfl) hPm hS (fun _ h => h) ham rfl hl.1 rfl (Nat.le_of_ble_eq_true rfl) dL_law_587 ⟨Nat.le_of_ble_eq_true rfl, Nat.le_of_ble_eq_true rfl⟩ (fun r9 M9 H locs hqm hPm hRm hS hk9 => ?_)
  have hPc := keepC hdj hPc hk9
  obtain ⟨he, hJ9⟩ := s_near hJ hqc hqm
  subst he
  refine lv_icmp_eq (tgt := 888) hx hb dL_law_590 (by decide) (fun _ => ?_) (fun h => absurd rfl h)
  exact cont _ _ _ _ hJ9 ⟨hPc, hPm, hRc, hRm, hS⟩
set_option maxHeartbeats 4000000 in
set_option maxRecDepth 100000 in
theorem o_far {p : Program} {l : Launch} {e : Env} {s : State} {m : MethodId} {below : List Frame} {meth : Method} {c : Code} {b L : Nat} {xs : Nat → Int32} {D : va_G} {cI cZ : ClassId} {ad ad2 : Nat → Nat} {az av : Nat} (K : LC p s m c b L xs D cI cZ ad ad2 az av) {i : Nat} (hi : i + 4 ≤ L) {C M : St} (hJ : JJ i C M) {H : Heap} {locs : List Loc} {ls : Array Slot} (hI : LI D cI cZ ad ad2 s C M H locs) (hl : lv_has ls 4 [(0, .ref b), (1, .ref (ad 40)), (2, .ref (ad2 26)), (3, .int (zI ↑i))]) (cont : ∀ (C M : St) (H : Heap) (locs : List Loc), JJ (i + 4) C M → LI D cI cZ ad ad2 s C M H locs → LG p l e s m below meth c b H locs (F0 m 888 ls [])) : LG p l e s m below meth c b H locs (F0 m 595 ls []) := by
  obtain ⟨hx, hb, hml, hown, hts, hX, hbl, hL, hEc, hEm, hic, him, hac, ham, hdj⟩ := K
  obtain ⟨n, sz, k0, m9, hJ⟩ := hJ
  obtain ⟨⟨hc1, hm1, hsz9⟩, hpg, hnn, hn7, hT0, hV0, hT9, hV9, ⟨hk8, hk0⟩, ⟨hm2, hst, h80, hp⟩, hse, ⟨hm15, hsg⟩⟩ := J_use hJ
  obtain ⟨hd, -, hk, hO, htt, hs⟩ := J_row hJ
  have hpa := hJ.2.2.2.2.2.2.2.2
  obtain ⟨hPc, hPm, hRc, hRm, hS⟩ := hI
  have hKc : va_K D vwCl [(cI, .int), (cZ, .boolean)] s := hEc.1
  have hKm : va_K D vwCl [(cI, .int)] s := hEm
  unfold LG at cont ⊢
  refine lv_aload_n hx hb dL_law_595 rfl (lv_at hl 1 rfl) ?_
  refine lv_aload_n hx hb dL_law_596 rfl (lv_at hl 0 rfl) ?_
  refine lv_iload_n hx hb dL_law_597 rfl (lv_at hl 3 rfl) ?_
  refine z_iconst hx hb dL_law_598 ?_
  refine z_iadd hx hb dL_law_599 ?_
  refine l_sld hx hb hX hbl hS hL (j := i + 1) (by omega) (by omega) dL_law_600 ?_
  refine h_callVi (As := [.int (zI (xs (i + 1)).toInt)]) (rest := []) ⟨hx, hb, hml, hown, hts⟩ (k_X6_far l D cI cZ ad az av hic C hRc n (nb n) (tb n) hT0 hV0 k0 hk8 hk0 hnn rfl rfl hpa (xs (i + 1)).toInt (x_1 _) (x_2 _)) (cwV 1 hts (gV lwT_sub q_533 q_534 q_535 q_1 q_536) rfl rfl rfl hdX6_far ⟨Nat.le_of_ble_eq_true rfl, Nat.le_of_ble_eq_true rfl⟩) (cEb D cI cZ ad az av) (cEk D cI cZ ad az av) hEc (va_recv (ci := 6) (q0 := 0) hKc hPc rfl rfl) hPc hS (fun _ h => h) hac rfl hl.1 rfl (Nat.le_of_ble_eq_true rfl) dL_law_601 ⟨Nat.le_of_ble_eq_true rfl, Nat.le_of_ble_eq_true rfl⟩ (fun r C9 H locs hqc hPc hRc hS hk9 => ?_)
  have hPm := keepM hdj hPm hk9
  refine lv_aload_n hx hb dL_law_604 rfl (lv_at hl 2 rfl) ?_
  refine lv_aload_n hx hb dL_law_605 rfl (lv_at hl 0 rfl) ?_
  refine lv_iload_n hx hb dL_law_606 rfl (lv_at hl 3 rfl) ?_
  refine z_iconst hx hb dL_law_607 ?_
  refine z_iadd hx hb dL_law_608 ?_
  refine l_sld hx hb hX hbl hS hL (j := i + 1) (by omega) (by omega) dL_law_609 ?_
  refine h_callVi (As := [.int (zI (xs (i + 1)).toInt)]) (rest := [.int r]) ⟨hx, hb, hml, hown, hts⟩ (k_X7_far l D cI ad2 him M hRm n hm2 hn7 (nb n) k0 hst h80 hp (xs (i + 1)).toInt (x_1 _) (x_2 _)) (cwV 1 hts (gV lwT_sub q_849 q_850 q_851 q_8 q_852) rfl rfl rfl hdX7_far ⟨Nat.le_of_ble_eq_true rfl, Nat.le_of_ble_eq_true rfl⟩) (mEb D cI) (mEk D cI (mA ad2)) hEm (va_recv (ci := 7) (q0 := 0) hKm hPm rfl rfl) hPm hS (fun _ h => h) ham rfl hl.1 rfl (Nat.le_of_ble_eq_true rfl) dL_law_610 ⟨Nat.le_of_ble_eq_true rfl, Nat.le_of_ble_eq_true rfl⟩ (fun r9 M9 H locs hqm hPm hRm hS hk9 => ?_)
  have hPc := keepC hdj hPc hk9
  obtain ⟨he, hJ9⟩ := s_far hJ hqc hqm
  subst he
  refine lv_icmp_eq (tgt := 888) hx hb dL_law_613 (by decide) (fun _ => ?_) (fun h => absurd rfl h)
  exact cont _ _ _ _ hJ9 ⟨hPc, hPm, hRc, hRm, hS⟩
set_option maxHeartbeats 4000000 in
set_option maxRecDepth 100000 in
theorem o_trim {p : Program} {l : Launch} {e : Env} {s : State} {m : MethodId} {below : List Frame} {meth : Method} {c : Code} {b L : Nat} {xs : Nat → Int32} {D : va_G} {cI cZ : ClassId} {ad ad2 : Nat → Nat} {az av : Nat} (K : LC p s m c b L xs D cI cZ ad ad2 az av) {i : Nat} (hi : i + 4 ≤ L) {C M : St} (hJ : JJ i C M) {H : Heap} {locs : List Loc} {ls : Array Slot} (hI : LI D cI cZ ad ad2 s C M H locs) (hl : lv_has ls 4 [(0, .ref b), (1, .ref (ad 40)), (2, .ref (ad2 26)), (3, .int (zI ↑i))]) (cont : ∀ (C M : St) (H : Heap) (locs : List Loc), JJ (i + 4) C M → LI D cI cZ ad ad2 s C M H locs → LG p l e s m below meth c b H locs (F0 m 888 ls [])) : LG p l e s m below meth c b H locs (F0 m 618 ls []) := by
  obtain ⟨hx, hb, hml, hown, hts, hX, hbl, hL, hEc, hEm, hic, him, hac, ham, hdj⟩ := K
  obtain ⟨n, sz, k0, m9, hJ⟩ := hJ
  obtain ⟨⟨hc1, hm1, hsz9⟩, hpg, hnn, hn7, hT0, hV0, hT9, hV9, ⟨hk8, hk0⟩, ⟨hm2, hst, h80, hp⟩, hse, ⟨hm15, hsg⟩⟩ := J_use hJ
  obtain ⟨hd, -, hk, hO, htt, hs⟩ := J_row hJ
  have hpa := hJ.2.2.2.2.2.2.2.2
  obtain ⟨hPc, hPm, hRc, hRm, hS⟩ := hI
  have hKc : va_K D vwCl [(cI, .int), (cZ, .boolean)] s := hEc.1
  have hKm : va_K D vwCl [(cI, .int)] s := hEm
  unfold LG at cont ⊢
  refine lv_aload_n hx hb dL_law_618 rfl (lv_at hl 1 rfl) ?_
  refine lv_aload_n hx hb dL_law_619 rfl (lv_at hl 0 rfl) ?_
  refine lv_iload_n hx hb dL_law_620 rfl (lv_at hl 3 rfl) ?_
  refine z_iconst hx hb dL_law_621 ?_
  refine z_iadd hx hb dL_law_622 ?_
  refine l_sld hx hb hX hbl hS hL (j := i + 1) (by omega) (by omega) dL_law_623 ?_
  refine h_callVi (As := [.int (zI (xs (i + 1)).toInt)]) (rest := []) ⟨hx, hb, hml, hown, hts⟩ (k_X6_trim l D cI cZ ad az av hic C hRc n (nb n) (M 7) hT9 hV9 k0 hk8 hk0 (xs (i + 1)).toInt (x_1 _) (x_2 _)) (cwV 1 hts (gV lwT_sub q_545 q_546 q_547 q_1 q_548) rfl rfl rfl hdX6_trim ⟨Nat.le_of_ble_eq_true rfl, Nat.le_of_ble_eq_true rfl⟩) (cEb D cI cZ ad az av) (cEk D cI cZ ad az av) hEc (va_recv (ci := 6) (q0 := 0) hKc hPc rfl rfl) hPc hS (fun _ h => h) hac rfl hl.1 rfl (Nat.le_of_ble_eq_true rfl) dL_law_624 ⟨Nat.le_of_ble_eq_true rfl, Nat.le_of_ble_eq_true rfl⟩ (fun r C9 H locs hqc hPc hRc hS hk9 => ?_)
  have hPm := keepM hdj hPm hk9
  refine lv_aload_n hx hb dL_law_627 rfl (lv_at hl 2 rfl) ?_
  refine lv_aload_n hx hb dL_law_628 rfl (lv_at hl 0 rfl) ?_
  refine lv_iload_n hx hb dL_law_629 rfl (lv_at hl 3 rfl) ?_
  refine z_iconst hx hb dL_law_630 ?_
  refine z_iadd hx hb dL_law_631 ?_
  refine l_sld hx hb hX hbl hS hL (j := i + 1) (by omega) (by omega) dL_law_632 ?_
  refine h_callVi (As := [.int (zI (xs (i + 1)).toInt)]) (rest := [.int r]) ⟨hx, hb, hml, hown, hts⟩ (k_X7_trim l D cI ad2 him M hRm n hm2 hn7 (nb n) k0 hst h80 hp (xs (i + 1)).toInt (x_1 _) (x_2 _)) (cwV 1 hts (gV lwT_sub q_882 q_883 q_884 q_8 q_885) rfl rfl rfl hdX7_trim ⟨Nat.le_of_ble_eq_true rfl, Nat.le_of_ble_eq_true rfl⟩) (mEb D cI) (mEk D cI (mA ad2)) hEm (va_recv (ci := 7) (q0 := 0) hKm hPm rfl rfl) hPm hS (fun _ h => h) ham rfl hl.1 rfl (Nat.le_of_ble_eq_true rfl) dL_law_633 ⟨Nat.le_of_ble_eq_true rfl, Nat.le_of_ble_eq_true rfl⟩ (fun r9 M9 H locs hqm hPm hRm hS hk9 => ?_)
  have hPc := keepC hdj hPc hk9
  obtain ⟨v8, hC8, hv8, hr8⟩ := hqc
  obtain ⟨s0, s1, hM9, v9, hv9, hr9⟩ := hqm
  have hmk : mK M M9 := by rw [hM9]; exact (mK1 rfl).tr (mK1 rfl)
  obtain ⟨he, hJ9⟩ := s_eq hJ hmk ⟨hC8, hr8⟩ hr9 (trim2 hO hk hv8 hv9)
  subst he
  refine lv_icmp_eq (tgt := 888) hx hb dL_law_636 (by decide) (fun _ => ?_) (fun h => absurd rfl h)
  exact cont _ _ _ _ hJ9 ⟨hPc, hPm, hRc, hRm, hS⟩
set_option maxHeartbeats 4000000 in
set_option maxRecDepth 100000 in
theorem o_odds {p : Program} {l : Launch} {e : Env} {s : State} {m : MethodId} {below : List Frame} {meth : Method} {c : Code} {b L : Nat} {xs : Nat → Int32} {D : va_G} {cI cZ : ClassId} {ad ad2 : Nat → Nat} {az av : Nat} (K : LC p s m c b L xs D cI cZ ad ad2 az av) {i : Nat} (hi : i + 4 ≤ L) {C M : St} (hJ : JJ i C M) {H : Heap} {locs : List Loc} {ls : Array Slot} (hI : LI D cI cZ ad ad2 s C M H locs) (hl : lv_has ls 4 [(0, .ref b), (1, .ref (ad 40)), (2, .ref (ad2 26)), (3, .int (zI ↑i))]) (cont : ∀ (C M : St) (H : Heap) (locs : List Loc), JJ (i + 4) C M → LI D cI cZ ad ad2 s C M H locs → LG p l e s m below meth c b H locs (F0 m 888 ls [])) : LG p l e s m below meth c b H locs (F0 m 641 ls []) := by
  obtain ⟨hx, hb, hml, hown, hts, hX, hbl, hL, hEc, hEm, hic, him, hac, ham, hdj⟩ := K
  obtain ⟨n, sz, k0, m9, hJ⟩ := hJ
  obtain ⟨⟨hc1, hm1, hsz9⟩, hpg, hnn, hn7, hT0, hV0, hT9, hV9, ⟨hk8, hk0⟩, ⟨hm2, hst, h80, hp⟩, hse, ⟨hm15, hsg⟩⟩ := J_use hJ
  obtain ⟨hd, -, hk, hO, htt, hs⟩ := J_row hJ
  have hpa := hJ.2.2.2.2.2.2.2.2
  obtain ⟨hPc, hPm, hRc, hRm, hS⟩ := hI
  have hKc : va_K D vwCl [(cI, .int), (cZ, .boolean)] s := hEc.1
  have hKm : va_K D vwCl [(cI, .int)] s := hEm
  unfold LG at cont ⊢
  refine lv_aload_n hx hb dL_law_641 rfl (lv_at hl 1 rfl) ?_
  refine lv_aload_n hx hb dL_law_642 rfl (lv_at hl 0 rfl) ?_
  refine lv_iload_n hx hb dL_law_643 rfl (lv_at hl 3 rfl) ?_
  refine z_iconst hx hb dL_law_644 ?_
  refine z_iadd hx hb dL_law_645 ?_
  refine l_sld hx hb hX hbl hS hL (j := i + 1) (by omega) (by omega) dL_law_646 ?_
  refine lv_aload_n hx hb dL_law_647 rfl (lv_at hl 0 rfl) ?_
  refine lv_iload_n hx hb dL_law_648 rfl (lv_at hl 3 rfl) ?_
  refine z_iconst hx hb dL_law_649 ?_
  refine z_iadd hx hb dL_law_650 ?_
  refine l_sld hx hb hX hbl hS hL (j := i + 2) (by omega) (by omega) dL_law_651 ?_
  refine lv_aload_n hx hb dL_law_652 rfl (lv_at hl 0 rfl) ?_
  refine lv_iload_n hx hb dL_law_653 rfl (lv_at hl 3 rfl) ?_
  refine z_iconst hx hb dL_law_654 ?_
  refine z_iadd hx hb dL_law_655 ?_
  refine l_sld hx hb hX hbl hS hL (j := i + 3) (by omega) (by omega) dL_law_656 ?_
  refine h_callVi (As := [.int (zI (xs (i + 1)).toInt), .int (zI (xs (i + 2)).toInt), .int (zI (xs (i + 3)).toInt)]) (rest := []) ⟨hx, hb, hml, hown, hts⟩ (k_X6_odds l D cI cZ ad az av hic C hRc n (nb n) (M 7) hT9 hV9 k0 hk8 hk0 (xs (i + 1)).toInt (xs (i + 2)).toInt (xs (i + 3)).toInt (x_1 _) (x_2 _) (x_1 _) (x_2 _) (x_1 _) (x_2 _)) (cwV 3 hts (gV lwT_sub q_553 q_554 q_555 q_1 q_556) rfl rfl rfl hdX6_odds ⟨Nat.le_of_ble_eq_true rfl, Nat.le_of_ble_eq_true rfl⟩) (cEb D cI cZ ad az av) (cEk D cI cZ ad az av) hEc (va_recv (ci := 6) (q0 := 0) hKc hPc rfl rfl) hPc hS (fun _ h => h) hac rfl hl.1 rfl (Nat.le_of_ble_eq_true rfl) dL_law_657 ⟨Nat.le_of_ble_eq_true rfl, Nat.le_of_ble_eq_true rfl⟩ (fun r C9 H locs hqc hPc hRc hS hk9 => ?_)
  have hPm := keepM hdj hPm hk9
  refine lv_aload_n hx hb dL_law_660 rfl (lv_at hl 2 rfl) ?_
  refine lv_aload_n hx hb dL_law_661 rfl (lv_at hl 0 rfl) ?_
  refine lv_iload_n hx hb dL_law_662 rfl (lv_at hl 3 rfl) ?_
  refine z_iconst hx hb dL_law_663 ?_
  refine z_iadd hx hb dL_law_664 ?_
  refine l_sld hx hb hX hbl hS hL (j := i + 1) (by omega) (by omega) dL_law_665 ?_
  refine lv_aload_n hx hb dL_law_666 rfl (lv_at hl 0 rfl) ?_
  refine lv_iload_n hx hb dL_law_667 rfl (lv_at hl 3 rfl) ?_
  refine z_iconst hx hb dL_law_668 ?_
  refine z_iadd hx hb dL_law_669 ?_
  refine l_sld hx hb hX hbl hS hL (j := i + 2) (by omega) (by omega) dL_law_670 ?_
  refine lv_aload_n hx hb dL_law_671 rfl (lv_at hl 0 rfl) ?_
  refine lv_iload_n hx hb dL_law_672 rfl (lv_at hl 3 rfl) ?_
  refine z_iconst hx hb dL_law_673 ?_
  refine z_iadd hx hb dL_law_674 ?_
  refine l_sld hx hb hX hbl hS hL (j := i + 3) (by omega) (by omega) dL_law_675 ?_
  refine h_callVi (As := [.int (zI (xs (i + 1)).toInt), .int (zI (xs (i + 2)).toInt), .int (zI (xs (i + 3)).toInt)]) (rest := [.int r]) ⟨hx, hb, hml, hown, hts⟩ (k_X7_odds l D cI ad2 him M hRm n hm2 hn7 (nb n) k0 hst h80 hp (xs (i + 1)).toInt (xs (i + 2)).toInt (xs (i + 3)).toInt (x_1 _) (x_2 _) (x_1 _) (x_2 _) (x_1 _) (x_2 _)) (cwV 3 hts (gV lwT_sub q_902 q_903 q_904 q_8 q_905) rfl rfl rfl hdX7_odds ⟨Nat.le_of_ble_eq_true rfl, Nat.le_of_ble_eq_true rfl⟩) (mEb D cI) (mEk D cI (mA ad2)) hEm (va_recv (ci := 7) (q0 := 0) hKm hPm rfl rfl) hPm hS (fun _ h => h) ham rfl hl.1 rfl (Nat.le_of_ble_eq_true rfl) dL_law_676 ⟨Nat.le_of_ble_eq_true rfl, Nat.le_of_ble_eq_true rfl⟩ (fun r9 M9 H locs hqm hPm hRm hS hk9 => ?_)
  have hPc := keepC hdj hPc hk9
  obtain ⟨s0, hM9, hr9⟩ := hqm
  have hmk : mK M M9 := by rw [hM9]; exact mK1 rfl
  obtain ⟨he, hJ9⟩ := s_eq hJ hmk hqc hr9 (odds2 hO hk _ _ _)
  subst he
  refine lv_icmp_eq (tgt := 888) hx hb dL_law_679 (by decide) (fun _ => ?_) (fun h => absurd rfl h)
  exact cont _ _ _ _ hJ9 ⟨hPc, hPm, hRc, hRm, hS⟩
set_option maxHeartbeats 4000000 in
set_option maxRecDepth 100000 in
theorem o_see {p : Program} {l : Launch} {e : Env} {s : State} {m : MethodId} {below : List Frame} {meth : Method} {c : Code} {b L : Nat} {xs : Nat → Int32} {D : va_G} {cI cZ : ClassId} {ad ad2 : Nat → Nat} {az av : Nat} (K : LC p s m c b L xs D cI cZ ad ad2 az av) {i : Nat} (hi : i + 4 ≤ L) {C M : St} (hJ : JJ i C M) {H : Heap} {locs : List Loc} {ls : Array Slot} (hI : LI D cI cZ ad ad2 s C M H locs) (hl : lv_has ls 4 [(0, .ref b), (1, .ref (ad 40)), (2, .ref (ad2 26)), (3, .int (zI ↑i))]) (cont : ∀ (C M : St) (H : Heap) (locs : List Loc), JJ (i + 4) C M → LI D cI cZ ad ad2 s C M H locs → LG p l e s m below meth c b H locs (F0 m 888 ls [])) : LG p l e s m below meth c b H locs (F0 m 684 ls []) := by
  obtain ⟨hx, hb, hml, hown, hts, hX, hbl, hL, hEc, hEm, hic, him, hac, ham, hdj⟩ := K
  obtain ⟨n, sz, k0, m9, hJ⟩ := hJ
  obtain ⟨⟨hc1, hm1, hsz9⟩, hpg, hnn, hn7, hT0, hV0, hT9, hV9, ⟨hk8, hk0⟩, ⟨hm2, hst, h80, hp⟩, hse, ⟨hm15, hsg⟩⟩ := J_use hJ
  obtain ⟨hd, -, hk, hO, htt, hs⟩ := J_row hJ
  have hpa := hJ.2.2.2.2.2.2.2.2
  obtain ⟨hPc, hPm, hRc, hRm, hS⟩ := hI
  have hKc : va_K D vwCl [(cI, .int), (cZ, .boolean)] s := hEc.1
  have hKm : va_K D vwCl [(cI, .int)] s := hEm
  unfold LG at cont ⊢
  by_cases hz3 : (xs (i + 3)).toInt = 0
  · have hz : (0 : Int) = 0 ∨ (0 : Int) = 1 := by decide
    refine lv_aload_n hx hb dL_law_684 rfl (lv_at hl 1 rfl) ?_
    refine lv_aload_n hx hb dL_law_685 rfl (lv_at hl 0 rfl) ?_
    refine lv_iload_n hx hb dL_law_686 rfl (lv_at hl 3 rfl) ?_
    refine z_iconst hx hb dL_law_687 ?_
    refine z_iadd hx hb dL_law_688 ?_
    refine l_sld hx hb hX hbl hS hL (j := i + 1) (by omega) (by omega) dL_law_689 ?_
    refine lv_aload_n hx hb dL_law_690 rfl (lv_at hl 0 rfl) ?_
    refine lv_iload_n hx hb dL_law_691 rfl (lv_at hl 3 rfl) ?_
    refine z_iconst hx hb dL_law_692 ?_
    refine z_iadd hx hb dL_law_693 ?_
    refine l_sld hx hb hX hbl hS hL (j := i + 2) (by omega) (by omega) dL_law_694 ?_
    refine lv_aload_n hx hb dL_law_695 rfl (lv_at hl 0 rfl) ?_
    refine lv_iload_n hx hb dL_law_696 rfl (lv_at hl 3 rfl) ?_
    refine z_iconst hx hb dL_law_697 ?_
    refine z_iadd hx hb dL_law_698 ?_
    refine l_sld hx hb hX hbl hS hL (j := i + 3) (by omega) (by omega) dL_law_699 ?_
    refine z_if_eq (tgt := 707) hx hb (x_1 _) (x_2 _) dL_law_700 (by decide) (fun _ => ?_) (fun h => absurd hz3 h)
    refine z_iconst hx hb dL_law_707 ?_
    refine h_callVi (As := [.int (zI (xs (i + 1)).toInt), .int (zI (xs (i + 2)).toInt), .int (zI 0)]) (rest := []) ⟨hx, hb, hml, hown, hts⟩ (k_X6_see l D cI cZ ad az av hic C hRc n (nb n) (M 7) hT9 hV9 k0 hk8 hk0 m9 hse (xs (i + 1)).toInt (xs (i + 2)).toInt 0 (x_1 _) (x_2 _) (x_1 _) (x_2 _) hz) (cwV 3 hts (gV lwT_sub q_565 q_566 q_567 q_1 q_568) rfl rfl rfl hdX6_see ⟨Nat.le_of_ble_eq_true rfl, Nat.le_of_ble_eq_true rfl⟩) (cEb D cI cZ ad az av) (cEk D cI cZ ad az av) hEc (va_recv (ci := 6) (q0 := 0) hKc hPc rfl rfl) hPc hS (fun _ h => h) hac rfl hl.1 rfl (Nat.le_of_ble_eq_true rfl) dL_law_708 ⟨Nat.le_of_ble_eq_true rfl, Nat.le_of_ble_eq_true rfl⟩ (fun r C9 H locs hqc hPc hRc hS hk9 => ?_)
    have hPm := keepM hdj hPm hk9
    refine lv_aload_n hx hb dL_law_711 rfl (lv_at hl 2 rfl) ?_
    refine lv_aload_n hx hb dL_law_712 rfl (lv_at hl 0 rfl) ?_
    refine lv_iload_n hx hb dL_law_713 rfl (lv_at hl 3 rfl) ?_
    refine z_iconst hx hb dL_law_714 ?_
    refine z_iadd hx hb dL_law_715 ?_
    refine l_sld hx hb hX hbl hS hL (j := i + 1) (by omega) (by omega) dL_law_716 ?_
    refine lv_aload_n hx hb dL_law_717 rfl (lv_at hl 0 rfl) ?_
    refine lv_iload_n hx hb dL_law_718 rfl (lv_at hl 3 rfl) ?_
    refine z_iconst hx hb dL_law_719 ?_
    refine z_iadd hx hb dL_law_720 ?_
    refine l_sld hx hb hX hbl hS hL (j := i + 2) (by omega) (by omega) dL_law_721 ?_
    refine lv_aload_n hx hb dL_law_722 rfl (lv_at hl 0 rfl) ?_
    refine lv_iload_n hx hb dL_law_723 rfl (lv_at hl 3 rfl) ?_
    refine z_iconst hx hb dL_law_724 ?_
    refine z_iadd hx hb dL_law_725 ?_
    refine l_sld hx hb hX hbl hS hL (j := i + 3) (by omega) (by omega) dL_law_726 ?_
    refine z_if_eq (tgt := 734) hx hb (x_1 _) (x_2 _) dL_law_727 (by decide) (fun _ => ?_) (fun h => absurd hz3 h)
    refine z_iconst hx hb dL_law_734 ?_
    refine h_callVi (As := [.int (zI (xs (i + 1)).toInt), .int (zI (xs (i + 2)).toInt), .int (zI 0)]) (rest := [.int r]) ⟨hx, hb, hml, hown, hts⟩ (k_X7_see l D cI ad2 him M hRm n hm2 hn7 (nb n) k0 hst h80 hp m9 hm15 hsg (xs (i + 1)).toInt (xs (i + 2)).toInt 0 (x_1 _) (x_2 _) (x_1 _) (x_2 _) hz) (cwV 3 hts (gV lwT_sub q_989 q_990 q_991 q_8 q_992) rfl rfl rfl hdX7_see ⟨Nat.le_of_ble_eq_true rfl, Nat.le_of_ble_eq_true rfl⟩) (mEb D cI) (mEk D cI (mA ad2)) hEm (va_recv (ci := 7) (q0 := 0) hKm hPm rfl rfl) hPm hS (fun _ h => h) ham rfl hl.1 rfl (Nat.le_of_ble_eq_true rfl) dL_law_735 ⟨Nat.le_of_ble_eq_true rfl, Nat.le_of_ble_eq_true rfl⟩ (fun r9 M9 H locs hqm hPm hRm hS hk9 => ?_)
    have hPc := keepC hdj hPc hk9
    obtain ⟨he, hJ9⟩ := s_see hz hJ hqc hqm
    subst he
    refine lv_icmp_eq (tgt := 888) hx hb dL_law_738 (by decide) (fun _ => ?_) (fun h => absurd rfl h)
    exact cont _ _ _ _ hJ9 ⟨hPc, hPm, hRc, hRm, hS⟩
  · have hz : (1 : Int) = 0 ∨ (1 : Int) = 1 := by decide
    refine lv_aload_n hx hb dL_law_684 rfl (lv_at hl 1 rfl) ?_
    refine lv_aload_n hx hb dL_law_685 rfl (lv_at hl 0 rfl) ?_
    refine lv_iload_n hx hb dL_law_686 rfl (lv_at hl 3 rfl) ?_
    refine z_iconst hx hb dL_law_687 ?_
    refine z_iadd hx hb dL_law_688 ?_
    refine l_sld hx hb hX hbl hS hL (j := i + 1) (by omega) (by omega) dL_law_689 ?_
    refine lv_aload_n hx hb dL_law_690 rfl (lv_at hl 0 rfl) ?_
    refine lv_iload_n hx hb dL_law_691 rfl (lv_at hl 3 rfl) ?_
    refine z_iconst hx hb dL_law_692 ?_
    refine z_iadd hx hb dL_law_693 ?_
    refine l_sld hx hb hX hbl hS hL (j := i + 2) (by omega) (by omega) dL_law_694 ?_
    refine lv_aload_n hx hb dL_law_695 rfl (lv_at hl 0 rfl) ?_
    refine lv_iload_n hx hb dL_law_696 rfl (lv_at hl 3 rfl) ?_
    refine z_iconst hx hb dL_law_697 ?_
    refine z_iadd hx hb dL_law_698 ?_
    refine l_sld hx hb hX hbl hS hL (j := i + 3) (by omega) (by omega) dL_law_699 ?_
    refine z_if_eq (tgt := 707) hx hb (x_1 _) (x_2 _) dL_law_700 (by decide) (fun h => absurd h hz3) (fun _ => ?_)
    refine z_iconst hx hb dL_law_703 ?_
    refine lv_goto (tgt := 708) hx hb dL_law_704 (by decide) ?_
    refine h_callVi (As := [.int (zI (xs (i + 1)).toInt), .int (zI (xs (i + 2)).toInt), .int (zI 1)]) (rest := []) ⟨hx, hb, hml, hown, hts⟩ (k_X6_see l D cI cZ ad az av hic C hRc n (nb n) (M 7) hT9 hV9 k0 hk8 hk0 m9 hse (xs (i + 1)).toInt (xs (i + 2)).toInt 1 (x_1 _) (x_2 _) (x_1 _) (x_2 _) hz) (cwV 3 hts (gV lwT_sub q_565 q_566 q_567 q_1 q_568) rfl rfl rfl hdX6_see ⟨Nat.le_of_ble_eq_true rfl, Nat.le_of_ble_eq_true rfl⟩) (cEb D cI cZ ad az av) (cEk D cI cZ ad az av) hEc (va_recv (ci := 6) (q0 := 0) hKc hPc rfl rfl) hPc hS (fun _ h => h) hac rfl hl.1 rfl (Nat.le_of_ble_eq_true rfl) dL_law_708 ⟨Nat.le_of_ble_eq_true rfl, Nat.le_of_ble_eq_true rfl⟩ (fun r C9 H locs hqc hPc hRc hS hk9 => ?_)
    have hPm := keepM hdj hPm hk9
    refine lv_aload_n hx hb dL_law_711 rfl (lv_at hl 2 rfl) ?_
    refine lv_aload_n hx hb dL_law_712 rfl (lv_at hl 0 rfl) ?_
    refine lv_iload_n hx hb dL_law_713 rfl (lv_at hl 3 rfl) ?_
    refine z_iconst hx hb dL_law_714 ?_
    refine z_iadd hx hb dL_law_715 ?_
    refine l_sld hx hb hX hbl hS hL (j := i + 1) (by omega) (by omega) dL_law_716 ?_
    refine lv_aload_n hx hb dL_law_717 rfl (lv_at hl 0 rfl) ?_
    refine lv_iload_n hx hb dL_law_718 rfl (lv_at hl 3 rfl) ?_
    refine z_iconst hx hb dL_law_719 ?_
    refine z_iadd hx hb dL_law_720 ?_
    refine l_sld hx hb hX hbl hS hL (j := i + 2) (by omega) (by omega) dL_law_721 ?_
    refine lv_aload_n hx hb dL_law_722 rfl (lv_at hl 0 rfl) ?_
    refine lv_iload_n hx hb dL_law_723 rfl (lv_at hl 3 rfl) ?_
    refine z_iconst hx hb dL_law_724 ?_
    refine z_iadd hx hb dL_law_725 ?_
    refine l_sld hx hb hX hbl hS hL (j := i + 3) (by omega) (by omega) dL_law_726 ?_
    refine z_if_eq (tgt := 734) hx hb (x_1 _) (x_2 _) dL_law_727 (by decide) (fun h => absurd h hz3) (fun _ => ?_)
    refine z_iconst hx hb dL_law_730 ?_
    refine lv_goto (tgt := 735) hx hb dL_law_731 (by decide) ?_
    refine h_callVi (As := [.int (zI (xs (i + 1)).toInt), .int (zI (xs (i + 2)).toInt), .int (zI 1)]) (rest := [.int r]) ⟨hx, hb, hml, hown, hts⟩ (k_X7_see l D cI ad2 him M hRm n hm2 hn7 (nb n) k0 hst h80 hp m9 hm15 hsg (xs (i + 1)).toInt (xs (i + 2)).toInt 1 (x_1 _) (x_2 _) (x_1 _) (x_2 _) hz) (cwV 3 hts (gV lwT_sub q_989 q_990 q_991 q_8 q_992) rfl rfl rfl hdX7_see ⟨Nat.le_of_ble_eq_true rfl, Nat.le_of_ble_eq_true rfl⟩) (mEb D cI) (mEk D cI (mA ad2)) hEm (va_recv (ci := 7) (q0 := 0) hKm hPm rfl rfl) hPm hS (fun _ h => h) ham rfl hl.1 rfl (Nat.le_of_ble_eq_true rfl) dL_law_735 ⟨Nat.le_of_ble_eq_true rfl, Nat.le_of_ble_eq_true rfl⟩ (fun r9 M9 H locs hqm hPm hRm hS hk9 => ?_)
    have hPc := keepC hdj hPc hk9
    obtain ⟨he, hJ9⟩ := s_see hz hJ hqc hqm
    subst he
    refine lv_icmp_eq (tgt := 888) hx hb dL_law_738 (by decide) (fun _ => ?_) (fun h => absurd rfl h)
    exact cont _ _ _ _ hJ9 ⟨hPc, hPm, hRc, hRm, hS⟩
set_option maxHeartbeats 4000000 in
set_option maxRecDepth 100000 in
theorem o_forget {p : Program} {l : Launch} {e : Env} {s : State} {m : MethodId} {below : List Frame} {meth : Method} {c : Code} {b L : Nat} {xs : Nat → Int32} {D : va_G} {cI cZ : ClassId} {ad ad2 : Nat → Nat} {az av : Nat} (K : LC p s m c b L xs D cI cZ ad ad2 az av) {i : Nat} (hi : i + 4 ≤ L) {C M : St} (hJ : JJ i C M) {H : Heap} {locs : List Loc} {ls : Array Slot} (hI : LI D cI cZ ad ad2 s C M H locs) (hl : lv_has ls 4 [(0, .ref b), (1, .ref (ad 40)), (2, .ref (ad2 26)), (3, .int (zI ↑i))]) (cont : ∀ (C M : St) (H : Heap) (locs : List Loc), JJ (i + 4) C M → LI D cI cZ ad ad2 s C M H locs → LG p l e s m below meth c b H locs (F0 m 888 ls [])) : LG p l e s m below meth c b H locs (F0 m 743 ls []) := by
  obtain ⟨hx, hb, hml, hown, hts, hX, hbl, hL, hEc, hEm, hic, him, hac, ham, hdj⟩ := K
  obtain ⟨n, sz, k0, m9, hJ⟩ := hJ
  obtain ⟨⟨hc1, hm1, hsz9⟩, hpg, hnn, hn7, hT0, hV0, hT9, hV9, ⟨hk8, hk0⟩, ⟨hm2, hst, h80, hp⟩, hse, ⟨hm15, hsg⟩⟩ := J_use hJ
  obtain ⟨hd, -, hk, hO, htt, hs⟩ := J_row hJ
  have hpa := hJ.2.2.2.2.2.2.2.2
  obtain ⟨hPc, hPm, hRc, hRm, hS⟩ := hI
  have hKc : va_K D vwCl [(cI, .int), (cZ, .boolean)] s := hEc.1
  have hKm : va_K D vwCl [(cI, .int)] s := hEm
  unfold LG at cont ⊢
  refine lv_aload_n hx hb dL_law_743 rfl (lv_at hl 1 rfl) ?_
  refine h_callVi (As := []) (rest := []) ⟨hx, hb, hml, hown, hts⟩ (k_X6_forget l D cI cZ ad az av hic C hRc ) (cwV 0 hts (gV lwT_sub q_573 q_574 q_575 q_1 q_576) rfl rfl rfl hdX6_forget ⟨Nat.le_of_ble_eq_true rfl, Nat.le_of_ble_eq_true rfl⟩) (cEb D cI cZ ad az av) (cEk D cI cZ ad az av) hEc (va_recv (ci := 6) (q0 := 0) hKc hPc rfl rfl) hPc hS (fun _ h => h) hac rfl hl.1 rfl (Nat.le_of_ble_eq_true rfl) dL_law_744 ⟨Nat.le_of_ble_eq_true rfl, Nat.le_of_ble_eq_true rfl⟩ (fun r C9 H locs hqc hPc hRc hS hk9 => ?_)
  have hPm := keepM hdj hPm hk9
  refine lv_aload_n hx hb dL_law_747 rfl (lv_at hl 2 rfl) ?_
  refine h_callVi (As := []) (rest := [.int r]) ⟨hx, hb, hml, hown, hts⟩ (k_X7_forget l D cI ad2 him M hRm ) (cwV 0 hts (gV lwT_sub q_993 q_994 q_995 q_8 q_996) rfl rfl rfl hdX7_forget ⟨Nat.le_of_ble_eq_true rfl, Nat.le_of_ble_eq_true rfl⟩) (mEb D cI) (mEk D cI (mA ad2)) hEm (va_recv (ci := 7) (q0 := 0) hKm hPm rfl rfl) hPm hS (fun _ h => h) ham rfl hl.1 rfl (Nat.le_of_ble_eq_true rfl) dL_law_748 ⟨Nat.le_of_ble_eq_true rfl, Nat.le_of_ble_eq_true rfl⟩ (fun r9 M9 H locs hqm hPm hRm hS hk9 => ?_)
  have hPc := keepC hdj hPc hk9
  obtain ⟨he, hJ9⟩ := s_forget hJ hqc hqm
  subst he
  refine lv_icmp_eq (tgt := 888) hx hb dL_law_751 (by decide) (fun _ => ?_) (fun h => absurd rfl h)
  exact cont _ _ _ _ hJ9 ⟨hPc, hPm, hRc, hRm, hS⟩
set_option maxHeartbeats 4000000 in
set_option maxRecDepth 100000 in
theorem o_could {p : Program} {l : Launch} {e : Env} {s : State} {m : MethodId} {below : List Frame} {meth : Method} {c : Code} {b L : Nat} {xs : Nat → Int32} {D : va_G} {cI cZ : ClassId} {ad ad2 : Nat → Nat} {az av : Nat} (K : LC p s m c b L xs D cI cZ ad ad2 az av) {i : Nat} (hi : i + 4 ≤ L) {C M : St} (hJ : JJ i C M) {H : Heap} {locs : List Loc} {ls : Array Slot} (hI : LI D cI cZ ad ad2 s C M H locs) (hl : lv_has ls 4 [(0, .ref b), (1, .ref (ad 40)), (2, .ref (ad2 26)), (3, .int (zI ↑i))]) (cont : ∀ (C M : St) (H : Heap) (locs : List Loc), JJ (i + 4) C M → LI D cI cZ ad ad2 s C M H locs → LG p l e s m below meth c b H locs (F0 m 888 ls [])) : LG p l e s m below meth c b H locs (F0 m 756 ls []) := by
  obtain ⟨hx, hb, hml, hown, hts, hX, hbl, hL, hEc, hEm, hic, him, hac, ham, hdj⟩ := K
  obtain ⟨n, sz, k0, m9, hJ⟩ := hJ
  obtain ⟨⟨hc1, hm1, hsz9⟩, hpg, hnn, hn7, hT0, hV0, hT9, hV9, ⟨hk8, hk0⟩, ⟨hm2, hst, h80, hp⟩, hse, ⟨hm15, hsg⟩⟩ := J_use hJ
  obtain ⟨hd, -, hk, hO, htt, hs⟩ := J_row hJ
  have hpa := hJ.2.2.2.2.2.2.2.2
  obtain ⟨hPc, hPm, hRc, hRm, hS⟩ := hI
  have hKc : va_K D vwCl [(cI, .int), (cZ, .boolean)] s := hEc.1
  have hKm : va_K D vwCl [(cI, .int)] s := hEm
  unfold LG at cont ⊢
  refine lv_aload_n hx hb dL_law_756 rfl (lv_at hl 1 rfl) ?_
  refine h_callVi (As := []) (rest := []) ⟨hx, hb, hml, hown, hts⟩ (k_X6_could l D cI cZ ad az av hic C hRc n (nb n) (M 7) hT9 hV9 k0 hk8 hk0 m9 hse) (cwV 0 hts (gV lwT_sub q_577 q_578 q_579 q_1 q_580) rfl rfl rfl hdX6_could ⟨Nat.le_of_ble_eq_true rfl, Nat.le_of_ble_eq_true rfl⟩) (cEb D cI cZ ad az av) (cEk D cI cZ ad az av) hEc (va_recv (ci := 6) (q0 := 0) hKc hPc rfl rfl) hPc hS (fun _ h => h) hac rfl hl.1 rfl (Nat.le_of_ble_eq_true rfl) dL_law_757 ⟨Nat.le_of_ble_eq_true rfl, Nat.le_of_ble_eq_true rfl⟩ (fun r C9 H locs hqc hPc hRc hS hk9 => ?_)
  have hPm := keepM hdj hPm hk9
  refine lv_aload_n hx hb dL_law_760 rfl (lv_at hl 2 rfl) ?_
  refine h_callVi (As := []) (rest := [.int r]) ⟨hx, hb, hml, hown, hts⟩ (k_X7_could l D cI ad2 him M hRm n hm2 hn7 (nb n) k0 hst h80 hp m9 hm15 hsg) (cwV 0 hts (gV lwT_sub q_997 q_998 q_999 q_8 q_1000) rfl rfl rfl hdX7_could ⟨Nat.le_of_ble_eq_true rfl, Nat.le_of_ble_eq_true rfl⟩) (mEb D cI) (mEk D cI (mA ad2)) hEm (va_recv (ci := 7) (q0 := 0) hKm hPm rfl rfl) hPm hS (fun _ h => h) ham rfl hl.1 rfl (Nat.le_of_ble_eq_true rfl) dL_law_761 ⟨Nat.le_of_ble_eq_true rfl, Nat.le_of_ble_eq_true rfl⟩ (fun r9 M9 H locs hqm hPm hRm hS hk9 => ?_)
  have hPc := keepC hdj hPc hk9
  obtain ⟨s0, hM9, hr9⟩ := hqm
  have hmk : mK M M9 := by rw [hM9]; exact mK1 rfl
  obtain ⟨he, hJ9⟩ := s_eq hJ hmk hqc hr9 (co2 hs)
  subst he
  refine lv_icmp_eq (tgt := 888) hx hb dL_law_764 (by decide) (fun _ => ?_) (fun h => absurd rfl h)
  exact cont _ _ _ _ hJ9 ⟨hPc, hPm, hRc, hRm, hS⟩
set_option maxHeartbeats 4000000 in
set_option maxRecDepth 100000 in
theorem o_trial {p : Program} {l : Launch} {e : Env} {s : State} {m : MethodId} {below : List Frame} {meth : Method} {c : Code} {b L : Nat} {xs : Nat → Int32} {D : va_G} {cI cZ : ClassId} {ad ad2 : Nat → Nat} {az av : Nat} (K : LC p s m c b L xs D cI cZ ad ad2 az av) {i : Nat} (hi : i + 4 ≤ L) {C M : St} (hJ : JJ i C M) {H : Heap} {locs : List Loc} {ls : Array Slot} (hI : LI D cI cZ ad ad2 s C M H locs) (hl : lv_has ls 4 [(0, .ref b), (1, .ref (ad 40)), (2, .ref (ad2 26)), (3, .int (zI ↑i))]) (cont : ∀ (C M : St) (H : Heap) (locs : List Loc), JJ (i + 4) C M → LI D cI cZ ad ad2 s C M H locs → LG p l e s m below meth c b H locs (F0 m 888 ls [])) : LG p l e s m below meth c b H locs (F0 m 769 ls []) := by
  obtain ⟨hx, hb, hml, hown, hts, hX, hbl, hL, hEc, hEm, hic, him, hac, ham, hdj⟩ := K
  obtain ⟨n, sz, k0, m9, hJ⟩ := hJ
  obtain ⟨⟨hc1, hm1, hsz9⟩, hpg, hnn, hn7, hT0, hV0, hT9, hV9, ⟨hk8, hk0⟩, ⟨hm2, hst, h80, hp⟩, hse, ⟨hm15, hsg⟩⟩ := J_use hJ
  obtain ⟨hd, -, hk, hO, htt, hs⟩ := J_row hJ
  have hpa := hJ.2.2.2.2.2.2.2.2
  obtain ⟨hPc, hPm, hRc, hRm, hS⟩ := hI
  have hKc : va_K D vwCl [(cI, .int), (cZ, .boolean)] s := hEc.1
  have hKm : va_K D vwCl [(cI, .int)] s := hEm
  unfold LG at cont ⊢
  refine lv_aload_n hx hb dL_law_769 rfl (lv_at hl 1 rfl) ?_
  refine h_callVi (As := []) (rest := []) ⟨hx, hb, hml, hown, hts⟩ (k_X6_trial l D cI cZ ad az av hic C hRc n (nb n) (M 7) hT9 hV9 k0 hk8 hk0 m9 hse) (cwV 0 hts (gV lwT_sub q_590 q_591 q_592 q_1 q_593) rfl rfl rfl hdX6_trial ⟨Nat.le_of_ble_eq_true rfl, Nat.le_of_ble_eq_true rfl⟩) (cEb D cI cZ ad az av) (cEk D cI cZ ad az av) hEc (va_recv (ci := 6) (q0 := 0) hKc hPc rfl rfl) hPc hS (fun _ h => h) hac rfl hl.1 rfl (Nat.le_of_ble_eq_true rfl) dL_law_770 ⟨Nat.le_of_ble_eq_true rfl, Nat.le_of_ble_eq_true rfl⟩ (fun r C9 H locs hqc hPc hRc hS hk9 => ?_)
  have hPm := keepM hdj hPm hk9
  refine lv_aload_n hx hb dL_law_773 rfl (lv_at hl 2 rfl) ?_
  refine h_callVi (As := []) (rest := [.int r]) ⟨hx, hb, hml, hown, hts⟩ (k_X7_trial l D cI ad2 him M hRm n hm2 hn7 (nb n) k0 hst h80 hp m9 hm15 hsg) (cwV 0 hts (gV lwT_sub q_1009 q_1010 q_1011 q_8 q_1012) rfl rfl rfl hdX7_trial ⟨Nat.le_of_ble_eq_true rfl, Nat.le_of_ble_eq_true rfl⟩) (mEb D cI) (mEk D cI (mA ad2)) hEm (va_recv (ci := 7) (q0 := 0) hKm hPm rfl rfl) hPm hS (fun _ h => h) ham rfl hl.1 rfl (Nat.le_of_ble_eq_true rfl) dL_law_774 ⟨Nat.le_of_ble_eq_true rfl, Nat.le_of_ble_eq_true rfl⟩ (fun r9 M9 H locs hqm hPm hRm hS hk9 => ?_)
  have hPc := keepC hdj hPc hk9
  obtain ⟨he, hJ9⟩ := s_trial hJ hqc hqm
  subst he
  refine lv_icmp_eq (tgt := 888) hx hb dL_law_777 (by decide) (fun _ => ?_) (fun h => absurd rfl h)
  exact cont _ _ _ _ hJ9 ⟨hPc, hPm, hRc, hRm, hS⟩
set_option maxHeartbeats 4000000 in
set_option maxRecDepth 100000 in
theorem o_shuffles {p : Program} {l : Launch} {e : Env} {s : State} {m : MethodId} {below : List Frame} {meth : Method} {c : Code} {b L : Nat} {xs : Nat → Int32} {D : va_G} {cI cZ : ClassId} {ad ad2 : Nat → Nat} {az av : Nat} (K : LC p s m c b L xs D cI cZ ad ad2 az av) {i : Nat} (hi : i + 4 ≤ L) {C M : St} (hJ : JJ i C M) {H : Heap} {locs : List Loc} {ls : Array Slot} (hI : LI D cI cZ ad ad2 s C M H locs) (hl : lv_has ls 4 [(0, .ref b), (1, .ref (ad 40)), (2, .ref (ad2 26)), (3, .int (zI ↑i))]) (cont : ∀ (C M : St) (H : Heap) (locs : List Loc), JJ (i + 4) C M → LI D cI cZ ad ad2 s C M H locs → LG p l e s m below meth c b H locs (F0 m 888 ls [])) : LG p l e s m below meth c b H locs (F0 m 782 ls []) := by
  obtain ⟨hx, hb, hml, hown, hts, hX, hbl, hL, hEc, hEm, hic, him, hac, ham, hdj⟩ := K
  obtain ⟨n, sz, k0, m9, hJ⟩ := hJ
  obtain ⟨⟨hc1, hm1, hsz9⟩, hpg, hnn, hn7, hT0, hV0, hT9, hV9, ⟨hk8, hk0⟩, ⟨hm2, hst, h80, hp⟩, hse, ⟨hm15, hsg⟩⟩ := J_use hJ
  obtain ⟨hd, -, hk, hO, htt, hs⟩ := J_row hJ
  have hpa := hJ.2.2.2.2.2.2.2.2
  obtain ⟨hPc, hPm, hRc, hRm, hS⟩ := hI
  have hKc : va_K D vwCl [(cI, .int), (cZ, .boolean)] s := hEc.1
  have hKm : va_K D vwCl [(cI, .int)] s := hEm
  unfold LG at cont ⊢
  refine lv_aload_n hx hb dL_law_782 rfl (lv_at hl 1 rfl) ?_
  refine lv_aload_n hx hb dL_law_783 rfl (lv_at hl 0 rfl) ?_
  refine lv_iload_n hx hb dL_law_784 rfl (lv_at hl 3 rfl) ?_
  refine z_iconst hx hb dL_law_785 ?_
  refine z_iadd hx hb dL_law_786 ?_
  refine l_sld hx hb hX hbl hS hL (j := i + 1) (by omega) (by omega) dL_law_787 ?_
  refine lv_aload_n hx hb dL_law_788 rfl (lv_at hl 0 rfl) ?_
  refine lv_iload_n hx hb dL_law_789 rfl (lv_at hl 3 rfl) ?_
  refine z_iconst hx hb dL_law_790 ?_
  refine z_iadd hx hb dL_law_791 ?_
  refine l_sld hx hb hX hbl hS hL (j := i + 2) (by omega) (by omega) dL_law_792 ?_
  refine lv_aload_n hx hb dL_law_793 rfl (lv_at hl 0 rfl) ?_
  refine lv_iload_n hx hb dL_law_794 rfl (lv_at hl 3 rfl) ?_
  refine z_iconst hx hb dL_law_795 ?_
  refine z_iadd hx hb dL_law_796 ?_
  refine l_sld hx hb hX hbl hS hL (j := i + 3) (by omega) (by omega) dL_law_797 ?_
  refine h_callVi (As := [.int (zI (xs (i + 1)).toInt), .int (zI (xs (i + 2)).toInt), .int (zI (xs (i + 3)).toInt)]) (rest := []) ⟨hx, hb, hml, hown, hts⟩ (k_X6_shuffles l D cI cZ ad az av hic C hRc n (nb n) (M 7) hT9 hV9 k0 hk8 hk0 (xs (i + 1)).toInt (xs (i + 2)).toInt (xs (i + 3)).toInt (x_1 _) (x_2 _) (x_1 _) (x_2 _) (x_1 _) (x_2 _)) (cwV 3 hts (gV lwT_sub q_606 q_607 q_608 q_1 q_609) rfl rfl rfl hdX6_shuffles ⟨Nat.le_of_ble_eq_true rfl, Nat.le_of_ble_eq_true rfl⟩) (cEb D cI cZ ad az av) (cEk D cI cZ ad az av) hEc (va_recv (ci := 6) (q0 := 0) hKc hPc rfl rfl) hPc hS (fun _ h => h) hac rfl hl.1 rfl (Nat.le_of_ble_eq_true rfl) dL_law_798 ⟨Nat.le_of_ble_eq_true rfl, Nat.le_of_ble_eq_true rfl⟩ (fun r C9 H locs hqc hPc hRc hS hk9 => ?_)
  have hPm := keepM hdj hPm hk9
  refine lv_aload_n hx hb dL_law_801 rfl (lv_at hl 2 rfl) ?_
  refine lv_aload_n hx hb dL_law_802 rfl (lv_at hl 0 rfl) ?_
  refine lv_iload_n hx hb dL_law_803 rfl (lv_at hl 3 rfl) ?_
  refine z_iconst hx hb dL_law_804 ?_
  refine z_iadd hx hb dL_law_805 ?_
  refine l_sld hx hb hX hbl hS hL (j := i + 1) (by omega) (by omega) dL_law_806 ?_
  refine lv_aload_n hx hb dL_law_807 rfl (lv_at hl 0 rfl) ?_
  refine lv_iload_n hx hb dL_law_808 rfl (lv_at hl 3 rfl) ?_
  refine z_iconst hx hb dL_law_809 ?_
  refine z_iadd hx hb dL_law_810 ?_
  refine l_sld hx hb hX hbl hS hL (j := i + 2) (by omega) (by omega) dL_law_811 ?_
  refine lv_aload_n hx hb dL_law_812 rfl (lv_at hl 0 rfl) ?_
  refine lv_iload_n hx hb dL_law_813 rfl (lv_at hl 3 rfl) ?_
  refine z_iconst hx hb dL_law_814 ?_
  refine z_iadd hx hb dL_law_815 ?_
  refine l_sld hx hb hX hbl hS hL (j := i + 3) (by omega) (by omega) dL_law_816 ?_
  refine h_callVi (As := [.int (zI (xs (i + 1)).toInt), .int (zI (xs (i + 2)).toInt), .int (zI (xs (i + 3)).toInt)]) (rest := [.int r]) ⟨hx, hb, hml, hown, hts⟩ (k_X7_shuffles l D cI ad2 him M hRm n hm2 hn7 (nb n) k0 hst h80 hp (xs (i + 1)).toInt (xs (i + 2)).toInt (xs (i + 3)).toInt (x_1 _) (x_2 _) (x_1 _) (x_2 _) (x_1 _) (x_2 _)) (cwV 3 hts (gV lwT_sub q_1021 q_1022 q_1023 q_8 q_1024) rfl rfl rfl hdX7_shuffles ⟨Nat.le_of_ble_eq_true rfl, Nat.le_of_ble_eq_true rfl⟩) (mEb D cI) (mEk D cI (mA ad2)) hEm (va_recv (ci := 7) (q0 := 0) hKm hPm rfl rfl) hPm hS (fun _ h => h) ham rfl hl.1 rfl (Nat.le_of_ble_eq_true rfl) dL_law_817 ⟨Nat.le_of_ble_eq_true rfl, Nat.le_of_ble_eq_true rfl⟩ (fun r9 M9 H locs hqm hPm hRm hS hk9 => ?_)
  have hPc := keepC hdj hPc hk9
  obtain ⟨v8, hC8, hv8, hr8⟩ := hqc
  obtain ⟨s0, s1, s2, s3, hM9, v9, hv9, hr9⟩ := hqm
  have hmk : mK M M9 := by rw [hM9]; exact (((mK1 rfl).tr (mK1 rfl)).tr (mK1 rfl)).tr (mK1 rfl)
  obtain ⟨he, hJ9⟩ := s_eq hJ hmk ⟨hC8, hr8⟩ hr9 (shuf2 hO hd hp hv8 hv9)
  subst he
  refine lv_icmp_eq (tgt := 888) hx hb dL_law_820 (by decide) (fun _ => ?_) (fun h => absurd rfl h)
  exact cont _ _ _ _ hJ9 ⟨hPc, hPm, hRc, hRm, hS⟩
set_option maxHeartbeats 4000000 in
set_option maxRecDepth 100000 in
theorem o_image {p : Program} {l : Launch} {e : Env} {s : State} {m : MethodId} {below : List Frame} {meth : Method} {c : Code} {b L : Nat} {xs : Nat → Int32} {D : va_G} {cI cZ : ClassId} {ad ad2 : Nat → Nat} {az av : Nat} (K : LC p s m c b L xs D cI cZ ad ad2 az av) {i : Nat} (hi : i + 4 ≤ L) {C M : St} (hJ : JJ i C M) {H : Heap} {locs : List Loc} {ls : Array Slot} (hI : LI D cI cZ ad ad2 s C M H locs) (hl : lv_has ls 4 [(0, .ref b), (1, .ref (ad 40)), (2, .ref (ad2 26)), (3, .int (zI ↑i))]) (cont : ∀ (C M : St) (H : Heap) (locs : List Loc), JJ (i + 4) C M → LI D cI cZ ad ad2 s C M H locs → LG p l e s m below meth c b H locs (F0 m 888 ls [])) : LG p l e s m below meth c b H locs (F0 m 825 ls []) := by
  obtain ⟨hx, hb, hml, hown, hts, hX, hbl, hL, hEc, hEm, hic, him, hac, ham, hdj⟩ := K
  obtain ⟨n, sz, k0, m9, hJ⟩ := hJ
  obtain ⟨⟨hc1, hm1, hsz9⟩, hpg, hnn, hn7, hT0, hV0, hT9, hV9, ⟨hk8, hk0⟩, ⟨hm2, hst, h80, hp⟩, hse, ⟨hm15, hsg⟩⟩ := J_use hJ
  obtain ⟨hd, -, hk, hO, htt, hs⟩ := J_row hJ
  have hpa := hJ.2.2.2.2.2.2.2.2
  obtain ⟨hPc, hPm, hRc, hRm, hS⟩ := hI
  have hKc : va_K D vwCl [(cI, .int), (cZ, .boolean)] s := hEc.1
  have hKm : va_K D vwCl [(cI, .int)] s := hEm
  unfold LG at cont ⊢
  refine lv_aload_n hx hb dL_law_825 rfl (lv_at hl 1 rfl) ?_
  refine h_callVi (As := []) (rest := []) ⟨hx, hb, hml, hown, hts⟩ (k_X6_image l D cI cZ ad az av hic C hRc n (nb n) (tb n) hT0 hV0 k0 hk8 hk0 hJ.2.2.2.2.2.1.2.2.2) (cwV 0 hts (gV lwT_sub q_620 q_621 q_622 q_1 q_623) rfl rfl rfl hdX6_image ⟨Nat.le_of_ble_eq_true rfl, Nat.le_of_ble_eq_true rfl⟩) (cEb D cI cZ ad az av) (cEk D cI cZ ad az av) hEc (va_recv (ci := 6) (q0 := 0) hKc hPc rfl rfl) hPc hS (fun _ h => h) hac rfl hl.1 rfl (Nat.le_of_ble_eq_true rfl) dL_law_826 ⟨Nat.le_of_ble_eq_true rfl, Nat.le_of_ble_eq_true rfl⟩ (fun r C9 H locs hqc hPc hRc hS hk9 => ?_)
  have hPm := keepM hdj hPm hk9
  refine lv_aload_n hx hb dL_law_829 rfl (lv_at hl 2 rfl) ?_
  refine h_callVi (As := []) (rest := [.int r]) ⟨hx, hb, hml, hown, hts⟩ (k_X7_image l D cI ad2 him M hRm n hm2 hn7 (nb n) k0 hst h80 hp) (cwV 0 hts (gV lwT_sub q_1035 q_1036 q_1037 q_8 q_1038) rfl rfl rfl hdX7_image ⟨Nat.le_of_ble_eq_true rfl, Nat.le_of_ble_eq_true rfl⟩) (mEb D cI) (mEk D cI (mA ad2)) hEm (va_recv (ci := 7) (q0 := 0) hKm hPm rfl rfl) hPm hS (fun _ h => h) ham rfl hl.1 rfl (Nat.le_of_ble_eq_true rfl) dL_law_830 ⟨Nat.le_of_ble_eq_true rfl, Nat.le_of_ble_eq_true rfl⟩ (fun r9 M9 H locs hqm hPm hRm hS hk9 => ?_)
  have hPc := keepC hdj hPc hk9
  obtain ⟨he, hJ9⟩ := s_image hJ hqc hqm
  subst he
  refine lv_icmp_eq (tgt := 888) hx hb dL_law_833 (by decide) (fun _ => ?_) (fun h => absurd rfl h)
  exact cont _ _ _ _ hJ9 ⟨hPc, hPm, hRc, hRm, hS⟩
set_option maxHeartbeats 4000000 in
set_option maxRecDepth 100000 in
theorem o_restore {p : Program} {l : Launch} {e : Env} {s : State} {m : MethodId} {below : List Frame} {meth : Method} {c : Code} {b L : Nat} {xs : Nat → Int32} {D : va_G} {cI cZ : ClassId} {ad ad2 : Nat → Nat} {az av : Nat} (K : LC p s m c b L xs D cI cZ ad ad2 az av) {i : Nat} (hi : i + 4 ≤ L) {C M : St} (hJ : JJ i C M) {H : Heap} {locs : List Loc} {ls : Array Slot} (hI : LI D cI cZ ad ad2 s C M H locs) (hl : lv_has ls 4 [(0, .ref b), (1, .ref (ad 40)), (2, .ref (ad2 26)), (3, .int (zI ↑i))]) (cont : ∀ (C M : St) (H : Heap) (locs : List Loc), JJ (i + 4) C M → LI D cI cZ ad ad2 s C M H locs → LG p l e s m below meth c b H locs (F0 m 888 ls [])) : LG p l e s m below meth c b H locs (F0 m 838 ls []) := by
  obtain ⟨hx, hb, hml, hown, hts, hX, hbl, hL, hEc, hEm, hic, him, hac, ham, hdj⟩ := K
  obtain ⟨n, sz, k0, m9, hJ⟩ := hJ
  obtain ⟨⟨hc1, hm1, hsz9⟩, hpg, hnn, hn7, hT0, hV0, hT9, hV9, ⟨hk8, hk0⟩, ⟨hm2, hst, h80, hp⟩, hse, ⟨hm15, hsg⟩⟩ := J_use hJ
  obtain ⟨hd, -, hk, hO, htt, hs⟩ := J_row hJ
  have hpa := hJ.2.2.2.2.2.2.2.2
  obtain ⟨hPc, hPm, hRc, hRm, hS⟩ := hI
  have hKc : va_K D vwCl [(cI, .int), (cZ, .boolean)] s := hEc.1
  have hKm : va_K D vwCl [(cI, .int)] s := hEm
  unfold LG at cont ⊢
  refine lv_aload_n hx hb dL_law_838 rfl (lv_at hl 1 rfl) ?_
  refine h_callVi (As := []) (rest := []) ⟨hx, hb, hml, hown, hts⟩ (k_X6_restore l D cI cZ ad az av hic C hRc n (nb n) (tb n) hT0 hV0 k0 hk8 hk0 hJ.2.2.2.2.2.2.2.1.2.1) (cwV 0 hts (gV lwT_sub q_628 q_629 q_630 q_1 q_631) rfl rfl rfl hdX6_restore ⟨Nat.le_of_ble_eq_true rfl, Nat.le_of_ble_eq_true rfl⟩) (cEb D cI cZ ad az av) (cEk D cI cZ ad az av) hEc (va_recv (ci := 6) (q0 := 0) hKc hPc rfl rfl) hPc hS (fun _ h => h) hac rfl hl.1 rfl (Nat.le_of_ble_eq_true rfl) dL_law_839 ⟨Nat.le_of_ble_eq_true rfl, Nat.le_of_ble_eq_true rfl⟩ (fun r C9 H locs hqc hPc hRc hS hk9 => ?_)
  have hPm := keepM hdj hPm hk9
  refine lv_aload_n hx hb dL_law_842 rfl (lv_at hl 2 rfl) ?_
  refine h_callVi (As := []) (rest := [.int r]) ⟨hx, hb, hml, hown, hts⟩ (k_X7_restore l D cI ad2 him M hRm n hm2 hn7 (nb n) k0 hst h80 hp) (cwV 0 hts (gV lwT_sub q_1039 q_1040 q_1041 q_8 q_1042) rfl rfl rfl hdX7_restore ⟨Nat.le_of_ble_eq_true rfl, Nat.le_of_ble_eq_true rfl⟩) (mEb D cI) (mEk D cI (mA ad2)) hEm (va_recv (ci := 7) (q0 := 0) hKm hPm rfl rfl) hPm hS (fun _ h => h) ham rfl hl.1 rfl (Nat.le_of_ble_eq_true rfl) dL_law_843 ⟨Nat.le_of_ble_eq_true rfl, Nat.le_of_ble_eq_true rfl⟩ (fun r9 M9 H locs hqm hPm hRm hS hk9 => ?_)
  have hPc := keepC hdj hPc hk9
  obtain ⟨he, hJ9⟩ := s_restore hJ hqc hqm
  subst he
  refine lv_icmp_eq (tgt := 888) hx hb dL_law_846 (by decide) (fun _ => ?_) (fun h => absurd rfl h)
  exact cont _ _ _ _ hJ9 ⟨hPc, hPm, hRc, hRm, hS⟩
set_option maxHeartbeats 4000000 in
set_option maxRecDepth 100000 in
theorem o_count {p : Program} {l : Launch} {e : Env} {s : State} {m : MethodId} {below : List Frame} {meth : Method} {c : Code} {b L : Nat} {xs : Nat → Int32} {D : va_G} {cI cZ : ClassId} {ad ad2 : Nat → Nat} {az av : Nat} (K : LC p s m c b L xs D cI cZ ad ad2 az av) {i : Nat} (hi : i + 4 ≤ L) {C M : St} (hJ : JJ i C M) {H : Heap} {locs : List Loc} {ls : Array Slot} (hI : LI D cI cZ ad ad2 s C M H locs) (hl : lv_has ls 4 [(0, .ref b), (1, .ref (ad 40)), (2, .ref (ad2 26)), (3, .int (zI ↑i))]) (cont : ∀ (C M : St) (H : Heap) (locs : List Loc), JJ (i + 4) C M → LI D cI cZ ad ad2 s C M H locs → LG p l e s m below meth c b H locs (F0 m 888 ls [])) : LG p l e s m below meth c b H locs (F0 m 851 ls []) := by
  obtain ⟨hx, hb, hml, hown, hts, hX, hbl, hL, hEc, hEm, hic, him, hac, ham, hdj⟩ := K
  obtain ⟨n, sz, k0, m9, hJ⟩ := hJ
  obtain ⟨⟨hc1, hm1, hsz9⟩, hpg, hnn, hn7, hT0, hV0, hT9, hV9, ⟨hk8, hk0⟩, ⟨hm2, hst, h80, hp⟩, hse, ⟨hm15, hsg⟩⟩ := J_use hJ
  obtain ⟨hd, -, hk, hO, htt, hs⟩ := J_row hJ
  have hpa := hJ.2.2.2.2.2.2.2.2
  obtain ⟨hPc, hPm, hRc, hRm, hS⟩ := hI
  have hKc : va_K D vwCl [(cI, .int), (cZ, .boolean)] s := hEc.1
  have hKm : va_K D vwCl [(cI, .int)] s := hEm
  unfold LG at cont ⊢
  refine lv_aload_n hx hb dL_law_851 rfl (lv_at hl 1 rfl) ?_
  refine lv_aload_n hx hb dL_law_852 rfl (lv_at hl 0 rfl) ?_
  refine lv_iload_n hx hb dL_law_853 rfl (lv_at hl 3 rfl) ?_
  refine z_iconst hx hb dL_law_854 ?_
  refine z_iadd hx hb dL_law_855 ?_
  refine l_sld hx hb hX hbl hS hL (j := i + 1) (by omega) (by omega) dL_law_856 ?_
  refine h_callVi (As := [.int (zI (xs (i + 1)).toInt)]) (rest := []) ⟨hx, hb, hml, hown, hts⟩ (k_X6_count l D cI cZ ad az av hic C hRc n (nb n) (M 7) hT9 hV9 k0 hk8 hk0 (xs (i + 1)).toInt (x_1 _) (x_2 _)) (cwV 1 hts (gV lwT_sub q_632 q_633 q_634 q_1 q_635) rfl rfl rfl hdX6_count ⟨Nat.le_of_ble_eq_true rfl, Nat.le_of_ble_eq_true rfl⟩) (cEb D cI cZ ad az av) (cEk D cI cZ ad az av) hEc (va_recv (ci := 6) (q0 := 0) hKc hPc rfl rfl) hPc hS (fun _ h => h) hac rfl hl.1 rfl (Nat.le_of_ble_eq_true rfl) dL_law_857 ⟨Nat.le_of_ble_eq_true rfl, Nat.le_of_ble_eq_true rfl⟩ (fun r C9 H locs hqc hPc hRc hS hk9 => ?_)
  have hPm := keepM hdj hPm hk9
  refine lv_aload_n hx hb dL_law_860 rfl (lv_at hl 2 rfl) ?_
  refine lv_aload_n hx hb dL_law_861 rfl (lv_at hl 0 rfl) ?_
  refine lv_iload_n hx hb dL_law_862 rfl (lv_at hl 3 rfl) ?_
  refine z_iconst hx hb dL_law_863 ?_
  refine z_iadd hx hb dL_law_864 ?_
  refine l_sld hx hb hX hbl hS hL (j := i + 1) (by omega) (by omega) dL_law_865 ?_
  refine h_callVi (As := [.int (zI (xs (i + 1)).toInt)]) (rest := [.int r]) ⟨hx, hb, hml, hown, hts⟩ (k_X7_count l D cI ad2 him M hRm n hm2 hn7 (nb n) k0 hst h80 hp (xs (i + 1)).toInt (x_1 _) (x_2 _)) (cwV 1 hts (gV lwT_sub q_1043 q_1044 q_1045 q_8 q_1046) rfl rfl rfl hdX7_count ⟨Nat.le_of_ble_eq_true rfl, Nat.le_of_ble_eq_true rfl⟩) (mEb D cI) (mEk D cI (mA ad2)) hEm (va_recv (ci := 7) (q0 := 0) hKm hPm rfl rfl) hPm hS (fun _ h => h) ham rfl hl.1 rfl (Nat.le_of_ble_eq_true rfl) dL_law_866 ⟨Nat.le_of_ble_eq_true rfl, Nat.le_of_ble_eq_true rfl⟩ (fun r9 M9 H locs hqm hPm hRm hS hk9 => ?_)
  have hPc := keepC hdj hPc hk9
  obtain ⟨s0, s1, hM9, hr9⟩ := hqm
  have q1 := hJ.2.2.2.2.1.1
  have q2 := hJ.2.2.2.2.2.1.1.1
  have q3 := hJ.2.2.2.2.2.2.1.1
  rw [q1, q2, hc1, q3] at hqc
  rw [hm15, hm1] at hr9
  have hmk : mK M M9 := by rw [hM9]; exact (mK1 rfl).tr (mK1 rfl)
  obtain ⟨he, hJ9⟩ := s_eq hJ hmk hqc hr9 (ct2 hk hd hp _ _ _ _ _)
  subst he
  refine lv_icmp_eq (tgt := 888) hx hb dL_law_869 (by decide) (fun _ => ?_) (fun h => absurd rfl h)
  exact cont _ _ _ _ hJ9 ⟨hPc, hPm, hRc, hRm, hS⟩
set_option maxHeartbeats 4000000 in
set_option maxRecDepth 100000 in
theorem o_digest {p : Program} {l : Launch} {e : Env} {s : State} {m : MethodId} {below : List Frame} {meth : Method} {c : Code} {b L : Nat} {xs : Nat → Int32} {D : va_G} {cI cZ : ClassId} {ad ad2 : Nat → Nat} {az av : Nat} (K : LC p s m c b L xs D cI cZ ad ad2 az av) {i : Nat} (hi : i + 4 ≤ L) {C M : St} (hJ : JJ i C M) {H : Heap} {locs : List Loc} {ls : Array Slot} (hI : LI D cI cZ ad ad2 s C M H locs) (hl : lv_has ls 4 [(0, .ref b), (1, .ref (ad 40)), (2, .ref (ad2 26)), (3, .int (zI ↑i))]) (cont : ∀ (C M : St) (H : Heap) (locs : List Loc), JJ (i + 4) C M → LI D cI cZ ad ad2 s C M H locs → LG p l e s m below meth c b H locs (F0 m 888 ls [])) : LG p l e s m below meth c b H locs (F0 m 874 ls []) := by
  obtain ⟨hx, hb, hml, hown, hts, hX, hbl, hL, hEc, hEm, hic, him, hac, ham, hdj⟩ := K
  obtain ⟨n, sz, k0, m9, hJ⟩ := hJ
  obtain ⟨⟨hc1, hm1, hsz9⟩, hpg, hnn, hn7, hT0, hV0, hT9, hV9, ⟨hk8, hk0⟩, ⟨hm2, hst, h80, hp⟩, hse, ⟨hm15, hsg⟩⟩ := J_use hJ
  obtain ⟨hd, -, hk, hO, htt, hs⟩ := J_row hJ
  have hpa := hJ.2.2.2.2.2.2.2.2
  obtain ⟨hPc, hPm, hRc, hRm, hS⟩ := hI
  have hKc : va_K D vwCl [(cI, .int), (cZ, .boolean)] s := hEc.1
  have hKm : va_K D vwCl [(cI, .int)] s := hEm
  unfold LG at cont ⊢
  refine lv_aload_n hx hb dL_law_874 rfl (lv_at hl 1 rfl) ?_
  refine h_callVl (As := []) (rest := []) ⟨hx, hb, hml, hown, hts⟩ (k_X6_digest l D cI cZ ad az av hic C hRc n (nb n) (M 7) hT9 hV9 k0 hk8 hk0 m9 hse sz hc1 hsz9 (fun q => (hnn q).1)) (cwV 0 hts (gV lwT_sub q_648 q_649 q_650 q_1 q_651) rfl rfl rfl hdX6_digest ⟨Nat.le_of_ble_eq_true rfl, Nat.le_of_ble_eq_true rfl⟩) (cEb D cI cZ ad az av) (cEk D cI cZ ad az av) hEc (va_recv (ci := 6) (q0 := 0) hKc hPc rfl rfl) hPc hS (fun _ h => h) hac rfl hl.1 rfl (Nat.le_of_ble_eq_true rfl) dL_law_875 ⟨Nat.le_of_ble_eq_true rfl, Nat.le_of_ble_eq_true rfl⟩ (fun r C9 H locs hqc hPc hRc hS hk9 => ?_)
  have hPm := keepM hdj hPm hk9
  refine lv_aload_n hx hb dL_law_878 rfl (lv_at hl 2 rfl) ?_
  refine h_callVl (As := []) (rest := [.long r]) ⟨hx, hb, hml, hown, hts⟩ (k_X7_digest l D cI ad2 him M hRm n hm2 hn7 (nb n) k0 hst h80 hp m9 hm15 hsg sz hm1 hsz9 (fun q => (hnn q).1)) (cwV 0 hts (gV lwT_sub q_1059 q_1060 q_1061 q_8 q_1062) rfl rfl rfl hdX7_digest ⟨Nat.le_of_ble_eq_true rfl, Nat.le_of_ble_eq_true rfl⟩) (mEb D cI) (mEk D cI (mA ad2)) hEm (va_recv (ci := 7) (q0 := 0) hKm hPm rfl rfl) hPm hS (fun _ h => h) ham rfl hl.1 rfl (Nat.le_of_ble_eq_true rfl) dL_law_879 ⟨Nat.le_of_ble_eq_true rfl, Nat.le_of_ble_eq_true rfl⟩ (fun r9 M9 H locs hqm hPm hRm hS hk9 => ?_)
  have hPc := keepC hdj hPc hk9
  obtain ⟨he, hJ9⟩ := s_digest hJ hqc hqm
  subst he
  refine l_cmp (tgt := 888) hx hb dL_law_882 dL_law_883 (by decide) ?_
  exact cont _ _ _ _ hJ9 ⟨hPc, hPm, hRc, hRm, hS⟩
