set_option maxHeartbeats 4000000 in
set_option maxRecDepth 100000 in
theorem law_loop {p : Program} {l : Launch} {e : Env} {s : State} {m : MethodId} {below : List Frame} {meth : Method} {c : Code} {b L : Nat} {xs : Nat → Int32} {D : va_G} {cI cZ : ClassId} {ad ad2 : Nat → Nat} {az av : Nat} (K : LC p s m c b L xs D cI cZ ad ad2 az av) (hr : meth.sig.returnType = ret) (hlocks : meth.locks = false) : ∀ (k9 i : Nat) (C M : St) (H : Heap) (locs : List Loc) (ls : Array Slot), L - i < k9 → i ≤ L + 4 → JJ i C M → LI D cI cZ ad ad2 s C M H locs → lv_has ls 4 [(0, .ref b), (1, .ref (ad 40)), (2, .ref (ad2 26)), (3, .int (zI ↑i))] → LG p l e s m below meth c b H locs (F0 m 18 ls []) := by
  have K0 := K
  obtain ⟨hx, hb, hml, hown, hts, hX, hbl, hL, hEc, hEm, hic, him, hac, ham, hdj⟩ := K
  intro k9
  induction k9 with
  | zero =>
    intro i C M H locs ls hk9
    exact absurd hk9 (Nat.not_lt_zero _)
  | succ k9 ih =>
    intro i C M H locs ls hk9 hi hJ hI hl
    have hS : va_S (fun q : Nat => s.heap.size ≤ q) s.heap H locs := hI.2.2.2.2
    unfold LG
    refine lv_iload_n hx hb dL_law_18 rfl (lv_at hl 3 rfl) ?_
    refine lv_aload_n hx hb dL_law_19 rfl (lv_at hl 0 rfl) ?_
    refine va_slen hx hb hX hbl (Nat.not_le.mpr hbl) hS dL_law_20 ?_
    rw [show Int32.ofNat L = zI ↑L from (zI_nat L).symm]
    refine z_iconst hx hb dL_law_21 ?_
    refine z_isub hx hb dL_law_22 ?_
    refine z_icmp_gt (tgt := 894) hx hb (by omega) (by omega) (by omega) (by omega) dL_law_23 (by decide) (fun c1 => ?_) (fun c1 => ?_)
    · refine va_forget (fun q hq => hS.2.2 q hq) ?_
      refine lv_iconst (v := 1) hx hb dL_law_894 (by decide) ?_
      exact lw_ret hx hb hr hlocks dL_law_895
    · have hi4 : i + 4 ≤ L := by omega
      have back : ∀ (C M : St) (H : Heap) (locs : List Loc), JJ (i + 4) C M → LI D cI cZ ad ad2 s C M H locs → LG p l e s m below meth c b H locs (F0 m 888 ls []) := by
        intro C M H locs hJ hI
        unfold LG
        refine z_iinc (lv' := [(3, .int (zI (↑i + 4))), (0, .ref b), (1, .ref (ad 40)), (2, .ref (ad2 26))]) hx hb dL_law_888 hl (k := 3) rfl (by decide) rfl (fun ls hl => ?_)
        refine lv_goto (tgt := 18) hx hb dL_law_891 (by decide) ?_
        exact ih (i + 4) C M H locs ls (by omega) (by omega) hJ hI (lv_sub hl [1, 2, 3, 0] rfl)
      refine lv_aload_n hx hb dL_law_26 rfl (lv_at hl 0 rfl) ?_
      refine lv_iload_n hx hb dL_law_27 rfl (lv_at hl 3 rfl) ?_
      refine l_sld hx hb hX hbl hS hL (j := i) rfl (by omega) dL_law_28 ?_
      refine z_bipush hx hb dL_law_29 (by decide) ?_
      refine lv_iand hx hb dL_law_31 ?_
      generalize hv9 : zI (xs i).toInt &&& zI 31 = v9
      rw [← zI_of v9]
      generalize hy9 : v9.toInt = y9
      have r1 : -2147483648 ≤ y9 := by rw [← hy9]; exact x_1 v9
      have r2 : y9 < 2147483648 := by rw [← hy9]; exact x_2 v9
      rcases (show (y9 < 0 ∨ 28 < y9) ∨ y9 = 0 ∨ y9 = 1 ∨ y9 = 2 ∨ y9 = 3 ∨ y9 = 4 ∨ y9 = 5 ∨ y9 = 6 ∨ y9 = 7 ∨ y9 = 8 ∨ y9 = 9 ∨ y9 = 10 ∨ y9 = 11 ∨ y9 = 12 ∨ y9 = 13 ∨ y9 = 14 ∨ y9 = 15 ∨ y9 = 16 ∨ y9 = 17 ∨ y9 = 18 ∨ y9 = 19 ∨ y9 = 20 ∨ y9 = 21 ∨ y9 = 22 ∨ y9 = 23 ∨ y9 = 24 ∨ y9 = 25 ∨ y9 = 26 ∨ y9 = 27 ∨ y9 = 28 by omega) with c2 | c2 | c2 | c2 | c2 | c2 | c2 | c2 | c2 | c2 | c2 | c2 | c2 | c2 | c2 | c2 | c2 | c2 | c2 | c2 | c2 | c2 | c2 | c2 | c2 | c2 | c2 | c2 | c2 | c2
      · refine z_tabOut hx hb r1 r2 dL_law_32 c2 (tgt := 888) (by decide) ?_
        exact back C M H locs (by obtain ⟨n, sz, k0, m9, h⟩ := hJ; exact J_m (mK_rf _) h) hI
      · refine z_tabIn hx hb c2 (by decide) (by decide) dL_law_32 (by decide) (by decide) (off := 132) (by decide) (tgt := 164) (by decide) ?_
        exact o_letter K0 hi4 hJ hI hl back
      · refine z_tabIn hx hb c2 (by decide) (by decide) dL_law_32 (by decide) (by decide) (off := 155) (by decide) (tgt := 187) (by decide) ?_
        exact o_blank K0 hi4 hJ hI hl back
      · refine z_tabIn hx hb c2 (by decide) (by decide) dL_law_32 (by decide) (by decide) (off := 168) (by decide) (tgt := 200) (by decide) ?_
        exact o_fault K0 hi4 hJ hI hl back
      · refine z_tabIn hx hb c2 (by decide) (by decide) dL_law_32 (by decide) (by decide) (off := 181) (by decide) (tgt := 213) (by decide) ?_
        exact o_strip K0 hi4 hJ hI hl back
      · refine z_tabIn hx hb c2 (by decide) (by decide) dL_law_32 (by decide) (by decide) (off := 194) (by decide) (tgt := 226) (by decide) ?_
        exact o_leaf K0 hi4 hJ hI hl back
      · refine z_tabIn hx hb c2 (by decide) (by decide) dL_law_32 (by decide) (by decide) (off := 227) (by decide) (tgt := 259) (by decide) ?_
        exact o_as K0 hi4 hJ hI hl back
      · refine z_tabIn hx hb c2 (by decide) (by decide) dL_law_32 (by decide) (by decide) (off := 260) (by decide) (tgt := 292) (by decide) ?_
        exact o_hinge K0 hi4 hJ hI hl back
      · refine z_tabIn hx hb c2 (by decide) (by decide) dL_law_32 (by decide) (by decide) (off := 293) (by decide) (tgt := 325) (by decide) ?_
        exact o_at K0 hi4 hJ hI hl back
      · refine z_tabIn hx hb c2 (by decide) (by decide) dL_law_32 (by decide) (by decide) (off := 316) (by decide) (tgt := 348) (by decide) ?_
        exact o_may K0 hi4 hJ hI hl back
      · refine z_tabIn hx hb c2 (by decide) (by decide) dL_law_32 (by decide) (by decide) (off := 349) (by decide) (tgt := 381) (by decide) ?_
        exact o_move K0 hi4 hJ hI hl back
      · refine z_tabIn hx hb c2 (by decide) (by decide) dL_law_32 (by decide) (by decide) (off := 382) (by decide) (tgt := 414) (by decide) ?_
        exact o_turn K0 hi4 hJ hI hl back
      · refine z_tabIn hx hb c2 (by decide) (by decide) dL_law_32 (by decide) (by decide) (off := 395) (by decide) (tgt := 427) (by decide) ?_
        exact o_lay K0 hi4 hJ hI hl back
      · refine z_tabIn hx hb c2 (by decide) (by decide) dL_law_32 (by decide) (by decide) (off := 418) (by decide) (tgt := 450) (by decide) ?_
        exact o_change K0 hi4 hJ hI hl back
      · refine z_tabIn hx hb c2 (by decide) (by decide) dL_law_32 (by decide) (by decide) (off := 451) (by decide) (tgt := 483) (by decide) ?_
        exact o_orders K0 hi4 hJ hI hl back
      · refine z_tabIn hx hb c2 (by decide) (by decide) dL_law_32 (by decide) (by decide) (off := 474) (by decide) (tgt := 506) (by decide) ?_
        exact o_order K0 hi4 hJ hI hl back
      · refine z_tabIn hx hb c2 (by decide) (by decide) dL_law_32 (by decide) (by decide) (off := 507) (by decide) (tgt := 539) (by decide) ?_
        exact o_tops K0 hi4 hJ hI hl back
      · refine z_tabIn hx hb c2 (by decide) (by decide) dL_law_32 (by decide) (by decide) (off := 540) (by decide) (tgt := 572) (by decide) ?_
        exact o_near K0 hi4 hJ hI hl back
      · refine z_tabIn hx hb c2 (by decide) (by decide) dL_law_32 (by decide) (by decide) (off := 563) (by decide) (tgt := 595) (by decide) ?_
        exact o_far K0 hi4 hJ hI hl back
      · refine z_tabIn hx hb c2 (by decide) (by decide) dL_law_32 (by decide) (by decide) (off := 586) (by decide) (tgt := 618) (by decide) ?_
        exact o_trim K0 hi4 hJ hI hl back
      · refine z_tabIn hx hb c2 (by decide) (by decide) dL_law_32 (by decide) (by decide) (off := 609) (by decide) (tgt := 641) (by decide) ?_
        exact o_odds K0 hi4 hJ hI hl back
      · refine z_tabIn hx hb c2 (by decide) (by decide) dL_law_32 (by decide) (by decide) (off := 652) (by decide) (tgt := 684) (by decide) ?_
        exact o_see K0 hi4 hJ hI hl back
      · refine z_tabIn hx hb c2 (by decide) (by decide) dL_law_32 (by decide) (by decide) (off := 711) (by decide) (tgt := 743) (by decide) ?_
        exact o_forget K0 hi4 hJ hI hl back
      · refine z_tabIn hx hb c2 (by decide) (by decide) dL_law_32 (by decide) (by decide) (off := 724) (by decide) (tgt := 756) (by decide) ?_
        exact o_could K0 hi4 hJ hI hl back
      · refine z_tabIn hx hb c2 (by decide) (by decide) dL_law_32 (by decide) (by decide) (off := 737) (by decide) (tgt := 769) (by decide) ?_
        exact o_trial K0 hi4 hJ hI hl back
      · refine z_tabIn hx hb c2 (by decide) (by decide) dL_law_32 (by decide) (by decide) (off := 750) (by decide) (tgt := 782) (by decide) ?_
        exact o_shuffles K0 hi4 hJ hI hl back
      · refine z_tabIn hx hb c2 (by decide) (by decide) dL_law_32 (by decide) (by decide) (off := 793) (by decide) (tgt := 825) (by decide) ?_
        exact o_image K0 hi4 hJ hI hl back
      · refine z_tabIn hx hb c2 (by decide) (by decide) dL_law_32 (by decide) (by decide) (off := 806) (by decide) (tgt := 838) (by decide) ?_
        exact o_restore K0 hi4 hJ hI hl back
      · refine z_tabIn hx hb c2 (by decide) (by decide) dL_law_32 (by decide) (by decide) (off := 819) (by decide) (tgt := 851) (by decide) ?_
        exact o_count K0 hi4 hJ hI hl back
      · refine z_tabIn hx hb c2 (by decide) (by decide) dL_law_32 (by decide) (by decide) (off := 842) (by decide) (tgt := 874) (by decide) ?_
        exact o_digest K0 hi4 hJ hI hl back
