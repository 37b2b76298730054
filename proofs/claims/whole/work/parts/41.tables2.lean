theorem cdL_c : ∀ (l pre : List Nat) (c : Nat), ((c : Nat) : Int) = cdF (rowL (pre ++ l)) pre.length → ((cdL l c : Nat) : Int) = cdF (rowL (pre ++ l)) (pre ++ l).length
  | [], pre, c, h => by rw [cdL, h]; simp
  | a :: l, pre, c, h => by
    rw [cdL]
    have e : pre ++ a :: l = (pre ++ [a]) ++ l := by simp
    have h2 := cdL_c l (pre ++ [a]) (8 * c + a) (by
      rw [← e, List.length_append, List.length_singleton, cdF, ← h]
      have h3 : rowL (pre ++ a :: l) pre.length = a := by
        unfold rowL
        rw [List.getD_eq_getElem?_getD, List.getElem?_append_right (Nat.le_refl _)]
        simp
      rw [h3]
      omega)
    rw [h2, e]
theorem cdL_cd {n : Nat} {L : List Nat} (hL : L.length = n) : ((cdL L 0 : Nat) : Int) = cdF (rowL L) n := by
  have h := cdL_c L [] 0 rfl
  rw [List.nil_append, hL] at h
  exact h
theorem runT_t {n M : Nat} (hU : ∀ i, i < M → (unL n i).length = n ∧ prm n (rowL (unL n i))) : ∀ (k : Nat) (T : List Nat), k ≤ M → runT n M k T = true → pfx n (unL n) M = pfx n (unL n) (M - k) ++ T.map (fun c : Nat => (c : Int))
  | 0, T, _, h => by
    rw [runT] at h
    have : T = [] := by simpa using h
    rw [this]; simp
  | k + 1, T, hk, h => by
    obtain ⟨u1, u2⟩ := hU (M - (k + 1)) (by omega)
    rw [runT] at h
    have hs : M - k = (M - (k + 1)) + 1 := by omega
    by_cases e : fdB n (unL n (M - (k + 1))) = true
    · rw [if_pos e] at h
      have hp := pfx_t (n := n) (U := unL n) (i := M - (k + 1)) (pB_t.mpr ((fdB_t u1 u2).mp e))
      match T, h with
      | c :: T', h =>
        rw [Bool.and_eq_true, Bool.and_eq_true] at h
        rw [runT_t hU k T' (by omega) h.2.2, hs, hp, show c = cdL (unL n (M - (k + 1))) 0 from Nat.eq_of_beq_eq_true h.1, List.map_cons, cdL_cd u1]
        simp
      | [], h =>
        rw [Bool.and_eq_true, Bool.and_eq_true] at h
        exact absurd h.2.1 (by simp)
    · rw [if_neg e] at h
      have hp := pfx_f (n := n) (U := unL n) (i := M - (k + 1)) (pB_f.mpr (fun g => e ((fdB_t u1 u2).mpr g)))
      rw [runT_t hU k T (by omega) h, hs, hp]
/-- every row is there -/
def rkG : List Nat → List Nat → Nat
  | [], _ => 0
  | a :: l, av => ixL av a * fct l.length + rkG l (av.eraseIdx (ixL av a))
def covB (n : Nat) (L : List Nat) : Bool := eqL (unL n (rkG L (List.range n))) L && Nat.blt (rkG L (List.range n)) (fct n)
def ckP (n : Nat) (test : List Nat → Bool) : Nat → List Nat → Bool
  | 0, L => test L
  | m + 1, L => allB (fun a => L.contains a || ckP n test m (L ++ [a])) 0 n
theorem ckP_t {n : Nat} {test : List Nat → Bool} : ∀ (m : Nat) (L R : List Nat), ckP n test m L = true → R.length = m → (∀ x ∈ R, x < n) → (L ++ R).Nodup → test (L ++ R) = true
  | 0, L, R, h, hl, _, _ => by
    rw [ckP] at h
    rw [List.eq_nil_of_length_eq_zero hl, List.append_nil]
    exact h
  | m + 1, L, [], _, hl, _, _ => by cases hl
  | m + 1, L, a :: R, h, hl, hR, hd => by
    rw [ckP] at h
    have h1 := allB_t h a (Nat.zero_le _) (by have := hR a (by simp); omega)
    rw [Bool.or_eq_true] at h1
    have e : L ++ a :: R = (L ++ [a]) ++ R := by simp
    rcases h1 with h2 | h2
    · exfalso
      have h3 : a ∈ L := by simpa using h2
      have h4 := List.nodup_append.mp hd
      exact h4.2.2 a h3 a (by simp) rfl
    · rw [e]
      exact ckP_t m (L ++ [a]) R h2 (by simpa using hl) (fun x hx => hR x (by simp [hx])) (by rw [← e]; exact hd)
theorem cov_t {n : Nat} (hc : ckP n (covB n) n [] = true) {g : Nat → Int} (hp : prm n g) : ∃ i, i < fct n ∧ ∀ j, j < n → rowL (unL n i) j = g j := by
  have hnd : ((List.range n).map (fun j => (g j).toNat)).Nodup := by
    rw [List.nodup_iff_pairwise_ne, List.pairwise_map]
    have h1 : (List.range n).Pairwise (fun a b => a ≠ b) := List.nodup_iff_pairwise_ne.mp List.nodup_range
    refine List.Pairwise.imp_of_mem (fun {a b} ha hb hne e => ?_) h1
    have ha := List.mem_range.mp ha
    have hb := List.mem_range.mp hb
    have g1 := hp.1 a ha
    have g2 := hp.1 b hb
    exact hne (hp.2 a b ha hb (by omega))
  have h := ckP_t n [] ((List.range n).map (fun j => (g j).toNat)) hc (by simp) (fun x hx => by
    obtain ⟨j, hj, rfl⟩ := List.mem_map.mp hx
    have := hp.1 j (List.mem_range.mp hj)
    omega) (by rw [List.nil_append]; exact hnd)
  rw [List.nil_append] at h
  unfold covB at h
  rw [Bool.and_eq_true] at h
  refine ⟨_, Nat.le_of_ble_eq_true h.2, fun j hj => ?_⟩
  rw [eqL_t h.1]
  unfold rowL
  rw [List.getD_eq_getElem?_getD, List.getElem?_map, List.getElem?_range hj]
  have := hp.1 j hj
  show (((g j).toNat : Nat) : Int) = g j
  omega
theorem pfx_mem {n : Nat} {U : Nat → List Nat} : ∀ {M : Nat} {x : Int}, x ∈ pfx n U M → ∃ i, i < M ∧ x = cdF (rowL (U i)) n ∧ fdP n (rowL (U i))
  | 0, x, h => by cases h
  | M + 1, x, h => by
    by_cases e : pB (fdP n (rowL (U M))) = true
    · rw [pfx_t e] at h
      rcases List.mem_append.mp h with g | g
      · obtain ⟨i, h1, h2⟩ := pfx_mem g
        exact ⟨i, by omega, h2⟩
      · exact ⟨M, by omega, List.mem_singleton.mp g, pB_t.mp e⟩
    · rw [pfx_f (by simpa using e)] at h
      obtain ⟨i, h1, h2⟩ := pfx_mem h
      exact ⟨i, by omega, h2⟩
theorem mem_pfx {n : Nat} {U : Nat → List Nat} : ∀ {M i : Nat}, i < M → fdP n (rowL (U i)) → cdF (rowL (U i)) n ∈ pfx n U M
  | 0, i, h, _ => by omega
  | M + 1, i, h, hf => by
    by_cases e : pB (fdP n (rowL (U M))) = true
    · rw [pfx_t e]
      by_cases g : i = M
      · rw [g]; simp
      · exact List.mem_append_left _ (mem_pfx (by omega) hf)
    · rw [pfx_f (by simpa using e)]
      by_cases g : i = M
      · rw [g] at hf; exact absurd (pB_t.mpr hf) e
      · exact mem_pfx (by omega) hf
theorem getD_mem {L : List Int} {k : Nat} (h : k < L.length) : L.getD k 0 ∈ L := by
  rw [List.getD_eq_getElem?_getD, List.getElem?_eq_getElem h]
  exact List.getElem_mem h
/-- the table of n leaves -/
theorem OT_of {n : Nat} (hn7 : n ≤ 7) (hr : isRun n (fct n) (unL n)) (hc : ckP n (covB n) n [] = true) (h4 : (pfx n (unL n) (fct n)).length ≤ 462) (hd : (pfx n (unL n) (fct n)).Nodup) : OT n (pfx n (unL n) (fct n)).length (fun k => (pfx n (unL n) (fct n)).getD k 0) := by
  have hk : ∀ k, k < (pfx n (unL n) (fct n)).length → ∃ i, i < fct n ∧ (pfx n (unL n) (fct n)).getD k 0 = cdF (rowL (unL n i)) n ∧ fdP n (rowL (unL n i)) := fun k hk => pfx_mem (getD_mem hk)
  have hg : ∀ i, i < fct n → ∀ j, j < n → dgF n (cdF (rowL (unL n i)) n) j = rowL (unL n i) j := fun i hi => dg_cd (prm8 hn7 (hr.2.2.1 i hi).2)
  refine ⟨h4, fun k hk1 => ?_, fun j k hj hk1 e => ?_, fun g hp hf => ?_, fun k hk1 => ?_⟩
  · obtain ⟨i, h1, h2, h3⟩ := hk k hk1
    have hp := (hr.2.2.1 i h1).2
    dsimp only
    rw [h2]
    exact ⟨(cdF_r (prm8 hn7 hp)).1, prm_c (hg i h1) hp, cdF_c (hg i h1)⟩
  · dsimp only at e
    rw [List.getD_eq_getElem?_getD, List.getD_eq_getElem?_getD, List.getElem?_eq_getElem hj, List.getElem?_eq_getElem hk1] at e
    exact (List.getElem_inj hd).mp e
  · obtain ⟨i, h1, h2⟩ := cov_t hc hp
    have hm := mem_pfx (n := n) (U := unL n) h1 ((fdP_c h2).mpr hf)
    obtain ⟨k, hk1, hk2⟩ := List.getElem_of_mem hm
    refine ⟨k, hk1, ?_⟩
    dsimp only
    rw [List.getD_eq_getElem?_getD, List.getElem?_eq_getElem hk1]
    show (pfx n (unL n) (fct n))[k] = _
    rw [hk2]
    exact cdF_c h2
  · obtain ⟨i, h1, h2, h3⟩ := hk k hk1
    dsimp only
    rw [h2]
    exact (fdP_c (hg i h1)).mpr h3
