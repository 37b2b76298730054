/-! what ties the class's registers (C) to the reference's (M), between two calls -/
def JP (sz : Nat) (C M : St) : Prop := C 1 0 = ↑sz ∧ M 1 0 = ↑sz ∧ sz ≤ 9 ∧ (∀ j, j < sz → C 0 j = M 0 j) ∧ ∀ j, j < sz → 1 ≤ C 0 j ∧ C 0 j ≤ 126
def JT (n : Nat) (C M : St) : Prop := (n = 0 ∨ (2 ≤ n ∧ n ≤ 7)) ∧ cTab n (nb n) (tb n) C ∧ M 2 0 = ↑n ∧ 0 ≤ M 8 0 ∧ (n ≠ 0 → M 8 0 = ↑(nb n) ∧ ∀ k, k < nb n → M 7 k = tb n k)
def JL (n k0 : Nat) (C M : St) : Prop := C 8 0 = ↑k0 ∧ (n ≠ 0 → k0 < nb n ∧ tb n k0 = cdF (M 6) n) ∧ prm n (M 6)
def JK (n : Nat) (C M : St) : Prop := (∀ j, j < n → C 7 j = M 5 j) ∧ cVer n (nb n) (tb n) C
def JM (C M : St) : Prop := C 9 0 = M 3 0 ∧ 0 ≤ M 3 0 ∧ M 3 0 ≤ 999
def JS (n m9 : Nat) (C M : St) : Prop := seOK n m9 C ∧ M 15 0 = ↑m9 ∧ (∀ a, a < m9 → M 16 (3 * a) = C 11 a ∧ M 16 (3 * a + 1) = C 12 a ∧ M 16 (3 * a + 2) = C 13 a) ∧ ∀ j, j < 6 → C 13 j = 0 ∨ C 13 j = 1
def JR (i : Nat) (C M : St) : Prop := C 33 0 = M 4 0 ∧ 0 ≤ M 4 0 ∧ M 4 0 ≤ ↑i
def JI (n : Nat) (C M : St) : Prop := M 19 0 ≤ M 4 0 ∧ (∀ j, j < 6 → C 20 j = 0 ∨ C 20 j = 1) ∧ ((C 32 0 = 0 ∧ M 19 0 ≠ M 4 0) ∨ (C 32 0 ≠ 0 ∧ M 19 0 = M 4 0 ∧ n ≠ 0 ∧ ∃ k1 m1 : Nat, (C 15 0 = ↑k1 ∧ k1 < nb n ∧ tb n k1 = cdF (M 23) n ∧ prm n (M 23)) ∧ (∀ j, j < n → C 14 j = M 22 j) ∧ (C 16 0 = M 20 0 ∧ 0 ≤ M 20 0 ∧ M 20 0 ≤ 999) ∧ C 17 0 = ↑m1 ∧ M 21 0 = ↑m1 ∧ m1 ≤ 6 ∧ ∀ a, a < m1 → (0 ≤ C 18 a ∧ C 18 a < n) ∧ M 24 (3 * a) = C 18 a ∧ M 24 (3 * a + 1) = C 19 a ∧ M 24 (3 * a + 2) = C 20 a))
def J (i n sz k0 m9 : Nat) (C M : St) : Prop := JP sz C M ∧ JT n C M ∧ JL n k0 C M ∧ JK n C M ∧ JM C M ∧ JS n m9 C M ∧ JR i C M ∧ JI n C M ∧ paI C
def JJ (i : Nat) (C M : St) : Prop := ∃ n sz k0 m9, J i n sz k0 m9 C M
section JC
variable {i n sz k0 m9 : Nat} {C C' M M' : St}
theorem JP_c (a0 : C' 0 = C 0) (a1 : C' 1 = C 1) (b0 : M' 0 = M 0) (b1 : M' 1 = M 1) (h : JP sz C M) : JP sz C' M' := by
  unfold JP at h ⊢
  rw [a0, a1, b0, b1]; exact h
theorem JT_c (a2 : C' 2 = C 2) (a3 : C' 3 = C 3) (a4 : C' 4 = C 4) (a5 : C' 5 = C 5) (b2 : M' 2 = M 2) (b7 : M' 7 = M 7) (b8 : M' 8 = M 8) (h : JT n C M) : JT n C' M' := by
  unfold JT cTab at h ⊢
  rw [a2, a3, a4, a5, b2, b7, b8]; exact h
theorem JL_c (a8 : C' 8 = C 8) (b6 : M' 6 = M 6) (h : JL n k0 C M) : JL n k0 C' M' := by
  unfold JL at h ⊢
  rw [a8, b6]; exact h
theorem JK_c (a7 : C' 7 = C 7) (a21 : C' 21 = C 21) (a22 : C' 22 = C 22) (a23 : C' 23 = C 23) (b5 : M' 5 = M 5) (h : JK n C M) : JK n C' M' := by
  unfold JK cVer at h ⊢
  rw [a7, a21, a22, a23, b5]; exact h
theorem JM_c (a9 : C' 9 = C 9) (b3 : M' 3 = M 3) (h : JM C M) : JM C' M' := by
  unfold JM at h ⊢
  rw [a9, b3]; exact h
theorem JS_c (a10 : C' 10 = C 10) (a11 : C' 11 = C 11) (a12 : C' 12 = C 12) (a13 : C' 13 = C 13) (b15 : M' 15 = M 15) (b16 : M' 16 = M 16) (h : JS n m9 C M) : JS n m9 C' M' := by
  unfold JS seOK at h ⊢
  rw [a10, a11, a12, a13, b15, b16]; exact h
theorem JR_c (a33 : C' 33 = C 33) (b4 : M' 4 = M 4) (h : JR i C M) : JR (i + 4) C' M' := by
  unfold JR at h ⊢
  rw [a33, b4]; exact ⟨h.1, h.2.1, by have := h.2.2; omega⟩
theorem JI_c (a14 : C' 14 = C 14) (a15 : C' 15 = C 15) (a16 : C' 16 = C 16) (a17 : C' 17 = C 17) (a18 : C' 18 = C 18) (a19 : C' 19 = C 19) (a20 : C' 20 = C 20) (a32 : C' 32 = C 32) (b4 : M' 4 = M 4) (b19 : M' 19 = M 19) (b20 : M' 20 = M 20) (b21 : M' 21 = M 21) (b22 : M' 22 = M 22) (b23 : M' 23 = M 23) (b24 : M' 24 = M 24) (h : JI n C M) : JI n C' M' := by
  unfold JI at h ⊢
  rw [a14, a15, a16, a17, a18, a19, a20, a32, b4, b19, b20, b21, b22, b23, b24]; exact h
theorem paI_c (a24 : C' 24 = C 24) (a25 : C' 25 = C 25) (a27 : C' 27 = C 27) (a28 : C' 28 = C 28) (a29 : C' 29 = C 29) (h : paI C) : paI C' := by
  unfold paI at h ⊢
  rw [a24, a25, a27, a28, a29]; exact h
theorem J_cm (hc : ∀ k, cScr k = false → C' k = C k) (hm : mK M M') (hpa : paI C') (h : J i n sz k0 m9 C M) : J (i + 4) n sz k0 m9 C' M' := by
  obtain ⟨h1, h2, h3, h4, h5, h6, h7, h8, h9⟩ := h
  exact ⟨JP_c (hc 0 rfl) (hc 1 rfl) (hm 0 rfl) (hm 1 rfl) h1, JT_c (hc 2 rfl) (hc 3 rfl) (hc 4 rfl) (hc 5 rfl) (hm 2 rfl) (hm 7 rfl) (hm 8 rfl) h2, JL_c (hc 8 rfl) (hm 6 rfl) h3, JK_c (hc 7 rfl) (hc 21 rfl) (hc 22 rfl) (hc 23 rfl) (hm 5 rfl) h4, JM_c (hc 9 rfl) (hm 3 rfl) h5, JS_c (hc 10 rfl) (hc 11 rfl) (hc 12 rfl) (hc 13 rfl) (hm 15 rfl) (hm 16 rfl) h6, JR_c (hc 33 rfl) (hm 4 rfl) h7, JI_c (hc 14 rfl) (hc 15 rfl) (hc 16 rfl) (hc 17 rfl) (hc 18 rfl) (hc 19 rfl) (hc 20 rfl) (hc 32 rfl) (hm 4 rfl) (hm 19 rfl) (hm 20 rfl) (hm 21 rfl) (hm 22 rfl) (hm 23 rfl) (hm 24 rfl) h8, hpa⟩
/-- the class is as it was; the reference but for its own rows -/
theorem J_m (hm : mK M M') (h : J i n sz k0 m9 C M) : JJ (i + 4) C M' := ⟨n, sz, k0, m9, J_cm (fun _ _ => rfl) hm h.2.2.2.2.2.2.2.2 h⟩
theorem cTab_t {N : Nat} {t t' : Nat → Int} {S : St} (ht : n ≠ 0 → ∀ k, k < N → t' k = t k) (hO : n ≠ 0 → OT n N t') (h : cTab n N t S) : cTab n N t' S := by
  obtain ⟨h1, h2, h3, h4, h5⟩ := h
  have hn : ∀ {k : Nat}, k < N → n ≠ 0 := fun hk e => by have := h2 e; omega
  refine ⟨h1, h2, hO, fun j k hj hk => ?_, fun k hk => ?_⟩
  · rw [ht (hn hk) j (by omega), ht (hn hk) k hk]; exact h4 j k hj hk
  · rw [ht (hn hk) k hk]; exact h5 k hk
theorem OT_t {N : Nat} {t t' : Nat → Int} (ht : ∀ k, k < N → t' k = t k) (h : OT n N t) : OT n N t' := by
  obtain ⟨h1, h2, h3, h4, h5⟩ := h
  refine ⟨h1, fun k hk => by rw [ht k hk]; exact h2 k hk, fun j k hj hk e => h3 j k hj hk (by rw [← ht j hj, ← ht k hk]; exact e), fun g hp hf => ?_, fun k hk => by rw [ht k hk]; exact h5 k hk⟩
  obtain ⟨k, hk, e⟩ := h4 g hp hf
  exact ⟨k, hk, by rw [ht k hk]; exact e⟩
theorem cVer_t {N : Nat} {t t' : Nat → Int} {S : St} (ht : ∀ k, k < N → t' k = t k) (h : cVer n N t S) : cVer n N t' S := by
  have hf : ∀ k, k < N → (ftP n (S 7) t' k ↔ ftP n (S 7) t k) := fun k hk => by unfold ftP; rw [ht k hk]
  obtain ⟨h1, h2⟩ := h
  refine ⟨by rw [h1]; exact cnt_c (fun k hk => (pB_c (hf k hk)).symm), fun k hk => ?_⟩
  rw [pB_c (hf k hk), ht k hk]; exact h2 k hk
end JC
/-- what the calls ask, out of J -/
theorem J_use {i n sz k0 m9 : Nat} {C M : St} (h : J i n sz k0 m9 C M) :
    (C 1 0 = ↑sz ∧ M 1 0 = ↑sz ∧ sz ≤ 9) ∧ (∀ j, j < sz → 1 ≤ C 0 j ∧ C 0 j ≤ 126) ∧ (n ≠ 0 → 2 ≤ n ∧ n ≤ 7) ∧ n ≤ 7 ∧ cTab n (nb n) (tb n) C ∧ cVer n (nb n) (tb n) C ∧ cTab n (nb n) (M 7) C ∧ cVer n (nb n) (M 7) C ∧ (C 8 0 = ↑k0 ∧ (n ≠ 0 → k0 < nb n)) ∧ (M 2 0 = ↑n ∧ (n ≠ 0 → STp n (nb n) k0 M) ∧ 0 ≤ M 8 0 ∧ prm n (M 6)) ∧ seOK n m9 C ∧ (M 15 0 = ↑m9 ∧ sgOK n (M 16) m9) := by
  obtain ⟨h1, h2, h3, h4, h5, h6, h7, h8, h9⟩ := h
  obtain ⟨n1, n2, n3, n4, n5⟩ := h2
  obtain ⟨l1, l2, l3⟩ := h3
  have hn2 : n ≠ 0 → 2 ≤ n ∧ n ≤ 7 := fun e => by omega
  have hOT : n ≠ 0 → OT n (nb n) (M 7) := fun e => OT_t (n5 e).2 (OT_tb (hn2 e))
  have h0 : n = 0 → nb n = 0 := n2.2.1
  have ht : ∀ k, k < nb n → M 7 k = tb n k := fun k hk => by
    by_cases e : n = 0
    · have := h0 e; omega
    · exact (n5 e).2 k hk
  refine ⟨⟨h1.1, h1.2.1, h1.2.2.1⟩, h1.2.2.2.2, hn2, by omega, n2, h4.2, cTab_t (fun _ => ht) hOT n2, cVer_t ht h4.2, ⟨l1, fun e => (l2 e).1⟩, ⟨n3, fun e => ⟨(n5 e).1, hOT e, (l2 e).1, by rw [ht k0 (l2 e).1]; exact (l2 e).2⟩, n4, l3⟩, h6.1, h6.2.1, h6.1.2.1, fun a ha => ?_⟩
  have e1 := h6.2.2.1 a ha
  have e2 := h6.1.2.2 a ha
  rw [e1.1, e1.2.2]; exact e2
/-- the rows of both sides -/
theorem J_row {i n sz k0 m9 : Nat} {C M : St} (h : J i n sz k0 m9 C M) : (∀ j, j < n → dgF n (M 7 k0) j = M 6 j) ∧ prm n (M 6) ∧ (∀ j, j < n → C 7 j = M 5 j) ∧ (n ≠ 0 → OT n (nb n) (M 7)) ∧ (∀ k, k < nb n → tb n k = M 7 k) ∧ ∀ a, a < m9 → sgC (C 11) (C 12) (C 13) (3 * a) = M 16 (3 * a) ∧ sgC (C 11) (C 12) (C 13) (3 * a + 1) = M 16 (3 * a + 1) ∧ sgC (C 11) (C 12) (C 13) (3 * a + 2) = M 16 (3 * a + 2) := by
  have u := J_use h
  obtain ⟨h1, h2, h3, h4, h5, h6, h7, h8, h9⟩ := h
  obtain ⟨-, -, hn2, hn7, -, -, hT, -, -, ⟨-, hst, -, hp⟩, -, -⟩ := u
  have hO : n ≠ 0 → OT n (nb n) (M 7) := fun e => (hst e).2.1
  refine ⟨fun j hj => ?_, hp, h4.1, hO, fun k hk => ?_, fun a ha => ?_⟩
  · have e : n ≠ 0 := by omega
    exact row_dg (hO e) hn7 hp (hst e).2.2.2 j hj
  · by_cases e : n = 0
    · have := h2.2.1.2.1 e; omega
    · exact ((h2.2.2.2.2 e).2 k hk).symm
  · have e1 := h6.2.2.1 a ha
    rw [sgC_0, sgC_1, sgC_2]
    exact ⟨e1.1.symm, e1.2.1.symm, e1.2.2.symm⟩
theorem mK1 {M : St} {r : Nat} {f : Nat → Int} (h : mScr r = true) : mK M (sA M r f) := mK_up h
section JStep
variable {i n sz k0 m9 : Nat} {C C' M M' : St} {r r' : Int32}
theorem s_letter {x : Int} (hJ : J i n sz k0 m9 C M) (hc : (¬ (1 ≤ x ∧ x ≤ 126) ∧ C' = C ∧ r = zI (-102)) ∨ ((1 ≤ x ∧ x ≤ 126) ∧ sz = 9 ∧ C' = C ∧ r = zI (-104)) ∨ ((1 ≤ x ∧ x ≤ 126) ∧ sz < 9 ∧ C' = sA (sA C 0 (uZ (C 0) sz x)) 1 (fun _ => ↑sz + 1) ∧ r = zI (↑sz + 1))) (hm : (¬ (1 ≤ x ∧ x ≤ 126) ∧ M' = M ∧ r' = zI (-102)) ∨ ((1 ≤ x ∧ x ≤ 126) ∧ sz = 9 ∧ M' = M ∧ r' = zI (-104)) ∨ ((1 ≤ x ∧ x ≤ 126) ∧ sz < 9 ∧ M' = sA (sA M 0 (uZ (M 0) sz x)) 1 (fun _ => ↑sz + 1) ∧ r' = zI (↑sz + 1))) : r = r' ∧ JJ (i + 4) C' M' := by
  rcases hc with ⟨a1, rfl, rfl⟩ | ⟨a1, a2, rfl, rfl⟩ | ⟨a1, a2, rfl, rfl⟩ <;> rcases hm with ⟨b1, rfl, rfl⟩ | ⟨b1, b2, rfl, rfl⟩ | ⟨b1, b2, rfl, rfl⟩
  · exact ⟨rfl, J_m (mK_rf _) hJ⟩
  · exact absurd b1 a1
  · exact absurd b1 a1
  · exact absurd a1 b1
  · exact ⟨rfl, J_m (mK_rf _) hJ⟩
  · omega
  · exact absurd a1 b1
  · omega
  · refine ⟨rfl, n, sz + 1, k0, m9, ?_⟩
    obtain ⟨h1, h2, h3, h4, h5, h6, h7, h8, h9⟩ := hJ
    refine ⟨⟨?_, ?_, by omega, fun j hj => ?_, fun j hj => ?_⟩, JT_c rfl rfl rfl rfl rfl rfl rfl h2, JL_c rfl rfl h3, JK_c rfl rfl rfl rfl rfl h4, JM_c rfl rfl h5, JS_c rfl rfl rfl rfl rfl rfl h6, JR_c rfl rfl h7, JI_c rfl rfl rfl rfl rfl rfl rfl rfl rfl rfl rfl rfl rfl rfl rfl h8, paI_c rfl rfl rfl rfl rfl h9⟩
    · show (sz : Int) + 1 = ((sz + 1 : Nat) : Int); omega
    · show (sz : Int) + 1 = ((sz + 1 : Nat) : Int); omega
    · show uZ (C 0) sz x j = uZ (M 0) sz x j
      unfold uZ
      by_cases e : j = sz
      · rw [if_pos e, if_pos e]
      · rw [if_neg e, if_neg e]; exact h1.2.2.2.1 j (by omega)
    · show 1 ≤ uZ (C 0) sz x j ∧ uZ (C 0) sz x j ≤ 126
      unfold uZ
      by_cases e : j = sz
      · rw [if_pos e]; exact a1
      · rw [if_neg e]; exact h1.2.2.2.2 j (by omega)
theorem s_blank (hJ : J i n sz k0 m9 C M) (hc : C' = sA C 1 (fun _ => 0) ∧ r = zI (C 1 0)) (hm : M' = sA M 1 (fun _ => 0) ∧ r' = zI (M 1 0)) : r = r' ∧ JJ (i + 4) C' M' := by
  obtain ⟨rfl, rfl⟩ := hc
  obtain ⟨rfl, rfl⟩ := hm
  obtain ⟨h1, h2, h3, h4, h5, h6, h7, h8, h9⟩ := hJ
  refine ⟨by rw [h1.1, h1.2.1], n, 0, k0, m9, ⟨rfl, rfl, by omega, fun j hj => absurd hj (Nat.not_lt_zero j), fun j hj => absurd hj (Nat.not_lt_zero j)⟩, JT_c rfl rfl rfl rfl rfl rfl rfl h2, JL_c rfl rfl h3, JK_c rfl rfl rfl rfl rfl h4, JM_c rfl rfl h5, JS_c rfl rfl rfl rfl rfl rfl h6, JR_c rfl rfl h7, JI_c rfl rfl rfl rfl rfl rfl rfl rfl rfl rfl rfl rfl rfl rfl rfl h8, paI_c rfl rfl rfl rfl rfl h9⟩
theorem flt2 {pg pg' : Nat → Int} {sz k : Nat} (h : ∀ j, j < sz → pg j = pg' j) (hk : isFlt pg sz k) : isFlt pg' sz k := by
  obtain ⟨a1, a2, a3, a4⟩ := hk
  refine ⟨a1, a2, fun j hj => by rw [← h j (by omega)]; exact a3 j hj, ?_⟩
  by_cases e : k = sz
  · exact Or.inl e
  · rw [← h k (by omega)]; exact a4
theorem s_fault (hJ : J i n sz k0 m9 C M) (hc : ∃ k : Nat, C' = C ∧ r = zI ↑k ∧ isFlt (C 0) sz k) (hm : ∃ k : Nat, M' = M ∧ r' = zI ↑k ∧ isFlt (M 0) sz k) : r = r' ∧ JJ (i + 4) C' M' := by
  obtain ⟨k, rfl, rfl, a1⟩ := hc
  obtain ⟨k', rfl, rfl, b1⟩ := hm
  have e := isFlt_u (flt2 hJ.1.2.2.2.1 a1) b1
  subst e
  exact ⟨rfl, J_m (mK_rf _) hJ⟩
theorem s_eq {v v' : Int} (hJ : J i n sz k0 m9 C M) (hm : mK M M') (hc : C' = C ∧ r = zI v) (hr : r' = zI v') (e : v = v') : r = r' ∧ JJ (i + 4) C' M' := by
  obtain ⟨rfl, rfl⟩ := hc
  subst hr; subst e
  exact ⟨rfl, J_m hm hJ⟩
theorem s_near {x : Int} (hJ : J i n sz k0 m9 C M) (hc : ∃ e24 e25 e26 e27 e28 e29 e30, C' = sA (sA (sA (sA (sA (sA (sA C 24 e24) 25 e25) 26 e26) 27 e27) 28 e28) 29 e29) 30 e30 ∧ paI C' ∧ ∃ v, nearR n (nb n) (tb n) k0 x v ∧ r = zI v) (hm : ∃ e9 e10 e11 e12 e13 e14, M' = sA (sA (sA (sA (sA (sA M 9 e9) 10 e10) 11 e11) 12 e12) 13 e13) 14 e14 ∧ ∃ v, nearR n (nb n) (M 7) k0 x v ∧ r' = zI v) : r = r' ∧ JJ (i + 4) C' M' := by
  obtain ⟨e24, e25, e26, e27, e28, e29, e30, rfl, hpa, v, a1, rfl⟩ := hc
  obtain ⟨e9, e10, e11, e12, e13, e14, rfl, v', b1, rfl⟩ := hm
  obtain ⟨-, -, -, -, htt, -⟩ := J_row hJ
  have e := near2 htt a1 b1
  subst e
  exact ⟨rfl, n, sz, k0, m9, J_cm (((((((cK_up rfl).tr (cK_up rfl)).tr (cK_up rfl)).tr (cK_up rfl)).tr (cK_up rfl)).tr (cK_up rfl)).tr (cK_up rfl)) ((((((mK1 rfl).tr (mK1 rfl)).tr (mK1 rfl)).tr (mK1 rfl)).tr (mK1 rfl)).tr (mK1 rfl)) hpa hJ⟩
theorem s_far {w : Int} (hJ : J i n sz k0 m9 C M) (hc : ∃ e24 e25 e26 e27 e28 e29 e30, C' = sA (sA (sA (sA (sA (sA (sA C 24 e24) 25 e25) 26 e26) 27 e27) 28 e28) 29 e29) 30 e30 ∧ paI C' ∧ ∃ v, farR n (nb n) (C 7) (tb n) k0 w v ∧ r = zI v) (hm : ∃ e9 e10 e11 e12 e13 e14, M' = sA (sA (sA (sA (sA (sA M 9 e9) 10 e10) 11 e11) 12 e12) 13 e13) 14 e14 ∧ ∃ v, farR n (nb n) (M 5) (M 7) k0 w v ∧ r' = zI v) : r = r' ∧ JJ (i + 4) C' M' := by
  obtain ⟨e24, e25, e26, e27, e28, e29, e30, rfl, hpa, v, a1, rfl⟩ := hc
  obtain ⟨e9, e10, e11, e12, e13, e14, rfl, v', b1, rfl⟩ := hm
  obtain ⟨-, -, hk, hO, htt, -⟩ := J_row hJ
  have e := far2 htt hO hk a1 b1
  subst e
  exact ⟨rfl, n, sz, k0, m9, J_cm (((((((cK_up rfl).tr (cK_up rfl)).tr (cK_up rfl)).tr (cK_up rfl)).tr (cK_up rfl)).tr (cK_up rfl)).tr (cK_up rfl)) ((((((mK1 rfl).tr (mK1 rfl)).tr (mK1 rfl)).tr (mK1 rfl)).tr (mK1 rfl)).tr (mK1 rfl)) hpa hJ⟩
theorem s_trial (hJ : J i n sz k0 m9 C M) (hc : ∃ e31, C' = sA C 31 e31 ∧ ∃ v, trialR n (nb n) (M 7) (sgC (C 11) (C 12) (C 13)) m9 v ∧ r = zI v) (hm : ∃ e10, M' = sA M 10 e10 ∧ ∃ v, trialR n (nb n) (M 7) (M 16) m9 v ∧ r' = zI v) : r = r' ∧ JJ (i + 4) C' M' := by
  obtain ⟨e31, rfl, v, a1, rfl⟩ := hc
  obtain ⟨e10, rfl, v', b1, rfl⟩ := hm
  obtain ⟨-, -, hk, hO, htt, hs⟩ := J_row hJ
  have e := trial2 hs a1 b1
  subst e
  exact ⟨rfl, n, sz, k0, m9, J_cm (cK_up rfl) (mK1 rfl) (paI_c rfl rfl rfl rfl rfl hJ.2.2.2.2.2.2.2.2) hJ⟩
theorem s_forget (hJ : J i n sz k0 m9 C M) (hc : C' = sA C 10 (fun _ => 0) ∧ r = zI (C 10 0)) (hm : M' = sA M 15 (fun _ => 0) ∧ r' = zI (M 15 0)) : r = r' ∧ JJ (i + 4) C' M' := by
  obtain ⟨rfl, rfl⟩ := hc
  obtain ⟨rfl, rfl⟩ := hm
  obtain ⟨h1, h2, h3, h4, h5, h6, h7, h8, h9⟩ := hJ
  refine ⟨by rw [h6.1.1, h6.2.1], n, sz, k0, 0, JP_c rfl rfl rfl rfl h1, JT_c rfl rfl rfl rfl rfl rfl rfl h2, JL_c rfl rfl h3, JK_c rfl rfl rfl rfl rfl h4, JM_c rfl rfl h5, ⟨⟨rfl, by omega, fun a ha => absurd ha (Nat.not_lt_zero a)⟩, rfl, fun a ha => absurd ha (Nat.not_lt_zero a), h6.2.2.2⟩, JR_c rfl rfl h7, JI_c rfl rfl rfl rfl rfl rfl rfl rfl rfl rfl rfl rfl rfl rfl rfl h8, paI_c rfl rfl rfl rfl rfl h9⟩
theorem s_see {x y z : Int} (hz : z = 0 ∨ z = 1) (hJ : J i n sz k0 m9 C M) (hc : (¬ isL n x ∧ C' = C ∧ r = zI (-101)) ∨ (isL n x ∧ ¬ (1 ≤ y ∧ y ≤ n) ∧ C' = C ∧ r = zI (-102)) ∨ (isL n x ∧ (1 ≤ y ∧ y ≤ n) ∧ m9 = 6 ∧ C' = C ∧ r = zI (-104)) ∨ (isL n x ∧ (1 ≤ y ∧ y ≤ n) ∧ m9 < 6 ∧ C' = sA (sA (sA (sA C 11 (uZ (C 11) m9 x)) 12 (uZ (C 12) m9 y)) 13 (uZ (C 13) m9 z)) 10 (fun _ => ↑m9 + 1) ∧ r = zI (↑m9 + 1))) (hm : ∃ e16 e15, M' = sA (sA M 16 e16) 15 e15 ∧ ∃ v, seeR n m9 (M 16) x y z v e16 (e15 0) ∧ r' = zI v) : r = r' ∧ JJ (i + 4) C' M' := by
  obtain ⟨e16, e15, rfl, v, hs, rfl⟩ := hm
  obtain ⟨h1, h2, h3, h4, h5, h6, h7, h8, h9⟩ := hJ
  have same : e16 = M 16 → e15 0 = ↑m9 → J (i + 4) n sz k0 m9 C (sA (sA M 16 e16) 15 e15) := fun q1 q2 => ⟨JP_c rfl rfl rfl rfl h1, JT_c rfl rfl rfl rfl rfl rfl rfl h2, JL_c rfl rfl h3, JK_c rfl rfl rfl rfl rfl h4, JM_c rfl rfl h5, ⟨h6.1, q2, fun a ha => by subst q1; exact h6.2.2.1 a ha, h6.2.2.2⟩, JR_c rfl rfl h7, JI_c rfl rfl rfl rfl rfl rfl rfl rfl rfl rfl rfl rfl rfl rfl rfl h8, h9⟩
  rcases hc with ⟨a1, rfl, rfl⟩ | ⟨a1, a2, rfl, rfl⟩ | ⟨a1, a2, a3, rfl, rfl⟩ | ⟨a1, a2, a3, rfl, rfl⟩ <;> rcases hs with ⟨b1, b2, b3, b4⟩ | ⟨b1, b2, b3, b4, b5⟩ | ⟨b1, b2, b3, b4, b5, b6⟩ | ⟨b1, b2, b3, b4, b5, b6⟩
  · exact ⟨by rw [b2], n, sz, k0, m9, same b3 b4⟩
  · exact absurd b1 a1
  · exact absurd b1 a1
  · exact absurd b1 a1
  · exact absurd a1 b1
  · exact ⟨by rw [b3], n, sz, k0, m9, same b4 b5⟩
  · exact absurd b2 a2
  · exact absurd b2 a2
  · exact absurd a1 b1
  · exact absurd a2 b2
  · exact ⟨by rw [b4], n, sz, k0, m9, same b5 b6⟩
  · exact absurd a3 b3
  · exact absurd a1 b1
  · exact absurd a2 b2
  · omega
  · refine ⟨by rw [b4], n, sz, k0, m9 + 1, JP_c rfl rfl rfl rfl h1, JT_c rfl rfl rfl rfl rfl rfl rfl h2, JL_c rfl rfl h3, JK_c rfl rfl rfl rfl rfl h4, JM_c rfl rfl h5, ⟨⟨?_, by omega, fun a ha => ?_⟩, ?_, fun a ha => ?_, fun j hj => ?_⟩, JR_c rfl rfl h7, JI_c rfl rfl rfl rfl rfl rfl rfl rfl rfl rfl rfl rfl rfl rfl rfl h8, paI_c rfl rfl rfl rfl rfl h9⟩
    · show (m9 : Int) + 1 = ((m9 + 1 : Nat) : Int); omega
    · show 0 ≤ uZ (C 11) m9 x a ∧ uZ (C 11) m9 x a < n ∧ (uZ (C 13) m9 z a = 0 ∨ uZ (C 13) m9 z a = 1)
      unfold uZ
      by_cases e : a = m9
      · rw [if_pos e, if_pos e]; unfold isL at a1; omega
      · rw [if_neg e, if_neg e]; exact h6.1.2.2 a (by omega)
    · show e15 0 = ((m9 + 1 : Nat) : Int); omega
    · show e16 (3 * a) = uZ (C 11) m9 x a ∧ e16 (3 * a + 1) = uZ (C 12) m9 y a ∧ e16 (3 * a + 2) = uZ (C 13) m9 z a
      rw [b5]
      unfold uZ
      by_cases e : a = m9
      · subst e
        simp
      · have q := h6.2.2.1 a (by omega)
        rw [if_neg (by omega), if_neg (by omega), if_neg (by omega), if_neg (by omega), if_neg (by omega), if_neg (by omega), if_neg (by omega), if_neg (by omega), if_neg (by omega), if_neg (by omega), if_neg (by omega), if_neg (by omega)]
        exact q
    · show uZ (C 13) m9 z j = 0 ∨ uZ (C 13) m9 z j = 1
      unfold uZ
      by_cases e : j = m9
      · rw [if_pos e]; exact hz
      · rw [if_neg e]; exact h6.2.2.2 j hj
theorem s_lay {x : Int} (hJ : J i n sz k0 m9 C M) (hc : ∃ e8, C' = sA C 8 e8 ∧ ∃ v, layC (nb n) k0 x v (e8 0) ∧ r = zI v) (hm : ∃ e6, M' = sA M 6 e6 ∧ ∃ v, layR n (nb n) (M 7) (M 6) k0 x v e6 ∧ r' = zI v) : r = r' ∧ JJ (i + 4) C' M' := by
  obtain ⟨e8, rfl, v, a, rfl⟩ := hc
  obtain ⟨e6, rfl, v', b, rfl⟩ := hm
  obtain ⟨hd, hp, hk, hO, htt, hs⟩ := J_row hJ
  obtain ⟨h1, h2, h3, h4, h5, h6, h7, h8, h9⟩ := hJ
  have hnb : n = 0 → nb n = 0 := h2.2.1.2.1
  rcases a with ⟨a1, a2, a3⟩ | ⟨a1, a2, a3⟩ <;> rcases b with ⟨b1, b2, b3⟩ | ⟨b1, b2, b3⟩
  · subst b3
    exact ⟨by rw [a2, b2], n, sz, k0, m9, JP_c rfl rfl rfl rfl h1, JT_c rfl rfl rfl rfl rfl rfl rfl h2, ⟨a3, h3.2.1, h3.2.2⟩, JK_c rfl rfl rfl rfl rfl h4, JM_c rfl rfl h5, JS_c rfl rfl rfl rfl rfl rfl h6, JR_c rfl rfl h7, JI_c rfl rfl rfl rfl rfl rfl rfl rfl rfl rfl rfl rfl rfl rfl rfl h8, paI_c rfl rfl rfl rfl rfl h9⟩
  · exact absurd ⟨b1.2.1, b1.2.2⟩ a1
  · exact absurd ⟨fun e => by have := hnb e; omega, a1⟩ b1
  · have hx : x.toNat < nb n := by omega
    have hrow := (hO b1.1).2.1 x.toNat hx
    refine ⟨by rw [a2, b2], n, sz, x.toNat, m9, JP_c rfl rfl rfl rfl h1, JT_c rfl rfl rfl rfl rfl rfl rfl h2, ⟨?_, fun _ => ⟨hx, ?_⟩, ?_⟩, JK_c rfl rfl rfl rfl rfl h4, JM_c rfl rfl h5, JS_c rfl rfl rfl rfl rfl rfl h6, JR_c rfl rfl h7, JI_c rfl rfl rfl rfl rfl rfl rfl rfl rfl rfl rfl rfl rfl rfl rfl h8, paI_c rfl rfl rfl rfl rfl h9⟩
    · show e8 0 = ((x.toNat : Nat) : Int); omega
    · show tb n x.toNat = cdF e6 n
      rw [cdF_c b3, hrow.2.2, htt x.toNat hx]
    · exact prm_c b3 hrow.2.1
theorem s_turn (hJ : J i n sz k0 m9 C M) (hc : ∃ e8, C' = sA C 8 e8 ∧ ∃ v, turnC n (nb n) (M 7) k0 v (e8 0) ∧ r = zI v) (hm : ∃ e11 e6, M' = sA (sA M 11 e11) 6 e6 ∧ ∃ v, turnR n (M 6) v e6 ∧ r' = zI v) : r = r' ∧ JJ (i + 4) C' M' := by
  obtain ⟨e8, rfl, v, a, rfl⟩ := hc
  obtain ⟨e11, e6, rfl, v', b, rfl⟩ := hm
  obtain ⟨hd, hp, hk, hO, htt, hs⟩ := J_row hJ
  have hu := J_use hJ
  obtain ⟨-, -, -, hn7, -, -, -, -, ⟨-, hk0⟩, -⟩ := hu
  obtain ⟨h1, h2, h3, h4, h5, h6, h7, h8, h9⟩ := hJ
  rcases a with ⟨a1, a2, a3⟩ | ⟨a1, y9, a2, a3, a4, a5⟩ <;> rcases b with ⟨b1, b2, b3⟩ | ⟨b1, b2, b3⟩
  · subst b3
    exact ⟨by rw [a2, b2], n, sz, k0, m9, JP_c rfl rfl rfl rfl h1, JT_c rfl rfl rfl rfl rfl rfl rfl h2, ⟨a3, h3.2.1, h3.2.2⟩, JK_c rfl rfl rfl rfl rfl h4, JM_c rfl rfl h5, JS_c rfl rfl rfl rfl rfl rfl h6, JR_c rfl rfl h7, JI_c rfl rfl rfl rfl rfl rfl rfl rfl rfl rfl rfl rfl rfl rfl rfl h8, paI_c rfl rfl rfl rfl rfl h9⟩
  · exact absurd a1 b1
  · exact absurd b1 a1
  · have hO2 := hO a1
    have hpk := (hO2.2.1 k0 (hk0 a1)).2.1
    have hrow := row_dg hO2 hn7 (rv_prm hpk) a3
    have he : ∀ j, j < n → e6 j = dgF n (M 7 k0) (n - 1 - j) := fun j hj => by rw [b3 j hj, hd (n - 1 - j) (by omega)]
    refine ⟨?_, n, sz, y9, m9, JP_c rfl rfl rfl rfl h1, JT_c rfl rfl rfl rfl rfl rfl rfl h2, ⟨a4, fun _ => ⟨a2, ?_⟩, ?_⟩, JK_c rfl rfl rfl rfl rfl h4, JM_c rfl rfl h5, JS_c rfl rfl rfl rfl rfl rfl h6, JR_c rfl rfl h7, JI_c rfl rfl rfl rfl rfl rfl rfl rfl rfl rfl rfl rfl rfl rfl rfl h8, paI_c rfl rfl rfl rfl rfl h9⟩
    · rw [a5, b2, hrow 0 (by omega), ← hd (n - 1) (by omega)]
      rfl
    · show tb n y9 = cdF e6 n
      rw [cdF_c he, htt y9 a2]; exact a3
    · exact prm_c he (rv_prm hpk)
theorem s_move {x y : Int} (hJ : J i n sz k0 m9 C M) (hc : ∃ e8 e9, C' = sA (sA C 8 e8) 9 e9 ∧ ∃ v, moveC n (nb n) (C 7) (M 7) k0 (C 9 0) x y v (e8 0) (e9 0) ∧ r = zI v) (hm : ∃ e9 e11 e6 e3, M' = sA (sA (sA (sA M 9 e9) 11 e11) 6 e6) 3 e3 ∧ ∃ v, moveR n (M 5) (M 6) (M 3 0) x y v e6 (e3 0) ∧ r' = zI v) : r = r' ∧ JJ (i + 4) C' M' := by
  obtain ⟨e8, e9, rfl, v, a, rfl⟩ := hc
  obtain ⟨g9, g11, e6, e3, rfl, v', b, rfl⟩ := hm
  obtain ⟨hd, hp, hk, hO, htt, hs⟩ := J_row hJ
  have hu := J_use hJ
  obtain ⟨-, -, -, hn7, -, -, -, -, ⟨-, hk0⟩, -⟩ := hu
  obtain ⟨h1, h2, h3, h4, h5, h6, h7, h8, h9⟩ := hJ
  have hcb : isL n x ∧ isL n y → cbF n (dgF n (M 7 k0)) x.toNat y.toNat = cbF n (M 6) x.toNat y.toNat := fun q => by
    unfold isL at q
    exact cbF_c hd (pl_lt hp (by omega)) (by omega)
  have same : e6 = M 6 → e8 0 = ↑k0 → e9 0 = C 9 0 → e3 0 = M 3 0 → J (i + 4) n sz k0 m9 (sA (sA C 8 e8) 9 e9) (sA (sA (sA (sA M 9 g9) 11 g11) 6 e6) 3 e3) := fun q1 q2 q3 q4 => by
    subst q1
    exact ⟨JP_c rfl rfl rfl rfl h1, JT_c rfl rfl rfl rfl rfl rfl rfl h2, ⟨q2, h3.2.1, h3.2.2⟩, JK_c rfl rfl rfl rfl rfl h4, ⟨by show e9 0 = e3 0; rw [q3, q4]; exact h5.1, by show 0 ≤ e3 0; rw [q4]; exact h5.2.1, by show e3 0 ≤ 999; rw [q4]; exact h5.2.2⟩, JS_c rfl rfl rfl rfl rfl rfl h6, JR_c rfl rfl h7, JI_c rfl rfl rfl rfl rfl rfl rfl rfl rfl rfl rfl rfl rfl rfl rfl h8, paI_c rfl rfl rfl rfl rfl h9⟩
  have e5 := h5.1
  rcases a with ⟨a1, a2, a3, a4⟩ | ⟨a1, a2, a3, a4, a5⟩ | ⟨a1, a2, a3, a4, a5, a6⟩ | ⟨a1, a2, a3, y9, a4, a5, a6, a7, a8⟩ <;> rcases b with ⟨b1, b2, b3, b4⟩ | ⟨b1, b2, b3, b4, b5⟩ | ⟨b1, b2, b3, b4, b5, b6⟩ | ⟨b1, b2, b3, b4, b5, b6⟩
  · exact ⟨by rw [a2, b2], n, sz, k0, m9, same b3 a3 a4 b4⟩
  · exact absurd b1 a1
  · exact absurd b1 a1
  · exact absurd b1 a1
  · exact absurd a1 b1
  · exact ⟨by rw [a3, b3], n, sz, k0, m9, same b4 a4 a5 b5⟩
  · exact absurd ((hcb a1).symm.trans a2) b2
  · exact absurd ((hcb a1).symm.trans a2) b2
  · exact absurd a1 b1
  · exact absurd ((hcb a1).trans b2) a2
  · exact ⟨by rw [a4, b4], n, sz, k0, m9, same b5 a5 a6 b6⟩
  · have := h5.2.2; omega
  · exact absurd a1 b1
  · exact absurd ((hcb a1).trans b2) a2
  · omega
  · unfold isL at a1
    have hO2 := hO (by omega)
    have hv : x.toNat < n := by omega
    have hq : y.toNat < n := by omega
    have hpl := pl_lt hp hv
    have ht : M 7 y9 = cdF e6 n := by
      rw [a5, b5, pl_c hd]
      exact cdF_c (shF_c hd hpl hq)
    have hp6 : prm n e6 := by rw [b5]; exact shF_prm hp hpl hq
    have hrow := row_dg hO2 hn7 hp6 ht
    refine ⟨by rw [a8, b4, op2 hk hrow hp6], n, sz, y9, m9, JP_c rfl rfl rfl rfl h1, JT_c rfl rfl rfl rfl rfl rfl rfl h2, ⟨a6, fun _ => ⟨a4, (htt y9 a4).trans ht⟩, hp6⟩, JK_c rfl rfl rfl rfl rfl h4, ⟨?_, ?_, ?_⟩, JS_c rfl rfl rfl rfl rfl rfl h6, JR_c rfl rfl h7, JI_c rfl rfl rfl rfl rfl rfl rfl rfl rfl rfl rfl rfl rfl rfl rfl h8, paI_c rfl rfl rfl rfl rfl h9⟩
    · show e9 0 = e3 0; omega
    · show 0 ≤ e3 0; have := h5.2.1; omega
    · show e3 0 ≤ 999; have := h5.2.2; omega
theorem s_change {x w : Int} (hJ : J i n sz k0 m9 C M) (hc : ∃ e7 e21 e22 e23, C' = sA (sA (sA (sA C 7 e7) 21 e21) 22 e22) 23 e23 ∧ cVer n (nb n) (tb n) C' ∧ ∃ v, changeR n (C 7) x w v e7 ∧ r = zI v) (hm : ∃ e5, M' = sA M 5 e5 ∧ ∃ v, changeR n (M 5) x w v e5 ∧ r' = zI v) : r = r' ∧ JJ (i + 4) C' M' := by
  obtain ⟨e7, e21, e22, e23, rfl, hv, v, a, rfl⟩ := hc
  obtain ⟨e5, rfl, v', b, rfl⟩ := hm
  obtain ⟨h1, h2, h3, h4, h5, h6, h7, h8, h9⟩ := hJ
  have key : v = v' ∧ ∀ j, j < n → e7 j = e5 j := by
    rcases a with ⟨a1, a2, a3⟩ | ⟨a1, a2, a3, a4⟩ | ⟨a1, a2, a3, a4⟩ <;> rcases b with ⟨b1, b2, b3⟩ | ⟨b1, b2, b3, b4⟩ | ⟨b1, b2, b3, b4⟩
    · rw [a2, b2, a3, b3]; exact ⟨rfl, h4.1⟩
    · exact absurd b1 a1
    · exact absurd b1 a1
    · exact absurd a1 b1
    · rw [a3, b3, a4, b4]; exact ⟨rfl, h4.1⟩
    · exact absurd b2 a2
    · exact absurd a1 b1
    · exact absurd a2 b2
    · unfold isL at a1
      rw [a3, b3, a4, b4]
      refine ⟨h4.1 x.toNat (by omega), fun j hj => ?_⟩
      unfold uZ
      by_cases e : j = x.toNat
      · rw [if_pos e, if_pos e]
      · rw [if_neg e, if_neg e]; exact h4.1 j hj
  exact ⟨by rw [key.1], n, sz, k0, m9, JP_c rfl rfl rfl rfl h1, JT_c rfl rfl rfl rfl rfl rfl rfl h2, JL_c rfl rfl h3, ⟨key.2, hv⟩, JM_c rfl rfl h5, JS_c rfl rfl rfl rfl rfl rfl h6, JR_c rfl rfl h7, JI_c rfl rfl rfl rfl rfl rfl rfl rfl rfl rfl rfl rfl rfl rfl rfl h8, paI_c rfl rfl rfl rfl rfl h9⟩
theorem s_image (hJ : J i n sz k0 m9 C M) (hc : ∃ e14 e15 e16 e17 e18 e19 e20 e32, C' = sA (sA (sA (sA (sA (sA (sA (sA C 14 e14) 15 e15) 16 e16) 17 e17) 18 e18) 19 e19) 20 e20) 32 e32 ∧ ((n = 0 ∧ r = zI (-103) ∧ C' = C) ∨ (n ≠ 0 ∧ r = zI (C 9 0) ∧ (∀ j, j < 7 → e14 j = C 7 j) ∧ e15 0 = C 8 0 ∧ e16 0 = C 9 0 ∧ e17 0 = C 10 0 ∧ (∀ j, j < 6 → e18 j = C 11 j) ∧ (∀ j, j < 6 → e19 j = C 12 j) ∧ (∀ j, j < 6 → e20 j = C 13 j) ∧ e32 0 = 1))) (hm : ∃ e22 e23 e24 e20 e21 e19, M' = sA (sA (sA (sA (sA (sA M 22 e22) 23 e23) 24 e24) 20 e20) 21 e21) 19 e19 ∧ ((n = 0 ∧ r' = zI (-103) ∧ M' = M) ∨ (n ≠ 0 ∧ r' = zI (M 3 0) ∧ (∀ j, j < 7 → e22 j = M 5 j) ∧ (∀ j, j < 7 → e23 j = M 6 j) ∧ (∀ j, j < 18 → e24 j = M 16 j) ∧ e20 0 = M 3 0 ∧ e21 0 = M 15 0 ∧ e19 0 = M 4 0))) : r = r' ∧ JJ (i + 4) C' M' := by
  obtain ⟨e14, e15, e16, e17, e18, e19, e20, e32, hC, a⟩ := hc
  obtain ⟨g22, g23, g24, g20, g21, g19, hM, b⟩ := hm
  have hu := J_use hJ
  obtain ⟨-, -, -, hn7, -, -, -, -, -, -⟩ := hu
  rcases a with ⟨a1, a2, a3⟩ | ⟨a1, a2, a3, a4, a5, a6, a7, a8, a9, a10⟩ <;> rcases b with ⟨b1, b2, b3⟩ | ⟨b1, b2, b3, b4, b5, b6, b7, b8⟩
  · rw [a3, b3, a2, b2]; exact ⟨rfl, J_m (mK_rf _) hJ⟩
  · exact absurd a1 b1
  · exact absurd b1 a1
  · subst hC; subst hM
    obtain ⟨h1, h2, h3, h4, h5, h6, h7, h8, h9⟩ := hJ
    have hm6 := h6.1.2.1
    have h23 : ∀ j, j < n → g23 j = M 6 j := fun j hj => b4 j (by omega)
    refine ⟨by rw [a2, b2, h5.1], n, sz, k0, m9, JP_c rfl rfl rfl rfl h1, JT_c rfl rfl rfl rfl rfl rfl rfl h2, JL_c rfl rfl h3, JK_c rfl rfl rfl rfl rfl h4, JM_c rfl rfl h5, JS_c rfl rfl rfl rfl rfl rfl h6, JR_c rfl rfl h7, ⟨?_, fun j hj => ?_, Or.inr ⟨?_, b8, a1, k0, m9, ⟨a4.trans h3.1, (h3.2.1 a1).1, ?_, prm_c h23 h3.2.2⟩, fun j hj => ?_, ⟨?_, ?_, ?_⟩, a6.trans h6.1.1, b7.trans h6.2.1, hm6, fun q hq => ?_⟩⟩, paI_c rfl rfl rfl rfl rfl h9⟩
    · show g19 0 ≤ M 4 0; omega
    · show e20 j = 0 ∨ e20 j = 1; rw [a9 j hj]; exact h6.2.2.2 j hj
    · show e32 0 ≠ 0; omega
    · show tb n k0 = cdF g23 n; rw [cdF_c h23]; exact (h3.2.1 a1).2
    · show e14 j = g22 j; rw [a3 j (by omega), b3 j (by omega)]; exact h4.1 j hj
    · show e16 0 = g20 0; rw [a5, b6]; exact h5.1
    · show 0 ≤ g20 0; rw [b6]; exact h5.2.1
    · show g20 0 ≤ 999; rw [b6]; exact h5.2.2
    · show (0 ≤ e18 q ∧ e18 q < n) ∧ g24 (3 * q) = e18 q ∧ g24 (3 * q + 1) = e19 q ∧ g24 (3 * q + 2) = e20 q
      rw [a7 q (by omega), a8 q (by omega), a9 q (by omega), b5 _ (by omega), b5 _ (by omega), b5 _ (by omega)]
      have q1 := h6.1.2.2 q hq
      exact ⟨⟨q1.1, q1.2.1⟩, h6.2.2.1 q hq⟩
theorem s_restore (hJ : J i n sz k0 m9 C M) (hc : ∃ e7 e8 e9 e10 e11 e12 e13 e21 e22 e23, C' = sA (sA (sA (sA (sA (sA (sA (sA (sA (sA C 7 e7) 8 e8) 9 e9) 10 e10) 11 e11) 12 e12) 13 e13) 21 e21) 22 e22) 23 e23 ∧ ((C 32 0 = 0 ∧ r = zI (-103) ∧ C' = C) ∨ (C 32 0 ≠ 0 ∧ r = zI (C 16 0) ∧ cVer n (nb n) (tb n) C' ∧ (∀ j, j < 7 → e7 j = C 14 j) ∧ e8 0 = C 15 0 ∧ e9 0 = C 16 0 ∧ e10 0 = C 17 0 ∧ (∀ j, j < 6 → e11 j = C 18 j) ∧ (∀ j, j < 6 → e12 j = C 19 j) ∧ (∀ j, j < 6 → e13 j = C 20 j)))) (hm : ∃ e5 e6 e16 e3 e15, M' = sA (sA (sA (sA (sA M 5 e5) 6 e6) 16 e16) 3 e3) 15 e15 ∧ ((M 19 0 ≠ M 4 0 ∧ r' = zI (-103) ∧ M' = M) ∨ (M 19 0 = M 4 0 ∧ r' = zI (M 20 0) ∧ (∀ j, j < 7 → e5 j = M 22 j) ∧ (∀ j, j < 7 → e6 j = M 23 j) ∧ (∀ j, j < 18 → e16 j = M 24 j) ∧ e3 0 = M 20 0 ∧ e15 0 = M 21 0))) : r = r' ∧ JJ (i + 4) C' M' := by
  obtain ⟨e7, e8, e9, e10, e11, e12, e13, e21, e22, e23, hC, a⟩ := hc
  obtain ⟨g5, g6, g16, g3, g15, hM, b⟩ := hm
  have hu := J_use hJ
  obtain ⟨-, -, -, hn7, -, -, -, -, -, -⟩ := hu
  have hI := hJ.2.2.2.2.2.2.2.1
  rcases a with ⟨a1, a2, a3⟩ | ⟨a1, a2, a3, a4, a5, a6, a7, a8, a9, a10⟩ <;> rcases b with ⟨b1, b2, b3⟩ | ⟨b1, b2, b3, b4, b5, b6, b7⟩
  · rw [a3, b3, a2, b2]; exact ⟨rfl, J_m (mK_rf _) hJ⟩
  · exfalso
    rcases hI.2.2 with ⟨q1, q2⟩ | ⟨q1, q2, -⟩
    · exact q2 b1
    · exact q1 a1
  · exfalso
    rcases hI.2.2 with ⟨q1, q2⟩ | ⟨q1, q2, -⟩
    · exact a1 q1
    · exact b1 q2
  · rcases hI.2.2 with ⟨q1, q2⟩ | ⟨q1, q2, hn, k1, m1, ⟨c1, c2, c3, c4⟩, c5, ⟨c6, c7, c8⟩, c9, c10, c11, c12⟩
    · exact absurd q1 a1
    · subst hC; subst hM
      obtain ⟨h1, h2, h3, h4, h5, h6, h7, h8, h9⟩ := hJ
      have h23 : ∀ j, j < n → g6 j = M 23 j := fun j hj => b4 j (by omega)
      refine ⟨by rw [a2, b2, c6], n, sz, k1, m1, JP_c rfl rfl rfl rfl h1, JT_c rfl rfl rfl rfl rfl rfl rfl h2, ⟨a5.trans c1, fun _ => ⟨c2, ?_⟩, prm_c h23 c4⟩, ⟨fun j hj => ?_, a3⟩, ⟨?_, ?_, ?_⟩, ⟨⟨a7.trans c9, c11, fun q hq => ?_⟩, b7.trans c10, fun q hq => ?_, fun j hj => ?_⟩, JR_c rfl rfl h7, JI_c rfl rfl rfl rfl rfl rfl rfl rfl rfl rfl rfl rfl rfl rfl rfl h8, paI_c rfl rfl rfl rfl rfl h9⟩
      · show tb n k1 = cdF g6 n; rw [cdF_c h23]; exact c3
      · show e7 j = g5 j; rw [a4 j (by omega), b3 j (by omega)]; exact c5 j hj
      · show e9 0 = g3 0; rw [a6, b6]; exact c6
      · show 0 ≤ g3 0; rw [b6]; exact c7
      · show g3 0 ≤ 999; rw [b6]; exact c8
      · show 0 ≤ e11 q ∧ e11 q < n ∧ (e13 q = 0 ∨ e13 q = 1)
        rw [a8 q (by omega), a10 q (by omega)]
        exact ⟨(c12 q hq).1.1, (c12 q hq).1.2, hI.2.1 q (by omega)⟩
      · show g16 (3 * q) = e11 q ∧ g16 (3 * q + 1) = e12 q ∧ g16 (3 * q + 2) = e13 q
        rw [a8 q (by omega), a9 q (by omega), a10 q (by omega), b5 _ (by omega), b5 _ (by omega), b5 _ (by omega)]
        exact (c12 q hq).2
      · show e13 j = 0 ∨ e13 j = 1; rw [a10 j hj]; exact hI.2.1 j hj
theorem tb_first {n : Nat} (hn : 2 ≤ n ∧ n ≤ 7) : 0 < nb n ∧ tb n 0 = cdF (fun j => (j : Int)) n := six (P := fun n => 0 < nb n ∧ tb n 0 = cdF (fun j => (j : Int)) n) (by decide +kernel) (by decide +kernel) (by decide +kernel) (by decide +kernel) (by decide +kernel) (by decide +kernel) hn
theorem s_strip (hJ : J i n sz k0 m9 C M) (hc : ∃ e7 e2 e3 e4 e5 e6 e1 e8 e9 e10 e32 e33 e21 e22 e23, C' = sA (sA (sA (sA (sA (sA (sA (sA (sA (sA (sA (sA (sA (sA (sA C 7 e7) 2 e2) 3 e3) 4 e4) 5 e5) 6 e6) 1 e1) 8 e8) 9 e9) 10 e10) 32 e32) 33 e33) 21 e21) 22 e22) 23 e23 ∧ ∃ k : Nat, isFlt (C 0) sz k ∧ (((k < sz ∨ sz < 2) ∧ C' = C ∧ r = zI (-103)) ∨ (k = sz ∧ 2 ≤ sz ∧ sz ≤ 7 ∧ r = zI ↑sz ∧ cTab sz (nb sz) (tb sz) C' ∧ cVer sz (nb sz) (tb sz) C' ∧ (∀ j, j < sz → e7 j = kbF (C 0 j)) ∧ e1 0 = 0 ∧ e8 0 = 0 ∧ e9 0 = 0 ∧ e10 0 = 0 ∧ e32 0 = 0 ∧ e33 0 = C 33 0 + 1))) (hm : ∃ e2 e5 e6 e9 e10 e7 e8 e3 e15 e4 e1, M' = sA (sA (sA (sA (sA (sA (sA (sA (sA (sA (sA M 2 e2) 5 e5) 6 e6) 9 e9) 10 e10) 7 e7) 8 e8) 3 e3) 15 e15) 4 e4) 1 e1 ∧ ∃ k : Nat, isFlt (M 0) sz k ∧ (((k < sz ∨ sz < 2) ∧ M' = M ∧ r' = zI (-103)) ∨ (k = sz ∧ 2 ≤ sz ∧ sz ≤ 7 ∧ r' = zI ↑sz ∧ e2 0 = ↑sz ∧ (∀ j, j < sz → e5 j = kbF (M 0 j)) ∧ (∀ j, j < sz → e6 j = ↑j) ∧ e8 0 = ↑(pfx sz (unL sz) (fct sz)).length ∧ (∀ j, j < (pfx sz (unL sz) (fct sz)).length → e7 j = (pfx sz (unL sz) (fct sz)).getD j 0) ∧ e3 0 = 0 ∧ e15 0 = 0 ∧ e4 0 = M 4 0 + 1 ∧ e1 0 = 0))) : r = r' ∧ JJ (i + 4) C' M' := by
  obtain ⟨e7, e2, e3, e4, e5, e6, e1, e8, e9, e10, e32, e33, e21, e22, e23, hC, k, hk, a⟩ := hc
  obtain ⟨g2, g5, g6, g9, g10, g7, g8, g3, g15, g4, g1, hM, k', hk', b⟩ := hm
  have e := isFlt_u (flt2 hJ.1.2.2.2.1 hk) hk'
  subst e
  rcases a with ⟨a1, a2, a3⟩ | ⟨a1, a2, a3, a4, a5, a6, a7, a8, a9, a10, a11, a12, a13⟩ <;> rcases b with ⟨b1, b2, b3⟩ | ⟨b1, b2, b3, b4, b5, b6, b7, b8, b9, b10, b11, b12, b13⟩
  · rw [a2, b2, a3, b3]; exact ⟨rfl, J_m (mK_rf _) hJ⟩
  · omega
  · omega
  · subst hC; subst hM
    obtain ⟨h1, h2, h3, h4, h5, h6, h7, h8, h9⟩ := hJ
    have hsz : 2 ≤ sz ∧ sz ≤ 7 := ⟨a2, a3⟩
    have hf := tb_first hsz
    rw [pfx_tb hsz, List.length_map] at b8 b9
    have hr4 := h7.1
    have hr5 := h7.2
    refine ⟨by rw [a4, b4], sz, 0, 0, 0, ⟨a8, b13, by omega, fun j hj => absurd hj (Nat.not_lt_zero j), fun j hj => absurd hj (Nat.not_lt_zero j)⟩, ⟨Or.inr hsz, a5, b5, ?_, fun _ => ⟨b8, fun q hq => ?_⟩⟩, ⟨a9, fun _ => ⟨hf.1, ?_⟩, ?_⟩, ⟨fun j hj => ?_, a6⟩, ⟨?_, ?_, ?_⟩, ⟨⟨a11, by omega, fun q hq => absurd hq (Nat.not_lt_zero q)⟩, b11, fun q hq => absurd hq (Nat.not_lt_zero q), h6.2.2.2⟩, ⟨?_, ?_, ?_⟩, ⟨?_, h8.2.1, Or.inl ⟨a12, ?_⟩⟩, paI_c rfl rfl rfl rfl rfl h9⟩
    · show 0 ≤ g8 0; rw [b8]; omega
    · show g7 q = tb sz q; rw [b9 q hq, getD_mapI]; rfl
    · show tb sz 0 = cdF g6 sz; rw [cdF_c b7]; exact hf.2
    · exact prm_c b7 ⟨fun p hp => by omega, fun p q _ _ e => by omega⟩
    · show e7 j = g5 j; rw [a7 j hj, b6 j hj, h1.2.2.2.1 j hj]
    · show e9 0 = g3 0; omega
    · show 0 ≤ g3 0; omega
    · show g3 0 ≤ 999; omega
    · show e33 0 = g4 0; omega
    · show 0 ≤ g4 0; omega
    · show g4 0 ≤ ((i + 4 : Nat) : Int); omega
    · show M 19 0 ≤ g4 0; have := h8.1; omega
    · show M 19 0 ≠ g4 0; have := h8.1; omega
end JStep
theorem J_0 : JJ 0 cS0 mS0 := by
  refine ⟨0, 0, 0, 0, ⟨rfl, rfl, by omega, fun j hj => absurd hj (Nat.not_lt_zero j), fun j hj => absurd hj (Nat.not_lt_zero j)⟩, ⟨Or.inl rfl, ⟨⟨rfl, rfl, by omega, by decide⟩, fun _ => rfl, fun h => absurd rfl h, fun j k _ hk => absurd hk (Nat.not_lt_zero k), fun k hk => absurd hk (Nat.not_lt_zero k)⟩, rfl, by decide, fun h => absurd rfl h⟩, ⟨rfl, fun h => absurd rfl h, fun p hp => absurd hp (Nat.not_lt_zero p), fun p q hp => absurd hp (Nat.not_lt_zero p)⟩, ⟨fun j hj => absurd hj (Nat.not_lt_zero j), rfl, fun k hk => absurd hk (Nat.not_lt_zero k)⟩, ⟨rfl, by decide, by decide⟩, ⟨⟨rfl, by omega, fun a ha => absurd ha (Nat.not_lt_zero a)⟩, rfl, fun a ha => absurd ha (Nat.not_lt_zero a), fun j hj => Or.inl rfl⟩, ⟨rfl, by decide, by decide⟩, ⟨by decide, fun j hj => Or.inl rfl, Or.inl ⟨rfl, by decide⟩⟩, ⟨0, rfl, Or.inl rfl⟩⟩
theorem RS_0 (r0 : Nat) : RS (fun k _ => if k = r0 then -1 else 0) := fun k j _ => by
  show -2147483648 ≤ (if k = r0 then (-1 : Int) else 0) ∧ (if k = r0 then (-1 : Int) else 0) < 2147483648
  split <;> omega
