/-! the one table of so many leaves -/
def tbL : Nat → List Nat
  | 2 => TT2
  | 3 => TT3
  | 4 => TT4
  | 5 => TT5
  | 6 => TT6
  | 7 => TT7
  | _ => []
def nb (n : Nat) : Nat := (tbL n).length
def tb (n k : Nat) : Int := ↑((tbL n).getD k 0)
theorem six {P : Nat → Prop} (h2 : P 2) (h3 : P 3) (h4 : P 4) (h5 : P 5) (h6 : P 6) (h7 : P 7) {n : Nat} (hn : 2 ≤ n ∧ n ≤ 7) : P n := by
  rcases (show n = 2 ∨ n = 3 ∨ n = 4 ∨ n = 5 ∨ n = 6 ∨ n = 7 by omega) with e | e | e | e | e | e <;> subst e <;> assumption
theorem pfx_tb {n : Nat} (hn : 2 ≤ n ∧ n ≤ 7) : pfx n (unL n) (fct n) = (tbL n).map (fun c : Nat => (c : Int)) :=
  six (P := fun n => pfx n (unL n) (fct n) = (tbL n).map (fun c : Nat => (c : Int))) pfx2 pfx3 pfx4 pfx5 pfx6 pfx7 hn
theorem run_tb {n : Nat} (hn : 2 ≤ n ∧ n ≤ 7) : isRun n (fct n) (unL n) := six (P := fun n => isRun n (fct n) (unL n)) run2 run3 run4 run5 run6 run7 hn
theorem getD_mapI (l : List Nat) (k : Nat) : (l.map (fun c : Nat => (c : Int))).getD k 0 = ↑(l.getD k 0) := by
  rw [List.getD_eq_getElem?_getD, List.getD_eq_getElem?_getD, List.getElem?_map]
  cases l[k]? <;> rfl
theorem OT_tb {n : Nat} (hn : 2 ≤ n ∧ n ≤ 7) : OT n (nb n) (tb n) := by
  have e : ∀ n, pfx n (unL n) (fct n) = (tbL n).map (fun c : Nat => (c : Int)) → (fun k => (pfx n (unL n) (fct n)).getD k 0) = tb n := fun n h => by
    funext k
    rw [h]
    exact getD_mapI _ _
  have h2 := OT2; have h3 := OT3; have h4 := OT4; have h5 := OT5; have h6 := OT6; have h7 := OT7
  rw [e _ pfx2, ← show nb 2 = 2 from ko2.2] at h2
  rw [e _ pfx3, ← show nb 3 = 6 from ko3.2] at h3
  rw [e _ pfx4, ← show nb 4 = 16 from ko4.2] at h4
  rw [e _ pfx5, ← show nb 5 = 50 from ko5.2] at h5
  rw [e _ pfx6, ← show nb 6 = 144 from ko6.2] at h6
  rw [e _ pfx7, ← show nb 7 = 462 from ko7.2] at h7
  exact six (P := fun n => OT n (nb n) (tb n)) h2 h3 h4 h5 h6 h7 hn
theorem tb_sorB {n : Nat} (hn : 2 ≤ n ∧ n ≤ 7) : sorB (tbL n) = true := six (P := fun n => sorB (tbL n) = true) ko2.1 ko3.1 ko4.1 ko5.1 ko6.1 ko7.1 hn
theorem tb_sorted {n : Nat} (hn : 2 ≤ n ∧ n ≤ 7) : ∀ j k, j < k → k < nb n → tb n j < tb n k := by
  intro j k hj hk
  have h := List.pairwise_iff_getElem.mp (sorB_t (tb_sorB hn)) j k (by unfold nb at hk; omega) hk hj
  have hg : ∀ i (hi : i < (tbL n).length), (tbL n).getD i 0 = (tbL n)[i] := fun i hi => by rw [List.getD_eq_getElem?_getD, List.getElem?_eq_getElem hi]; rfl
  unfold tb
  rw [hg j (by unfold nb at hk; omega), hg k hk]
  exact Int.ofNat_lt.mpr h
set_option maxRecDepth 100000 in
theorem dk2 : eqL ((dfs 2 2 []).map (fun o => cdL o 0)) (tbL 2) = true := by decide +kernel
set_option maxRecDepth 100000 in
theorem dk3 : eqL ((dfs 3 3 []).map (fun o => cdL o 0)) (tbL 3) = true := by decide +kernel
set_option maxRecDepth 100000 in
theorem dk4 : eqL ((dfs 4 4 []).map (fun o => cdL o 0)) (tbL 4) = true := by decide +kernel
set_option maxRecDepth 100000 in
theorem dk5 : eqL ((dfs 5 5 []).map (fun o => cdL o 0)) (tbL 5) = true := by decide +kernel
set_option maxRecDepth 100000 in
theorem dk6 : eqL ((dfs 6 6 []).map (fun o => cdL o 0)) (tbL 6) = true := by decide +kernel
set_option maxRecDepth 100000 in
theorem dk7 : eqL ((dfs 7 7 []).map (fun o => cdL o 0)) (tbL 7) = true := by decide +kernel
theorem dfs_tb {n : Nat} (hn : 2 ≤ n ∧ n ≤ 7) : (dfs n n []).map (fun o => cdL o 0) = tbL n :=
  eqL_t (six (P := fun n => eqL ((dfs n n []).map (fun o => cdL o 0)) (tbL n) = true) dk2 dk3 dk4 dk5 dk6 dk7 hn)
theorem dfs_len {n : Nat} (hn : 2 ≤ n ∧ n ≤ 7) : (dfs n n []).length = nb n := by
  have h := congrArg List.length (dfs_tb hn)
  rw [List.length_map] at h
  exact h
theorem tab_of {n : Nat} (hn : 2 ≤ n ∧ n ≤ 7) {S : St} {a4 a5 : Nat → Int} (h2 : S 2 0 = ↑n) (h3 : S 3 0 = ↑(nb n)) (ha : appd n 0 (dfs n n []) a4 a5 (S 4) (S 5)) : cTab n (nb n) (tb n) S := by
  have hO := OT_tb hn
  refine ⟨⟨h2, h3, hn.2, hO.1⟩, fun e => by omega, fun _ => hO, tb_sorted hn, fun k hk => ?_⟩
  have hl := dfs_len hn
  have hk2 : k < (dfs n n []).length := by omega
  obtain ⟨g4, g5⟩ := ha.2 k hk2
  rw [Nat.zero_add] at g4 g5
  have hin : (dfs n n []).getD k [] ∈ dfs n n [] := by
    rw [List.getD_eq_getElem?_getD, List.getElem?_eq_getElem hk2]
    exact List.getElem_mem hk2
  obtain ⟨o, ho⟩ : ∃ o, (dfs n n []).getD k [] = o := ⟨_, rfl⟩
  rw [ho] at g4 g5 hin
  obtain ⟨hg, hlen⟩ := dfs_in (gdO_nil n) (show ([] : List Nat).length + n = n by simp) hin
  have hp := gdO_prm hg hlen
  have ht : tb n k = cdF (rowL o) n := by
    rw [← cdL_cd hlen]
    unfold tb
    rw [← dfs_tb hn, List.getD_eq_getElem?_getD, List.getElem?_map, List.getElem?_eq_getElem hk2]
    rw [List.getD_eq_getElem?_getD, List.getElem?_eq_getElem hk2] at ho
    rw [← ho]
    rfl
  have hd : ∀ j, j < n → dgF n (tb n k) j = rowL o j := by rw [ht]; exact dg_cd (prm8 hn.2 hp)
  refine ⟨?_, ?_, fun v hv => ?_⟩
  · rw [g4, ht]
    unfold cdO
    rw [hlen, cdF_f7 _ 7 hn.2]
  · rw [g5]
    exact (plO_r (fun v hv => ⟨gdO_all hg hlen hv, by have := pnN_le o v; omega⟩)).1
  · rw [g5, plO_dig (fun v hv => ⟨gdO_all hg hlen hv, by have := pnN_le o v; omega⟩) hv, pl_c hd, ← ixL_pl hlen hp hv]
    have := pnN_ix o v (gdO_all hg hlen hv)
    omega
