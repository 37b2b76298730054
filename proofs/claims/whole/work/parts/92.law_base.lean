/-! THE CLAIM OUT OF ONE WALK OF THE LAW'S BODY. Your part is whole_start (and what it stands on); all else here is the same for every law, but numbers. -/
def R_law : String := "FoldedStripLaw"
def lw_P (b : Addr) (xs : List Int32) (args : Array Value) (s : State) : Prop := args = #[.ref b] ∧ s.IntsAt b xs ∧ xs.length ≤ 2048 ∧ (Jvm.Cond.and given_1 narrow_1).before args s = true
def lw_Q (_ : Array Value) (s : State) (o : Outcome) (t : State) : Prop := o = .returned (some (.int 1)) ∧ Framed s o t [] 600000 7302249
def lw_Z (below : List Frame) (a : Array Value) (s : State) : State → Prop := fun t => ∃ o, t.status = .running ∧ Ended t below o ∧ lw_Q a s o t
/-- the law's own end, with 1 on the stack, nothing written that was there before, its room as the claim has it -/
theorem lw_ret {p : Program} {l : Launch} {e : Env} {s : State} {m : MethodId} {below : List Frame} {meth : Method} {c : Code} {b : Nat} (hx : p.tables.exec = Jvm.exec) (hb : c.code = code) (hr : meth.sig.returnType = ret) (hlocks : meth.locks = false) {pc : Nat} {H : Heap} {ls : Array Slot} (hdg : decode code pc = .ok (.ireturn, 1)) : W p l e room_1 s m #[Value.ref b] below meth c H [] 600000 7302249 (lw_Z below #[Value.ref b] s) (F0 m pc ls [.int 1]) := by
  intro T hT X
  obtain ⟨fs, hret, hrun, hended, hW, hframe⟩ := X.leave (v := some (.int 1)) (hlocks := hlocks) (fun h => by rw [hr] at h; cases h)
  have hmeth' : T.vm.method? m = some meth := X.method'
  refine ⟨T.setFrames fs, ?_, .returned (some (.int 1)), hrun, hended, rfl, ⟨_, rfl⟩, hW, hframe⟩
  jvm_step X.here [X.here.top, hx, hb, hdg, hmeth', hr, ret, narrow_b1]
  (try refine ⟨rfl, ?_⟩); (try refine ⟨rfl, ?_⟩)
  first | (intro acts; rw [hret _ acts rfl rfl rfl]) | rw [hret _ _ rfl rfl rfl]
  exact Steps.refl _
/-- what holds at the law's entry: the machine, the code, the tables' words (any of lw_tbl by 'hts w (by decide +kernel)'), the script of L ints xs at the cell b, what the Statement gives of the start (any of its parts by flat_of_before) -/
def lw_At (p : Program) (s : State) (m : MethodId) (meth : Method) (c : Code) (b L : Nat) (xs : Nat → Int32) : Prop :=
  p.tables.exec = Jvm.exec ∧ c.code = code ∧ meth.sig.returnType = ret ∧ c.maxLocals = 4 ∧ s.vm.findClass R_law = some m.cls ∧ (∀ w ∈ lw_tbl, w.before #[Value.ref b] s = true) ∧ va_X b L xs s s.heap ∧ b < s.heap.size ∧ meth.locks = false ∧ (Jvm.Cond.and given_1 narrow_1).before #[Value.ref b] s = true

/-! the law's own walk: what stays, what ties both sides, calls -/
def LC (p : Program) (s : State) (m : MethodId) (c : Code) (b L : Nat) (xs : Nat → Int32) (D : va_G) (cI cZ : ClassId) (ad ad2 : Nat → Nat) (az av : Nat) : Prop :=
  p.tables.exec = Jvm.exec ∧ c.code = cL_law ∧ c.maxLocals = 4 ∧ s.vm.findClass RL = some m.cls ∧ (∀ w ∈ lw_tbl, w.before #[Value.ref b] s = true) ∧ va_X b L xs s s.heap ∧ b < s.heap.size ∧ L ≤ 2048 ∧ cE D cI cZ ad az av s ∧ mE D cI s ∧ cInj ad ∧ mInj ad2 ∧ (∀ q, cA ad q → s.heap.size ≤ q) ∧ (∀ q, mA ad2 q → s.heap.size ≤ q) ∧ ∀ q, cA ad q → ¬ mA ad2 q
def LI (D : va_G) (cI cZ : ClassId) (ad ad2 : Nat → Nat) (s : State) (C M : St) (H : Heap) (locs : List Loc) : Prop :=
  va_P D vwCl (cW cI cZ ad C) H ∧ va_P D vwCl (mW cI ad2 M) H ∧ RS C ∧ RS M ∧ va_S (fun q : Nat => s.heap.size ≤ q) s.heap H locs
def LG (p : Program) (l : Launch) (e : Env) (s : State) (m : MethodId) (below : List Frame) (meth : Method) (c : Code) (b : Nat) (H : Heap) (locs : List Loc) (g : JFrame) : Prop := W p l e room_1 s m #[Value.ref b] below meth c H locs 600000 7302249 (lw_Z below #[Value.ref b] s) g
theorem x_1 (x : Int32) : -2147483648 ≤ x.toInt := Int32.le_toInt x
theorem x_2 (x : Int32) : x.toInt < 2147483648 := Int32.toInt_lt x
theorem keepM {D : va_G} {cI : ClassId} {ad ad2 : Nat → Nat} {M : St} {H H1 : Heap} (hdj : ∀ q, cA ad q → ¬ mA ad2 q) (hP : va_P D vwCl (mW cI ad2 M) H) (hk : ∀ q : Nat, q < H.size → ¬ cA ad q → H1[q]? = H[q]?) : va_P D vwCl (mW cI ad2 M) H1 :=
  hP.kept (fun k x hx => hk x.1 ((hP k x hx).lt) (fun h => by
    obtain ⟨r, h1, h2⟩ := mW_ad cI ad2 M hx
    exact hdj x.1 h ⟨r, mRegs_ok r (List.mem_of_getElem? h1), h2⟩))
theorem keepC {D : va_G} {cI cZ : ClassId} {ad ad2 : Nat → Nat} {C : St} {H H1 : Heap} (hdj : ∀ q, cA ad q → ¬ mA ad2 q) (hP : va_P D vwCl (cW cI cZ ad C) H) (hk : ∀ q : Nat, q < H.size → ¬ mA ad2 q → H1[q]? = H[q]?) : va_P D vwCl (cW cI cZ ad C) H1 :=
  hP.kept (fun k x hx => hk x.1 ((hP k x hx).lt) (fun h => by
    obtain ⟨r, h1, h2⟩ := cW_ad cI cZ ad C hx
    exact hdj x.1 ⟨r, cRegs_ok r (List.mem_of_getElem? h1), h2⟩ h))
section ZH
variable {p : Program} {l : Launch} {e : Env} {R : Room} {s : State} {m : MethodId} {args : Array Value} {below : List Frame} {meth : Method} {c : Code} {H : Heap} {locs : List Loc} {cells slots : Nat} {Q : State → Prop}
variable {pc : Nat} {ls : Array Slot} {st0 rest : List Value} {D : va_G} {A A0 : Nat → Prop} {Wf : St → va_W} {E : State → Prop} {S : St}
variable {y : MethodName} {bytes cc : ByteArray} {maxL nL n index : Nat} {ret : Option FieldType} {ws : List Cond} {rm : Room} {Ts : List Cond} {own C host : String} {b : Addr} {As : List Value}
theorem Ek_at (hEk : Ek E A) (hE : E s) (hS : va_S A0 s.heap H locs) (hA0 : ∀ q, A0 q → s.heap.size ≤ q) {U : State} (hU : U.heap = H) (hw : s.WarmedH U.vm) : E U :=
  hEk s U H [] hE ⟨hS.1, fun q h _ => hS.2.1 q h (fun g => by have := hA0 q g; omega), fun _ h => by cases h⟩ hU hw
theorem h_callVi {post : Int32 → St → Prop} (X : CallFix p m c cc nL s args Ts own) (hM : Met l y ws rm (gPc D Wf E S (.ref b :: As)) (va_Qi post (gB D Wf) A) 0 0 A) (cw : CallW R s args own C index y bytes maxL ret ws rm 0 0 n) (hEb : Eb E) (hEk : Ek E A) (hE : E s) (hrec : ∃ cellB : Cell, H[b]? = some cellB ∧ cellB.vm.isStatics = false ∧ s.vm.findClass C = some cellB.cls) (hP : va_P D vwCl (Wf S) H) (hS : va_S A0 s.heap H locs) (hA0 : ∀ q, A0 q → s.heap.size ≤ q) (hAA : ∀ q, A q → A0 q) (hn : As.length = n) (hsize : ls.size = nL) (hst : st0 = As.reverse ++ .ref b :: rest) (hW : (rest.map fun v => v.category).sum ≤ 8) (hdg : decode cc pc = .ok (.invokevirtual index, 3)) (hf : cells ≤ R.cells ∧ slots ≤ R.slots)
    (kk : ∀ (r : Int32) (S1 : St) (H1 : Heap) (locs1 : List Loc), post r S1 → va_P D vwCl (Wf S1) H1 → RS S1 → va_S A0 s.heap H1 locs1 → (∀ q : Nat, q < H.size → ¬ A q → H1[q]? = H[q]?) → W p l e R s m args below meth c H1 locs1 cells slots Q (F0 m (pc + 3) ls (.int r :: rest))) : W p l e R s m args below meth c H locs cells slots Q (F0 m pc ls st0) :=
  va_calli (va_runV (As := As) (rest := rest) (g := F0 m pc ls st0) X hM cw ⟨gPc_bl hEb, hrec, fun U hU hw => ⟨rfl, by rw [hU]; exact hP, Ek_at hEk hE hS hA0 hU hw⟩⟩ rfl hn hsize hst (lv_room hW) hdg ⟨hf.1, hf.2⟩) hS (fun q _ h => hAA q h) (fun q h => hAA q h) (fun r u t H1 locs1 ht hvm hw hB hz hk hS1 => kk r u H1 locs1 hw (by rw [← ht]; exact hB.1) hB.2 hS1 hk)
theorem h_callVl {post : Int64 → St → Prop} (X : CallFix p m c cc nL s args Ts own) (hM : Met l y ws rm (gPc D Wf E S (.ref b :: As)) (va_Ql post (gB D Wf) A) 0 0 A) (cw : CallW R s args own C index y bytes maxL ret ws rm 0 0 n) (hEb : Eb E) (hEk : Ek E A) (hE : E s) (hrec : ∃ cellB : Cell, H[b]? = some cellB ∧ cellB.vm.isStatics = false ∧ s.vm.findClass C = some cellB.cls) (hP : va_P D vwCl (Wf S) H) (hS : va_S A0 s.heap H locs) (hA0 : ∀ q, A0 q → s.heap.size ≤ q) (hAA : ∀ q, A q → A0 q) (hn : As.length = n) (hsize : ls.size = nL) (hst : st0 = As.reverse ++ .ref b :: rest) (hW : (rest.map fun v => v.category).sum ≤ 8) (hdg : decode cc pc = .ok (.invokevirtual index, 3)) (hf : cells ≤ R.cells ∧ slots ≤ R.slots)
    (kk : ∀ (r : Int64) (S1 : St) (H1 : Heap) (locs1 : List Loc), post r S1 → va_P D vwCl (Wf S1) H1 → RS S1 → va_S A0 s.heap H1 locs1 → (∀ q : Nat, q < H.size → ¬ A q → H1[q]? = H[q]?) → W p l e R s m args below meth c H1 locs1 cells slots Q (F0 m (pc + 3) ls (.long r :: rest))) : W p l e R s m args below meth c H locs cells slots Q (F0 m pc ls st0) :=
  va_calll (va_runV (As := As) (rest := rest) (g := F0 m pc ls st0) X hM cw ⟨gPc_bl hEb, hrec, fun U hU hw => ⟨rfl, by rw [hU]; exact hP, Ek_at hEk hE hS hA0 hU hw⟩⟩ rfl hn hsize hst (lv_room hW) hdg ⟨hf.1, hf.2⟩) hS (fun q _ h => hAA q h) (fun q h => hAA q h) (fun r u t H1 locs1 ht hvm hw hB hz hk hS1 => kk r u H1 locs1 hw (by rw [← ht]; exact hB.1) hB.2 hS1 hk)
theorem l_sld (hexec : p.tables.exec = Jvm.exec) (hb : c.code = cc) {b L : Nat} {xs : Nat → Int32} (hX : va_X b L xs s s.heap) (hbl : b < s.heap.size) (hS : va_S (fun q : Nat => s.heap.size ≤ q) s.heap H locs) (hL : L ≤ 2048) {i : Int} {j : Nat} (hi : i = ↑j) (hj : j < L) (hdg : decode cc pc = .ok (.iaload, 1))
    (kk : W p l e R s m args below meth c H locs cells slots Q (F0 m (pc + 1) ls (.int (zI (xs j).toInt) :: rest))) : W p l e R s m args below meth c H locs cells slots Q (F0 m pc ls (.int (zI i) :: .ref b :: rest)) := by
  subst hi
  refine va_sld hexec hb hX hbl (Nat.not_le.mpr hbl) hS (zI_in (n := L) (by omega) (by omega) (by omega)) hdg ?_
  have e9 : xs (zI (j : Int)).toNatClampNeg = zI (xs j).toInt := by rw [zI_clamp (by omega) (by omega), Int.toNat_natCast, zI_of]
  rw [e9]
  exact kk
theorem l_cmp (hexec : p.tables.exec = Jvm.exec) (hb : c.code = cc) {x : Int64} {off : Int} {tgt : Nat} (hdg : decode cc pc = .ok (.lcmp, 1)) (hdg2 : decode cc (pc + 1) = .ok (.ifCond .eq off, 3)) (ht : ((pc + 1 : Nat) : Int) + off = (tgt : Int)) (kt : W p l e R s m args below meth c H locs cells slots Q (F0 m tgt ls rest)) : W p l e R s m args below meth c H locs cells slots Q (F0 m pc ls (.long x :: .long x :: rest)) :=
  W.lcmp hexec hb hdg (lv_if_eq hexec hb hdg2 ht (fun _ => kt) (fun h => absurd (by unfold lg_cmp; simp) h))
end ZH
section SDig
theorem s_digest {i n sz k0 m9 : Nat} {C C' M M' : St} {r r' : Int64} (hJ : J i n sz k0 m9 C M) (hc : ∃ v, C' = C ∧ digR n (nb n) (C 7) (dgF n (M 7 k0)) (M 7) (sgC (C 11) (C 12) (C 13)) (C 0) k0 m9 (C 9 0) (C 10 0) (C 1 0) (C 33 0) v ∧ r = zL v) (hm : ∃ e9 e10 e11 e99, M' = sA (sA (sA (sA M 9 e9) 10 e10) 11 e11) 99 e99 ∧ ∃ v, digR n (nb n) (M 5) (M 6) (M 7) (M 16) (M 0) k0 m9 (M 3 0) (M 15 0) (M 1 0) (M 4 0) v ∧ r' = zL v) : r = r' ∧ JJ (i + 4) C' M' := by
  obtain ⟨v, rfl, a1, rfl⟩ := hc
  obtain ⟨e9, e10, e11, e99, rfl, v', b1, rfl⟩ := hm
  obtain ⟨hd, hp, hk, hO, htt, hs⟩ := J_row hJ
  have h1 := hJ.1
  have h5 := hJ.2.2.2.2.1
  have h6 := hJ.2.2.2.2.2.1
  have h7 := hJ.2.2.2.2.2.2.1
  rw [h5.1, h6.1.1, h1.1, h7.1] at a1
  rw [h6.2.1, h1.2.1] at b1
  have e := dig2 hO hk hd hp hs h1.2.2.2.1 a1 b1
  subst e
  exact ⟨rfl, J_m ((((mK1 rfl).tr (mK1 rfl)).tr (mK1 rfl)).tr (mK1 rfl)) hJ⟩
end SDig
