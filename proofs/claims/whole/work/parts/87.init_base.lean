/-! constructors: a method's start over cells that are its own, its end, a call of one -/
def iPc (D : va_G) (cI cZ : ClassId) (sz : Nat) (w0 : va_W) (av : List Value) : Array Value → State → Prop := va_Pc av (fun U => U.heap.size = sz ∧ va_P D vwCl w0 U.heap ∧ va_K D vwCl [(cI, .int), (cZ, .boolean)] U)
def iB (D : va_G) (Wf : (Nat → Nat) → va_W) (A : Nat → Prop) (a : Nat → Nat) (t : State) : Prop := va_P D vwCl (Wf a) t.heap ∧ va_D A (Wf a)
theorem iPc_bl {D : va_G} {cI cZ : ClassId} {sz : Nat} {w0 : va_W} {av : List Value} : FrameBlind (iPc D cI cZ sz w0 av) := fun a U g mk q => ⟨q.1, q.2.1, q.2.2.1, va_K.moved (u := U) (U := U.calling g mk a) (Vm.Alike.refl U.vm) q.2.2.2⟩
section ZI
variable {p : Program} {l : Launch} {e : Env} {R : Room} {s : State} {m : MethodId} {args : Array Value} {below : List Frame} {meth : Method} {c : Code} {H : Heap} {locs : List Loc} {cells slots : Nat} {Q : State → Prop}
variable {pc : Nat} {ls : Array Slot} {st0 rest : List Value} {D : va_G} {A : Nat → Prop} {cI cZ : ClassId}
variable {y : MethodName} {bytes cc : ByteArray} {maxL nL mc ms n index : Nat} {ret : Option FieldType} {ws : List Cond} {rm : Room} {Ts : List Cond} {own C host : String} {b : Addr} {As : List Value} {w w0 wr : va_W} {Wf : (Nat → Nat) → va_W}
theorem i_run {Qp : (Nat → Nat) → Prop} (hr : va_Run p l e R s m args below meth c H locs cells slots mc ms (F0 m pc ls st0) rest (va_Qv Qp (iB D Wf (va_A w0 H.size)) (va_A w0 H.size) (Value.ref b :: As).toArray) (va_A w0 H.size)) (hP : va_P D vwCl w H) (hD : va_D A w) (hS : va_S A s.heap H locs) (hA : ∀ q, s.heap.size ≤ q → A q) (isC isR : List Nat) (hC : isC.map (fun i => w[i]?) = w0.map some) (hR : isR.map (fun i => w[i]?) = wr.map some) (hn : va_nd isR = true) (hdis : ∀ i ∈ isR, i ∉ isC)
    (kk : ∀ (a : Nat → Nat) (H1 : Heap) (locs1 : List Loc), Qp a → va_P D vwCl (wr ++ Wf a) H1 → va_D A (wr ++ Wf a) → va_S A s.heap H1 locs1 → W p l e R s m args below meth c H1 locs1 (cells + mc) (slots + ms) Q (F0 m (pc + 3) ls rest)) : W p l e R s m args below meth c H locs cells slots Q (F0 m pc ls st0) := by
  have hF := va_free (wc := w0) hD hS hA isC hC
  refine va_callv hr hS (fun q _ h => hF q h) hF (fun u t H1 locs1 ht hvm hw hB hz hk hS1 => ?_)
  obtain ⟨hP1, hD1⟩ := hB
  rw [ht] at hP1
  obtain ⟨g1, g2⟩ := va_join (w1 := Wf u) hP hD isC isR hC hR hn hdis hk hF hP1 hD1
  exact kk u H1 locs1 hw g1 g2 hS1
theorem i_callI {Qp : (Nat → Nat) → Prop} (X : CallFix p m c cc nL s args Ts own) (hM : Met l y ws rm (iPc D cI cZ H.size w0 (.ref b :: As)) (va_Qv Qp (iB D Wf (va_A w0 H.size)) (va_A w0 H.size)) mc ms (va_A w0 H.size)) (cw : CallB R s args own index y bytes maxL none ws rm mc ms n ∧ y.name = "<init>" ∧ (Cond.instanceMethod y).before args s = true) (hK : va_K D vwCl [(cI, .int), (cZ, .boolean)] s) (hP : va_P D vwCl w H) (hD : va_D A w) (hS : va_S A s.heap H locs) (hA : ∀ q, s.heap.size ≤ q → A q) (isC isR : List Nat) (hC0 : isC.filterMap (fun i => w[i]?) = w0) (hC : isC.map (fun i => w[i]?) = w0.map some) (hR : isR.map (fun i => w[i]?) = wr.map some) (hn : va_nd isR = true) (hdis : ∀ i ∈ isR, i ∉ isC) (hn2 : As.length = n) (hsize : ls.size = nL) (hst : st0 = As.reverse ++ .ref b :: rest) (hW : (rest.map fun v => v.category).sum ≤ 8) (hdg : decode cc pc = .ok (.invokespecial index, 3)) (hf : cells + mc ≤ R.cells ∧ slots + ms ≤ R.slots)
    (kk : ∀ (a : Nat → Nat) (H1 : Heap) (locs1 : List Loc), Qp a → va_P D vwCl (wr ++ Wf a) H1 → va_D A (wr ++ Wf a) → va_S A s.heap H1 locs1 → W p l e R s m args below meth c H1 locs1 (cells + mc) (slots + ms) Q (F0 m (pc + 3) ls rest)) : W p l e R s m args below meth c H locs cells slots Q (F0 m pc ls st0) :=
  i_run (va_runI (As := As) (rest := rest) (g := F0 m pc ls st0) X hM cw ⟨iPc_bl, fun U hU hw => ⟨rfl, by rw [hU], by rw [hU]; exact hP.sub isC hC0, va_K.moved hw.alike hK⟩⟩ rfl hn2 hsize hst (lv_room hW) hdg hf) hP hD hS hA isC isR hC hR hn hdis kk
theorem i_callN {Qp : (Nat → Nat) → Prop} (X : CallFix p m c cc nL s args Ts own) (hM : Met l y ws rm (iPc D cI cZ H.size w0 (.ref b :: As)) (va_Qv Qp (iB D Wf (va_A w0 H.size)) (va_A w0 H.size)) mc ms (va_A w0 H.size)) (cw : va_CN R s args own index y host bytes maxL none ws rm mc ms n ∧ y.name = "<init>" ∧ (Cond.instanceMethod y).before args s = true) (hK : va_K D vwCl [(cI, .int), (cZ, .boolean)] s) (hP : va_P D vwCl w H) (hD : va_D A w) (hS : va_S A s.heap H locs) (hA : ∀ q, s.heap.size ≤ q → A q) (isC isR : List Nat) (hC0 : isC.filterMap (fun i => w[i]?) = w0) (hC : isC.map (fun i => w[i]?) = w0.map some) (hR : isR.map (fun i => w[i]?) = wr.map some) (hn : va_nd isR = true) (hdis : ∀ i ∈ isR, i ∉ isC) (hn2 : As.length = n) (hsize : ls.size = nL) (hst : st0 = As.reverse ++ .ref b :: rest) (hW : (rest.map fun v => v.category).sum ≤ 8) (hdg : decode cc pc = .ok (.invokespecial index, 3)) (hf : cells + mc ≤ R.cells ∧ slots + ms ≤ R.slots)
    (kk : ∀ (a : Nat → Nat) (H1 : Heap) (locs1 : List Loc), Qp a → va_P D vwCl (wr ++ Wf a) H1 → va_D A (wr ++ Wf a) → va_S A s.heap H1 locs1 → W p l e R s m args below meth c H1 locs1 (cells + mc) (slots + ms) Q (F0 m (pc + 3) ls rest)) : W p l e R s m args below meth c H locs cells slots Q (F0 m pc ls st0) :=
  i_run (va_runIN (As := As) (rest := rest) (g := F0 m pc ls st0) X hM cw ⟨iPc_bl, fun U hU hw => ⟨rfl, by rw [hU], by rw [hU]; exact hP.sub isC hC0, va_K.moved hw.alike hK⟩⟩ rfl hn2 hsize hst (lv_room hW) hdg hf) hP hD hS hA isC isR hC hR hn hdis kk
theorem i_newI {Ts : List Cond} (hexec : p.tables.exec = Jvm.exec) (hb : c.code = cc) (harr : (Cond.arrayClass .int).before args s = true) (hK : va_K D vwCl [(cI, .int), (cZ, .boolean)] s) (hP : va_P D vwCl w H) (hD : va_D A w) (hS : va_S A s.heap H locs) (hA : ∀ q, s.heap.size ≤ q → A q) (N : Nat) (hN : N ≤ 100000) (hcells : cells + 1 ≤ R.cells) (hslots : slots + N ≤ R.slots) (hdg : decode cc pc = .ok (.newarray .int, 2))
    (kk : ∀ (q : Nat) (H1 : Heap), va_P D vwCl (w ++ [(q, .inl (cI, N, .inl (fun _ => zI 0)))]) H1 → va_D A (w ++ [(q, .inl (cI, N, .inl (fun _ => zI 0)))]) → va_S A s.heap H1 locs → W p l e R s m args below meth c H1 locs (cells + 1) (slots + N) Q (F0 m (pc + 2) ls (.ref q :: rest))) : W p l e R s m args below meth c H locs cells slots Q (F0 m pc ls (.int (zI ↑N) :: rest)) := by
  refine va_newa (atype := .int) (ty := .int) (a0 := (N, .inl (fun _ => zI 0))) hexec hb harr rfl hK hP hD hS hA (fun cA => rfl) (fun h => ?_) (zI_clamp (by omega) (by omega)) (by show N * 4 ≤ 536870912; omega) hcells hslots hdg (fun q cA H1 hK1 hP1 hD1 hS1 => ?_)
  · have h2 := (zI_lt (a := ↑N) (b := 0) (by omega) (by omega) (by omega) (by omega)).mp h
    omega
  · have e1 := (hK1.2 0 (cI, .int) rfl).2
    have e2 := (hK1.2 2 (cA, .int) rfl).2
    have e3 : cI = cA := Option.some.inj (e1.symm.trans e2)
    subst e3
    exact kk q H1 hP1 hD1 hS1
theorem i_newZ {Ts : List Cond} (hexec : p.tables.exec = Jvm.exec) (hb : c.code = cc) (harr : (Cond.arrayClass .boolean).before args s = true) (hK : va_K D vwCl [(cI, .int), (cZ, .boolean)] s) (hP : va_P D vwCl w H) (hD : va_D A w) (hS : va_S A s.heap H locs) (hA : ∀ q, s.heap.size ≤ q → A q) (N : Nat) (hN : N ≤ 100000) (hcells : cells + 1 ≤ R.cells) (hslots : slots + N ≤ R.slots) (hdg : decode cc pc = .ok (.newarray .boolean, 2))
    (kk : ∀ (q : Nat) (H1 : Heap), va_P D vwCl (w ++ [(q, .inl (cZ, N, .inl (fun _ => zI 0)))]) H1 → va_D A (w ++ [(q, .inl (cZ, N, .inl (fun _ => zI 0)))]) → va_S A s.heap H1 locs → W p l e R s m args below meth c H1 locs (cells + 1) (slots + N) Q (F0 m (pc + 2) ls (.ref q :: rest))) : W p l e R s m args below meth c H locs cells slots Q (F0 m pc ls (.int (zI ↑N) :: rest)) := by
  refine va_newa (atype := .boolean) (ty := .boolean) (a0 := (N, .inl (fun _ => zI 0))) hexec hb harr rfl hK hP hD hS hA (fun cA => rfl) (fun h => ?_) (zI_clamp (by omega) (by omega)) (by show N * 1 ≤ 536870912; omega) hcells hslots hdg (fun q cA H1 hK1 hP1 hD1 hS1 => ?_)
  · have h2 := (zI_lt (a := ↑N) (b := 0) (by omega) (by omega) (by omega) (by omega)).mp h
    omega
  · have e1 := (hK1.2 1 (cZ, .boolean) rfl).2
    have e2 := (hK1.2 2 (cA, .boolean) rfl).2
    have e3 : cZ = cA := Option.some.inj (e1.symm.trans e2)
    subst e3
    exact kk q H1 hP1 hD1 hS1
end ZI
