section KT2
variable {p : Program} {l : Launch} {e : Env} {R : Room} {s : State} {m : MethodId} {args : Array Value} {below : List Frame} {meth : Method} {c : Code} {H : Heap} {locs : List Loc} {cells slots : Nat} {Q : State → Prop}
variable {cc : ByteArray} {pc : Nat} {ls : Array Slot} {rest : List Value} {D : va_G} {cI cJ cZ : ClassId} {W0 : va_W} {mc ms : Nat} {S : Type} {A : Nat → Prop}
-- ends
theorem kt_iret {post : Int32 → S → Prop} {W1 : S → va_W} {v : Int32} (hQ : MQ below (kt_Qi D A post W1) args s mc ms A = Q) (hx : p.tables.exec = Jvm.exec) (hb : c.code = cc) (hr : meth.sig.returnType = some .int) (hlocks : meth.locks = false) (u : S) (hv : post v u) (hP : va_P D vwCl (W1 u) H) (hD : va_D A (W1 u)) (hS : va_S A s.heap H locs) (hc : cells ≤ mc) (hs : slots ≤ ms) (hd : decode cc pc = .ok (.ireturn, 1)) :
    W p l e R s m args below meth c H locs cells slots Q (F0 m pc ls [.int v]) := by
  subst hQ
  refine W.widen hc hs ?_
  exact W.iret hx hb hr (fun t ht hW => ⟨⟨v, u, rfl, hv, by rw [ht]; exact hP, hD⟩, hS.F ht⟩) hS.2.2 hd hlocks
theorem kt_zret {post : Int32 → S → Prop} {W1 : S → va_W} {v : Int32} (hn : narrow .boolean (.int v) = .int v) (hQ : MQ below (kt_Qi D A post W1) args s mc ms A = Q) (hx : p.tables.exec = Jvm.exec) (hb : c.code = cc) (hr : meth.sig.returnType = some .boolean) (hlocks : meth.locks = false) (u : S) (hv : post v u) (hP : va_P D vwCl (W1 u) H) (hD : va_D A (W1 u)) (hS : va_S A s.heap H locs) (hc : cells ≤ mc) (hs : slots ≤ ms) (hd : decode cc pc = .ok (.ireturn, 1)) :
    W p l e R s m args below meth c H locs cells slots Q (F0 m pc ls [.int v]) := by
  subst hQ
  refine W.widen hc hs ?_
  exact W.zret hx hb hr hn (fun t ht hW => ⟨⟨v, u, rfl, hv, by rw [ht]; exact hP, hD⟩, hS.F ht⟩) hS.2.2 hd hlocks
theorem kt_vret {post : S → Prop} {W1 : S → va_W} (hQ : MQ below (kt_Qv D A post W1) args s mc ms A = Q) (hx : p.tables.exec = Jvm.exec) (hb : c.code = cc) (hr : meth.sig.returnType = none) (hlocks : meth.locks = false) (u : S) (hv : post u) (hP : va_P D vwCl (W1 u) H) (hD : va_D A (W1 u)) (hS : va_S A s.heap H locs) (hc : cells ≤ mc) (hs : slots ≤ ms) (hd : decode cc pc = .ok (.return_, 1)) :
    W p l e R s m args below meth c H locs cells slots Q (F0 m pc ls []) := by
  subst hQ
  refine W.widen hc hs ?_
  exact W.vret hx hb hr (fun t ht hW => ⟨⟨u, rfl, hv, by rw [ht]; exact hP, hD⟩, hS.F ht⟩) hS.2.2 hd hlocks
theorem kt_iretX {post : Int32 → S → Prop} {W1 : S → va_W} {XC : String → State → State → Prop} {v : Int32} (hQ : vx_MQ below (kt_Qi D A post W1) XC args s mc ms A = Q) (hx : p.tables.exec = Jvm.exec) (hb : c.code = cc) (hr : meth.sig.returnType = some .int) (hlocks : meth.locks = false) (u : S) (hv : post v u) (hP : va_P D vwCl (W1 u) H) (hD : va_D A (W1 u)) (hS : va_S A s.heap H locs) (hc : cells ≤ mc) (hs : slots ≤ ms) (hd : decode cc pc = .ok (.ireturn, 1)) :
    W p l e R s m args below meth c H locs cells slots Q (F0 m pc ls [.int v]) := by
  subst hQ
  exact vx_ret (kt_iret rfl hx hb hr hlocks u hv hP hD hS hc hs hd)
theorem kt_vretX {post : S → Prop} {W1 : S → va_W} {XC : String → State → State → Prop} (hQ : vx_MQ below (kt_Qv D A post W1) XC args s mc ms A = Q) (hx : p.tables.exec = Jvm.exec) (hb : c.code = cc) (hr : meth.sig.returnType = none) (hlocks : meth.locks = false) (u : S) (hv : post u) (hP : va_P D vwCl (W1 u) H) (hD : va_D A (W1 u)) (hS : va_S A s.heap H locs) (hc : cells ≤ mc) (hs : slots ≤ ms) (hd : decode cc pc = .ok (.return_, 1)) :
    W p l e R s m args below meth c H locs cells slots Q (F0 m pc ls []) := by
  subst hQ
  exact vx_ret (kt_vret rfl hx hb hr hlocks u hv hP hD hS hc hs hd)
theorem kt_out {Qc : Array Value → State → Outcome → State → Prop} {postX : String → Prop} {E : String} {ce : Cell} {q : Addr} (hQ : vx_MQ below Qc (kt_X D A W0 postX) args s mc ms A = Q) (htab : ∀ x ∈ c.exceptionTable.toList, False) (hlocks : meth.locks = false) (hp : postX E) (hP : va_P D vwCl W0 H) (hD : va_D A W0) (hS : va_S A s.heap H locs) (hcell : H[q]? = some ce) (hv : ce.vm = .none) (hcl : s.vm.findClass E = some ce.cls) (hc : cells ≤ mc) (hs : slots ≤ ms) :
    vx_W p l e R s m args below meth c H locs cells slots Q (F0 m pc ls rest) q := by
  subst hQ
  exact vx_out (fun x hx => (htab x hx).elim) hlocks hcell hv hcl (fun t ht hW => ⟨(), trivial, ⟨hp, by rw [ht]; exact hP, hD⟩, hS.F ht⟩) hS.2.2 hc hs
-- a throw
theorem kt_throw {own cls text : String} {names : List String} {ik is ic : Nat} {Qc : Array Value → State → Outcome → State → Prop} {postX : String → Prop} (hQ : vx_MQ below Qc (kt_X D A W0 postX) args s mc ms A = Q) (hx : p.tables.exec = Jvm.exec) (hb : c.code = cc) (hlt : l.stackTraces = false) (hown : s.vm.findClass own = some m.cls) (hcls : Bundle.fit cls = true) (hnames : ∀ n ∈ names, Bundle.fit n = true)
    (hk : (Cond.classLink own ik cls).before args s = true) (hini : (Cond.initialized cls).before args s = true) (hstr : ∃ sa, vk_R own is text sa s) (hat : ∀ w ∈ vx_atS own ic cls names, w.before args s = true) (hgood : ∀ w ∈ Cond.classLink own ik cls :: Cond.initialized cls :: vx_atS own ic cls names, vx_ot w = true)
    (hZ : kt_Z A s s.heap) (htab : ∀ x ∈ c.exceptionTable.toList, False) (hlocks : meth.locks = false) (hsize : ls.size = c.maxLocals) (hv : postX cls) (hP : va_P D vwCl W0 H) (hD : va_D A W0) (hS : va_S A s.heap H locs)
    (d0 : decode cc pc = .ok (.new ik, 3)) (d3 : decode cc (pc + 3) = .ok (.dup, 1)) (d4 : decode cc (pc + 4) = .ok (.ldc is, 2)) (d6 : decode cc (pc + 6) = .ok (.invokespecial ic, 3)) (d9 : decode cc (pc + 9) = .ok (.athrow, 1))
    (hf : names.length + 3 < R.frames) (hlo : (rest.map fun v => v.category).sum + (13 * (names.length + 1) + 43) ≤ R.locals) (hce : cells + 1 ≤ R.cells) (hsl : slots + 6 ≤ R.slots) (hc : cells + 1 ≤ mc) (hs : slots + 6 ≤ ms) :
    W p l e R s m args below meth c H locs cells slots Q (F0 m pc ls rest) := by
  subst hQ
  obtain ⟨sa, hsr⟩ := hstr
  exact vx_throwS hx hb hlt hown hcls hnames hk hini hsr hat hgood hZ.1.1 hZ.2.1 hS hsize d0 d3 d4 d6 d9 (fun x h => (htab x h).elim) hf hlo hce hsl hlocks
    (fun t _ hz hq => ⟨(), trivial, ⟨hv, hP.kept (fun k x hx => hq x.1 (hP k x hx).lt), hD⟩, Nat.le_trans hS.1 hz, fun q h1 h2 => (hq q (Nat.lt_of_lt_of_le h1 hS.1)).trans (hS.2.1 q h1 h2)⟩) hS.2.2 hc hs
-- ahead of a call
variable {wl wc wr : va_W}
theorem kt_pre (hC : kt_C D cI cJ cZ s) (hZ : kt_Z A s s.heap) (hA : ∀ q : Nat, s.heap.size ≤ q → A q) (hP : va_P D vwCl wl H) (hD : va_D A wl) (hS : va_S A s.heap H locs) (isC : List Nat) (hn : va_nd isC = true) (h1 : isC.map (fun i => wl[i]?) = wc.map some) {av : List Value} : PreS s H (kt_P D cI cJ cZ wc H.size av) av := by
  refine ⟨kt_blind, fun U hU hW => ⟨rfl, by rw [hU], hC.moved hW, hZ.moved hS hU hW (va_free hD hS hA isC h1), ?_, (hD.sub isC hn h1).self⟩⟩
  rw [hU]
  refine hP.sub isC ?_
  have h2 := congrArg (fun z => z.filterMap id) h1
  simpa [List.filterMap_map] using h2
theorem kt_preV (hC : kt_C D cI cJ cZ s) (hZ : kt_Z A s s.heap) (hA : ∀ q : Nat, s.heap.size ≤ q → A q) (hP : va_P D vwCl wl H) (hD : va_D A wl) (hS : va_S A s.heap H locs) (isC : List Nat) (hn : va_nd isC = true) (h1 : isC.map (fun i => wl[i]?) = wc.map some) {b ci k0 : Nat} {C : String} {T : u_T} {N : Nat} {fs : List Value} (hc : vwCl[ci]? = some (C, T, N)) (hk : wl[k0]? = some (b, .inr (ci, fs))) {As : List Value} : PreV s H C b (kt_P D cI cJ cZ wc H.size (.ref b :: As)) As :=
  ⟨kt_blind, va_recv hC.1 hP (ci := ci) (q0 := k0) hc hk, (kt_pre hC hZ hA hP hD hS isC hn h1).2⟩
variable {st0 : List Value} {a : Array Value}
theorem kt_calli {post : Int32 → S → Prop} {W1 : S → va_W} (hA : ∀ q : Nat, s.heap.size ≤ q → A q) (hP : va_P D vwCl wl H) (hD : va_D A wl) (hS : va_S A s.heap H locs) (isC isR : List Nat) (h1 : isC.map (fun i => wl[i]?) = wc.map some) (h2 : isR.map (fun i => wl[i]?) = wr.map some) (h3 : va_nd isR = true) (h4 : ∀ i ∈ isR, i ∉ isC)
    (hr : va_Run p l e R s m args below meth c H locs cells slots mc ms (F0 m pc ls st0) rest (kt_Qi D (va_A wc H.size) post W1 a) (va_A wc H.size))
    (kk : ∀ (r : Int32) (u : S) (H : Heap) (locs : List Loc), post r u → va_P D vwCl (wr ++ W1 u) H → va_D A (wr ++ W1 u) → va_S A s.heap H locs → W p l e R s m args below meth c H locs (cells + mc) (slots + ms) Q (F0 m (pc + 3) ls (.int r :: rest))) : W p l e R s m args below meth c H locs cells slots Q (F0 m pc ls st0) := by
  have hF := va_free hD hS hA isC h1
  refine va_calli hr hS (fun q _ h => hF q h) hF (fun r u t H1 locs1 ht hvm hw hB hz1 hk1 hS1 => ?_)
  obtain ⟨hP1, hD1⟩ := hB
  rw [ht] at hP1
  obtain ⟨hP2, hD2⟩ := va_join hP hD isC isR h1 h2 h3 h4 hk1 hF hP1 hD1
  exact kk r u H1 locs1 hw hP2 hD2 hS1
theorem kt_callv {post : S → Prop} {W1 : S → va_W} (hA : ∀ q : Nat, s.heap.size ≤ q → A q) (hP : va_P D vwCl wl H) (hD : va_D A wl) (hS : va_S A s.heap H locs) (isC isR : List Nat) (h1 : isC.map (fun i => wl[i]?) = wc.map some) (h2 : isR.map (fun i => wl[i]?) = wr.map some) (h3 : va_nd isR = true) (h4 : ∀ i ∈ isR, i ∉ isC)
    (hr : va_Run p l e R s m args below meth c H locs cells slots mc ms (F0 m pc ls st0) rest (kt_Qv D (va_A wc H.size) post W1 a) (va_A wc H.size))
    (kk : ∀ (u : S) (H : Heap) (locs : List Loc), post u → va_P D vwCl (wr ++ W1 u) H → va_D A (wr ++ W1 u) → va_S A s.heap H locs → W p l e R s m args below meth c H locs (cells + mc) (slots + ms) Q (F0 m (pc + 3) ls rest)) : W p l e R s m args below meth c H locs cells slots Q (F0 m pc ls st0) := by
  have hF := va_free hD hS hA isC h1
  refine va_callv hr hS (fun q _ h => hF q h) hF (fun u t H1 locs1 ht hvm hw hB hz1 hk1 hS1 => ?_)
  obtain ⟨hP1, hD1⟩ := hB
  rw [ht] at hP1
  obtain ⟨hP2, hD2⟩ := va_join hP hD isC isR h1 h2 h3 h4 hk1 hF hP1 hD1
  exact kk u H1 locs1 hw hP2 hD2 hS1
theorem kt_calliX {post : Int32 → S → Prop} {W1 : S → va_W} {postX : String → Prop} (hA : ∀ q : Nat, s.heap.size ≤ q → A q) (hP : va_P D vwCl wl H) (hD : va_D A wl) (hS : va_S A s.heap H locs) (isC isR : List Nat) (h1 : isC.map (fun i => wl[i]?) = wc.map some) (h2 : isR.map (fun i => wl[i]?) = wr.map some) (h3 : va_nd isR = true) (h4 : ∀ i ∈ isR, i ∉ isC)
    (hr : vx_Run p l e R s m args below meth c H locs cells slots mc ms (F0 m pc ls st0) rest (kt_Qi D (va_A wc H.size) post W1 a) (kt_X D (va_A wc H.size) wc postX) (va_A wc H.size))
    (kx : ∀ (E : String) (ce : Cell) (q9 : Addr) (H : Heap) (locs : List Loc), postX E → va_P D vwCl (wr ++ wc) H → va_D A (wr ++ wc) → va_S A s.heap H locs → H[q9]? = some ce → ce.vm = .none → s.vm.findClass E = some ce.cls → vx_W p l e R s m args below meth c H locs (cells + mc) (slots + ms) Q (F0 m pc ls rest) q9)
    (kk : ∀ (r : Int32) (u : S) (H : Heap) (locs : List Loc), post r u → va_P D vwCl (wr ++ W1 u) H → va_D A (wr ++ W1 u) → va_S A s.heap H locs → W p l e R s m args below meth c H locs (cells + mc) (slots + ms) Q (F0 m (pc + 3) ls (.int r :: rest))) : W p l e R s m args below meth c H locs cells slots Q (F0 m pc ls st0) := by
  have hF := va_free hD hS hA isC h1
  refine vx_calli hr hS (fun q _ h => hF q h) hF (fun q _ h => hF q h) (fun E ce q9 u t H1 locs1 ht hvm hpx hB hz1 hk1 hS1 hce hcv hcl => ?_) (fun r u t H1 locs1 ht hvm hw hB hz1 hk1 hS1 => ?_)
  · obtain ⟨hpx, hP1, hD1⟩ := hB
    rw [ht] at hP1
    obtain ⟨hP2, hD2⟩ := va_join hP hD isC isR h1 h2 h3 h4 hk1 hF hP1 hD1
    exact kx E ce q9 H1 locs1 hpx hP2 hD2 hS1 hce hcv hcl
  · obtain ⟨hP1, hD1⟩ := hB
    rw [ht] at hP1
    obtain ⟨hP2, hD2⟩ := va_join hP hD isC isR h1 h2 h3 h4 hk1 hF hP1 hD1
    exact kk r u H1 locs1 hw hP2 hD2 hS1
theorem kt_callvX {post : S → Prop} {W1 : S → va_W} {postX : String → Prop} (hA : ∀ q : Nat, s.heap.size ≤ q → A q) (hP : va_P D vwCl wl H) (hD : va_D A wl) (hS : va_S A s.heap H locs) (isC isR : List Nat) (h1 : isC.map (fun i => wl[i]?) = wc.map some) (h2 : isR.map (fun i => wl[i]?) = wr.map some) (h3 : va_nd isR = true) (h4 : ∀ i ∈ isR, i ∉ isC)
    (hr : vx_Run p l e R s m args below meth c H locs cells slots mc ms (F0 m pc ls st0) rest (kt_Qv D (va_A wc H.size) post W1 a) (kt_X D (va_A wc H.size) wc postX) (va_A wc H.size))
    (kx : ∀ (E : String) (ce : Cell) (q9 : Addr) (H : Heap) (locs : List Loc), postX E → va_P D vwCl (wr ++ wc) H → va_D A (wr ++ wc) → va_S A s.heap H locs → H[q9]? = some ce → ce.vm = .none → s.vm.findClass E = some ce.cls → vx_W p l e R s m args below meth c H locs (cells + mc) (slots + ms) Q (F0 m pc ls rest) q9)
    (kk : ∀ (u : S) (H : Heap) (locs : List Loc), post u → va_P D vwCl (wr ++ W1 u) H → va_D A (wr ++ W1 u) → va_S A s.heap H locs → W p l e R s m args below meth c H locs (cells + mc) (slots + ms) Q (F0 m (pc + 3) ls rest)) : W p l e R s m args below meth c H locs cells slots Q (F0 m pc ls st0) := by
  have hF := va_free hD hS hA isC h1
  refine vx_callv hr hS (fun q _ h => hF q h) hF (fun q _ h => hF q h) (fun E ce q9 u t H1 locs1 ht hvm hpx hB hz1 hk1 hS1 hce hcv hcl => ?_) (fun u t H1 locs1 ht hvm hw hB hz1 hk1 hS1 => ?_)
  · obtain ⟨hpx, hP1, hD1⟩ := hB
    rw [ht] at hP1
    obtain ⟨hP2, hD2⟩ := va_join hP hD isC isR h1 h2 h3 h4 hk1 hF hP1 hD1
    exact kx E ce q9 H1 locs1 hpx hP2 hD2 hS1 hce hcv hcl
  · obtain ⟨hP1, hD1⟩ := hB
    rw [ht] at hP1
    obtain ⟨hP2, hD2⟩ := va_join hP hD isC isR h1 h2 h3 h4 hk1 hF hP1 hD1
    exact kk u H1 locs1 hw hP2 hD2 hS1
theorem kt_newi (hx : p.tables.exec = Jvm.exec) (hb : c.code = cc) (harr : (Cond.arrayClass .int).before args s = true) (hK : va_K D vwCl [(cI, .int), (cJ, .long), (cZ, .boolean)] s) (hP : va_P D vwCl wl H) (hD : va_D A wl) (hS : va_S A s.heap H locs) (hA : ∀ q : Nat, s.heap.size ≤ q → A q) {n : Int32} {N' : Nat} (hn : ¬ n < 0) (hN : n.toNatClampNeg = N') (hbytes : N' * componentBytes .int ≤ 536870912) (hcells : cells + 1 ≤ R.cells) (hslots : slots + N' ≤ R.slots) (hd : decode cc pc = .ok (.newarray .int, 2))
    (kk : ∀ (q : Nat) (H1 : Heap), va_P D vwCl (wl ++ [(q, .inl (cI, N', .inl (fun _ => 0)))]) H1 → va_D A (wl ++ [(q, .inl (cI, N', .inl (fun _ => 0)))]) → va_S A s.heap H1 locs → W p l e R s m args below meth c H1 locs (cells + 1) (slots + N') Q (F0 m (pc + 2) ls (.ref q :: rest))) : W p l e R s m args below meth c H locs cells slots Q (F0 m pc ls (.int n :: rest)) := by
  refine va_newa (atype := .int) (ty := .int) (a0 := (N', .inl (fun _ => 0))) hx hb harr rfl hK hP hD hS hA (fun _ => rfl) hn hN hbytes hcells hslots hd (fun q cA H1 hK1 hP1 hD1 hS1 => ?_)
  have e1 : s.vm.findClass ("[" ++ FieldType.int.toString) = some cA := (hK1.2 3 (cA, .int) rfl).2
  have e2 : s.vm.findClass ("[" ++ FieldType.int.toString) = some cI := (hK.2 0 (cI, .int) rfl).2
  cases Option.some.inj (e1.symm.trans e2)
  exact kk q H1 hP1 hD1 hS1
theorem kt_newl (hx : p.tables.exec = Jvm.exec) (hb : c.code = cc) (harr : (Cond.arrayClass .long).before args s = true) (hK : va_K D vwCl [(cI, .int), (cJ, .long), (cZ, .boolean)] s) (hP : va_P D vwCl wl H) (hD : va_D A wl) (hS : va_S A s.heap H locs) (hA : ∀ q : Nat, s.heap.size ≤ q → A q) {n : Int32} {N' : Nat} (hn : ¬ n < 0) (hN : n.toNatClampNeg = N') (hbytes : N' * componentBytes .long ≤ 536870912) (hcells : cells + 1 ≤ R.cells) (hslots : slots + N' ≤ R.slots) (hd : decode cc pc = .ok (.newarray .long, 2))
    (kk : ∀ (q : Nat) (H1 : Heap), va_P D vwCl (wl ++ [(q, .inl (cJ, N', .inr (.inl (fun _ => 0))))]) H1 → va_D A (wl ++ [(q, .inl (cJ, N', .inr (.inl (fun _ => 0))))]) → va_S A s.heap H1 locs → W p l e R s m args below meth c H1 locs (cells + 1) (slots + N') Q (F0 m (pc + 2) ls (.ref q :: rest))) : W p l e R s m args below meth c H locs cells slots Q (F0 m pc ls (.int n :: rest)) := by
  refine va_newa (atype := .long) (ty := .long) (a0 := (N', .inr (.inl (fun _ => 0)))) hx hb harr rfl hK hP hD hS hA (fun _ => rfl) hn hN hbytes hcells hslots hd (fun q cA H1 hK1 hP1 hD1 hS1 => ?_)
  have e1 : s.vm.findClass ("[" ++ FieldType.long.toString) = some cA := (hK1.2 3 (cA, .long) rfl).2
  have e2 : s.vm.findClass ("[" ++ FieldType.long.toString) = some cJ := (hK.2 1 (cJ, .long) rfl).2
  cases Option.some.inj (e1.symm.trans e2)
  exact kk q H1 hP1 hD1 hS1
theorem kt_newz (hx : p.tables.exec = Jvm.exec) (hb : c.code = cc) (harr : (Cond.arrayClass .boolean).before args s = true) (hK : va_K D vwCl [(cI, .int), (cJ, .long), (cZ, .boolean)] s) (hP : va_P D vwCl wl H) (hD : va_D A wl) (hS : va_S A s.heap H locs) (hA : ∀ q : Nat, s.heap.size ≤ q → A q) {n : Int32} {N' : Nat} (hn : ¬ n < 0) (hN : n.toNatClampNeg = N') (hbytes : N' * componentBytes .boolean ≤ 536870912) (hcells : cells + 1 ≤ R.cells) (hslots : slots + N' ≤ R.slots) (hd : decode cc pc = .ok (.newarray .boolean, 2))
    (kk : ∀ (q : Nat) (H1 : Heap), va_P D vwCl (wl ++ [(q, .inl (cZ, N', .inl (fun _ => 0)))]) H1 → va_D A (wl ++ [(q, .inl (cZ, N', .inl (fun _ => 0)))]) → va_S A s.heap H1 locs → W p l e R s m args below meth c H1 locs (cells + 1) (slots + N') Q (F0 m (pc + 2) ls (.ref q :: rest))) : W p l e R s m args below meth c H locs cells slots Q (F0 m pc ls (.int n :: rest)) := by
  refine va_newa (atype := .boolean) (ty := .boolean) (a0 := (N', .inl (fun _ => 0))) hx hb harr rfl hK hP hD hS hA (fun _ => rfl) hn hN hbytes hcells hslots hd (fun q cA H1 hK1 hP1 hD1 hS1 => ?_)
  have e1 : s.vm.findClass ("[" ++ FieldType.boolean.toString) = some cA := (hK1.2 3 (cA, .boolean) rfl).2
  have e2 : s.vm.findClass ("[" ++ FieldType.boolean.toString) = some cZ := (hK.2 2 (cZ, .boolean) rfl).2
  cases Option.some.inj (e1.symm.trans e2)
  exact kk q H1 hP1 hD1 hS1
end KT2
