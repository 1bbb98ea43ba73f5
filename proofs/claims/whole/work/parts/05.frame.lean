/-! Frame rows of this claim: what every contract takes and gives; entry, end and call of a method in these words. -/
section KT0
/-- a word that no warming takes away, among those that are no good words -/
def kt_isN (w : Cond) : Bool := match w with
  | .fieldLinkNest _ _ _ _ _ _ => true
  | .methodLinkNest _ _ _ _ => true
  | .castable _ _ => true
  | .declares _ => true
  | _ => false
theorem kt_warm {w : Cond} (h : kt_isN w = true) {s U : State} (hW : s.WarmedH U.vm) (hZ : va_Nw w s) : va_Nw w U := by
  unfold kt_isN at h
  split at h
  · exact va_Nw.warmF hW hZ
  · exact va_Nw.warmM hW hZ
  · exact va_Nw.warmC hW hZ
  · exact va_Nw.warmD hW hZ
  · cases h
theorem kt_N_ok : ∀ w ∈ kt_N, kt_isN w = true := by decide +kernel
theorem kt_N_on : ∀ w ∈ kt_N, w.onTables = true := by decide +kernel
theorem kt_Nm {w : Cond} (i : Nat) (h : kt_N[i]? = some w) : w ∈ kt_N := List.mem_of_getElem? h
theorem kt_Tm {x : String × Nat × String} (i : Nat) (h : kt_T[i]? = some x) : x ∈ kt_T := List.mem_of_getElem? h
/-- the tables' facts -/
def kt_C (D : va_G) (cI cJ cZ : ClassId) (s : State) : Prop := va_K D vwCl [(cI, .int), (cJ, .long), (cZ, .boolean)] s ∧ ∀ w ∈ kt_N, va_Nw w s
theorem kt_C.moved {D : va_G} {cI cJ cZ : ClassId} {s U : State} (h : kt_C D cI cJ cZ s) (hW : s.WarmedH U.vm) : kt_C D cI cJ cZ U :=
  ⟨va_K.moved hW.alike h.1, fun w hw => kt_warm (kt_N_ok w hw) hW (h.2 w hw)⟩
theorem kt_C.calling {D : va_G} {cI cJ cZ : ClassId} {U : State} {g : JFrame} {mk : MethodId} {a : Array Value} (h : kt_C D cI cJ cZ U) : kt_C D cI cJ cZ (U.calling g mk a) :=
  ⟨va_K.moved (u := U) (U := U.calling g mk a) (Vm.Alike.refl U.vm) h.1, fun w hw => va_Nw.same (kt_N_on w hw) rfl (h.2 w hw)⟩
/-- the words of a throw are good ones or among the others -/
theorem kt_at {D : va_G} {cI cJ cZ : ClassId} {args : Array Value} {s : State} {L : List Cond} (hG : ∀ w ∈ kt_G, w.before args s = true) (hC : kt_C D cI cJ cZ s) (h : ∀ w ∈ L, w ∈ kt_G ∨ w ∈ kt_N) : ∀ w ∈ L, w.before args s = true :=
  fun w hw => (h w hw).elim (hG w) (fun h9 => va_Nw.use (kt_N_on w h9) (hC.2 w h9))
theorem kt_og {L : List Cond} {a b : Cond} (h1 : a ∈ kt_G) (h2 : b ∈ kt_G) (h : ∀ w ∈ L, w ∈ kt_G ∨ w ∈ kt_N) : ∀ w ∈ a :: b :: L, vx_ot w = true := by
  have hg : ∀ w ∈ kt_G, vx_ot w = true := fun w hw => by simp [vx_ot, (List.mem_filter.mp hw).2]
  intro w hw
  rcases List.mem_cons.mp hw with rfl | hw
  · exact hg _ h1
  · rcases List.mem_cons.mp hw with rfl | hw
    · exact hg _ h2
    · rcases h w hw with h9 | h9
      · exact hg _ h9
      · simp [vx_ot, kt_N_on w h9]
theorem kt_g0 {w : Cond} (h : w ∈ kt_G) : GoodIn kt_G (w :: kt_G) := fun z hz => by
  have h1 : z ∈ kt_G := (List.mem_cons.mp hz).elim (fun e => e ▸ h) id
  exact ⟨h1, good_of_word (List.mem_filter.mp h1).2⟩
theorem kt_gS {own : String} {idx : Nat} {y : MethodName} {w : Cond} (h1 : Cond.methodLink own idx y ∈ kt_G) (h2 : Cond.static y ∈ kt_G) (h3 : Cond.initialized y.cls ∈ kt_G) (h : w ∈ kt_G) : GoodIn kt_G (va_wsS own idx y (w :: kt_G)) := fun z hz => by
  have h1 : z ∈ kt_G := by
    unfold va_wsS at hz
    rcases List.mem_append.mp hz with hz | hz
    · simp only [List.mem_cons, List.not_mem_nil, or_false] at hz
      rcases hz with rfl | rfl | rfl
      · exact h1
      · exact h2
      · exact h3
    · exact (List.mem_cons.mp hz).elim (fun e => e ▸ h) id
  exact ⟨h1, good_of_word (List.mem_filter.mp h1).2⟩
/-- what a throw needs of the start: two statics, the texts -/
def kt_Z (A : Nat → Prop) (s : State) (H : Heap) : Prop := vx_Zq Bundle.tN "UNASSIGNED_STACK" Bundle.steD A s H ∧ vx_Zq Bundle.tN "SUPPRESSED_SENTINEL" Bundle.listD A s H ∧ ∀ x ∈ kt_T, ∃ sa, vk_R x.1 x.2.1 x.2.2 sa s
theorem kt_Z.moved {A B : Nat → Prop} {s U : State} {H : Heap} {locs : List Loc} (h : kt_Z A s s.heap) (hS : va_S A s.heap H locs) (hU : U.heap = H) (hW : s.WarmedH U.vm) (hB : ∀ q, B q → A q) : kt_Z B U U.heap := by
  rw [hU]
  exact ⟨(vx_Zq.moved hW.alike (h.1.kept hS.2.1)).narrow hB, (vx_Zq.moved hW.alike (h.2.1.kept hS.2.1)).narrow hB, fun x hx => by
    obtain ⟨sa, hr⟩ := h.2.2 x hx
    exact ⟨sa, vk_R.warm hW hr⟩⟩
theorem kt_Z.calling {A : Nat → Prop} {U : State} {g : JFrame} {mk : MethodId} {a : Array Value} (h : kt_Z A U U.heap) : kt_Z A (U.calling g mk a) (U.calling g mk a).heap :=
  ⟨vx_Zq.moved (u := U) (U := U.calling g mk a) (Vm.Alike.refl U.vm) h.1, vx_Zq.moved (u := U) (U := U.calling g mk a) (Vm.Alike.refl U.vm) h.2.1, fun x hx => by
    obtain ⟨sa, hr⟩ := h.2.2 x hx
    exact ⟨sa, vk_R.same rfl hr⟩⟩
/-- a world ahead of a method -/
def kt_W (D : va_G) (cI cJ cZ : ClassId) (A : Nat → Prop) (ws : va_W) (U : State) : Prop := kt_C D cI cJ cZ U ∧ kt_Z A U U.heap ∧ va_P D vwCl ws U.heap ∧ va_D A ws
/-- a world behind it -/
def kt_V (D : va_G) (A : Nat → Prop) (ws : va_W) (t : State) : Prop := va_P D vwCl ws t.heap ∧ va_D A ws
def kt_P (D : va_G) (cI cJ cZ : ClassId) (W0 : va_W) (sz : Nat) (av : List Value) : Array Value → State → Prop := va_Pc av (fun U => U.heap.size = sz ∧ kt_W D cI cJ cZ (va_A W0 sz) W0 U)
theorem kt_blind {D : va_G} {cI cJ cZ : ClassId} {W0 : va_W} {sz : Nat} {av : List Value} : FrameBlind (kt_P D cI cJ cZ W0 sz av) := by
  intro a U g mk h
  obtain ⟨h1, h2, h3, h4, h5, h6⟩ := h
  exact ⟨h1, h2, h3.calling, h4.calling, h5, h6⟩
def kt_Qi (D : va_G) (A : Nat → Prop) {S : Type} (post : Int32 → S → Prop) (W1 : S → va_W) : Array Value → State → Outcome → State → Prop := va_Qi post (fun u t => kt_V D A (W1 u) t) A
def kt_Qv (D : va_G) (A : Nat → Prop) {S : Type} (post : S → Prop) (W1 : S → va_W) : Array Value → State → Outcome → State → Prop := va_Qv post (fun u t => kt_V D A (W1 u) t) A
def kt_X (D : va_G) (A : Nat → Prop) (W0 : va_W) (postX : String → Prop) : String → State → State → Prop := vx_X (fun _ : Unit => True) (fun E _ t => postX E ∧ kt_V D A W0 t) A
/-- contracts: answer an int, answer nothing; the same that may throw -/
abbrev kt_Mi (l : Launch) (y : MethodName) (w0 : Cond) (rm : Room) (D : va_G) (cI cJ cZ : ClassId) (W0 : va_W) (sz : Nat) (av : List Value) {S : Type} (post : Int32 → S → Prop) (W1 : S → va_W) (mc ms : Nat) : Prop :=
  Met l y (w0 :: kt_G) rm (kt_P D cI cJ cZ W0 sz av) (kt_Qi D (va_A W0 sz) post W1) mc ms (va_A W0 sz)
abbrev kt_Mv (l : Launch) (y : MethodName) (w0 : Cond) (rm : Room) (D : va_G) (cI cJ cZ : ClassId) (W0 : va_W) (sz : Nat) (av : List Value) {S : Type} (post : S → Prop) (W1 : S → va_W) (mc ms : Nat) : Prop :=
  Met l y (w0 :: kt_G) rm (kt_P D cI cJ cZ W0 sz av) (kt_Qv D (va_A W0 sz) post W1) mc ms (va_A W0 sz)
abbrev kt_Xi (l : Launch) (y : MethodName) (w0 : Cond) (rm : Room) (D : va_G) (cI cJ cZ : ClassId) (W0 : va_W) (sz : Nat) (av : List Value) {S : Type} (post : Int32 → S → Prop) (W1 : S → va_W) (postX : String → Prop) (mc ms : Nat) : Prop :=
  vx_Met l y (w0 :: kt_G) rm (kt_P D cI cJ cZ W0 sz av) (kt_Qi D (va_A W0 sz) post W1) (kt_X D (va_A W0 sz) W0 postX) mc ms (va_A W0 sz)
abbrev kt_Xv (l : Launch) (y : MethodName) (w0 : Cond) (rm : Room) (D : va_G) (cI cJ cZ : ClassId) (W0 : va_W) (sz : Nat) (av : List Value) {S : Type} (post : S → Prop) (W1 : S → va_W) (postX : String → Prop) (mc ms : Nat) : Prop :=
  vx_Met l y (w0 :: kt_G) rm (kt_P D cI cJ cZ W0 sz av) (kt_Qv D (va_A W0 sz) post W1) (kt_X D (va_A W0 sz) W0 postX) mc ms (va_A W0 sz)
/-- what a body begins with -/
def kt_In (p : Program) (s : State) (m : MethodId) (args : Array Value) (meth : Method) (c : Code) (cc : ByteArray) (maxL : Nat) (ret : Option FieldType) (y : MethodName) (D : va_G) (cI cJ cZ : ClassId) (A : Nat → Prop) : Prop :=
  p.tables.exec = Jvm.exec ∧ c.code = cc ∧ meth.sig.returnType = ret ∧ (∀ w ∈ kt_G, w.before args s = true) ∧ s.vm.findClass y.cls = some m.cls ∧ meth.locks = false ∧ meth.name = y.name ∧ c.maxLocals = maxL ∧ kt_C D cI cJ cZ s ∧ kt_Z A s s.heap ∧ ∀ q : Nat, s.heap.size ≤ q → A q
end KT0
section KT1
variable {l : Launch} {y : MethodName} {rm : Room} {D : va_G} {cI cJ cZ : ClassId} {W0 : va_W} {sz mc ms maxL : Nat} {av : List Value} {cc : ByteArray} {ret : Option FieldType}
theorem kt_ofM {Qc : (Nat → Prop) → Array Value → State → Outcome → State → Prop} (hy : plainName y.cls = true) (hm : (lg_sl av).length ≤ maxL)
    (body : ∀ p e s m args below meth c A Q, kt_In p s m args meth c cc maxL ret y D cI cJ cZ A → va_P D vwCl W0 s.heap → va_D A W0 → va_S A s.heap s.heap [] → MQ below (Qc A) args s mc ms A = Q →
      ∀ ls, lv_has ls maxL (lv_args 0 av) → W p l e rm s m args below meth c s.heap [] 0 0 Q (F0 m 0 ls [])) : Met l y (Cond.code y cc maxL ret :: kt_G) rm (kt_P D cI cJ cZ W0 sz av) (Qc (va_A W0 sz)) mc ms (va_A W0 sz) := by
  refine Met.ofW (cc := cc) (maxL := maxL) (ret := ret) hy rfl ?_
  intro p e s m args below meth c s₁ B hml hv
  obtain ⟨rfl, hsz, hC, hZ, hP, hD⟩ := hv
  rw [lg_entry_eq]
  exact body p e s m _ below meth c (va_A W0 sz) _ ⟨B.exec, B.bytes, B.returns, fun w hw => atoms_spec B.pre w (List.mem_cons_of_mem _ hw), findClass_of_methodNamed B.named, B.notSynchronized, (name_of_methodNamed B.named B.method).1, hml, hC, hZ, fun q h => Or.inr (by rw [← hsz]; exact h)⟩ hP hD va_S.rf rfl _ (lv_entry av hm)
theorem kt_ofX {Qc : (Nat → Prop) → Array Value → State → Outcome → State → Prop} {XC : (Nat → Prop) → String → State → State → Prop} (hy : plainName y.cls = true) (hm : (lg_sl av).length ≤ maxL)
    (body : ∀ p e s m args below meth c A Q, kt_In p s m args meth c cc maxL ret y D cI cJ cZ A → (∀ x ∈ c.exceptionTable.toList, False) → va_P D vwCl W0 s.heap → va_D A W0 → va_S A s.heap s.heap [] → vx_MQ below (Qc A) (XC A) args s mc ms A = Q →
      ∀ ls, lv_has ls maxL (lv_args 0 av) → W p l e rm s m args below meth c s.heap [] 0 0 Q (F0 m 0 ls [])) : vx_Met l y (Cond.code y cc maxL ret :: kt_G) rm (kt_P D cI cJ cZ W0 sz av) (Qc (va_A W0 sz)) (XC (va_A W0 sz)) mc ms (va_A W0 sz) := by
  refine vx_ofW (cc := cc) (maxL := maxL) (ret := ret) hy rfl ?_
  intro p e s m args below meth c s₁ B hml htab hv
  obtain ⟨rfl, hsz, hC, hZ, hP, hD⟩ := hv
  rw [lg_entry_eq]
  exact body p e s m _ below meth c (va_A W0 sz) _ ⟨B.exec, B.bytes, B.returns, fun w hw => atoms_spec B.pre w (List.mem_cons_of_mem _ hw), findClass_of_methodNamed B.named, B.notSynchronized, (name_of_methodNamed B.named B.method).1, hml, hC, hZ, fun q h => Or.inr (by rw [← hsz]; exact h)⟩ htab hP hD va_S.rf rfl _ (lv_entry av hm)
theorem kt_ofH {hh : List (Nat × Nat × Nat × Nat)} {Qc : (Nat → Prop) → Array Value → State → Outcome → State → Prop} (hy : plainName y.cls = true) (hm : (lg_sl av).length ≤ maxL)
    (body : ∀ p e s m args below meth c A Q, kt_In p s m args meth c cc maxL ret y D cI cJ cZ A → c.exceptionTable.toList = tableOf hh → va_P D vwCl W0 s.heap → va_D A W0 → va_S A s.heap s.heap [] → MQ below (Qc A) args s mc ms A = Q →
      ∀ ls, lv_has ls maxL (lv_args 0 av) → W p l e rm s m args below meth c s.heap [] 0 0 Q (F0 m 0 ls [])) : Met l y (Cond.codeWith y cc maxL ret hh :: kt_G) rm (kt_P D cI cJ cZ W0 sz av) (Qc (va_A W0 sz)) mc ms (va_A W0 sz) := by
  refine va_MetW (cc := cc) (maxL := maxL) (ret := ret) (hh := hh) hy rfl ?_
  intro p e s m args below meth c s₁ B hml hv
  obtain ⟨rfl, hsz, hC, hZ, hP, hD⟩ := hv
  rw [lg_entry_eq]
  exact body p e s m _ below meth c (va_A W0 sz) _ ⟨B.exec, B.bytes, B.returns, fun w hw => atoms_spec B.pre w (List.mem_cons_of_mem _ hw), findClass_of_methodNamed B.named, B.notSynchronized, (name_of_methodNamed B.named B.method).1, hml, hC, hZ, fun q h => Or.inr (by rw [← hsz]; exact h)⟩ (vx_table B (atoms_spec B.pre _ List.mem_cons_self)) hP hD va_S.rf rfl _ (lv_entry av hm)
end KT1
section KT2
variable {p : Program} {l : Launch} {e : Env} {R : Room} {s : State} {m : MethodId} {args : Array Value} {below : List Frame} {meth : Method} {c : Code} {H : Heap} {locs : List Loc} {cells slots : Nat} {Q : State → Prop}
variable {cc : ByteArray} {pc : Nat} {ls : Array Slot} {rest : List Value} {D : va_G} {cI cJ cZ : ClassId} {W0 : va_W} {mc ms : Nat} {S : Type} {A : Nat → Prop}
-- ends
theorem kt_iret {post : Int32 → S → Prop} {W1 : S → va_W} {v : Int32} (hQ : MQ below (kt_Qi D A post W1) args s mc ms A = Q) (hx : p.tables.exec = Jvm.exec) (hb : c.code = cc) (hr : meth.sig.returnType = some .int) (hlocks : meth.locks = false) (u : S) (hv : post v u) (hP : va_P D vwCl (W1 u) H) (hD : va_D A (W1 u)) (hS : va_S A s.heap H locs) (hc : cells ≤ mc) (hs : slots ≤ ms) (hd : decode cc pc = .ok (.ireturn, 1)) :
    W p l e R s m args below meth c H locs cells slots Q (F0 m pc ls [.int v]) := by
  subst hQ
  refine W.widen hc hs ?_
  exact W.iret hx hb hr (fun t ht hW => ⟨⟨v, u, rfl, hv, by rw [ht]; exact hP, hD⟩, hS.F ht⟩) hS.2.2 hd hlocks
theorem kt_zret {post : Int32 → S → Prop} {W1 : S → va_W} {v : Int32} (hn : narrow .boolean (.int v) = .int v) (hQ : MQ below (kt_Qi D A post W1) args s mc ms A = Q) (hx : p.tables.exec = Jvm.exec) (hb : c.code = cc) (hr : meth.sig.returnType = some .boolean) (hlocks : meth.locks = false) (u : S) (hv : post v u) (hP : va_P D vwCl (W1 u) H) (hD : va_D A (W1 u)) (hS : va_S A s.heap H locs) (hc : cells ≤ mc) (hs : slots ≤ ms) (hd : decode cc pc = .ok (.ireturn, 1)) :
    W p l e R s m args below meth c H locs cells slots Q (F0 m pc ls [.int v]) := by
  subst hQ
  refine W.widen hc hs ?_
  exact W.zret hx hb hr hn (fun t ht hW => ⟨⟨v, u, rfl, hv, by rw [ht]; exact hP, hD⟩, hS.F ht⟩) hS.2.2 hd hlocks
theorem kt_vret {post : S → Prop} {W1 : S → va_W} (hQ : MQ below (kt_Qv D A post W1) args s mc ms A = Q) (hx : p.tables.exec = Jvm.exec) (hb : c.code = cc) (hr : meth.sig.returnType = none) (hlocks : meth.locks = false) (u : S) (hv : post u) (hP : va_P D vwCl (W1 u) H) (hD : va_D A (W1 u)) (hS : va_S A s.heap H locs) (hc : cells ≤ mc) (hs : slots ≤ ms) (hd : decode cc pc = .ok (.return_, 1)) :
    W p l e R s m args below meth c H locs cells slots Q (F0 m pc ls []) := by
  subst hQ
  refine W.widen hc hs ?_
  exact W.vret hx hb hr (fun t ht hW => ⟨⟨u, rfl, hv, by rw [ht]; exact hP, hD⟩, hS.F ht⟩) hS.2.2 hd hlocks
theorem kt_iretX {post : Int32 → S → Prop} {W1 : S → va_W} {XC : String → State → State → Prop} {v : Int32} (hQ : vx_MQ below (kt_Qi D A post W1) XC args s mc ms A = Q) (hx : p.tables.exec = Jvm.exec) (hb : c.code = cc) (hr : meth.sig.returnType = some .int) (hlocks : meth.locks = false) (u : S) (hv : post v u) (hP : va_P D vwCl (W1 u) H) (hD : va_D A (W1 u)) (hS : va_S A s.heap H locs) (hc : cells ≤ mc) (hs : slots ≤ ms) (hd : decode cc pc = .ok (.ireturn, 1)) :
    W p l e R s m args below meth c H locs cells slots Q (F0 m pc ls [.int v]) := by
  subst hQ
  exact vx_ret (kt_iret rfl hx hb hr hlocks u hv hP hD hS hc hs hd)
theorem kt_vretX {post : S → Prop} {W1 : S → va_W} {XC : String → State → State → Prop} (hQ : vx_MQ below (kt_Qv D A post W1) XC args s mc ms A = Q) (hx : p.tables.exec = Jvm.exec) (hb : c.code = cc) (hr : meth.sig.returnType = none) (hlocks : meth.locks = false) (u : S) (hv : post u) (hP : va_P D vwCl (W1 u) H) (hD : va_D A (W1 u)) (hS : va_S A s.heap H locs) (hc : cells ≤ mc) (hs : slots ≤ ms) (hd : decode cc pc = .ok (.return_, 1)) :
    W p l e R s m args below meth c H locs cells slots Q (F0 m pc ls []) := by
  subst hQ
  exact vx_ret (kt_vret rfl hx hb hr hlocks u hv hP hD hS hc hs hd)
theorem kt_out {Qc : Array Value → State → Outcome → State → Prop} {postX : String → Prop} {E : String} {ce : Cell} {q : Addr} (hQ : vx_MQ below Qc (kt_X D A W0 postX) args s mc ms A = Q) (htab : ∀ x ∈ c.exceptionTable.toList, False) (hlocks : meth.locks = false) (hp : postX E) (hP : va_P D vwCl W0 H) (hD : va_D A W0) (hS : va_S A s.heap H locs) (hcell : H[q]? = some ce) (hv : ce.vm = .none) (hcl : s.vm.findClass E = some ce.cls) (hc : cells ≤ mc) (hs : slots ≤ ms) :
    vx_W p l e R s m args below meth c H locs cells slots Q (F0 m pc ls rest) q := by
  subst hQ
  exact vx_out (fun x hx => (htab x hx).elim) hlocks hcell hv hcl (fun t ht hW => ⟨(), trivial, ⟨hp, by rw [ht]; exact hP, hD⟩, hS.F ht⟩) hS.2.2 hc hs
-- a throw
theorem kt_throw {own cls text : String} {names : List String} {ik is ic : Nat} {Qc : Array Value → State → Outcome → State → Prop} {postX : String → Prop} (hQ : vx_MQ below Qc (kt_X D A W0 postX) args s mc ms A = Q) (hx : p.tables.exec = Jvm.exec) (hb : c.code = cc) (hlt : l.stackTraces = false) (hown : s.vm.findClass own = some m.cls) (hcls : Bundle.fit cls = true) (hnames : ∀ n ∈ names, Bundle.fit n = true)
    (hk : (Cond.classLink own ik cls).before args s = true) (hini : (Cond.initialized cls).before args s = true) (hstr : ∃ sa, vk_R own is text sa s) (hat : ∀ w ∈ vx_atS own ic cls names, w.before args s = true) (hgood : ∀ w ∈ Cond.classLink own ik cls :: Cond.initialized cls :: vx_atS own ic cls names, vx_ot w = true)
    (hZ : kt_Z A s s.heap) (htab : ∀ x ∈ c.exceptionTable.toList, False) (hlocks : meth.locks = false) (hsize : ls.size = c.maxLocals) (hv : postX cls) (hP : va_P D vwCl W0 H) (hD : va_D A W0) (hS : va_S A s.heap H locs)
    (d0 : decode cc pc = .ok (.new ik, 3)) (d3 : decode cc (pc + 3) = .ok (.dup, 1)) (d4 : decode cc (pc + 4) = .ok (.ldc is, 2)) (d6 : decode cc (pc + 6) = .ok (.invokespecial ic, 3)) (d9 : decode cc (pc + 9) = .ok (.athrow, 1))
    (hf : names.length + 3 < R.frames) (hlo : (rest.map fun v => v.category).sum + (13 * (names.length + 1) + 43) ≤ R.locals) (hce : cells + 1 ≤ R.cells) (hsl : slots + 6 ≤ R.slots) (hc : cells + 1 ≤ mc) (hs : slots + 6 ≤ ms) :
    W p l e R s m args below meth c H locs cells slots Q (F0 m pc ls rest) := by
  subst hQ
  obtain ⟨sa, hsr⟩ := hstr
  exact vx_throwS hx hb hlt hown hcls hnames hk hini hsr hat hgood hZ.1 hZ.2.1 hS hsize d0 d3 d4 d6 d9 (fun x h => (htab x h).elim) hf hlo hce hsl hlocks
    (fun t _ hz hq => ⟨(), trivial, ⟨hv, hP.kept (fun k x hx => hq x.1 (hP k x hx).lt), hD⟩, Nat.le_trans hS.1 hz, fun q h1 h2 => (hq q (Nat.lt_of_lt_of_le h1 hS.1)).trans (hS.2.1 q h1 h2)⟩) hS.2.2 hc hs
-- ahead of a call
variable {wl wc wr : va_W}
theorem kt_pre (hC : kt_C D cI cJ cZ s) (hZ : kt_Z A s s.heap) (hA : ∀ q : Nat, s.heap.size ≤ q → A q) (hP : va_P D vwCl wl H) (hD : va_D A wl) (hS : va_S A s.heap H locs) (isC : List Nat) (hn : va_nd isC = true) (h1 : isC.map (fun i => wl[i]?) = wc.map some) {av : List Value} : PreS s H (kt_P D cI cJ cZ wc H.size av) av := by
  refine ⟨kt_blind, fun U hU hW => ⟨rfl, by rw [hU], hC.moved hW, hZ.moved hS hU hW (va_free hD hS hA isC h1), ?_, (hD.sub isC hn h1).self⟩⟩
  rw [hU]
  refine hP.sub isC ?_
  have h2 := congrArg (fun z => z.filterMap id) h1
  simpa [List.filterMap_map] using h2
theorem kt_preV (hC : kt_C D cI cJ cZ s) (hZ : kt_Z A s s.heap) (hA : ∀ q : Nat, s.heap.size ≤ q → A q) (hP : va_P D vwCl wl H) (hD : va_D A wl) (hS : va_S A s.heap H locs) (isC : List Nat) (hn : va_nd isC = true) (h1 : isC.map (fun i => wl[i]?) = wc.map some) {b ci k0 : Nat} {C : String} {T : u_T} {N : Nat} {fs : List Value} (hc : vwCl[ci]? = some (C, T, N)) (hk : wl[k0]? = some (b, .inr (ci, fs))) {As : List Value} : PreV s H C b (kt_P D cI cJ cZ wc H.size (.ref b :: As)) As :=
  ⟨kt_blind, va_recv hC.1 hP (ci := ci) (q0 := k0) hc hk, (kt_pre hC hZ hA hP hD hS isC hn h1).2⟩
variable {st0 : List Value} {a : Array Value}
theorem kt_calli {post : Int32 → S → Prop} {W1 : S → va_W} (hA : ∀ q : Nat, s.heap.size ≤ q → A q) (hP : va_P D vwCl wl H) (hD : va_D A wl) (hS : va_S A s.heap H locs) (isC isR : List Nat) (h1 : isC.map (fun i => wl[i]?) = wc.map some) (h2 : isR.map (fun i => wl[i]?) = wr.map some) (h3 : va_nd isR = true) (h4 : ∀ i ∈ isR, i ∉ isC)
    (hr : va_Run p l e R s m args below meth c H locs cells slots mc ms (F0 m pc ls st0) rest (kt_Qi D (va_A wc H.size) post W1 a) (va_A wc H.size))
    (kk : ∀ (r : Int32) (u : S) (H : Heap) (locs : List Loc), post r u → va_P D vwCl (wr ++ W1 u) H → va_D A (wr ++ W1 u) → va_S A s.heap H locs → W p l e R s m args below meth c H locs (cells + mc) (slots + ms) Q (F0 m (pc + 3) ls (.int r :: rest))) : W p l e R s m args below meth c H locs cells slots Q (F0 m pc ls st0) := by
  have hF := va_free hD hS hA isC h1
  refine va_calli hr hS (fun q _ h => hF q h) hF (fun r u t H1 locs1 ht hvm hw hB hz1 hk1 hS1 => ?_)
  obtain ⟨hP1, hD1⟩ := hB
  rw [ht] at hP1
  obtain ⟨hP2, hD2⟩ := va_join hP hD isC isR h1 h2 h3 h4 hk1 hF hP1 hD1
  exact kk r u H1 locs1 hw hP2 hD2 hS1
theorem kt_callv {post : S → Prop} {W1 : S → va_W} (hA : ∀ q : Nat, s.heap.size ≤ q → A q) (hP : va_P D vwCl wl H) (hD : va_D A wl) (hS : va_S A s.heap H locs) (isC isR : List Nat) (h1 : isC.map (fun i => wl[i]?) = wc.map some) (h2 : isR.map (fun i => wl[i]?) = wr.map some) (h3 : va_nd isR = true) (h4 : ∀ i ∈ isR, i ∉ isC)
    (hr : va_Run p l e R s m args below meth c H locs cells slots mc ms (F0 m pc ls st0) rest (kt_Qv D (va_A wc H.size) post W1 a) (va_A wc H.size))
    (kk : ∀ (u : S) (H : Heap) (locs : List Loc), post u → va_P D vwCl (wr ++ W1 u) H → va_D A (wr ++ W1 u) → va_S A s.heap H locs → W p l e R s m args below meth c H locs (cells + mc) (slots + ms) Q (F0 m (pc + 3) ls rest)) : W p l e R s m args below meth c H locs cells slots Q (F0 m pc ls st0) := by
  have hF := va_free hD hS hA isC h1
  refine va_callv hr hS (fun q _ h => hF q h) hF (fun u t H1 locs1 ht hvm hw hB hz1 hk1 hS1 => ?_)
  obtain ⟨hP1, hD1⟩ := hB
  rw [ht] at hP1
  obtain ⟨hP2, hD2⟩ := va_join hP hD isC isR h1 h2 h3 h4 hk1 hF hP1 hD1
  exact kk u H1 locs1 hw hP2 hD2 hS1
theorem kt_calliX {post : Int32 → S → Prop} {W1 : S → va_W} {postX : String → Prop} (hA : ∀ q : Nat, s.heap.size ≤ q → A q) (hP : va_P D vwCl wl H) (hD : va_D A wl) (hS : va_S A s.heap H locs) (isC isR : List Nat) (h1 : isC.map (fun i => wl[i]?) = wc.map some) (h2 : isR.map (fun i => wl[i]?) = wr.map some) (h3 : va_nd isR = true) (h4 : ∀ i ∈ isR, i ∉ isC)
    (hr : vx_Run p l e R s m args below meth c H locs cells slots mc ms (F0 m pc ls st0) rest (kt_Qi D (va_A wc H.size) post W1 a) (kt_X D (va_A wc H.size) wc postX) (va_A wc H.size))
    (kx : ∀ (E : String) (ce : Cell) (q9 : Addr) (H : Heap) (locs : List Loc), postX E → va_P D vwCl (wr ++ wc) H → va_D A (wr ++ wc) → va_S A s.heap H locs → H[q9]? = some ce → ce.vm = .none → s.vm.findClass E = some ce.cls → vx_W p l e R s m args below meth c H locs (cells + mc) (slots + ms) Q (F0 m pc ls rest) q9)
    (kk : ∀ (r : Int32) (u : S) (H : Heap) (locs : List Loc), post r u → va_P D vwCl (wr ++ W1 u) H → va_D A (wr ++ W1 u) → va_S A s.heap H locs → W p l e R s m args below meth c H locs (cells + mc) (slots + ms) Q (F0 m (pc + 3) ls (.int r :: rest))) : W p l e R s m args below meth c H locs cells slots Q (F0 m pc ls st0) := by
  have hF := va_free hD hS hA isC h1
  refine vx_calli hr hS (fun q _ h => hF q h) hF (fun q _ h => hF q h) (fun E ce q9 u t H1 locs1 ht hvm hpx hB hz1 hk1 hS1 hce hcv hcl => ?_) (fun r u t H1 locs1 ht hvm hw hB hz1 hk1 hS1 => ?_)
  · obtain ⟨hpx, hP1, hD1⟩ := hB
    rw [ht] at hP1
    obtain ⟨hP2, hD2⟩ := va_join hP hD isC isR h1 h2 h3 h4 hk1 hF hP1 hD1
    exact kx E ce q9 H1 locs1 hpx hP2 hD2 hS1 hce hcv hcl
  · obtain ⟨hP1, hD1⟩ := hB
    rw [ht] at hP1
    obtain ⟨hP2, hD2⟩ := va_join hP hD isC isR h1 h2 h3 h4 hk1 hF hP1 hD1
    exact kk r u H1 locs1 hw hP2 hD2 hS1
theorem kt_callvX {post : S → Prop} {W1 : S → va_W} {postX : String → Prop} (hA : ∀ q : Nat, s.heap.size ≤ q → A q) (hP : va_P D vwCl wl H) (hD : va_D A wl) (hS : va_S A s.heap H locs) (isC isR : List Nat) (h1 : isC.map (fun i => wl[i]?) = wc.map some) (h2 : isR.map (fun i => wl[i]?) = wr.map some) (h3 : va_nd isR = true) (h4 : ∀ i ∈ isR, i ∉ isC)
    (hr : vx_Run p l e R s m args below meth c H locs cells slots mc ms (F0 m pc ls st0) rest (kt_Qv D (va_A wc H.size) post W1 a) (kt_X D (va_A wc H.size) wc postX) (va_A wc H.size))
    (kx : ∀ (E : String) (ce : Cell) (q9 : Addr) (H : Heap) (locs : List Loc), postX E → va_P D vwCl (wr ++ wc) H → va_D A (wr ++ wc) → va_S A s.heap H locs → H[q9]? = some ce → ce.vm = .none → s.vm.findClass E = some ce.cls → vx_W p l e R s m args below meth c H locs (cells + mc) (slots + ms) Q (F0 m pc ls rest) q9)
    (kk : ∀ (u : S) (H : Heap) (locs : List Loc), post u → va_P D vwCl (wr ++ W1 u) H → va_D A (wr ++ W1 u) → va_S A s.heap H locs → W p l e R s m args below meth c H locs (cells + mc) (slots + ms) Q (F0 m (pc + 3) ls rest)) : W p l e R s m args below meth c H locs cells slots Q (F0 m pc ls st0) := by
  have hF := va_free hD hS hA isC h1
  refine vx_callv hr hS (fun q _ h => hF q h) hF (fun q _ h => hF q h) (fun E ce q9 u t H1 locs1 ht hvm hpx hB hz1 hk1 hS1 hce hcv hcl => ?_) (fun u t H1 locs1 ht hvm hw hB hz1 hk1 hS1 => ?_)
  · obtain ⟨hpx, hP1, hD1⟩ := hB
    rw [ht] at hP1
    obtain ⟨hP2, hD2⟩ := va_join hP hD isC isR h1 h2 h3 h4 hk1 hF hP1 hD1
    exact kx E ce q9 H1 locs1 hpx hP2 hD2 hS1 hce hcv hcl
  · obtain ⟨hP1, hD1⟩ := hB
    rw [ht] at hP1
    obtain ⟨hP2, hD2⟩ := va_join hP hD isC isR h1 h2 h3 h4 hk1 hF hP1 hD1
    exact kk u H1 locs1 hw hP2 hD2 hS1
theorem kt_newi (hx : p.tables.exec = Jvm.exec) (hb : c.code = cc) (harr : (Cond.arrayClass .int).before args s = true) (hK : va_K D vwCl [(cI, .int), (cJ, .long), (cZ, .boolean)] s) (hP : va_P D vwCl wl H) (hD : va_D A wl) (hS : va_S A s.heap H locs) (hA : ∀ q : Nat, s.heap.size ≤ q → A q) {n : Int32} {N' : Nat} (hn : ¬ n < 0) (hN : n.toNatClampNeg = N') (hbytes : N' * componentBytes .int ≤ 536870912) (hcells : cells + 1 ≤ R.cells) (hslots : slots + N' ≤ R.slots) (hd : decode cc pc = .ok (.newarray .int, 2))
    (kk : ∀ (q : Nat) (H1 : Heap), va_P D vwCl (wl ++ [(q, .inl (cI, N', .inl (fun _ => 0)))]) H1 → va_D A (wl ++ [(q, .inl (cI, N', .inl (fun _ => 0)))]) → va_S A s.heap H1 locs → W p l e R s m args below meth c H1 locs (cells + 1) (slots + N') Q (F0 m (pc + 2) ls (.ref q :: rest))) : W p l e R s m args below meth c H locs cells slots Q (F0 m pc ls (.int n :: rest)) := by
  refine va_newa (ty := .int) (a0 := (N', .inl (fun _ => 0))) hx hb harr rfl hK hP hD hS hA (fun _ => rfl) hn hN hbytes hcells hslots hd (fun q cA H1 hK1 hP1 hD1 hS1 => ?_)
  have e1 : s.vm.findClass ("[" ++ FieldType.int.toString) = some cA := (hK1.2 3 (cA, .int) rfl).2
  have e2 : s.vm.findClass ("[" ++ FieldType.int.toString) = some cI := (hK.2 0 (cI, .int) rfl).2
  cases Option.some.inj (e1.symm.trans e2)
  exact kk q H1 hP1 hD1 hS1
theorem kt_newl (hx : p.tables.exec = Jvm.exec) (hb : c.code = cc) (harr : (Cond.arrayClass .long).before args s = true) (hK : va_K D vwCl [(cI, .int), (cJ, .long), (cZ, .boolean)] s) (hP : va_P D vwCl wl H) (hD : va_D A wl) (hS : va_S A s.heap H locs) (hA : ∀ q : Nat, s.heap.size ≤ q → A q) {n : Int32} {N' : Nat} (hn : ¬ n < 0) (hN : n.toNatClampNeg = N') (hbytes : N' * componentBytes .long ≤ 536870912) (hcells : cells + 1 ≤ R.cells) (hslots : slots + N' ≤ R.slots) (hd : decode cc pc = .ok (.newarray .long, 2))
    (kk : ∀ (q : Nat) (H1 : Heap), va_P D vwCl (wl ++ [(q, .inl (cJ, N', .inr (.inl (fun _ => 0))))]) H1 → va_D A (wl ++ [(q, .inl (cJ, N', .inr (.inl (fun _ => 0))))]) → va_S A s.heap H1 locs → W p l e R s m args below meth c H1 locs (cells + 1) (slots + N') Q (F0 m (pc + 2) ls (.ref q :: rest))) : W p l e R s m args below meth c H locs cells slots Q (F0 m pc ls (.int n :: rest)) := by
  refine va_newa (ty := .long) (a0 := (N', .inr (.inl (fun _ => 0)))) hx hb harr rfl hK hP hD hS hA (fun _ => rfl) hn hN hbytes hcells hslots hd (fun q cA H1 hK1 hP1 hD1 hS1 => ?_)
  have e1 : s.vm.findClass ("[" ++ FieldType.long.toString) = some cA := (hK1.2 3 (cA, .long) rfl).2
  have e2 : s.vm.findClass ("[" ++ FieldType.long.toString) = some cJ := (hK.2 1 (cJ, .long) rfl).2
  cases Option.some.inj (e1.symm.trans e2)
  exact kk q H1 hP1 hD1 hS1
theorem kt_newz (hx : p.tables.exec = Jvm.exec) (hb : c.code = cc) (harr : (Cond.arrayClass .boolean).before args s = true) (hK : va_K D vwCl [(cI, .int), (cJ, .long), (cZ, .boolean)] s) (hP : va_P D vwCl wl H) (hD : va_D A wl) (hS : va_S A s.heap H locs) (hA : ∀ q : Nat, s.heap.size ≤ q → A q) {n : Int32} {N' : Nat} (hn : ¬ n < 0) (hN : n.toNatClampNeg = N') (hbytes : N' * componentBytes .boolean ≤ 536870912) (hcells : cells + 1 ≤ R.cells) (hslots : slots + N' ≤ R.slots) (hd : decode cc pc = .ok (.newarray .boolean, 2))
    (kk : ∀ (q : Nat) (H1 : Heap), va_P D vwCl (wl ++ [(q, .inl (cZ, N', .inl (fun _ => 0)))]) H1 → va_D A (wl ++ [(q, .inl (cZ, N', .inl (fun _ => 0)))]) → va_S A s.heap H1 locs → W p l e R s m args below meth c H1 locs (cells + 1) (slots + N') Q (F0 m (pc + 2) ls (.ref q :: rest))) : W p l e R s m args below meth c H locs cells slots Q (F0 m pc ls (.int n :: rest)) := by
  refine va_newa (ty := .boolean) (a0 := (N', .inl (fun _ => 0))) hx hb harr rfl hK hP hD hS hA (fun _ => rfl) hn hN hbytes hcells hslots hd (fun q cA H1 hK1 hP1 hD1 hS1 => ?_)
  have e1 : s.vm.findClass ("[" ++ FieldType.boolean.toString) = some cA := (hK1.2 3 (cA, .boolean) rfl).2
  have e2 : s.vm.findClass ("[" ++ FieldType.boolean.toString) = some cZ := (hK.2 2 (cZ, .boolean) rfl).2
  cases Option.some.inj (e1.symm.trans e2)
  exact kk q H1 hP1 hD1 hS1
end KT2
section KT3
variable {p : Program} {l : Launch} {e : Env} {R : Room} {s : State} {m : MethodId} {args : Array Value} {below : List Frame} {meth : Method} {c : Code} {H : Heap} {locs : List Loc} {cells slots : Nat}
variable {y : MethodName} {bytes cc : ByteArray} {maxL nL mc ms n index : Nat} {ret : Option FieldType} {ws : List Cond} {rm : Room} {Pc : Array Value → State → Prop} {Qc : Array Value → State → Outcome → State → Prop} {XC : String → State → State → Prop} {free : Addr → Prop} {Ts : List Cond} {own C host : String} {b : Addr} {As rest : List Value} {g : JFrame}
/-- a private method of a nest mate that may throw -/
theorem kt_runVN (S : CallFix p m c cc nL s args Ts own) (hM : vx_Met l y ws rm Pc Qc XC mc ms free) (cw : va_CN R s args own index y host bytes maxL ret ws rm mc ms n ∧ (Cond.instanceMethod y).before args s = true ∧ (Cond.selects C y y).before args s = true) (hp : PreV s H C b Pc As)
    (hg : g.method = m) (hn : As.length = n) (hsize : g.locals.size = nL) (hstack : g.stack = As.reverse ++ .ref b :: rest) (hW : 2 * g.monitorRoom + (rest.map fun v => v.category).sum ≤ 8) (hdg : decode cc g.pc = .ok (.invokevirtual index, 3)) (hf : cells + mc ≤ R.cells ∧ slots + ms ≤ R.slots) :
    vx_Run p l e R s m args below meth c H locs cells slots mc ms g rest (Qc (Value.ref b :: As).toArray) XC free := by
  obtain ⟨⟨⟨hrc, hrs, hfr, hlo, hws, hcw⟩, hcode, hini, hy, hlen, hlink⟩, hinst, hsel⟩ := cw
  have hK : vx_Back l R p e below s args y 3 8 (PreOf R mc ms Pc) (PostOf Qc mc ms free) (vx_Post XC mc ms free) := vx_back (bytes := bytes) (maxL := maxL) (ret := ret) hM hp.1 hrc hrs hfr hlo hws hcw (fun a' U hW => word_at hW (Or.inl (by first | rfl | simp [Cond.onTables, Cond.keeps, Cond.steady])) hini)
  obtain ⟨hx, hb, hml, ho, -⟩ := S
  obtain ⟨-, ⟨cellB, hcB, hoB, hclB⟩, hPc⟩ := hp
  obtain ⟨mk, methM, hnamed, hmethM, hstM, habM⟩ := Cond.instanceMethod_spec hinst
  obtain ⟨methM', cM, hmethM', -, -, -, -, -, -, hsigM⟩ := Cond.code_spec hnamed hcode
  cases hmethM.symm.trans hmethM'
  obtain ⟨c2, r2, m2, q1, q2, q3, q4, kP, hkP, hkPi⟩ := Cond.selects_spec hsel
  cases hclB.symm.trans q1
  cases (State.methodFound?_of_named hnamed hy).symm.trans q2
  cases hnamed.symm.trans q3
  intro T hT X
  have hselP : selectMethod e.platform s.vm cellB.cls mk = .method mk := by rw [Launch.admits_selectMethod X.admits]; exact q4
  obtain ⟨vm₁, X₁, st1⟩ := X.invokevirtualNest hx ho hlink hnamed hmethM hstM hkP hkPi hy (a := b) (cell := cellB) (by rw [hT]; exact hcB)
    (fun z h => by rw [h] at hoB; cases hoB) hselP hmethM habM hkP hkPi (g := g) hg (argsL := As) (rest := rest) (hn.trans (hlen _ hsigM)) hstack (by rw [hb]; exact hdg)
  rcases hK m meth c ⟨T.setVm vm₁, locs, cells, slots⟩ { g with stack := rest } (.invokevirtual index) mk (Value.ref b :: As).toArray X₁ hg (hsize.trans hml.symm) (by rw [hb]; exact hdg) hW (X₁.named hnamed) ⟨hf.1, hf.2, hPc (T.setVm vm₁) hT X₁.warmed⟩ with ⟨v, ⟨U', l2, c2, s2⟩, X', ⟨g', mk', t, L, e1, e2, hq, h1, hL, h2, h3⟩, st⟩ | ⟨q, ⟨U', l2, c2, s2⟩, X', ⟨g', mk', t, L, E, ce, e1, e2, hq, hce, hcv, hcl, h1, hL, h2, h3⟩, st⟩
  · dsimp only [Pt.U, Pt.locs, Pt.cells, Pt.slots] at X' e1 e2 h1 h2 h3 st
    subst h1; subst h2; subst h3
    exact Or.inl ⟨v, (T.setVm vm₁).calling g' mk' (Value.ref b :: As).toArray, t, U', L, hT, X', hL, e1, e2, hq, fun target h => st1 _ fun acts => by rw [doInvoke_state]; exact st.trans h⟩
  · dsimp only [Pt.U, Pt.locs, Pt.cells, Pt.slots] at X' e1 e2 h1 h2 h3 st hcl
    subst h1; subst h2; subst h3
    exact Or.inr ⟨q, (T.setVm vm₁).calling g' mk' (Value.ref b :: As).toArray, t, U', L, E, ce, hT, X', hL, e1, e2, hq, hce, hcv, vx_cls X₁.warmed hcl, st1 _ fun acts => by rw [doInvoke_state]; exact st⟩
end KT3
