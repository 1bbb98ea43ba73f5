/-! Frame rows of this claim: what every contract takes and gives; entry, end and call of a method in these words. -/
section KT0
/-- a word that no warming takes away, among those that are no good words -/
def kt_isN (w : Cond) : Bool := match w with
  | .fieldLinkNest _ _ _ _ _ _ => true
  | .methodLinkNest _ _ _ _ => true
  | .castable _ _ => true
  | .declares _ => true
  | _ => false
theorem kt_warm {w : Cond} (h : kt_isN w = true) {s U : State} (hW : s.WarmedH U.vm) (hZ : va_Nw w s) : va_Nw w U := by
  cases w <;> first | exact va_Nw.warmF hW hZ | exact va_Nw.warmM hW hZ | exact va_Nw.warmC hW hZ | exact va_Nw.warmD hW hZ | cases h
theorem kt_N_ok : ∀ w ∈ kt_N, kt_isN w = true := by decide +kernel
theorem kt_N_on : ∀ w ∈ kt_N, w.onTables = true := by decide +kernel
theorem kt_Nm {w : Cond} (i : Nat) (h : kt_N[i]? = some w) : w ∈ kt_N := List.mem_of_getElem? h
theorem kt_Tm {x : String × Nat × String} (i : Nat) (h : kt_T[i]? = some x) : x ∈ kt_T := List.mem_of_getElem? h
/-- the tables' facts -/
def kt_C (D : va_G) (cI cJ cZ : ClassId) (s : State) : Prop := va_K D vwCl [(cI, .int), (cJ, .long), (cZ, .boolean)] s ∧ ∀ w ∈ kt_N, va_Nw w s
theorem kt_C.moved {D : va_G} {cI cJ cZ : ClassId} {s U : State} (h : kt_C D cI cJ cZ s) (hW : s.WarmedH U.vm) : kt_C D cI cJ cZ U :=
  ⟨va_K.moved hW.alike h.1, fun w hw => kt_warm (kt_N_ok w hw) hW (h.2 w hw)⟩
theorem kt_C.calling {D : va_G} {cI cJ cZ : ClassId} {U : State} {g : JFrame} {mk : MethodId} {a : Array Value} (h : kt_C D cI cJ cZ U) : kt_C D cI cJ cZ (U.calling g mk a) :=
  ⟨va_K.moved (u := U) (U := U.calling g mk a) (Vm.Alike.refl U.vm) h.1, fun w hw => va_Nw.same (u := U) (U := U.calling g mk a) (kt_N_on w hw) rfl (h.2 w hw)⟩
/-- the words of a throw are good ones or among the others -/
theorem kt_at {D : va_G} {cI cJ cZ : ClassId} {args : Array Value} {s : State} {L : List Cond} (hG : ∀ w ∈ kt_G, w.before args s = true) (hC : kt_C D cI cJ cZ s) (h : ∀ w ∈ L, w ∈ kt_G ∨ w ∈ kt_N) : ∀ w ∈ L, w.before args s = true :=
  fun w hw => (h w hw).elim (hG w) (fun h9 => va_Nw.use (kt_N_on w h9) (hC.2 w h9))
theorem kt_og {L : List Cond} {a b : Cond} (h1 : a ∈ kt_G) (h2 : b ∈ kt_G) (h : ∀ w ∈ L, w ∈ kt_G ∨ w ∈ kt_N) : ∀ w ∈ a :: b :: L, vx_ot w = true := by
  have hg : ∀ w ∈ kt_G, vx_ot w = true := fun w hw => by simp [vx_ot, kt_G_good hw]
  intro w hw
  rcases List.mem_cons.mp hw with rfl | hw
  · exact hg _ h1
  · rcases List.mem_cons.mp hw with rfl | hw
    · exact hg _ h2
    · rcases h w hw with h9 | h9
      · exact hg _ h9
      · simp [vx_ot, kt_N_on w h9]
theorem kt_g0 {w : Cond} (h : w ∈ kt_G) : GoodIn kt_G (w :: kt_G) := fun z hz => by
  have h1 : z ∈ kt_G := (List.mem_cons.mp hz).elim (fun e => e ▸ h) id
  exact ⟨h1, good_of_word (kt_G_good h1)⟩
theorem kt_gS {own : String} {idx : Nat} {y : MethodName} {w : Cond} (h1 : Cond.methodLink own idx y ∈ kt_G) (h2 : Cond.static y ∈ kt_G) (h3 : Cond.initialized y.cls ∈ kt_G) (h : w ∈ kt_G) : GoodIn kt_G (va_wsS own idx y (w :: kt_G)) := fun z hz => by
  have h1 : z ∈ kt_G := by
    unfold va_wsS at hz
    rcases List.mem_append.mp hz with hz | hz
    · simp only [List.mem_cons, List.not_mem_nil, or_false] at hz
      rcases hz with rfl | rfl | rfl
      · exact h1
      · exact h2
      · exact h3
    · exact (List.mem_cons.mp hz).elim (fun e => e ▸ h) id
  exact ⟨h1, good_of_word (kt_G_good h1)⟩
def kt_NC : List (String × String) := [("java/lang/IllegalArgumentException", "java/lang/UnsupportedOperationException"), ("java/lang/IllegalArgumentException", "java/lang/IndexOutOfBoundsException"), ("java/lang/IllegalArgumentException", "java/lang/IllegalStateException"), ("java/lang/UnsupportedOperationException", "java/lang/IllegalArgumentException"), ("java/lang/UnsupportedOperationException", "java/lang/IndexOutOfBoundsException"), ("java/lang/UnsupportedOperationException", "java/lang/IllegalStateException"), ("java/lang/IndexOutOfBoundsException", "java/lang/IllegalArgumentException"), ("java/lang/IndexOutOfBoundsException", "java/lang/UnsupportedOperationException"), ("java/lang/IndexOutOfBoundsException", "java/lang/IllegalStateException"), ("java/lang/IllegalStateException", "java/lang/IllegalArgumentException"), ("java/lang/IllegalStateException", "java/lang/UnsupportedOperationException"), ("java/lang/IllegalStateException", "java/lang/IndexOutOfBoundsException")]
/-- what a throw needs of the start: two statics, the texts; what is no kind of what -/
def kt_Z (A : Nat → Prop) (s : State) (H : Heap) : Prop := (vx_Zq Bundle.tN "UNASSIGNED_STACK" Bundle.steD A s H ∧ ∀ x ∈ kt_NC, va_Nc x.1 x.2 s) ∧ vx_Zq Bundle.tN "SUPPRESSED_SENTINEL" Bundle.listD A s H ∧ ∀ x ∈ kt_T, ∃ sa, vk_R x.1 x.2.1 x.2.2 sa s
theorem kt_Z.moved {A B : Nat → Prop} {s U : State} {H : Heap} {locs : List Loc} (h : kt_Z A s s.heap) (hS : va_S A s.heap H locs) (hU : U.heap = H) (hW : s.WarmedH U.vm) (hB : ∀ q, B q → A q) : kt_Z B U U.heap := by
  rw [hU]
  exact ⟨⟨(vx_Zq.moved hW.alike (h.1.1.kept hS.2.1)).narrow hB, fun x hx => va_Nc.moved hW.alike (h.1.2 x hx)⟩, (vx_Zq.moved hW.alike (h.2.1.kept hS.2.1)).narrow hB, fun x hx => by
    obtain ⟨sa, hr⟩ := h.2.2 x hx
    exact ⟨sa, vk_R.warm hW hr⟩⟩
theorem kt_Z.calling {A : Nat → Prop} {U : State} {g : JFrame} {mk : MethodId} {a : Array Value} (h : kt_Z A U U.heap) : kt_Z A (U.calling g mk a) (U.calling g mk a).heap :=
  ⟨⟨vx_Zq.moved (u := U) (U := U.calling g mk a) (Vm.Alike.refl U.vm) h.1.1, fun x hx => va_Nc.moved (u := U) (U := U.calling g mk a) (Vm.Alike.refl U.vm) (h.1.2 x hx)⟩, vx_Zq.moved (u := U) (U := U.calling g mk a) (Vm.Alike.refl U.vm) h.2.1, fun x hx => by
    obtain ⟨sa, hr⟩ := h.2.2 x hx
    exact ⟨sa, vk_R.same rfl hr⟩⟩
/-- a world ahead of a method -/
def kt_W (D : va_G) (cI cJ cZ : ClassId) (A : Nat → Prop) (ws : va_W) (U : State) : Prop := kt_C D cI cJ cZ U ∧ kt_Z A U U.heap ∧ va_P D vwCl ws U.heap ∧ va_D A ws
/-- a world behind it -/
def kt_V (D : va_G) (A : Nat → Prop) (ws : va_W) (t : State) : Prop := va_P D vwCl ws t.heap ∧ va_D A ws
def kt_P (D : va_G) (cI cJ cZ : ClassId) (W0 : va_W) (sz : Nat) (av : List Value) : Array Value → State → Prop := va_Pc av (fun U => U.heap.size = sz ∧ kt_W D cI cJ cZ (va_A W0 sz) W0 U)
theorem kt_blind {D : va_G} {cI cJ cZ : ClassId} {W0 : va_W} {sz : Nat} {av : List Value} : FrameBlind (kt_P D cI cJ cZ W0 sz av) := by
  intro a U g mk h
  obtain ⟨h1, h2, h3, h4, h5, h6⟩ := h
  exact ⟨h1, h2, h3.calling, h4.calling, h5, h6⟩
def kt_Qi (D : va_G) (A : Nat → Prop) {S : Type} (post : Int32 → S → Prop) (W1 : S → va_W) : Array Value → State → Outcome → State → Prop := va_Qi post (fun u t => kt_V D A (W1 u) t) A
def kt_Qv (D : va_G) (A : Nat → Prop) {S : Type} (post : S → Prop) (W1 : S → va_W) : Array Value → State → Outcome → State → Prop := va_Qv post (fun u t => kt_V D A (W1 u) t) A
def kt_X (D : va_G) (A : Nat → Prop) (W0 : va_W) (postX : String → Prop) : String → State → State → Prop := vx_X (fun _ : Unit => True) (fun E _ t => postX E ∧ kt_V D A W0 t) A
/-- contracts: answer an int, answer nothing; the same that may throw -/
abbrev kt_Mi (l : Launch) (y : MethodName) (w0 : Cond) (rm : Room) (D : va_G) (cI cJ cZ : ClassId) (W0 : va_W) (sz : Nat) (av : List Value) {S : Type} (post : Int32 → S → Prop) (W1 : S → va_W) (mc ms : Nat) : Prop :=
  Met l y (w0 :: kt_G) rm (kt_P D cI cJ cZ W0 sz av) (kt_Qi D (va_A W0 sz) post W1) mc ms (va_A W0 sz)
abbrev kt_Mv (l : Launch) (y : MethodName) (w0 : Cond) (rm : Room) (D : va_G) (cI cJ cZ : ClassId) (W0 : va_W) (sz : Nat) (av : List Value) {S : Type} (post : S → Prop) (W1 : S → va_W) (mc ms : Nat) : Prop :=
  Met l y (w0 :: kt_G) rm (kt_P D cI cJ cZ W0 sz av) (kt_Qv D (va_A W0 sz) post W1) mc ms (va_A W0 sz)
abbrev kt_Xi (l : Launch) (y : MethodName) (w0 : Cond) (rm : Room) (D : va_G) (cI cJ cZ : ClassId) (W0 : va_W) (sz : Nat) (av : List Value) {S : Type} (post : Int32 → S → Prop) (W1 : S → va_W) (postX : String → Prop) (mc ms : Nat) : Prop :=
  vx_Met l y (w0 :: kt_G) rm (kt_P D cI cJ cZ W0 sz av) (kt_Qi D (va_A W0 sz) post W1) (kt_X D (va_A W0 sz) W0 postX) mc ms (va_A W0 sz)
abbrev kt_Xv (l : Launch) (y : MethodName) (w0 : Cond) (rm : Room) (D : va_G) (cI cJ cZ : ClassId) (W0 : va_W) (sz : Nat) (av : List Value) {S : Type} (post : S → Prop) (W1 : S → va_W) (postX : String → Prop) (mc ms : Nat) : Prop :=
  vx_Met l y (w0 :: kt_G) rm (kt_P D cI cJ cZ W0 sz av) (kt_Qv D (va_A W0 sz) post W1) (kt_X D (va_A W0 sz) W0 postX) mc ms (va_A W0 sz)
/-- what a body begins with -/
def kt_In (p : Program) (s : State) (m : MethodId) (args : Array Value) (meth : Method) (c : Code) (cc : ByteArray) (maxL : Nat) (ret : Option FieldType) (y : MethodName) (D : va_G) (cI cJ cZ : ClassId) (A : Nat → Prop) : Prop :=
  p.tables.exec = Jvm.exec ∧ c.code = cc ∧ meth.sig.returnType = ret ∧ (∀ w ∈ kt_G, w.before args s = true) ∧ s.vm.findClass y.cls = some m.cls ∧ meth.locks = false ∧ meth.name = y.name ∧ c.maxLocals = maxL ∧ kt_C D cI cJ cZ s ∧ kt_Z A s s.heap ∧ ∀ q : Nat, s.heap.size ≤ q → A q
end KT0
