section
-- ===== PART A: goes FIRST, ahead of the names: the tables' words, and 'selects' of the private methods out of them =====
/-- a private method of a class that the tables say can be made, by its rows of tables_1 -/
def lw_okq (q : MethodName × Nat) : Prop := (q.1.cls ≠ "java/lang/invoke/MethodHandle" ∧ q.1.cls ≠ "java/lang/invoke/VarHandle") ∧ Cond.instantiable q.1.cls q.2 ∈ tables_1 ∧ Cond.privateMethod q.1 ∈ tables_1 ∧ Cond.instanceMethod q.1 ∈ tables_1
theorem lw_p0 : lw_okq (⟨"java/lang/Throwable", "fillInStackTrace", "(I)Ljava/lang/Throwable;"⟩, 6) := ⟨⟨by decide +kernel, by decide +kernel⟩, List.mem_of_getElem? (i := 228) (by decide +kernel), List.mem_of_getElem? (i := 226) (by decide +kernel), List.mem_of_getElem? (i := 227) (by decide +kernel)⟩
theorem lw_p1 : lw_okq (⟨"CutShears$LossTable", "add", "(III)I"⟩, 7) := ⟨⟨by decide +kernel, by decide +kernel⟩, List.mem_of_getElem? (i := 24) (by decide +kernel), List.mem_of_getElem? (i := 258) (by decide +kernel), List.mem_of_getElem? (i := 259) (by decide +kernel)⟩
theorem lw_p2 : lw_okq (⟨"CutShears$LossTable", "fill", "()V"⟩, 7) := ⟨⟨by decide +kernel, by decide +kernel⟩, List.mem_of_getElem? (i := 24) (by decide +kernel), List.mem_of_getElem? (i := 278) (by decide +kernel), List.mem_of_getElem? (i := 279) (by decide +kernel)⟩
theorem lw_p3 : lw_okq (⟨"CutShears$LossTable", "tryFirst", "(II)V"⟩, 7) := ⟨⟨by decide +kernel, by decide +kernel⟩, List.mem_of_getElem? (i := 24) (by decide +kernel), List.mem_of_getElem? (i := 283) (by decide +kernel), List.mem_of_getElem? (i := 284) (by decide +kernel)⟩
theorem lw_p4 : lw_okq (⟨"CutShears$BarPlan", "planRest", "(LCutShears$LossTable;)V"⟩, 11) := ⟨⟨by decide +kernel, by decide +kernel⟩, List.mem_of_getElem? (i := 56) (by decide +kernel), List.mem_of_getElem? (i := 290) (by decide +kernel), List.mem_of_getElem? (i := 291) (by decide +kernel)⟩
theorem lw_p5 : lw_okq (⟨"CutShears$BarPlan", "startBar", "(II)V"⟩, 11) := ⟨⟨by decide +kernel, by decide +kernel⟩, List.mem_of_getElem? (i := 56) (by decide +kernel), List.mem_of_getElem? (i := 310) (by decide +kernel), List.mem_of_getElem? (i := 311) (by decide +kernel)⟩
theorem lw_p6 : lw_okq (⟨"CutShears$BarPlan", "changeCrops", "(II)V"⟩, 11) := ⟨⟨by decide +kernel, by decide +kernel⟩, List.mem_of_getElem? (i := 56) (by decide +kernel), List.mem_of_getElem? (i := 321) (by decide +kernel), List.mem_of_getElem? (i := 322) (by decide +kernel)⟩
theorem lw_p7 : lw_okq (⟨"CutShears$BarPlan", "requireCutsFit", "(I)V"⟩, 11) := ⟨⟨by decide +kernel, by decide +kernel⟩, List.mem_of_getElem? (i := 56) (by decide +kernel), List.mem_of_getElem? (i := 328) (by decide +kernel), List.mem_of_getElem? (i := 329) (by decide +kernel)⟩
theorem lw_p8 : lw_okq (⟨"CutShears$BarPlan", "learnLength", "(I)V"⟩, 11) := ⟨⟨by decide +kernel, by decide +kernel⟩, List.mem_of_getElem? (i := 56) (by decide +kernel), List.mem_of_getElem? (i := 340) (by decide +kernel), List.mem_of_getElem? (i := 341) (by decide +kernel)⟩
theorem lw_p9 : lw_okq (⟨"CutShears$BarPlan", "wantedOf", "(I)I"⟩, 11) := ⟨⟨by decide +kernel, by decide +kernel⟩, List.mem_of_getElem? (i := 56) (by decide +kernel), List.mem_of_getElem? (i := 371) (by decide +kernel), List.mem_of_getElem? (i := 372) (by decide +kernel)⟩
theorem lw_p10 : lw_okq (⟨"CutShears$BarPlan", "beginOf", "(I)I"⟩, 11) := ⟨⟨by decide +kernel, by decide +kernel⟩, List.mem_of_getElem? (i := 56) (by decide +kernel), List.mem_of_getElem? (i := 375) (by decide +kernel), List.mem_of_getElem? (i := 376) (by decide +kernel)⟩
theorem lw_p11 : lw_okq (⟨"CutShears$BarPlan", "stepsOf", "(I)I"⟩, 11) := ⟨⟨by decide +kernel, by decide +kernel⟩, List.mem_of_getElem? (i := 56) (by decide +kernel), List.mem_of_getElem? (i := 379) (by decide +kernel), List.mem_of_getElem? (i := 380) (by decide +kernel)⟩
theorem lw_p12 : lw_okq (⟨"CutShears$CoolingBed", "lay", "(II)I"⟩, 4) := ⟨⟨by decide +kernel, by decide +kernel⟩, List.mem_of_getElem? (i := 134) (by decide +kernel), List.mem_of_getElem? (i := 410) (by decide +kernel), List.mem_of_getElem? (i := 411) (by decide +kernel)⟩
theorem lw_p13 : lw_okq (⟨"CutShears$CutBook", "enter", "(III)V"⟩, 9) := ⟨⟨by decide +kernel, by decide +kernel⟩, List.mem_of_getElem? (i := 99) (by decide +kernel), List.mem_of_getElem? (i := 414) (by decide +kernel), List.mem_of_getElem? (i := 415) (by decide +kernel)⟩
theorem lw_p14 : lw_okq (⟨"CutShears$BarPlan", "markNextCut", "()V"⟩, 11) := ⟨⟨by decide +kernel, by decide +kernel⟩, List.mem_of_getElem? (i := 56) (by decide +kernel), List.mem_of_getElem? (i := 418) (by decide +kernel), List.mem_of_getElem? (i := 419) (by decide +kernel)⟩
theorem lw_p15 : lw_okq (⟨"CutShears$CoolingBed", "cutOn", "(I)I"⟩, 4) := ⟨⟨by decide +kernel, by decide +kernel⟩, List.mem_of_getElem? (i := 134) (by decide +kernel), List.mem_of_getElem? (i := 438) (by decide +kernel), List.mem_of_getElem? (i := 439) (by decide +kernel)⟩
def lw_privs_1 : List (MethodName × Nat) := [(⟨"java/lang/Throwable", "fillInStackTrace", "(I)Ljava/lang/Throwable;"⟩, 6), (⟨"CutShears$LossTable", "add", "(III)I"⟩, 7), (⟨"CutShears$LossTable", "fill", "()V"⟩, 7), (⟨"CutShears$LossTable", "tryFirst", "(II)V"⟩, 7), (⟨"CutShears$BarPlan", "planRest", "(LCutShears$LossTable;)V"⟩, 11), (⟨"CutShears$BarPlan", "startBar", "(II)V"⟩, 11), (⟨"CutShears$BarPlan", "changeCrops", "(II)V"⟩, 11), (⟨"CutShears$BarPlan", "requireCutsFit", "(I)V"⟩, 11), (⟨"CutShears$BarPlan", "learnLength", "(I)V"⟩, 11), (⟨"CutShears$BarPlan", "wantedOf", "(I)I"⟩, 11), (⟨"CutShears$BarPlan", "beginOf", "(I)I"⟩, 11), (⟨"CutShears$BarPlan", "stepsOf", "(I)I"⟩, 11), (⟨"CutShears$CoolingBed", "lay", "(II)I"⟩, 4), (⟨"CutShears$CutBook", "enter", "(III)V"⟩, 9), (⟨"CutShears$BarPlan", "markNextCut", "()V"⟩, 11), (⟨"CutShears$CoolingBed", "cutOn", "(I)I"⟩, 4)]
theorem lw_r1 : ∀ q ∈ lw_privs_1, lw_okq q := List.forall_mem_cons.mpr ⟨lw_p0, List.forall_mem_cons.mpr ⟨lw_p1, List.forall_mem_cons.mpr ⟨lw_p2, List.forall_mem_cons.mpr ⟨lw_p3, List.forall_mem_cons.mpr ⟨lw_p4, List.forall_mem_cons.mpr ⟨lw_p5, List.forall_mem_cons.mpr ⟨lw_p6, List.forall_mem_cons.mpr ⟨lw_p7, List.forall_mem_cons.mpr ⟨lw_p8, List.forall_mem_cons.mpr ⟨lw_p9, List.forall_mem_cons.mpr ⟨lw_p10, List.forall_mem_cons.mpr ⟨lw_p11, List.forall_mem_cons.mpr ⟨lw_p12, List.forall_mem_cons.mpr ⟨lw_p13, List.forall_mem_cons.mpr ⟨lw_p14, List.forall_mem_cons.mpr ⟨lw_p15, fun _ h => absurd h List.not_mem_nil⟩⟩⟩⟩⟩⟩⟩⟩⟩⟩⟩⟩⟩⟩⟩⟩
theorem lw_p16 : lw_okq (⟨"CutShears$CutBook", "countOnBed", "(I)I"⟩, 9) := ⟨⟨by decide +kernel, by decide +kernel⟩, List.mem_of_getElem? (i := 99) (by decide +kernel), List.mem_of_getElem? (i := 450) (by decide +kernel), List.mem_of_getElem? (i := 451) (by decide +kernel)⟩
theorem lw_p17 : lw_okq (⟨"CutShears$CutBook", "isOnBed", "(II)Z"⟩, 9) := ⟨⟨by decide +kernel, by decide +kernel⟩, List.mem_of_getElem? (i := 99) (by decide +kernel), List.mem_of_getElem? (i := 454) (by decide +kernel), List.mem_of_getElem? (i := 455) (by decide +kernel)⟩
theorem lw_p18 : lw_okq (⟨"CutShears$CutBook", "takeBundle", "(IILCutShears$CoolingBed;)I"⟩, 9) := ⟨⟨by decide +kernel, by decide +kernel⟩, List.mem_of_getElem? (i := 99) (by decide +kernel), List.mem_of_getElem? (i := 459) (by decide +kernel), List.mem_of_getElem? (i := 460) (by decide +kernel)⟩
theorem lw_p19 : lw_okq (⟨"CutShears$CoolingBed", "free", "(I)V"⟩, 4) := ⟨⟨by decide +kernel, by decide +kernel⟩, List.mem_of_getElem? (i := 134) (by decide +kernel), List.mem_of_getElem? (i := 463) (by decide +kernel), List.mem_of_getElem? (i := 464) (by decide +kernel)⟩
theorem lw_p20 : lw_okq (⟨"CutShears$CutBook", "tell", "(II)I"⟩, 9) := ⟨⟨by decide +kernel, by decide +kernel⟩, List.mem_of_getElem? (i := 99) (by decide +kernel), List.mem_of_getElem? (i := 474) (by decide +kernel), List.mem_of_getElem? (i := 475) (by decide +kernel)⟩
theorem lw_p21 : lw_okq (⟨"CutShears$CutBook", "sumOf", "(I)I"⟩, 9) := ⟨⟨by decide +kernel, by decide +kernel⟩, List.mem_of_getElem? (i := 99) (by decide +kernel), List.mem_of_getElem? (i := 496) (by decide +kernel), List.mem_of_getElem? (i := 497) (by decide +kernel)⟩
theorem lw_p22 : lw_okq (⟨"CutShears$CutBook", "sideCut", "(I)I"⟩, 9) := ⟨⟨by decide +kernel, by decide +kernel⟩, List.mem_of_getElem? (i := 99) (by decide +kernel), List.mem_of_getElem? (i := 508) (by decide +kernel), List.mem_of_getElem? (i := 509) (by decide +kernel)⟩
theorem lw_p23 : lw_okq (⟨"CutShearsModel", "goes", "(ZZZ)Z"⟩, 27) := ⟨⟨by decide +kernel, by decide +kernel⟩, List.mem_of_getElem? (i := 512) (by decide +kernel), List.mem_of_getElem? (i := 612) (by decide +kernel), List.mem_of_getElem? (i := 613) (by decide +kernel)⟩
theorem lw_p24 : lw_okq (⟨"CutShearsModel", "taken", "()I"⟩, 27) := ⟨⟨by decide +kernel, by decide +kernel⟩, List.mem_of_getElem? (i := 512) (by decide +kernel), List.mem_of_getElem? (i := 624) (by decide +kernel), List.mem_of_getElem? (i := 625) (by decide +kernel)⟩
theorem lw_p25 : lw_okq (⟨"CutShearsModel", "plan", "()V"⟩, 27) := ⟨⟨by decide +kernel, by decide +kernel⟩, List.mem_of_getElem? (i := 512) (by decide +kernel), List.mem_of_getElem? (i := 639) (by decide +kernel), List.mem_of_getElem? (i := 640) (by decide +kernel)⟩
theorem lw_p26 : lw_okq (⟨"CutShearsModel", "left", "()I"⟩, 27) := ⟨⟨by decide +kernel, by decide +kernel⟩, List.mem_of_getElem? (i := 512) (by decide +kernel), List.mem_of_getElem? (i := 643) (by decide +kernel), List.mem_of_getElem? (i := 644) (by decide +kernel)⟩
theorem lw_p27 : lw_okq (⟨"CutShearsModel", "isBetter", "(IIII)Z"⟩, 27) := ⟨⟨by decide +kernel, by decide +kernel⟩, List.mem_of_getElem? (i := 512) (by decide +kernel), List.mem_of_getElem? (i := 647) (by decide +kernel), List.mem_of_getElem? (i := 648) (by decide +kernel)⟩
theorem lw_p28 : lw_okq (⟨"CutShearsModel", "finds", "(I)Z"⟩, 27) := ⟨⟨by decide +kernel, by decide +kernel⟩, List.mem_of_getElem? (i := 512) (by decide +kernel), List.mem_of_getElem? (i := 655) (by decide +kernel), List.mem_of_getElem? (i := 656) (by decide +kernel)⟩
theorem lw_p29 : lw_okq (⟨"CutShearsModel", "lying", "(I)I"⟩, 27) := ⟨⟨by decide +kernel, by decide +kernel⟩, List.mem_of_getElem? (i := 512) (by decide +kernel), List.mem_of_getElem? (i := 667) (by decide +kernel), List.mem_of_getElem? (i := 668) (by decide +kernel)⟩
theorem lw_p30 : lw_okq (⟨"CutShearsModel", "isWanted", "(I)Z"⟩, 27) := ⟨⟨by decide +kernel, by decide +kernel⟩, List.mem_of_getElem? (i := 512) (by decide +kernel), List.mem_of_getElem? (i := 683) (by decide +kernel), List.mem_of_getElem? (i := 684) (by decide +kernel)⟩
def lw_privs_2 : List (MethodName × Nat) := [(⟨"CutShears$CutBook", "countOnBed", "(I)I"⟩, 9), (⟨"CutShears$CutBook", "isOnBed", "(II)Z"⟩, 9), (⟨"CutShears$CutBook", "takeBundle", "(IILCutShears$CoolingBed;)I"⟩, 9), (⟨"CutShears$CoolingBed", "free", "(I)V"⟩, 4), (⟨"CutShears$CutBook", "tell", "(II)I"⟩, 9), (⟨"CutShears$CutBook", "sumOf", "(I)I"⟩, 9), (⟨"CutShears$CutBook", "sideCut", "(I)I"⟩, 9), (⟨"CutShearsModel", "goes", "(ZZZ)Z"⟩, 27), (⟨"CutShearsModel", "taken", "()I"⟩, 27), (⟨"CutShearsModel", "plan", "()V"⟩, 27), (⟨"CutShearsModel", "left", "()I"⟩, 27), (⟨"CutShearsModel", "isBetter", "(IIII)Z"⟩, 27), (⟨"CutShearsModel", "finds", "(I)Z"⟩, 27), (⟨"CutShearsModel", "lying", "(I)I"⟩, 27), (⟨"CutShearsModel", "isWanted", "(I)Z"⟩, 27)]
theorem lw_r2 : ∀ q ∈ lw_privs_2, lw_okq q := List.forall_mem_cons.mpr ⟨lw_p16, List.forall_mem_cons.mpr ⟨lw_p17, List.forall_mem_cons.mpr ⟨lw_p18, List.forall_mem_cons.mpr ⟨lw_p19, List.forall_mem_cons.mpr ⟨lw_p20, List.forall_mem_cons.mpr ⟨lw_p21, List.forall_mem_cons.mpr ⟨lw_p22, List.forall_mem_cons.mpr ⟨lw_p23, List.forall_mem_cons.mpr ⟨lw_p24, List.forall_mem_cons.mpr ⟨lw_p25, List.forall_mem_cons.mpr ⟨lw_p26, List.forall_mem_cons.mpr ⟨lw_p27, List.forall_mem_cons.mpr ⟨lw_p28, List.forall_mem_cons.mpr ⟨lw_p29, List.forall_mem_cons.mpr ⟨lw_p30, fun _ h => absurd h List.not_mem_nil⟩⟩⟩⟩⟩⟩⟩⟩⟩⟩⟩⟩⟩⟩⟩
def lw_privs : List (MethodName × Nat) := lw_privs_1 ++ (lw_privs_2)
def lw_tbl : List Cond := k2_sels lw_privs ++ tables_1
theorem lw_privs_ok : ∀ q ∈ lw_privs, lw_okq q := by
  show ∀ q ∈ lw_privs_1 ++ (lw_privs_2), lw_okq q
  exact List.forall_mem_append.mpr ⟨lw_r1, lw_r2⟩
end
section
/-! ===== BEGIN words of one list among another's, by their places ===== -/
theorem goodIn_r {big : List Cond} (ws : List Cond) (ps : List Nat) (hp : ws = ps.filterMap (fun i => big[i]?)) (h : ws.all goodWord = true) : GoodIn big ws := by
  intro w hw
  have h1 := List.all_eq_true.mp h w hw
  rw [hp] at hw
  obtain ⟨i, -, hi⟩ := List.mem_filterMap.mp hw
  have hm : w ∈ big := by first | exact List.mem_of_getElem? hi | exact List.getElem?_mem hi
  exact ⟨hm, good_of_word h1⟩
theorem goodIn_app {big a b : List Cond} (ha : GoodIn big a) (hb : GoodIn big b) : GoodIn big (a ++ b) := fun w h => (List.mem_append.mp h).elim (ha w) (hb w)
theorem goodIn_ca {big a b : List Cond} {c : Cond} (ha : GoodIn big (c :: a)) (hb : GoodIn big b) : GoodIn big (c :: (a ++ b)) := fun w h => (List.mem_cons.mp h).elim (fun e => ha w (List.mem_cons.mpr (Or.inl e))) (fun h => (List.mem_append.mp h).elim (fun h => ha w (List.mem_cons.mpr (Or.inr h))) (hb w))
theorem goodIn_sub {big ws : List Cond} (hm : ∀ w ∈ ws, w ∈ big) (h : ws.all goodWord = true) : GoodIn big ws := fun w hw => ⟨hm w hw, good_of_word (List.all_eq_true.mp h w hw)⟩
/-! ===== END ===== -/

/-! ===== BEGIN exceptions that leave a method, and their catching by the caller (launches without stack traces) ===== -/
section VXA
/-! The laws vx_back, vx_callV, vx_callS, vx_callSW, vx_throw0, vx_throwS follow proofs of the library, with one case more: JvmDerived/Free/Laws.lean (Back.of_free), Shelf42/LK1.lean (callV, callS), Shelf/KitTraced.lean (throwNew0V, throwNewS). -/
/-- where a method has thrown q: the class by its name, the cell, what was written, the world -/
def vx_T (XC : String → State → State → Prop) (st : State) (q : Addr) (t : State) (mc ms : Nat) (free : Addr → Prop) : Prop :=
  ∃ (E : String) (ce : Cell) (L : List Loc), XC E st t ∧ t.heap[q]? = some ce ∧ ce.vm = .none ∧ st.vm.findClass E = some ce.cls ∧ st.WarmedH t.vm ∧ st.sameButNew ({ t with vm := st.vm } : State) L mc ms ∧ ∀ z ∈ L, free z.base
def vx_Q (Qc : Array Value → State → Outcome → State → Prop) (XC : String → State → State → Prop) (mc ms : Nat) (free : Addr → Prop) : Array Value → State → Outcome → State → Prop := fun a st o t =>
  (Qc a st o t ∧ ∃ L, FrameEnd st o t L mc ms ∧ ∀ q ∈ L, free q.base) ∨ ∃ q, o = .threw q ∧ vx_T XC st q t mc ms free
/-- a callee that returns or throws -/
def vx_Met (l : Launch) (y : MethodName) (ws : List Cond) (rm : Room) (Pc : Array Value → State → Prop) (Qc : Array Value → State → Outcome → State → Prop) (XC : String → State → State → Prop) (mc ms : Nat) (free : Addr → Prop) : Prop :=
  MetFree l y (headSpec ws rm) Pc (fun _ _ _ _ _ => True) (vx_Q Qc XC mc ms free)
def vx_Post (XC : String → State → State → Prop) (mc ms : Nat) (free : Addr → Prop) : Pt → Array Value → Addr → Pt → Prop := fun A a q B =>
  ∃ (g : JFrame) (mk : MethodId) (t : State) (L : List Loc) (E : String) (ce : Cell), B.U.heap = t.heap ∧ B.U.vm = t.vm ∧ XC E (A.U.calling g mk a) t ∧ t.heap[q]? = some ce ∧ ce.vm = .none ∧ A.U.vm.findClass E = some ce.cls ∧ B.locs = A.locs ++ L ∧ (∀ z ∈ L, free z.base) ∧ B.cells = A.cells + mc ∧ B.slots = A.slots + ms
def vx_Back (l : Launch) (R : Room) (p : Program) (e : Env) (below : List Frame) (s : State) (sargs : Array Value) (y : MethodName) (len W9 : Nat)
    (Pre : Pt → Array Value → Prop) (Post : Pt → Array Value → Option Value → Pt → Prop) (PostX : Pt → Array Value → Addr → Pt → Prop) : Prop :=
  ∀ (m : MethodId) (meth : Method) (c : Code) (A : Pt) (g : JFrame) (ig : Instr) (mk : MethodId) (a : Array Value),
    Stand p l e R s m sargs below meth c A.U A.locs A.cells A.slots → g.method = m → g.locals.size = c.maxLocals → decode c.code g.pc = .ok (ig, len) →
    2 * g.monitorRoom + (g.stack.map fun v => v.category).sum ≤ W9 → A.U.methodNamed? y = some mk → Pre A a →
    (∃ (v : Option Value) (B : Pt), Stand p l e R s m sargs below meth c B.U B.locs B.cells B.slots ∧ Post A a v B ∧
      Steps p.tables e below (doInvoke e (A.U.setTop g) [] mk a).1 (B.U.setTop { g with pc := g.pc + len, stack := v.toList ++ g.stack })) ∨
    (∃ (q : Addr) (B : Pt), Stand p l e R s m sargs below meth c B.U B.locs B.cells B.slots ∧ PostX A a q B ∧
      Steps p.tables e below (doInvoke e (A.U.setTop g) [] mk a).1 ((B.U.setTop g).pushFrame (.throwing q)))
section Payer
variable {l : Launch} {R : Room} {p : Program} {e : Env} {below : List Frame} {s : State} {sargs : Array Value} {y : MethodName} {len W9 : Nat}
theorem vx_back {ws : List Cond} {rm : Room} {Pc : Array Value → State → Prop} {Qc : Array Value → State → Outcome → State → Prop} {XC : String → State → State → Prop} {mc ms : Nat} {free : Addr → Prop} {bytes : ByteArray} {maxL : Nat} {ret : Option FieldType}
    (hM : vx_Met l y ws rm Pc Qc XC mc ms free) (hblind : FrameBlind Pc) (hrc : rm.cells = mc) (hrs : rm.slots = ms)
    (hframes : rm.frames + 1 ≤ R.frames) (hlocals : W9 + (maxL + 11) + rm.locals ≤ R.locals)
    (hws : ∀ w ∈ ws, ∀ a' U, s.WarmedH U.vm → w.before a' U = true) (hcode : Cond.code y bytes maxL ret ∈ ws) (hinit : ∀ a' U, s.WarmedH U.vm → (Cond.initialized y.cls).before a' U = true) :
    vx_Back l R p e below s sargs y len W9 (PreOf R mc ms Pc) (PostOf Qc mc ms free) (vx_Post XC mc ms free) := by
  intro m meth c A g ig mk a X hg hsize hdg hW hn hp
  have h1 : (headSpec ws rm).pre.before a A.U = true := atoms_intro fun w hw => hws w hw _ _ X.warmed
  have h2 : (Cond.code y bytes maxL ret).before a A.U = true := hws _ hcode _ _ X.warmed
  have h3 : (Cond.initialized y.cls).before a A.U = true := hinit _ _ X.warmed
  have h4 : A.cells + (headSpec ws rm).room.cells ≤ R.cells := by rw [show (headSpec ws rm).room.cells = mc from hrc]; exact hp.1
  have h5 : A.slots + (headSpec ws rm).room.slots ≤ R.slots := by rw [show (headSpec ws rm).room.slots = ms from hrs]; exact hp.2.1
  have hPc : Pc a (A.U.calling g mk a) := hblind _ _ _ _ hp.2.2
  obtain ⟨U, Ls, c0, s0⟩ := A
  dsimp only [Pt.U, Pt.locs, Pt.cells, Pt.slots] at h1 h2 h3 h4 h5 X hn hPc ⊢
  obtain ⟨methY, cY, hmY, hcY, -, hlY, -, -, -, -⟩ := Cond.code_spec hn h2
  obtain ⟨kY, hkY, -⟩ := className_of_methodNamed hn
  have hinitY : kY.init = .initialized := Cond.initialized_spec (findClass_of_methodNamed hn) hkY h3
  have h : At U g.method c below := by rw [hg]; exact X.here
  have hlocals9 : W9 + (maxL + 11) + (headSpec ws rm).room.locals ≤ R.locals := hlocals
  have happ : (headSpec ws rm).appliesLoose y e.platform (U.calling g mk a) = true :=
    Spec.appliesLoose_calling (g := g) h hdg hn hkY hinitY
      (X.room_calling (g := g) (R' := (headSpec ws rm).room) hsize hmY hcY hframes (by rw [hlY]; omega) h4 h5) h1
  obtain ⟨mid, hmid⟩ := h.above
  have hfr : (U.setTop g).frames = (.java g :: mid) ++ below := by rw [State.frames_setTop' g h.top, hmid]; rfl
  obtain ⟨o, s₂, hsteps, -, hend, hq⟩ := Steps.callFree hM p X.admits X.cas X.clock (acts := []) hfr happ hPc trivial
  have hq' : vx_Q Qc XC mc ms free a (U.calling g mk a) o s₂ := hq
  rw [State.frames_setTop' g h.top] at hend
  obtain ⟨g₀, hg0⟩ := Option.isSome_iff_exists.mp h.top
  obtain ⟨r, hr⟩ := State.topJava?_eq_some.mp hg0
  have hr' : (({ U with heap := s₂.heap, slotsUsed := s₂.slotsUsed } : State).setVm s₂.vm).frames = .java g₀ :: r := hr
  rcases hq' with ⟨hqc, L, hfe, hL⟩ | ⟨q, rfl, E, ce, L, hx, hce, hcv, hcl, hW₂, hsm, hL⟩
  · obtain ⟨⟨v, rfl⟩, hW₂, e2, q2, q3, q4, q5, q6⟩ := id hfe
    have e3 : s₂ = ({ (U.calling g mk a).setFrames s₂.frames with heap := s₂.heap, slotsUsed := s₂.slotsUsed } : State).setVm s₂.vm := by
      have : s₂ = ({ s₂ with vm := (U.calling g mk a).vm } : State).setVm s₂.vm := rfl
      rw [e2] at this
      exact this
    obtain ⟨c₂, i₂, len₂, hc₂, hd₂, hf₂⟩ := hend
    have hW' : U.WarmedH s₂.vm := hW₂
    have hcc : c₂ = c := by
      have h1 : s₂.code? g.method = U.code? g.method := by
        rw [State.code?_eq, State.code?_eq, hW'.alike.method?]
      exact Option.some.inj (hc₂.symm.trans (h1.trans h.code))
    subst hcc
    have hlen : len₂ = len := by rw [hdg] at hd₂; cases hd₂; rfl
    subst hlen
    have hs₂ : s₂ = (({ U with heap := s₂.heap, slotsUsed := s₂.slotsUsed } : State).setVm s₂.vm).setTop { g with pc := g.pc + len₂, stack := v.toList ++ g.stack } := by
      refine e3.trans ?_
      rw [hf₂, State.calling_eq h.top, State.setFrames_setFrames, State.setTop_of_frames _ hr', hr]
      rfl
    have hsame : U.sameButNew ({ U with heap := s₂.heap, slotsUsed := s₂.slotsUsed } : State) L mc ms := by
      refine ⟨?_, q2, q3, q4, q5, q6⟩
      obtain ⟨t, ht, -⟩ := State.frames_cons hr
      show ({ U with heap := s₂.heap, slotsUsed := s₂.slotsUsed } : State) = { U.setFrames U.frames with heap := s₂.heap, slotsUsed := s₂.slotsUsed }
      rw [State.setFrames_self ht]
    subst hg
    refine Or.inl ⟨v, ⟨(({ U with heap := s₂.heap, slotsUsed := s₂.slotsUsed } : State).setVm s₂.vm), Ls ++ L, c0 + mc, s0 + ms⟩,
      ⟨X.admits, X.cas, X.clock, X.frames, X.room, X.hears, X.method, X.code, (X.here.setHeapUsed s₂.heap s₂.slotsUsed).setVm hW'.alike, X.tail, State.WarmedH.trans X.warmed hW', X.limits, X.bytes, X.same.trans (hsame.setVm s.vm)⟩,
      ⟨g, mk, s₂, L, rfl, rfl, hqc, rfl, hL, rfl, rfl⟩, ?_⟩
    show Steps p.tables e below _ ((({ U with heap := s₂.heap, slotsUsed := s₂.slotsUsed } : State).setVm s₂.vm).setTop { g with pc := g.pc + len₂, stack := v.toList ++ g.stack })
    rw [← hs₂]
    exact hsteps
  · obtain ⟨e2, q2, q3, q4, q5, q6⟩ := id hsm
    have e3 : s₂ = ({ (U.calling g mk a).setFrames s₂.frames with heap := s₂.heap, slotsUsed := s₂.slotsUsed } : State).setVm s₂.vm := by
      have : s₂ = ({ s₂ with vm := (U.calling g mk a).vm } : State).setVm s₂.vm := rfl
      rw [e2] at this
      exact this
    have hf₂ : s₂.frames = .throwing q :: .java g :: U.frames.tail := hend
    have hW' : U.WarmedH s₂.vm := hW₂
    have hs₂ : s₂ = ((({ U with heap := s₂.heap, slotsUsed := s₂.slotsUsed } : State).setVm s₂.vm).setTop g).pushFrame (.throwing q) := by
      refine e3.trans ?_
      rw [hf₂, State.calling_eq h.top, State.setFrames_setFrames, State.pushFrame, State.frames_setTop _ hr', State.setTop_of_frames _ hr', State.setFrames_setFrames, hr]
      rfl
    have hsame : U.sameButNew ({ U with heap := s₂.heap, slotsUsed := s₂.slotsUsed } : State) L mc ms := by
      refine ⟨?_, q2, q3, q4, q5, q6⟩
      obtain ⟨t, ht, -⟩ := State.frames_cons hr
      show ({ U with heap := s₂.heap, slotsUsed := s₂.slotsUsed } : State) = { U.setFrames U.frames with heap := s₂.heap, slotsUsed := s₂.slotsUsed }
      rw [State.setFrames_self ht]
    subst hg
    refine Or.inr ⟨q, ⟨(({ U with heap := s₂.heap, slotsUsed := s₂.slotsUsed } : State).setVm s₂.vm), Ls ++ L, c0 + mc, s0 + ms⟩,
      ⟨X.admits, X.cas, X.clock, X.frames, X.room, X.hears, X.method, X.code, (X.here.setHeapUsed s₂.heap s₂.slotsUsed).setVm hW'.alike, X.tail, State.WarmedH.trans X.warmed hW', X.limits, X.bytes, X.same.trans (hsame.setVm s.vm)⟩,
      ⟨g, mk, s₂, L, E, ce, rfl, rfl, hx, hce, hcv, hcl, rfl, hL, rfl, rfl⟩, ?_⟩
    show Steps p.tables e below _ (((({ U with heap := s₂.heap, slotsUsed := s₂.slotsUsed } : State).setVm s₂.vm).setTop g).pushFrame (.throwing q))
    rw [← hs₂]
    exact hsteps
end Payer
section Calls
variable {p : Program} {l : Launch} {e : Env} {R : Room} {s : State} {m : MethodId} {args : Array Value} {below : List Frame} {meth : Method} {c : Code} {T : State} {locs : List Loc} {cells slots : Nat}
theorem vx_callV (X : Stand p l e R s m args below meth c T locs cells slots) (hexec : p.tables.exec = Jvm.exec) {own C : String} {index : Nat} {y : MethodName} {bytes : ByteArray} {maxL : Nat} {ret : Option FieldType}
    (hown : s.vm.findClass own = some m.cls) (hlink : (Cond.methodLink own index y).before args s = true) (hinst : (Cond.instanceMethod y).before args s = true) (hsel : (Cond.selects C y y).before args s = true)
    (hcode : (Cond.code y bytes maxL ret).before args s = true) (hy : y.cls ≠ "java/lang/invoke/MethodHandle" ∧ y.cls ≠ "java/lang/invoke/VarHandle")
    {W9 : Nat} {Pre : Pt → Array Value → Prop} {Post : Pt → Array Value → Option Value → Pt → Prop} {PostX : Pt → Array Value → Addr → Pt → Prop} (hK : vx_Back l R p e below s args y 3 W9 Pre Post PostX)
    {b : Addr} {cellB : Cell} (hcell : T.heap[b]? = some cellB) (hobj : cellB.vm.isStatics = false) (hcls : s.vm.findClass C = some cellB.cls)
    {g : JFrame} (hg : g.method = m) (hsize : g.locals.size = c.maxLocals) {argsL rest : List Value} (hlen : ∀ sig, parseMethodDescriptor y.desc = some sig → argsL.length = sig.parameters.length)
    (hstack : g.stack = argsL.reverse ++ .ref b :: rest) (hW : 2 * g.monitorRoom + (rest.map fun v => v.category).sum ≤ W9) (hdg : decode c.code g.pc = .ok (.invokevirtual index, 3))
    (hpre : ∀ vm₁, s.WarmedH vm₁ → Pre ⟨T.setVm vm₁, locs, cells, slots⟩ (Value.ref b :: argsL).toArray) :
    (∃ (v : Option Value) (vm₁ : Vm) (B : Pt), s.WarmedH vm₁ ∧ Stand p l e R s m args below meth c B.U B.locs B.cells B.slots ∧ Post ⟨T.setVm vm₁, locs, cells, slots⟩ (Value.ref b :: argsL).toArray v B ∧
      ∀ target, Steps p.tables e below (B.U.setTop { g with pc := g.pc + 3, stack := v.toList ++ rest }) target → Steps p.tables e below (T.setTop g) target) ∨
    (∃ (q : Addr) (vm₁ : Vm) (B : Pt), s.WarmedH vm₁ ∧ Stand p l e R s m args below meth c B.U B.locs B.cells B.slots ∧ PostX ⟨T.setVm vm₁, locs, cells, slots⟩ (Value.ref b :: argsL).toArray q B ∧
      Steps p.tables e below (T.setTop g) ((B.U.setTop { g with stack := rest }).pushFrame (.throwing q))) := by
  obtain ⟨mk, methM, hnamed, hmethM, hstM, habM⟩ := Cond.instanceMethod_spec hinst
  obtain ⟨methM', cM, hmethM', -, -, -, -, -, -, hsigM⟩ := Cond.code_spec hnamed hcode
  cases hmethM.symm.trans hmethM'
  obtain ⟨c2, r2, m2, q1, q2, q3, q4, kP, hkP, hkPi⟩ := Cond.selects_spec hsel
  cases hcls.symm.trans q1
  cases (State.methodFound?_of_named hnamed hy).symm.trans q2
  cases hnamed.symm.trans q3
  have hselP : selectMethod e.platform s.vm cellB.cls mk = .method mk := by rw [Launch.admits_selectMethod X.admits]; exact q4
  obtain ⟨vm₁, X₁, hstep₁⟩ := X.invokevirtual hexec hown hlink hnamed hmethM hstM hkP hkPi hy (a := b) (cell := cellB) hcell
    (fun z h => by rw [h] at hobj; cases hobj) hselP hmethM habM hkP hkPi (g := g) hg (argsL := argsL) (rest := rest) (hlen _ hsigM) hstack hdg
  rcases hK m meth c ⟨T.setVm vm₁, locs, cells, slots⟩ { g with stack := rest } (.invokevirtual index) mk (Value.ref b :: argsL).toArray X₁ hg hsize hdg hW (X₁.named hnamed) (hpre vm₁ X₁.warmed) with ⟨v, B, X', hpost, hsteps⟩ | ⟨q, B, X', hpost, hsteps⟩
  · exact Or.inl ⟨v, vm₁, B, X₁.warmed, X', hpost, fun target h => hstep₁ _ fun acts => by rw [doInvoke_state]; exact hsteps.trans h⟩
  · exact Or.inr ⟨q, vm₁, B, X₁.warmed, X', hpost, hstep₁ _ fun acts => by rw [doInvoke_state]; exact hsteps⟩
theorem vx_callS (X : Stand p l e R s m args below meth c T locs cells slots) (hexec : p.tables.exec = Jvm.exec) {own : String} {index : Nat} {y : MethodName} {bytes : ByteArray} {maxL : Nat} {ret : Option FieldType}
    (hown : s.vm.findClass own = some m.cls) (hlink : (Cond.methodLink own index y).before args s = true) (hstat : (Cond.static y).before args s = true) (hinit : (Cond.initialized y.cls).before args s = true)
    (hcode : (Cond.code y bytes maxL ret).before args s = true) (hy : y.cls ≠ "java/lang/invoke/MethodHandle" ∧ y.cls ≠ "java/lang/invoke/VarHandle")
    {W9 : Nat} {Pre : Pt → Array Value → Prop} {Post : Pt → Array Value → Option Value → Pt → Prop} {PostX : Pt → Array Value → Addr → Pt → Prop} (hK : vx_Back l R p e below s args y 3 W9 Pre Post PostX)
    {g : JFrame} (hg : g.method = m) (hsize : g.locals.size = c.maxLocals) {argsL rest : List Value} (hlen : ∀ sig, parseMethodDescriptor y.desc = some sig → argsL.length = sig.parameters.length)
    (hstack : g.stack = argsL.reverse ++ rest) (hW : 2 * g.monitorRoom + (rest.map fun v => v.category).sum ≤ W9) (hdg : decode c.code g.pc = .ok (.invokestatic index, 3))
    (hpre : ∀ vm₁, s.WarmedH vm₁ → Pre ⟨T.setVm vm₁, locs, cells, slots⟩ argsL.toArray) :
    (∃ (v : Option Value) (vm₁ : Vm) (B : Pt), s.WarmedH vm₁ ∧ Stand p l e R s m args below meth c B.U B.locs B.cells B.slots ∧ Post ⟨T.setVm vm₁, locs, cells, slots⟩ argsL.toArray v B ∧
      ∀ target, Steps p.tables e below (B.U.setTop { g with pc := g.pc + 3, stack := v.toList ++ rest }) target → Steps p.tables e below (T.setTop g) target) ∨
    (∃ (q : Addr) (vm₁ : Vm) (B : Pt), s.WarmedH vm₁ ∧ Stand p l e R s m args below meth c B.U B.locs B.cells B.slots ∧ PostX ⟨T.setVm vm₁, locs, cells, slots⟩ argsL.toArray q B ∧
      Steps p.tables e below (T.setTop g) ((B.U.setTop { g with stack := rest }).pushFrame (.throwing q))) := by
  obtain ⟨mk, hnamed⟩ := Cond.code_named hcode
  obtain ⟨methM, cM, hmethM, -, -, -, -, -, -, hsigM⟩ := Cond.code_spec hnamed hcode
  have hstatic : methM.isStatic = true := Cond.static_spec hnamed hmethM hstat
  obtain ⟨kP, hkP, -⟩ := className_of_methodNamed hnamed
  have hinitP : kP.init = .initialized := Cond.initialized_spec (findClass_of_methodNamed hnamed) hkP hinit
  obtain ⟨vm₁, X₁, hstep₁⟩ := X.invokestatic hexec hown hlink hnamed hmethM hstatic hkP hinitP hy (g := g) hg (argsL := argsL) (rest := rest) (hlen _ hsigM) hstack hdg
  rcases hK m meth c ⟨T.setVm vm₁, locs, cells, slots⟩ { g with stack := rest } (.invokestatic index) mk argsL.toArray X₁ hg hsize hdg hW (X₁.named hnamed) (hpre vm₁ X₁.warmed) with ⟨v, B, X', hpost, hsteps⟩ | ⟨q, B, X', hpost, hsteps⟩
  · exact Or.inl ⟨v, vm₁, B, X₁.warmed, X', hpost, fun target h => hstep₁ _ fun acts => by rw [doInvoke_state]; exact hsteps.trans h⟩
  · exact Or.inr ⟨q, vm₁, B, X₁.warmed, X', hpost, hstep₁ _ fun acts => by rw [doInvoke_state]; exact hsteps⟩
end Calls
theorem vx_cls {s : State} {T : State} {vm₁ : Vm} {E : String} {k : ClassId} (hW : s.WarmedH vm₁) (h : (T.setVm vm₁).vm.findClass E = some k) : s.vm.findClass E = some k := by
  have h1 : vm₁.findClass E = some k := h
  rw [hW.alike.findClass] at h1
  exact h1
/-- the method's frame g, with q thrown over it -/
def vx_W (p : Program) (l : Launch) (e : Env) (R : Room) (s : State) (m : MethodId) (args : Array Value) (below : List Frame) (meth : Method) (c : Code) (H : Heap) (locs : List Loc) (cells slots : Nat) (Q : State → Prop) (g : JFrame) (q : Addr) : Prop :=
  ∀ T : State, T.heap = H → Stand p l e R s m args below meth c T locs cells slots → ∃ t, Steps p.tables e below ((T.setTop g).pushFrame (.throwing q)) t ∧ Q t
def vx_Run (p : Program) (l : Launch) (e : Env) (R : Room) (s : State) (m : MethodId) (args : Array Value) (below : List Frame) (meth : Method) (c : Code) (H : Heap) (locs : List Loc) (cells slots mc ms : Nat) (g : JFrame) (rest : List Value) (Qa : State → Outcome → State → Prop) (XC : String → State → State → Prop) (free : Addr → Prop) : Prop :=
  ∀ T : State, T.heap = H → Stand p l e R s m args below meth c T locs cells slots →
    (∃ (v : Option Value) (st₀ t T' : State) (L : List Loc), st₀.heap = H ∧ Stand p l e R s m args below meth c T' (locs ++ L) (cells + mc) (slots + ms) ∧ (∀ q ∈ L, free q.base) ∧ T'.heap = t.heap ∧ T'.vm = t.vm ∧ Qa st₀ (.returned v) t ∧
      Goes p e below T g T' { g with pc := g.pc + 3, stack := v.toList ++ rest }) ∨
    (∃ (q : Addr) (st₀ t T' : State) (L : List Loc) (E : String) (ce : Cell), st₀.heap = H ∧ Stand p l e R s m args below meth c T' (locs ++ L) (cells + mc) (slots + ms) ∧ (∀ z ∈ L, free z.base) ∧ T'.heap = t.heap ∧ T'.vm = t.vm ∧ XC E st₀ t ∧ t.heap[q]? = some ce ∧ ce.vm = .none ∧ s.vm.findClass E = some ce.cls ∧
      Steps p.tables e below (T.setTop g) ((T'.setTop { g with stack := rest }).pushFrame (.throwing q)))
def vx_X {S : Type} (px : S → Prop) (B : String → S → State → Prop) (A : Nat → Prop) : String → State → State → Prop := fun E st t => ∃ u : S, px u ∧ B E u t ∧ va_F A st t
section Runs
variable {p : Program} {l : Launch} {e : Env} {R : Room} {s : State} {m : MethodId} {args : Array Value} {below : List Frame} {meth : Method} {c : Code} {H : Heap} {locs : List Loc} {cells slots : Nat}
variable {y : MethodName} {bytes cc : ByteArray} {maxL nL mc ms n index : Nat} {ret : Option FieldType} {ws : List Cond} {rm : Room} {Pc : Array Value → State → Prop} {Qc : Array Value → State → Outcome → State → Prop} {XC : String → State → State → Prop} {free : Addr → Prop} {Ts : List Cond} {own C : String} {b : Addr} {As rest : List Value} {g : JFrame}
theorem vx_callBack (cb : CallB R s args own index y bytes maxL ret ws rm mc ms n) (hM : vx_Met l y ws rm Pc Qc XC mc ms free) (hbl : FrameBlind Pc) : vx_Back l R p e below s args y 3 8 (PreOf R mc ms Pc) (PostOf Qc mc ms free) (vx_Post XC mc ms free) := by
  obtain ⟨hrc, hrs, hfr, hlo, hws, hcw, -, hini, -⟩ := cb
  exact vx_back (bytes := bytes) (maxL := maxL) (ret := ret) hM hbl hrc hrs hfr hlo hws hcw (fun a' U hW => word_at hW (Or.inl (by first | rfl | simp [Cond.onTables, Cond.keeps, Cond.steady])) hini)
theorem vx_runV (S : CallFix p m c cc nL s args Ts own) (hM : vx_Met l y ws rm Pc Qc XC mc ms free) (cw : CallW R s args own C index y bytes maxL ret ws rm mc ms n) (hp : PreV s H C b Pc As)
    (hg : g.method = m) (hn : As.length = n) (hsize : g.locals.size = nL) (hstack : g.stack = As.reverse ++ .ref b :: rest) (hW : 2 * g.monitorRoom + (rest.map fun v => v.category).sum ≤ 8) (hdg : decode cc g.pc = .ok (.invokevirtual index, 3)) (hf : cells + mc ≤ R.cells ∧ slots + ms ≤ R.slots) :
    vx_Run p l e R s m args below meth c H locs cells slots mc ms g rest (Qc (Value.ref b :: As).toArray) XC free := by
  have hK : vx_Back l R p e below s args y 3 8 (PreOf R mc ms Pc) (PostOf Qc mc ms free) (vx_Post XC mc ms free) := vx_callBack cw.1 hM hp.1
  obtain ⟨⟨-, -, -, -, -, -, hcode, -, hy, hlen, hl⟩, hin, hse⟩ := cw
  obtain ⟨hx, hb, hml, ho, -⟩ := S
  obtain ⟨-, ⟨cellB, hcB, hoB, hclB⟩, hPc⟩ := hp
  intro T hT X
  rcases vx_callV X hx (C := C) (bytes := bytes) (maxL := maxL) (ret := ret) ho hl hin hse hcode hy hK (by rw [hT]; exact hcB) hoB hclB hg (hsize.trans hml.symm) (argsL := As) (rest := rest) (fun sig h => hn.trans (hlen sig h)) hstack hW (by rw [hb]; exact hdg)
    (fun vm₁ hW₁ => ⟨hf.1, hf.2, hPc (T.setVm vm₁) hT hW₁⟩) with ⟨v, vm₁, ⟨U', l2, c2, s2⟩, hW₁, X', ⟨g', mk, t, L, e1, e2, hq, h1, hL, h2, h3⟩, st⟩ | ⟨q, vm₁, ⟨U', l2, c2, s2⟩, hW₁, X', ⟨g', mk, t, L, E, ce, e1, e2, hq, hce, hcv, hcl, h1, hL, h2, h3⟩, st⟩
  · dsimp only [Pt.U, Pt.locs, Pt.cells, Pt.slots] at X' e1 e2 h1 h2 h3 st
    subst h1; subst h2; subst h3
    exact Or.inl ⟨v, (T.setVm vm₁).calling g' mk (Value.ref b :: As).toArray, t, U', L, hT, X', hL, e1, e2, hq, st⟩
  · dsimp only [Pt.U, Pt.locs, Pt.cells, Pt.slots] at X' e1 e2 h1 h2 h3 st hcl
    subst h1; subst h2; subst h3
    exact Or.inr ⟨q, (T.setVm vm₁).calling g' mk (Value.ref b :: As).toArray, t, U', L, E, ce, hT, X', hL, e1, e2, hq, hce, hcv, vx_cls hW₁ hcl, st⟩
theorem vx_runS (S : CallFix p m c cc nL s args Ts own) (hM : vx_Met l y ws rm Pc Qc XC mc ms free) (cw : CallB R s args own index y bytes maxL ret ws rm mc ms n ∧ (Cond.static y).before args s = true) (hp : PreS s H Pc As)
    (hg : g.method = m) (hn : As.length = n) (hsize : g.locals.size = nL) (hstack : g.stack = As.reverse ++ rest) (hW : 2 * g.monitorRoom + (rest.map fun v => v.category).sum ≤ 8) (hdg : decode cc g.pc = .ok (.invokestatic index, 3)) (hf : cells + mc ≤ R.cells ∧ slots + ms ≤ R.slots) :
    vx_Run p l e R s m args below meth c H locs cells slots mc ms g rest (Qc As.toArray) XC free := by
  have hK : vx_Back l R p e below s args y 3 8 (PreOf R mc ms Pc) (PostOf Qc mc ms free) (vx_Post XC mc ms free) := vx_callBack cw.1 hM hp.1
  obtain ⟨⟨-, -, -, -, -, -, hcode, hini, hy, hlen, hl⟩, hstt⟩ := cw
  obtain ⟨hx, hb, hml, ho, -⟩ := S
  intro T hT X
  rcases vx_callS X hx (bytes := bytes) (maxL := maxL) (ret := ret) ho hl hstt hini hcode hy hK hg (hsize.trans hml.symm) (argsL := As) (rest := rest) (fun sig h => hn.trans (hlen sig h)) hstack hW (by rw [hb]; exact hdg)
    (fun vm₁ hW₁ => ⟨hf.1, hf.2, hp.2 (T.setVm vm₁) hT hW₁⟩) with ⟨v, vm₁, ⟨U', l2, c2, s2⟩, hW₁, X', ⟨g', mk, t, L, e1, e2, hq, h1, hL, h2, h3⟩, st⟩ | ⟨q, vm₁, ⟨U', l2, c2, s2⟩, hW₁, X', ⟨g', mk, t, L, E, ce, e1, e2, hq, hce, hcv, hcl, h1, hL, h2, h3⟩, st⟩
  · dsimp only [Pt.U, Pt.locs, Pt.cells, Pt.slots] at X' e1 e2 h1 h2 h3 st
    subst h1; subst h2; subst h3
    exact Or.inl ⟨v, (T.setVm vm₁).calling g' mk As.toArray, t, U', L, hT, X', hL, e1, e2, hq, st⟩
  · dsimp only [Pt.U, Pt.locs, Pt.cells, Pt.slots] at X' e1 e2 h1 h2 h3 st hcl
    subst h1; subst h2; subst h3
    exact Or.inr ⟨q, (T.setVm vm₁).calling g' mk As.toArray, t, U', L, E, ce, hT, X', hL, e1, e2, hq, hce, hcv, vx_cls hW₁ hcl, st⟩
end Runs
section Rows
variable {p : Program} {l : Launch} {e : Env} {R : Room} {s : State} {m : MethodId} {args : Array Value} {below : List Frame} {meth : Method} {c : Code} {H : Heap} {locs : List Loc} {cells slots : Nat} {Q : State → Prop}
variable {mc ms : Nat} {free : Addr → Prop} {A0 A1 : Nat → Prop} {H0 : Heap} {a : Array Value} {pc : Nat} {ls : Array Slot} {st0 rest : List Value}
theorem vx_keep {st₀ t T' : State} {L : List Loc} (h0 : st₀.heap = H) (e1 : T'.heap = t.heap) (hS : va_S A0 H0 H locs) (hA : ∀ q, q < H.size → A1 q → A0 q) (hf : ∀ q, free q → A0 q) (hL : ∀ q ∈ L, free q.base) (hF : va_F A1 st₀ t) :
    H.size ≤ T'.heap.size ∧ (∀ q : Nat, q < H.size → ¬ A1 q → T'.heap[q]? = H[q]?) ∧ va_S A0 H0 T'.heap (locs ++ L) := by
  obtain ⟨hz, hk⟩ := hF
  rw [h0] at hz hk
  exact ⟨by rw [e1]; exact hz, fun q h1 h2 => by rw [e1]; exact hk q h1 h2,
    ⟨Nat.le_trans hS.1 (by rw [e1]; exact hz), fun q h1 h2 => by rw [e1, hk q (Nat.lt_of_lt_of_le h1 hS.1) (fun z => h2 (hA q (Nat.lt_of_lt_of_le h1 hS.1) z))]; exact hS.2.1 q h1 h2, fun q hq => by
      rcases List.mem_append.mp hq with h | h
      · exact hS.2.2 q h
      · exact hf _ (hL q h)⟩⟩
theorem vx_calli {S SX : Type} {post : Int32 → S → Prop} {px : SX → Prop} {B : S → State → Prop} {BX : String → SX → State → Prop} {AX : Nat → Prop} (hr : vx_Run p l e R s m args below meth c H locs cells slots mc ms (F0 m pc ls st0) rest (va_Qi post B A1 a) (vx_X px BX AX) free) (hS : va_S A0 H0 H locs) (hA : ∀ q, q < H.size → A1 q → A0 q) (hf : ∀ q, free q → A0 q) (hAX : ∀ q, q < H.size → AX q → A0 q)
    (kx : ∀ (E : String) (ce : Cell) (q9 : Addr) (u : SX) (t : State) (H1 : Heap) (locs1 : List Loc), t.heap = H1 → s.vm.Alike t.vm → px u → BX E u t → H.size ≤ H1.size → (∀ q : Nat, q < H.size → ¬ AX q → H1[q]? = H[q]?) → va_S A0 H0 H1 locs1 → H1[q9]? = some ce → ce.vm = .none → s.vm.findClass E = some ce.cls → vx_W p l e R s m args below meth c H1 locs1 (cells + mc) (slots + ms) Q (F0 m pc ls rest) q9)
    (kk : ∀ (r : Int32) (u : S) (t : State) (H1 : Heap) (locs1 : List Loc), t.heap = H1 → s.vm.Alike t.vm → post r u → B u t → H.size ≤ H1.size → (∀ q : Nat, q < H.size → ¬ A1 q → H1[q]? = H[q]?) → va_S A0 H0 H1 locs1 → W p l e R s m args below meth c H1 locs1 (cells + mc) (slots + ms) Q (F0 m (pc + 3) ls (.int r :: rest))) : W p l e R s m args below meth c H locs cells slots Q (F0 m pc ls st0) := by
  intro T hT X
  rcases hr T hT X with ⟨v, st₀, t, T', L, h0, X', hL, e1, e2, ⟨⟨r, u, hv, hp, hb⟩, hF⟩, st⟩ | ⟨q, st₀, t, T', L, E, ce, h0, X', hL, e1, e2, ⟨u, hp, hb, hF⟩, hce, hcv, hcl, st⟩
  · cases hv
    obtain ⟨k1, k2, k3⟩ := vx_keep h0 e1 hS hA hf hL hF
    obtain ⟨t2, a1, b1⟩ := kk r u t T'.heap (locs ++ L) e1.symm (by rw [← e2]; exact X'.warmed.alike) hp hb k1 k2 k3 T' rfl X'
    exact ⟨t2, st t2 a1, b1⟩
  · obtain ⟨k1, k2, k3⟩ := vx_keep h0 e1 hS hAX hf hL hF
    obtain ⟨t2, a1, b1⟩ := kx E ce q u t T'.heap (locs ++ L) e1.symm (by rw [← e2]; exact X'.warmed.alike) hp hb k1 k2 k3 (by rw [e1]; exact hce) hcv hcl T' rfl X'
    exact ⟨t2, st.trans a1, b1⟩
theorem vx_calll {S SX : Type} {post : Int64 → S → Prop} {px : SX → Prop} {B : S → State → Prop} {BX : String → SX → State → Prop} {AX : Nat → Prop} (hr : vx_Run p l e R s m args below meth c H locs cells slots mc ms (F0 m pc ls st0) rest (va_Ql post B A1 a) (vx_X px BX AX) free) (hS : va_S A0 H0 H locs) (hA : ∀ q, q < H.size → A1 q → A0 q) (hf : ∀ q, free q → A0 q) (hAX : ∀ q, q < H.size → AX q → A0 q)
    (kx : ∀ (E : String) (ce : Cell) (q9 : Addr) (u : SX) (t : State) (H1 : Heap) (locs1 : List Loc), t.heap = H1 → s.vm.Alike t.vm → px u → BX E u t → H.size ≤ H1.size → (∀ q : Nat, q < H.size → ¬ AX q → H1[q]? = H[q]?) → va_S A0 H0 H1 locs1 → H1[q9]? = some ce → ce.vm = .none → s.vm.findClass E = some ce.cls → vx_W p l e R s m args below meth c H1 locs1 (cells + mc) (slots + ms) Q (F0 m pc ls rest) q9)
    (kk : ∀ (r : Int64) (u : S) (t : State) (H1 : Heap) (locs1 : List Loc), t.heap = H1 → s.vm.Alike t.vm → post r u → B u t → H.size ≤ H1.size → (∀ q : Nat, q < H.size → ¬ A1 q → H1[q]? = H[q]?) → va_S A0 H0 H1 locs1 → W p l e R s m args below meth c H1 locs1 (cells + mc) (slots + ms) Q (F0 m (pc + 3) ls (.long r :: rest))) : W p l e R s m args below meth c H locs cells slots Q (F0 m pc ls st0) := by
  intro T hT X
  rcases hr T hT X with ⟨v, st₀, t, T', L, h0, X', hL, e1, e2, ⟨⟨r, u, hv, hp, hb⟩, hF⟩, st⟩ | ⟨q, st₀, t, T', L, E, ce, h0, X', hL, e1, e2, ⟨u, hp, hb, hF⟩, hce, hcv, hcl, st⟩
  · cases hv
    obtain ⟨k1, k2, k3⟩ := vx_keep h0 e1 hS hA hf hL hF
    obtain ⟨t2, a1, b1⟩ := kk r u t T'.heap (locs ++ L) e1.symm (by rw [← e2]; exact X'.warmed.alike) hp hb k1 k2 k3 T' rfl X'
    exact ⟨t2, st t2 a1, b1⟩
  · obtain ⟨k1, k2, k3⟩ := vx_keep h0 e1 hS hAX hf hL hF
    obtain ⟨t2, a1, b1⟩ := kx E ce q u t T'.heap (locs ++ L) e1.symm (by rw [← e2]; exact X'.warmed.alike) hp hb k1 k2 k3 (by rw [e1]; exact hce) hcv hcl T' rfl X'
    exact ⟨t2, st.trans a1, b1⟩
theorem vx_callf {S SX : Type} {post : UInt32 → S → Prop} {px : SX → Prop} {B : S → State → Prop} {BX : String → SX → State → Prop} {AX : Nat → Prop} (hr : vx_Run p l e R s m args below meth c H locs cells slots mc ms (F0 m pc ls st0) rest (va_Qf post B A1 a) (vx_X px BX AX) free) (hS : va_S A0 H0 H locs) (hA : ∀ q, q < H.size → A1 q → A0 q) (hf : ∀ q, free q → A0 q) (hAX : ∀ q, q < H.size → AX q → A0 q)
    (kx : ∀ (E : String) (ce : Cell) (q9 : Addr) (u : SX) (t : State) (H1 : Heap) (locs1 : List Loc), t.heap = H1 → s.vm.Alike t.vm → px u → BX E u t → H.size ≤ H1.size → (∀ q : Nat, q < H.size → ¬ AX q → H1[q]? = H[q]?) → va_S A0 H0 H1 locs1 → H1[q9]? = some ce → ce.vm = .none → s.vm.findClass E = some ce.cls → vx_W p l e R s m args below meth c H1 locs1 (cells + mc) (slots + ms) Q (F0 m pc ls rest) q9)
    (kk : ∀ (r : UInt32) (u : S) (t : State) (H1 : Heap) (locs1 : List Loc), t.heap = H1 → s.vm.Alike t.vm → post r u → B u t → H.size ≤ H1.size → (∀ q : Nat, q < H.size → ¬ A1 q → H1[q]? = H[q]?) → va_S A0 H0 H1 locs1 → W p l e R s m args below meth c H1 locs1 (cells + mc) (slots + ms) Q (F0 m (pc + 3) ls (.float r :: rest))) : W p l e R s m args below meth c H locs cells slots Q (F0 m pc ls st0) := by
  intro T hT X
  rcases hr T hT X with ⟨v, st₀, t, T', L, h0, X', hL, e1, e2, ⟨⟨r, u, hv, hp, hb⟩, hF⟩, st⟩ | ⟨q, st₀, t, T', L, E, ce, h0, X', hL, e1, e2, ⟨u, hp, hb, hF⟩, hce, hcv, hcl, st⟩
  · cases hv
    obtain ⟨k1, k2, k3⟩ := vx_keep h0 e1 hS hA hf hL hF
    obtain ⟨t2, a1, b1⟩ := kk r u t T'.heap (locs ++ L) e1.symm (by rw [← e2]; exact X'.warmed.alike) hp hb k1 k2 k3 T' rfl X'
    exact ⟨t2, st t2 a1, b1⟩
  · obtain ⟨k1, k2, k3⟩ := vx_keep h0 e1 hS hAX hf hL hF
    obtain ⟨t2, a1, b1⟩ := kx E ce q u t T'.heap (locs ++ L) e1.symm (by rw [← e2]; exact X'.warmed.alike) hp hb k1 k2 k3 (by rw [e1]; exact hce) hcv hcl T' rfl X'
    exact ⟨t2, st.trans a1, b1⟩
theorem vx_calld {S SX : Type} {post : UInt64 → S → Prop} {px : SX → Prop} {B : S → State → Prop} {BX : String → SX → State → Prop} {AX : Nat → Prop} (hr : vx_Run p l e R s m args below meth c H locs cells slots mc ms (F0 m pc ls st0) rest (va_Qd post B A1 a) (vx_X px BX AX) free) (hS : va_S A0 H0 H locs) (hA : ∀ q, q < H.size → A1 q → A0 q) (hf : ∀ q, free q → A0 q) (hAX : ∀ q, q < H.size → AX q → A0 q)
    (kx : ∀ (E : String) (ce : Cell) (q9 : Addr) (u : SX) (t : State) (H1 : Heap) (locs1 : List Loc), t.heap = H1 → s.vm.Alike t.vm → px u → BX E u t → H.size ≤ H1.size → (∀ q : Nat, q < H.size → ¬ AX q → H1[q]? = H[q]?) → va_S A0 H0 H1 locs1 → H1[q9]? = some ce → ce.vm = .none → s.vm.findClass E = some ce.cls → vx_W p l e R s m args below meth c H1 locs1 (cells + mc) (slots + ms) Q (F0 m pc ls rest) q9)
    (kk : ∀ (r : UInt64) (u : S) (t : State) (H1 : Heap) (locs1 : List Loc), t.heap = H1 → s.vm.Alike t.vm → post r u → B u t → H.size ≤ H1.size → (∀ q : Nat, q < H.size → ¬ A1 q → H1[q]? = H[q]?) → va_S A0 H0 H1 locs1 → W p l e R s m args below meth c H1 locs1 (cells + mc) (slots + ms) Q (F0 m (pc + 3) ls (.double r :: rest))) : W p l e R s m args below meth c H locs cells slots Q (F0 m pc ls st0) := by
  intro T hT X
  rcases hr T hT X with ⟨v, st₀, t, T', L, h0, X', hL, e1, e2, ⟨⟨r, u, hv, hp, hb⟩, hF⟩, st⟩ | ⟨q, st₀, t, T', L, E, ce, h0, X', hL, e1, e2, ⟨u, hp, hb, hF⟩, hce, hcv, hcl, st⟩
  · cases hv
    obtain ⟨k1, k2, k3⟩ := vx_keep h0 e1 hS hA hf hL hF
    obtain ⟨t2, a1, b1⟩ := kk r u t T'.heap (locs ++ L) e1.symm (by rw [← e2]; exact X'.warmed.alike) hp hb k1 k2 k3 T' rfl X'
    exact ⟨t2, st t2 a1, b1⟩
  · obtain ⟨k1, k2, k3⟩ := vx_keep h0 e1 hS hAX hf hL hF
    obtain ⟨t2, a1, b1⟩ := kx E ce q u t T'.heap (locs ++ L) e1.symm (by rw [← e2]; exact X'.warmed.alike) hp hb k1 k2 k3 (by rw [e1]; exact hce) hcv hcl T' rfl X'
    exact ⟨t2, st.trans a1, b1⟩
theorem vx_callv {S SX : Type} {post : S → Prop} {px : SX → Prop} {B : S → State → Prop} {BX : String → SX → State → Prop} {AX : Nat → Prop} (hr : vx_Run p l e R s m args below meth c H locs cells slots mc ms (F0 m pc ls st0) rest (va_Qv post B A1 a) (vx_X px BX AX) free) (hS : va_S A0 H0 H locs) (hA : ∀ q, q < H.size → A1 q → A0 q) (hf : ∀ q, free q → A0 q) (hAX : ∀ q, q < H.size → AX q → A0 q)
    (kx : ∀ (E : String) (ce : Cell) (q9 : Addr) (u : SX) (t : State) (H1 : Heap) (locs1 : List Loc), t.heap = H1 → s.vm.Alike t.vm → px u → BX E u t → H.size ≤ H1.size → (∀ q : Nat, q < H.size → ¬ AX q → H1[q]? = H[q]?) → va_S A0 H0 H1 locs1 → H1[q9]? = some ce → ce.vm = .none → s.vm.findClass E = some ce.cls → vx_W p l e R s m args below meth c H1 locs1 (cells + mc) (slots + ms) Q (F0 m pc ls rest) q9)
    (kk : ∀ (u : S) (t : State) (H1 : Heap) (locs1 : List Loc), t.heap = H1 → s.vm.Alike t.vm → post u → B u t → H.size ≤ H1.size → (∀ q : Nat, q < H.size → ¬ A1 q → H1[q]? = H[q]?) → va_S A0 H0 H1 locs1 → W p l e R s m args below meth c H1 locs1 (cells + mc) (slots + ms) Q (F0 m (pc + 3) ls (rest))) : W p l e R s m args below meth c H locs cells slots Q (F0 m pc ls st0) := by
  intro T hT X
  rcases hr T hT X with ⟨v, st₀, t, T', L, h0, X', hL, e1, e2, ⟨⟨u, hv, hp, hb⟩, hF⟩, st⟩ | ⟨q, st₀, t, T', L, E, ce, h0, X', hL, e1, e2, ⟨u, hp, hb, hF⟩, hce, hcv, hcl, st⟩
  · cases hv
    obtain ⟨k1, k2, k3⟩ := vx_keep h0 e1 hS hA hf hL hF
    obtain ⟨t2, a1, b1⟩ := kk u t T'.heap (locs ++ L) e1.symm (by rw [← e2]; exact X'.warmed.alike) hp hb k1 k2 k3 T' rfl X'
    exact ⟨t2, st t2 a1, b1⟩
  · obtain ⟨k1, k2, k3⟩ := vx_keep h0 e1 hS hAX hf hL hF
    obtain ⟨t2, a1, b1⟩ := kx E ce q u t T'.heap (locs ++ L) e1.symm (by rw [← e2]; exact X'.warmed.alike) hp hb k1 k2 k3 (by rw [e1]; exact hce) hcv hcl T' rfl X'
    exact ⟨t2, st.trans a1, b1⟩
/-- caught by the row x of this method's table; the rows ahead don't take it -/
theorem vx_catch {own name : String} {E : String} {ce : Cell} {q : Addr} (hown : s.vm.findClass own = some m.cls) (pre : List ExceptionTableEntry) (x : ExceptionTableEntry) (suf : List ExceptionTableEntry) (hsplit : c.exceptionTable.toList = pre ++ x :: suf)
    (hpass : ∀ z ∈ pre, covers z pc = false ∨ (z.catchType ≠ 0 ∧ ∃ nm : String, (Cond.classLink own z.catchType nm).before args s = true ∧ va_Nc E nm s)) (hx : covers x pc = true) (h0 : x.catchType ≠ 0)
    (hlink : (Cond.classLink own x.catchType name).before args s = true) (hcast : (Cond.castable E name).before args s = true) (hcell : H[q]? = some ce) (hv : ce.vm = .none) (hcl : s.vm.findClass E = some ce.cls)
    (kk : W p l e R s m args below meth c H locs cells slots Q (F0 m x.handlerPc ls [.ref q])) : vx_W p l e R s m args below meth c H locs cells slots Q (F0 m pc ls rest) q := by
  intro T hT X
  have hpl : e.platform.magicAccessors = ({} : Platform).magicAccessors := by rw [X.admits.platform]
  obtain ⟨c3, c4, hc3, hc4, hasg⟩ := Cond.castable_spec hcast
  cases Option.some.inj (hc3.symm.trans hcl)
  obtain ⟨c5, hc5, hcl5⟩ := Cond.classLink_spec hown hlink e.platform hpl
  cases Option.some.inj (hc4.symm.trans hc5)
  obtain ⟨vm', X', st⟩ := X.thenCaughtThrough q (g := F0 m pc ls rest) rfl (Steps.refl _) (by rw [hT]; exact hcell) (by rw [hv]; rfl) (by obtain ⟨k9, h9, -⟩ := Vm.findClass_spec hcl; exact ⟨k9, h9⟩) pre x suf hsplit
    (fun z hz => by
      rcases hpass z hz with h | ⟨hz0, nm, hl1, hn1⟩
      · exact Or.inl h
      · obtain ⟨c6, hc6, hcl6⟩ := Cond.classLink_spec hown hl1 e.platform hpl
        obtain ⟨a8, b8, h1, h2, h3⟩ := hn1
        cases Option.some.inj (h1.symm.trans hcl)
        cases Option.some.inj (h2.symm.trans hc6)
        exact Or.inr ⟨hz0, _, hcl6, h3⟩) hx (Or.inr ⟨h0, c4, hcl5, hasg⟩)
  obtain ⟨t, a1, b1⟩ := kk (T.setVm vm') hT X'
  exact ⟨t, st.trans a1, b1⟩
end Rows
section Ends
variable {p : Program} {l : Launch} {e : Env} {R : Room} {s : State} {m : MethodId} {args : Array Value} {below : List Frame} {meth : Method} {c : Code} {H : Heap} {locs : List Loc} {cells slots : Nat} {Q : State → Prop}
variable {mc ms : Nat} {free : Addr → Prop} {A0 A1 : Nat → Prop} {H0 : Heap} {a : Array Value} {ls : Array Slot} {st0 rest : List Value}
variable {Qc : Array Value → State → Outcome → State → Prop} {XC : String → State → State → Prop}
/-- what a body that may throw owes at its end -/
def vx_MQ (below : List Frame) (Qc : Array Value → State → Outcome → State → Prop) (XC : String → State → State → Prop) (a : Array Value) (s : State) (mc ms : Nat) (free : Addr → Prop) : State → Prop := fun t =>
  ∃ o, t.status = .running ∧ Ended t below o ∧ vx_Q Qc XC mc ms free a s o t
theorem vx_ret {g : JFrame} {mc ms : Nat} (k : W p l e R s m args below meth c H locs cells slots (MQ below Qc args s mc ms free) g) : W p l e R s m args below meth c H locs cells slots (vx_MQ below Qc XC args s mc ms free) g := by
  intro T hT X
  obtain ⟨t, a1, o, b1, b2, b3, b4⟩ := k T hT X
  exact ⟨t, a1, o, b1, b2, Or.inl ⟨b3, b4⟩⟩
/-- not caught here: it goes on to the caller -/
theorem vx_widen {g : JFrame} {q : Addr} {k n : Nat} (h1 : cells ≤ k) (h2 : slots ≤ n) (kk : vx_W p l e R s m args below meth c H locs k n Q g q) : vx_W p l e R s m args below meth c H locs cells slots Q g q := fun T hT X => kk T hT (stand_widen X h1 h2)
theorem vx_out {pc : Nat} {E : String} {ce : Cell} {q : Addr} {mc ms : Nat} (hout : ∀ x ∈ c.exceptionTable.toList, covers x pc = false) (hlocks : meth.locks = false) (hcell : H[q]? = some ce) (hv : ce.vm = .none) (hcl : s.vm.findClass E = some ce.cls)
    (hx : ∀ t : State, t.heap = H → s.vm.Alike t.vm → XC E s t) (hf : ∀ z ∈ locs, free z.base) (hc : cells ≤ mc) (hs : slots ≤ ms) :
    vx_W p l e R s m args below meth c H locs cells slots (vx_MQ below Qc XC args s mc ms free) (F0 m pc ls rest) q := by
  intro T hT X
  obtain ⟨st1, hrun, hend, hW, hsm⟩ := X.leaveThrown q (g := F0 m pc ls rest) rfl rfl rfl hout hlocks
  have hcell9 : (T.setFrames (.throwing q :: below)).heap[q]? = some ce := by
    show T.heap[q]? = some ce
    rw [hT]; exact hcell
  exact ⟨_, st1, .threw q, hrun, hend, Or.inr ⟨q, rfl, E, ce, locs, hx _ hT hW.alike, hcell9, hv, hcl, hW, hsm.mono hc hs, hf⟩⟩
theorem vx_frame {U : State} {k n : Nat} (h : s.sameButNew ({ U with vm := s.vm } : State) locs k n) : s.heap.size ≤ U.heap.size ∧ ∀ q : Nat, q < s.heap.size → (∀ z ∈ locs, z.base ≠ q) → U.heap[q]? = s.heap[q]? := by
  obtain ⟨-, h2, -, -, -, h6⟩ := h
  refine ⟨h2, fun q hq hz => ?_⟩
  obtain ⟨c9, e1, e2, e3, e4⟩ := h6 q _ (Array.getElem?_eq_getElem hq)
  have hs : c9.slots = (s.heap[q]).slots := Array.ext_getElem? fun i => e4 i fun hm => hz _ hm rfl
  have h9 : c9 = s.heap[q] := by
    rw [hs] at e2
    exact e2
  have e5 : U.heap[q]? = some c9 := e1
  rw [e5, h9, Array.getElem?_eq_getElem hq]
/-- the words of a throw but the four that speak of the heap -/
def vx_no (w : Cond) : Bool := decide (w ≠ .isRef (.static Bundle.tN "UNASSIGNED_STACK" Bundle.steD)) && decide (w ≠ .isRef (.static Bundle.tN "SUPPRESSED_SENTINEL" Bundle.listD)) && decide (w ≠ .laysStatic Bundle.tN "UNASSIGNED_STACK" Bundle.steD) && decide (w ≠ .laysStatic Bundle.tN "SUPPRESSED_SENTINEL" Bundle.listD)
def vx_at0 (own : String) (ic : Nat) (X : String) (names : List String) : List Cond := (Bundle.ownAtoms0 own ic X names).filter vx_no
def vx_atS (own : String) (ic : Nat) (X : String) (names : List String) : List Cond := (Bundle.ownAtoms own ic X names).filter vx_no
/-- a word that the tables alone decide, or a good one -/
def vx_ot (w : Cond) : Bool := w.onTables || goodWord w
theorem vx_ot_at {args a' : Array Value} {s U : State} {w : Cond} (hW : s.WarmedH U.vm) (hvm : s.vm = U.vm) (hg : vx_ot w = true) (h : w.before args s = true) : w.before a' U = true := by
  simp only [vx_ot, Bool.or_eq_true] at hg
  rcases hg with hg | hg
  · exact va_tabs hg hvm h
  · exact word_at hW (good_of_word hg) h
/-- a list's words: the good ones out of the method's own list, the others by premises of their own -/
theorem vx_hat {args : Array Value} {s : State} {L B : List Cond} (h1 : ∀ w ∈ L.filter goodWord, w.before args s = true) (h2 : ∀ w ∈ L.filter (fun w => !goodWord w), w ∈ B) (h3 : ∀ w ∈ B, w.before args s = true) : ∀ w ∈ L, w.before args s = true := by
  intro w hw
  by_cases g : goodWord w = true
  · exact h1 w (List.mem_filter.mpr ⟨hw, g⟩)
  · refine h3 w (h2 w (List.mem_filter.mpr ⟨hw, ?_⟩))
    show (!goodWord w) = true
    cases hgw : goodWord w
    · rfl
    · exact absurd hgw g
theorem vx_c {args : Array Value} {s : State} {w : Cond} {B : List Cond} (h : w.before args s = true) (t : ∀ w ∈ B, w.before args s = true) : ∀ w' ∈ w :: B, w'.before args s = true := fun w' h' => (List.mem_cons.mp h').elim (fun e => by rw [e]; exact h) (t w')
theorem vx_n {args : Array Value} {s : State} : ∀ w ∈ ([] : List Cond), w.before args s = true := fun _ h => nomatch h
theorem vx_own {args : Array Value} {s : State} {L : List Cond} (h1 : ∀ w ∈ L.filter vx_no, w.before args s = true)
    (hU : (Cond.isRef (.static Bundle.tN "UNASSIGNED_STACK" Bundle.steD)).before args s = true) (hN : (Cond.isRef (.static Bundle.tN "SUPPRESSED_SENTINEL" Bundle.listD)).before args s = true)
    (lU : (Cond.laysStatic Bundle.tN "UNASSIGNED_STACK" Bundle.steD).before args s = true) (lN : (Cond.laysStatic Bundle.tN "SUPPRESSED_SENTINEL" Bundle.listD).before args s = true) : ∀ w ∈ L, w.before args s = true := by
  intro w hw
  by_cases e1 : w = .isRef (.static Bundle.tN "UNASSIGNED_STACK" Bundle.steD)
  · rw [e1]; exact hU
  · by_cases e2 : w = .isRef (.static Bundle.tN "SUPPRESSED_SENTINEL" Bundle.listD)
    · rw [e2]; exact hN
    · by_cases e3 : w = .laysStatic Bundle.tN "UNASSIGNED_STACK" Bundle.steD
      · rw [e3]; exact lU
      · by_cases e4 : w = .laysStatic Bundle.tN "SUPPRESSED_SENTINEL" Bundle.listD
        · rw [e4]; exact lN
        · exact h1 w (List.mem_filter.mpr ⟨hw, by unfold vx_no; rw [decide_eq_true e1, decide_eq_true e2, decide_eq_true e3, decide_eq_true e4]; rfl⟩)
/-- where a static field lies, its class's statics cell in H -/
def vx_L (C n d : String) (A : Nat → Prop) (U : State) (H : Heap) : Prop := ∃ (c : ClassId) (k : Class) (i : Nat) (f : Field) (a : Nat) (cell : Cell), U.vm.findClass C = some c ∧ U.fieldFound? C n d = some (c, k, i, f) ∧ f.isStatic = true ∧ k.statics = some a ∧ H[a]? = some cell ∧ cell.vm.isStatics = true ∧ cell.cls = c ∧ f.slot < cell.slots.size ∧ k.staticTypes[f.slot]? = some f.type ∧ ¬ A a
theorem vx_L.moved {C n d : String} {A : Nat → Prop} {u U : State} {H : Heap} (hvm : u.vm.Alike U.vm) (h : vx_L C n d A u H) : vx_L C n d A U H := by
  obtain ⟨c, k, i, f, a, cell, h1, h2, h3, h4, h5, h6, h7, h8, h9, h10⟩ := h
  obtain ⟨k', hi', he⟩ := State.fieldFound?_setVm hvm h2
  exact ⟨c, k', i, f, a, cell, by rw [hvm.findClass]; exact h1, hi', h3, by rw [he]; exact h4, h5, h6, h7, h8, by rw [he]; exact h9, h10⟩
theorem vx_L.kept {C n d : String} {A : Nat → Prop} {U : State} {H H1 : Heap} (h : vx_L C n d A U H) (hq : ∀ a : Nat, a < H.size → ¬ A a → H1[a]? = H[a]?) : vx_L C n d A U H1 := by
  obtain ⟨c, k, i, f, a, cell, h1, h2, h3, h4, h5, h6, h7, h8, h9, h10⟩ := h
  exact ⟨c, k, i, f, a, cell, h1, h2, h3, h4, by rw [hq a (Array.getElem?_eq_some_iff.mp h5).1 h10]; exact h5, h6, h7, h8, h9, h10⟩
theorem vx_L.narrow {C n d : String} {A B : Nat → Prop} {U : State} {H : Heap} (h : vx_L C n d A U H) (hAB : ∀ q, B q → A q) : vx_L C n d B U H := by
  obtain ⟨c, k, i, f, a, cell, h1, h2, h3, h4, h5, h6, h7, h8, h9, h10⟩ := h
  exact ⟨c, k, i, f, a, cell, h1, h2, h3, h4, h5, h6, h7, h8, h9, fun z => h10 (hAB _ z)⟩
theorem vx_L.word {C n d : String} {A : Nat → Prop} {s : State} {args : Array Value} (h : vx_L C n d A s s.heap) : (Cond.laysStatic C n d).before args s = true := by
  obtain ⟨c, k, i, f, a, cell, h1, h2, h3, h4, h5, h6, h7, h8, h9, -⟩ := h
  show (Cond.laysStatic C n d).holds args s none s [] = true
  exact Cond.laysStatic_of h1 h2 h3 h4 h5 h6 h7 h8 h9
/-- .. and what it holds: null or some reference -/
def vx_Zq (C n d : String) (A : Nat → Prop) (U : State) (H : Heap) : Prop := va_Zq C n d A U H ∧ vx_L C n d A U H
theorem vx_Zq.moved {C n d : String} {A : Nat → Prop} {u U : State} {H : Heap} (hvm : u.vm.Alike U.vm) (h : vx_Zq C n d A u H) : vx_Zq C n d A U H := ⟨va_Zq.moved hvm h.1, vx_L.moved hvm h.2⟩
theorem vx_Zq.kept {C n d : String} {A : Nat → Prop} {U : State} {H H1 : Heap} (h : vx_Zq C n d A U H) (hq : ∀ a : Nat, a < H.size → ¬ A a → H1[a]? = H[a]?) : vx_Zq C n d A U H1 := ⟨va_Zq.kept h.1 hq, vx_L.kept h.2 hq⟩
theorem vx_Zq.narrow {C n d : String} {A B : Nat → Prop} {U : State} {H : Heap} (h : vx_Zq C n d A U H) (hAB : ∀ q, B q → A q) : vx_Zq C n d B U H := ⟨va_Zq.narrow h.1 hAB, vx_L.narrow h.2 hAB⟩
theorem vx_Zqof {args : Array Value} {s : State} {C n d : String} {A : Nat → Prop} (hl : (Cond.laysStatic C n d).before args s = true) (hini : (Cond.initialized C).before args s = true) (h : (Cond.isRef (.static C n d)).before args s = true) (hA : ∀ a : Nat, a < s.heap.size → ¬ A a) : vx_Zq C n d A s s.heap := by
  refine ⟨va_Zqof hl hini h hA, ?_⟩
  obtain ⟨c, k, i, f, a, cell, h1, h2, h3, h4, h5, h6, h7, h8, h9⟩ := Cond.laysStatic_spec hl
  exact ⟨c, k, i, f, a, cell, h1, h2, h3, h4, h5, h6, h7, h8, h9, hA a (Array.getElem?_eq_some_iff.mp h5).1⟩
theorem vx_isRef {C n d : String} {v : Value} {A : Nat → Prop} {s : State} {args : Array Value} (h : va_Z C n d v A s s.heap) (hv : v.isRef = true) : (Cond.isRef (.static C n d)).before args s = true := by
  obtain ⟨cf, kf, fi, f, a, cell, h1, h2, h3, h4, h5, h6, h7, -⟩ := h
  have he : (Term.static C n d).eval args s none [] s = some v := by
    simp [Term.eval, State.fieldNamed?, h1, h2, h4, h5, h6, h7]
  simp only [Cond.before, Cond.holds, Cond.value, he]
  cases v <;> simp_all [Value.isRef]
theorem vx_isRefq {C n d : String} {A : Nat → Prop} {s : State} {args : Array Value} (h : va_Zq C n d A s s.heap) : (Cond.isRef (.static C n d)).before args s = true := by
  rcases h with h | ⟨t, h⟩
  · exact vx_isRef h rfl
  · exact vx_isRef h rfl
/-- the same frame, seen from here: as if the method were called anew in this heap -/
theorem vx_rebase {T : State} (X : Stand p l e R s m args below meth c T locs cells slots) {R' : Room} (hf : R'.frames ≤ R.frames) (hl : R'.locals ≤ R.locals) (hc : cells + R'.cells ≤ R.cells) (hs : slots + R'.slots ≤ R.slots) :
    Stand p l e R' ((T.setVm s.vm).setFrames (.invoking m args :: below)) m args below meth c T [] 0 0 := by
  have htop : (T.setVm s.vm).topJava?.isSome := X.here.top
  have hF : ((T.setVm s.vm).setFrames (.invoking m args :: below)).frames = .invoking m args :: below := State.frames_setFrames _ (State.cur_lt_of_top htop)
  obtain ⟨g₀, hg0⟩ := Option.isSome_iff_exists.mp htop
  obtain ⟨r, hr⟩ := State.topJava?_eq_some.mp hg0
  have hl9 : e.platform.stackLimits (T.setVm s.vm).me = e.platform.stackLimits s.me := X.limits
  have hb9 : (T.setVm s.vm).me.stackBytes = s.me.stackBytes := X.bytes
  refine ⟨X.admits, X.cas, X.clock, hF, ?_, X.hears, X.method, X.code, X.here, X.tail, X.warmed, ?_, ?_, ?_⟩
  · have h := X.room
    have hU : ((T.setVm s.vm).setFrames (.invoking m args :: below)).localsInUse = s.localsInUse := by
      rw [State.localsInUse_invoking hF (meth := meth) (c := c) X.method X.code, State.localsInUse_invoking X.frames X.method X.code]
    simp only [State.hasRoom, Bool.and_eq_true, decide_eq_true_eq] at h ⊢
    obtain ⟨⟨⟨⟨h1, h2, h3, h4, h5, h6⟩, h7⟩, h8⟩, h9⟩ := h
    rw [X.frames, List.length_cons] at h2 h3
    have q1 := X.heapSize
    have q2 := X.used
    simp only [hF, hU, List.length_cons, State.stackLimits_setFrames, State.stackBytes_setFrames, hl9, hb9]
    refine ⟨⟨⟨⟨by omega, by omega, by omega, by omega, by omega, h6⟩, ?_⟩, ?_⟩, X.book⟩
    · show T.heap.size + R'.cells ≤ e.platform.maxCells
      omega
    · show T.slotsUsed + R'.slots ≤ e.platform.maxSlots
      omega
  · rw [State.stackLimits_setFrames]; rfl
  · rw [State.stackBytes_setFrames]; rfl
  · refine ⟨?_, Nat.le_refl _, Nat.le_refl _, ?_, ?_, fun a c9 h9 => ⟨c9, h9, rfl, rfl, fun _ _ => rfl⟩⟩
    · obtain ⟨t, ht, -⟩ := State.frames_cons hr
      show T.setVm s.vm = { ((T.setVm s.vm).setFrames (.invoking m args :: below)).setFrames (T.setVm s.vm).frames with heap := T.heap, slotsUsed := T.slotsUsed }
      rw [State.setFrames_setFrames, State.setFrames_self ht]
      rfl
    · show T.slotsUsed = T.slotsUsed + ((T.heap.toList.drop T.heap.size).map (·.slots.size)).sum
      rw [List.drop_eq_nil_of_le (Nat.le_of_eq Array.length_toList)]
      rfl
    · show ((T.heap.toList.drop T.heap.size).map (·.slots.size)).sum ≤ 0
      rw [List.drop_eq_nil_of_le (Nat.le_of_eq Array.length_toList)]
      exact Nat.le_refl _
/-- 'throw new E()': new; dup; invokespecial; athrow -/
theorem vx_throw0 {cc : ByteArray} {pc : Nat} (hexec : p.tables.exec = Jvm.exec) (hb : c.code = cc) (hl : l.stackTraces = false) {own cls : String} {names : List String} {ik ic mc ms : Nat} {A : Nat → Prop}
    (hown : s.vm.findClass own = some m.cls) (hcls : Bundle.fit cls = true) (hnames : ∀ n ∈ names, Bundle.fit n = true)
    (hk : (Cond.classLink own ik cls).before args s = true) (hini : (Cond.initialized cls).before args s = true) (hat : ∀ w ∈ vx_at0 own ic cls names, w.before args s = true)
    (hgood : ∀ w ∈ Cond.classLink own ik cls :: Cond.initialized cls :: vx_at0 own ic cls names, vx_ot w = true)
    (hU : vx_Zq Bundle.tN "UNASSIGNED_STACK" Bundle.steD A s s.heap) (hN : vx_Zq Bundle.tN "SUPPRESSED_SENTINEL" Bundle.listD A s s.heap) (hS : va_S A s.heap H locs) (hsize : ls.size = c.maxLocals)
    (d0 : decode cc pc = .ok (.new ik, 3)) (d3 : decode cc (pc + 3) = .ok (.dup, 1)) (d4 : decode cc (pc + 4) = .ok (.invokespecial ic, 3)) (d7 : decode cc (pc + 7) = .ok (.athrow, 1))
    (hout : ∀ x ∈ c.exceptionTable.toList, covers x (pc + 7) = false)
    (hRframes : names.length + 3 < R.frames) (hRlocals : (rest.map fun v => v.category).sum + (13 * (names.length + 1) + 42) ≤ R.locals) (hRcells : cells + 1 ≤ R.cells) (hRslots : slots + 6 ≤ R.slots) (hlocks : meth.locks = false)
    (hx : ∀ t : State, s.vm.Alike t.vm → H.size ≤ t.heap.size → (∀ q : Nat, q < H.size → t.heap[q]? = H[q]?) → XC cls s t)
    (hf : ∀ z ∈ locs, free z.base) (hc : cells + 1 ≤ mc) (hs : slots + 6 ≤ ms) :
    W p l e R s m args below meth c H locs cells slots (vx_MQ below Qc XC args s mc ms free) (F0 m pc ls rest) := by
  intro T hT X
  have htr : e.platform.stackTraces = false := (show e.platform.stackTraces = l.stackTraces by rw [X.admits.platform]).trans hl
  have Y := vx_rebase X (R' := { frames := R.frames, locals := R.locals, cells := 1, slots := 6 }) (Nat.le_refl _) (Nat.le_refl _) hRcells hRslots
  obtain ⟨s', hA⟩ : ∃ z, z = (T.setVm s.vm).setFrames (.invoking m args :: below) := ⟨_, rfl⟩
  rw [← hA] at Y
  have hvm : s'.vm = s.vm := by rw [hA]; rfl
  have hhp : s'.heap = H := by rw [hA]; exact hT
  have hW0 : s.WarmedH s'.vm := by rw [hvm]; exact State.WarmedH.refl s
  have hat' : ∀ w ∈ vx_at0 own ic cls names, w.before args s' = true := fun w hw => vx_ot_at hW0 hvm.symm (hgood w (List.mem_cons_of_mem _ (List.mem_cons_of_mem _ hw))) (hat w hw)
  have hk' : (Cond.classLink own ik cls).before args s' = true := vx_ot_at hW0 hvm.symm (hgood _ List.mem_cons_self) hk
  have hini' : (Cond.initialized cls).before args s' = true := vx_ot_at hW0 hvm.symm (hgood _ (List.mem_cons_of_mem _ List.mem_cons_self)) hini
  have hU' : vx_Zq Bundle.tN "UNASSIGNED_STACK" Bundle.steD A s' s'.heap := by rw [hhp]; exact vx_Zq.moved hW0.alike (hU.kept hS.2.1)
  have hN' : vx_Zq Bundle.tN "SUPPRESSED_SENTINEL" Bundle.listD A s' s'.heap := by rw [hhp]; exact vx_Zq.moved hW0.alike (hN.kept hS.2.1)
  have h : ∀ w ∈ Bundle.ownAtoms0 own ic cls names, w.before args s' = true := vx_own hat' (vx_isRefq hU'.1) (vx_isRefq hN'.1) hU'.2.word hN'.2.word
  have hown' : s'.vm.findClass own = some m.cls := by rw [hvm]; exact hown
  have hins : (Cond.instantiable cls 6).before args s' = true := h _ (by simp [Bundle.ownAtoms0])
  obtain ⟨vm₁, cX, kX, hfX, hkX, -, -, X₁, st1⟩ := Y.newCold hexec (own := own) (C := cls) (index := ik) (n := 6) hown' hk' hins hini'
    (g := F0 m pc ls rest) rfl (by rw [hb]; exact d0) (Nat.le_refl _) (Nat.le_refl _)
  generalize hT1 : (T.setVm vm₁).pushCell { cls := cX, slots := kX.instanceTypes.map defaultValue, vm := .none } = T1 at X₁ st1
  have hcat : (Value.ref T.heap.size).category = 1 := rfl
  have hcellA : T1.heap[T.heap.size]? = some (freshCell cX kX) := by rw [← hT1]; exact State.heap_pushCell_size _ _
  have d3' : decode c.code (pc + 3) = .ok (.dup, 1) := by rw [hb]; exact d3
  obtain ⟨U, hsteps, hrun, hend, hW, hsame, ce, hce, hO⟩ := X₁.ctorThrow0 hexec htr (own := own) (cls := cls) (names := names) (ic := ic) hown' hcls hnames h (fun x hx => nomatch hx) hfX hkX hcellA (by rw [hhp, hT]; exact Nat.le_refl _)
    (g := { method := m, pc := pc + 4, locals := ls, stack := .ref T.heap.size :: .ref T.heap.size :: rest, locked := none }) rfl hsize rfl rfl (rest := rest) rfl
    (by rw [hb]; exact d4) (by rw [hb]; exact d7) hout hRframes (by simp only [List.map_cons, List.sum_cons, hcat]; omega) hlocks
  obtain ⟨f1, f2⟩ := vx_frame hsame
  rw [hhp] at f1 f2
  have hWs : s.WarmedH U.vm := State.WarmedH.trans hW0 hW
  have hcl : s.vm.findClass cls = some ce.cls := by
    have h9 := hO.cls
    rw [hvm] at h9
    exact h9
  have hall : s.sameButNew ({ U with vm := s.vm } : State) locs mc ms := by
    subst hA
    obtain ⟨e1, e2⟩ := hsame
    rw [State.setFrames_setFrames] at e1
    have h2 : (T.setVm s.vm).sameButNew ({ U with vm := s.vm } : State) [] (0 + 1) (0 + 6) := ⟨e1, e2⟩
    have h3 := X.same.trans h2
    rw [List.append_nil] at h3
    exact h3.mono hc hs
  refine ⟨U, ?_, .threw T.heap.size, hrun, hend, Or.inr ⟨T.heap.size, rfl, cls, ce, locs, hx U hWs.alike f1 (fun q hq => f2 q hq (fun z hz => nomatch hz)), hce, hO.vm, hcl, hWs, hall, hf⟩⟩
  refine st1 _ ?_
  show Steps p.tables e below (T1.setTop { method := m, pc := pc + 3, locals := ls, stack := .ref T.heap.size :: rest, locked := none }) _
  jvm_step X₁.here [X₁.here.top, hexec, d3', Value.category]
  exact hsteps
/-- 'throw new E("text")': new; dup; ldc; invokespecial; athrow -/
theorem vx_throwS {cc : ByteArray} {pc : Nat} (hexec : p.tables.exec = Jvm.exec) (hb : c.code = cc) (hl : l.stackTraces = false) {own cls text : String} {names : List String} {ik is ic mc ms sa : Nat} {A : Nat → Prop}
    (hown : s.vm.findClass own = some m.cls) (hcls : Bundle.fit cls = true) (hnames : ∀ n ∈ names, Bundle.fit n = true)
    (hk : (Cond.classLink own ik cls).before args s = true) (hini : (Cond.initialized cls).before args s = true) (hstr : vk_R own is text sa s) (hat : ∀ w ∈ vx_atS own ic cls names, w.before args s = true)
    (hgood : ∀ w ∈ Cond.classLink own ik cls :: Cond.initialized cls :: vx_atS own ic cls names, vx_ot w = true)
    (hU : vx_Zq Bundle.tN "UNASSIGNED_STACK" Bundle.steD A s s.heap) (hN : vx_Zq Bundle.tN "SUPPRESSED_SENTINEL" Bundle.listD A s s.heap) (hS : va_S A s.heap H locs) (hsize : ls.size = c.maxLocals)
    (d0 : decode cc pc = .ok (.new ik, 3)) (d3 : decode cc (pc + 3) = .ok (.dup, 1)) (d4 : decode cc (pc + 4) = .ok (.ldc is, 2)) (d6 : decode cc (pc + 6) = .ok (.invokespecial ic, 3)) (d9 : decode cc (pc + 9) = .ok (.athrow, 1))
    (hout : ∀ x ∈ c.exceptionTable.toList, covers x (pc + 9) = false)
    (hRframes : names.length + 3 < R.frames) (hRlocals : (rest.map fun v => v.category).sum + (13 * (names.length + 1) + 43) ≤ R.locals) (hRcells : cells + 1 ≤ R.cells) (hRslots : slots + 6 ≤ R.slots) (hlocks : meth.locks = false)
    (hx : ∀ t : State, s.vm.Alike t.vm → H.size ≤ t.heap.size → (∀ q : Nat, q < H.size → t.heap[q]? = H[q]?) → XC cls s t)
    (hf : ∀ z ∈ locs, free z.base) (hc : cells + 1 ≤ mc) (hs : slots + 6 ≤ ms) :
    W p l e R s m args below meth c H locs cells slots (vx_MQ below Qc XC args s mc ms free) (F0 m pc ls rest) := by
  intro T hT X
  have htr : e.platform.stackTraces = false := (show e.platform.stackTraces = l.stackTraces by rw [X.admits.platform]).trans hl
  have Y := vx_rebase X (R' := { frames := R.frames, locals := R.locals, cells := 1, slots := 6 }) (Nat.le_refl _) (Nat.le_refl _) hRcells hRslots
  obtain ⟨s', hA⟩ : ∃ z, z = (T.setVm s.vm).setFrames (.invoking m args :: below) := ⟨_, rfl⟩
  rw [← hA] at Y
  have hvm : s'.vm = s.vm := by rw [hA]; rfl
  have hhp : s'.heap = H := by rw [hA]; exact hT
  have hW0 : s.WarmedH s'.vm := by rw [hvm]; exact State.WarmedH.refl s
  have hat' : ∀ w ∈ vx_atS own ic cls names, w.before args s' = true := fun w hw => vx_ot_at hW0 hvm.symm (hgood w (List.mem_cons_of_mem _ (List.mem_cons_of_mem _ hw))) (hat w hw)
  have hk' : (Cond.classLink own ik cls).before args s' = true := vx_ot_at hW0 hvm.symm (hgood _ List.mem_cons_self) hk
  have hini' : (Cond.initialized cls).before args s' = true := vx_ot_at hW0 hvm.symm (hgood _ (List.mem_cons_of_mem _ List.mem_cons_self)) hini
  have hU' : vx_Zq Bundle.tN "UNASSIGNED_STACK" Bundle.steD A s' s'.heap := by rw [hhp]; exact vx_Zq.moved hW0.alike (hU.kept hS.2.1)
  have hN' : vx_Zq Bundle.tN "SUPPRESSED_SENTINEL" Bundle.listD A s' s'.heap := by rw [hhp]; exact vx_Zq.moved hW0.alike (hN.kept hS.2.1)
  have h : ∀ w ∈ Bundle.ownAtoms own ic cls names, w.before args s' = true := vx_own hat' (vx_isRefq hU'.1) (vx_isRefq hN'.1) hU'.2.word hN'.2.word
  have hown' : s'.vm.findClass own = some m.cls := by rw [hvm]; exact hown
  have hins : (Cond.instantiable cls 6).before args s' = true := h _ (by simp [Bundle.ownAtoms])
  obtain ⟨vm₁, cX, kX, hfX, hkX, -, -, X₁, st1⟩ := Y.newCold hexec (own := own) (C := cls) (index := ik) (n := 6) hown' hk' hins hini'
    (g := F0 m pc ls rest) rfl (by rw [hb]; exact d0) (Nat.le_refl _) (Nat.le_refl _)
  generalize hT1 : (T.setVm vm₁).pushCell { cls := cX, slots := kX.instanceTypes.map defaultValue, vm := .none } = T1 at X₁ st1
  have hcat : (Value.ref T.heap.size).category = 1 := rfl
  have hcellA : T1.heap[T.heap.size]? = some (freshCell cX kX) := by rw [← hT1]; exact State.heap_pushCell_size _ _
  have d3' : decode c.code (pc + 3) = .ok (.dup, 1) := by rw [hb]; exact d3
  have d4' : decode c.code (pc + 4) = .ok (.ldc is, 2) := by rw [hb]; exact d4
  have hstr' : vk_R own is text sa s' := vk_R.warm hW0 hstr
  obtain ⟨U, hsteps, hrun, hend, hW, hsame, ce, hce, hO⟩ := X₁.ctorThrowS hexec htr (own := own) (cls := cls) (names := names) (ic := ic) hown' hcls hnames h (fun x hx => nomatch hx) hfX hkX hcellA (by rw [hhp, hT]; exact Nat.le_refl _) (msg := .ref sa) rfl
    (g := { method := m, pc := pc + 6, locals := ls, stack := .ref sa :: .ref T.heap.size :: .ref T.heap.size :: rest, locked := none }) rfl hsize rfl rfl (rest := rest) rfl
    (by rw [hb]; exact d6) (by rw [hb]; exact d9) hout hRframes (by simp only [List.map_cons, List.sum_cons, hcat]; omega) hlocks
  obtain ⟨f1, f2⟩ := vx_frame hsame
  rw [hhp] at f1 f2
  have hWs : s.WarmedH U.vm := State.WarmedH.trans hW0 hW
  have hcl : s.vm.findClass cls = some ce.cls := by
    have h9 := hO.cls
    rw [hvm] at h9
    exact h9
  have hall : s.sameButNew ({ U with vm := s.vm } : State) locs mc ms := by
    subst hA
    obtain ⟨e1, e2⟩ := hsame
    rw [State.setFrames_setFrames] at e1
    have h2 : (T.setVm s.vm).sameButNew ({ U with vm := s.vm } : State) [] (0 + 1) (0 + 6) := ⟨e1, e2⟩
    have h3 := X.same.trans h2
    rw [List.append_nil] at h3
    exact h3.mono hc hs
  refine ⟨U, ?_, .threw T.heap.size, hrun, hend, Or.inr ⟨T.heap.size, rfl, cls, ce, locs, hx U hWs.alike f1 (fun q hq => f2 q hq (fun z hz => nomatch hz)), hce, hO.vm, hcl, hWs, hall, hf⟩⟩
  refine st1 _ ?_
  show Steps p.tables e below (T1.setTop { method := m, pc := pc + 3, locals := ls, stack := .ref T.heap.size :: rest, locked := none }) _
  jvm_step X₁.here [X₁.here.top, hexec, d3', Value.category]
  exact X₁.ldcString hexec (own := own) (text := text) (index := is) (a := sa) hown' hstr'.1 hstr'.2
    (g := { method := m, pc := pc + 4, locals := ls, stack := .ref T.heap.size :: .ref T.heap.size :: rest, locked := none }) rfl d4' _ hsteps
/-- 'throw new E("text")', the text by a wide index -/
theorem vx_throwSW {cc : ByteArray} {pc : Nat} (hexec : p.tables.exec = Jvm.exec) (hb : c.code = cc) (hl : l.stackTraces = false) {own cls text : String} {names : List String} {ik is ic mc ms sa : Nat} {A : Nat → Prop}
    (hown : s.vm.findClass own = some m.cls) (hcls : Bundle.fit cls = true) (hnames : ∀ n ∈ names, Bundle.fit n = true)
    (hk : (Cond.classLink own ik cls).before args s = true) (hini : (Cond.initialized cls).before args s = true) (hstr : vk_R own is text sa s) (hat : ∀ w ∈ vx_atS own ic cls names, w.before args s = true)
    (hgood : ∀ w ∈ Cond.classLink own ik cls :: Cond.initialized cls :: vx_atS own ic cls names, vx_ot w = true)
    (hU : vx_Zq Bundle.tN "UNASSIGNED_STACK" Bundle.steD A s s.heap) (hN : vx_Zq Bundle.tN "SUPPRESSED_SENTINEL" Bundle.listD A s s.heap) (hS : va_S A s.heap H locs) (hsize : ls.size = c.maxLocals)
    (d0 : decode cc pc = .ok (.new ik, 3)) (d3 : decode cc (pc + 3) = .ok (.dup, 1)) (d4 : decode cc (pc + 4) = .ok (.ldc_w is, 3)) (d7 : decode cc (pc + 7) = .ok (.invokespecial ic, 3)) (d10 : decode cc (pc + 10) = .ok (.athrow, 1))
    (hout : ∀ x ∈ c.exceptionTable.toList, covers x (pc + 10) = false)
    (hRframes : names.length + 3 < R.frames) (hRlocals : (rest.map fun v => v.category).sum + (13 * (names.length + 1) + 43) ≤ R.locals) (hRcells : cells + 1 ≤ R.cells) (hRslots : slots + 6 ≤ R.slots) (hlocks : meth.locks = false)
    (hx : ∀ t : State, s.vm.Alike t.vm → H.size ≤ t.heap.size → (∀ q : Nat, q < H.size → t.heap[q]? = H[q]?) → XC cls s t)
    (hf : ∀ z ∈ locs, free z.base) (hc : cells + 1 ≤ mc) (hs : slots + 6 ≤ ms) :
    W p l e R s m args below meth c H locs cells slots (vx_MQ below Qc XC args s mc ms free) (F0 m pc ls rest) := by
  intro T hT X
  have htr : e.platform.stackTraces = false := (show e.platform.stackTraces = l.stackTraces by rw [X.admits.platform]).trans hl
  have Y := vx_rebase X (R' := { frames := R.frames, locals := R.locals, cells := 1, slots := 6 }) (Nat.le_refl _) (Nat.le_refl _) hRcells hRslots
  obtain ⟨s', hA⟩ : ∃ z, z = (T.setVm s.vm).setFrames (.invoking m args :: below) := ⟨_, rfl⟩
  rw [← hA] at Y
  have hvm : s'.vm = s.vm := by rw [hA]; rfl
  have hhp : s'.heap = H := by rw [hA]; exact hT
  have hW0 : s.WarmedH s'.vm := by rw [hvm]; exact State.WarmedH.refl s
  have hat' : ∀ w ∈ vx_atS own ic cls names, w.before args s' = true := fun w hw => vx_ot_at hW0 hvm.symm (hgood w (List.mem_cons_of_mem _ (List.mem_cons_of_mem _ hw))) (hat w hw)
  have hk' : (Cond.classLink own ik cls).before args s' = true := vx_ot_at hW0 hvm.symm (hgood _ List.mem_cons_self) hk
  have hini' : (Cond.initialized cls).before args s' = true := vx_ot_at hW0 hvm.symm (hgood _ (List.mem_cons_of_mem _ List.mem_cons_self)) hini
  have hU' : vx_Zq Bundle.tN "UNASSIGNED_STACK" Bundle.steD A s' s'.heap := by rw [hhp]; exact vx_Zq.moved hW0.alike (hU.kept hS.2.1)
  have hN' : vx_Zq Bundle.tN "SUPPRESSED_SENTINEL" Bundle.listD A s' s'.heap := by rw [hhp]; exact vx_Zq.moved hW0.alike (hN.kept hS.2.1)
  have h : ∀ w ∈ Bundle.ownAtoms own ic cls names, w.before args s' = true := vx_own hat' (vx_isRefq hU'.1) (vx_isRefq hN'.1) hU'.2.word hN'.2.word
  have hown' : s'.vm.findClass own = some m.cls := by rw [hvm]; exact hown
  have hins : (Cond.instantiable cls 6).before args s' = true := h _ (by simp [Bundle.ownAtoms])
  obtain ⟨vm₁, cX, kX, hfX, hkX, -, -, X₁, st1⟩ := Y.newCold hexec (own := own) (C := cls) (index := ik) (n := 6) hown' hk' hins hini'
    (g := F0 m pc ls rest) rfl (by rw [hb]; exact d0) (Nat.le_refl _) (Nat.le_refl _)
  generalize hT1 : (T.setVm vm₁).pushCell { cls := cX, slots := kX.instanceTypes.map defaultValue, vm := .none } = T1 at X₁ st1
  have hcat : (Value.ref T.heap.size).category = 1 := rfl
  have hcellA : T1.heap[T.heap.size]? = some (freshCell cX kX) := by rw [← hT1]; exact State.heap_pushCell_size _ _
  have d3' : decode c.code (pc + 3) = .ok (.dup, 1) := by rw [hb]; exact d3
  have d4' : decode c.code (pc + 4) = .ok (.ldc_w is, 3) := by rw [hb]; exact d4
  have hstr' : vk_R own is text sa s' := vk_R.warm hW0 hstr
  obtain ⟨U, hsteps, hrun, hend, hW, hsame, ce, hce, hO⟩ := X₁.ctorThrowS hexec htr (own := own) (cls := cls) (names := names) (ic := ic) hown' hcls hnames h (fun x hx => nomatch hx) hfX hkX hcellA (by rw [hhp, hT]; exact Nat.le_refl _) (msg := .ref sa) rfl
    (g := { method := m, pc := pc + 7, locals := ls, stack := .ref sa :: .ref T.heap.size :: .ref T.heap.size :: rest, locked := none }) rfl hsize rfl rfl (rest := rest) rfl
    (by rw [hb]; exact d7) (by rw [hb]; exact d10) hout hRframes (by simp only [List.map_cons, List.sum_cons, hcat]; omega) hlocks
  obtain ⟨f1, f2⟩ := vx_frame hsame
  rw [hhp] at f1 f2
  have hWs : s.WarmedH U.vm := State.WarmedH.trans hW0 hW
  have hcl : s.vm.findClass cls = some ce.cls := by
    have h9 := hO.cls
    rw [hvm] at h9
    exact h9
  have hall : s.sameButNew ({ U with vm := s.vm } : State) locs mc ms := by
    subst hA
    obtain ⟨e1, e2⟩ := hsame
    rw [State.setFrames_setFrames] at e1
    have h2 : (T.setVm s.vm).sameButNew ({ U with vm := s.vm } : State) [] (0 + 1) (0 + 6) := ⟨e1, e2⟩
    have h3 := X.same.trans h2
    rw [List.append_nil] at h3
    exact h3.mono hc hs
  refine ⟨U, ?_, .threw T.heap.size, hrun, hend, Or.inr ⟨T.heap.size, rfl, cls, ce, locs, hx U hWs.alike f1 (fun q hq => f2 q hq (fun z hz => nomatch hz)), hce, hO.vm, hcl, hWs, hall, hf⟩⟩
  refine st1 _ ?_
  show Steps p.tables e below (T1.setTop { method := m, pc := pc + 3, locals := ls, stack := .ref T.heap.size :: rest, locked := none }) _
  jvm_step X₁.here [X₁.here.top, hexec, d3', Value.category]
  exact X₁.ldcStringW hexec (own := own) (text := text) (index := is) (a := sa) hown' hstr'.1 hstr'.2
    (g := { method := m, pc := pc + 4, locals := ls, stack := .ref T.heap.size :: .ref T.heap.size :: rest, locked := none }) rfl d4' _ hsteps
end Ends
section Bodies
variable {l : Launch}
theorem vx_ofW {y : MethodName} {ws ws' : List Cond} {rm : Room} {Pc : Array Value → State → Prop} {Qc : Array Value → State → Outcome → State → Prop} {XC : String → State → State → Prop} {mc ms : Nat} {free : Addr → Prop} {cc : ByteArray} {maxL : Nat} {ret : Option FieldType}
    (hy : plainName y.cls = true) (hw : ws = Cond.code y cc maxL ret :: ws')
    (body : ∀ p e s m args below meth c s₁, BodyLoose p l y (headSpec ws rm) cc maxL ret e s m args below meth c s₁ → c.maxLocals = maxL → (∀ x ∈ c.exceptionTable.toList, False) → Pc args s →
      W p l e (headSpec ws rm).room s m args below meth c s.heap [] 0 0 (vx_MQ below Qc XC args s mc ms free) (entryFrame m args maxL)) : vx_Met l y ws rm Pc Qc XC mc ms free := by
  refine MetFree.of_bodyS (code := cc) (maxLocals := maxL) (ret := ret) hy ?_ ?_
  · intro args s m h hn
    obtain ⟨meth, c, h1, h2, h3, h4, h5, h6, -, -⟩ := Cond.code_spec hn (atoms_spec (ws := ws) h _ (by rw [hw]; exact List.mem_cons_self))
    exact ⟨meth, c, h1, h2, h3, h4, h5, h6⟩
  · intro p e s m args below meth c s₁ B hml hP _
    have hh0 : s₁.heap = s.heap := by rw [B.state]; rfl
    have ht : ∀ x ∈ c.exceptionTable.toList, False := by
      obtain ⟨meth9, c9, h1, h2, -, -, -, -, h7, -⟩ := Cond.code_spec B.named (atoms_spec (ws := ws) B.pre _ (by rw [hw]; exact List.mem_cons_self))
      cases Option.some.inj (h1.symm.trans B.method)
      cases Option.some.inj (h2.symm.trans (Stand.of_body B).code)
      intro x hx
      rw [Array.isEmpty_iff.mp h7] at hx
      cases hx
    obtain ⟨t, a1, o, b1, b2, b3⟩ := body p e s m args below meth c s₁ B hml ht hP s₁ hh0 (Stand.of_body B)
    exact ⟨t, o, a1, b1, b2, b3⟩
/-- the table of a body with handlers -/
theorem vx_table {p : Program} {x y : MethodName} {S : Spec} {cc bytes : ByteArray} {maxL maxL' : Nat} {ret ret' : Option FieldType} {e : Env} {s s₁ : State} {m : MethodId} {args : Array Value} {below : List Frame} {meth : Method} {c : Code} {hh : List (Nat × Nat × Nat × Nat)}
    (B : BodyLoose p l y S cc maxL ret e s m args below meth c s₁) (h : (Cond.codeWith y bytes maxL' ret' hh).before args s = true) : c.exceptionTable.toList = tableOf hh := by
  obtain ⟨m9, meth9, c9, hn9, h1, h2, -, -, h6, -⟩ := Cond.codeWith_spec h
  cases Option.some.inj (hn9.symm.trans B.named)
  cases Option.some.inj (h1.symm.trans B.method)
  cases Option.some.inj (h2.symm.trans (Stand.of_body B).code)
  rw [← h6, table_eq]
end Bodies
end VXA
/-! ===== END ===== -/
/-! ===== BEGIN a static call of a method with an exception table ===== -/
section VXS
variable {p : Program} {l : Launch} {e : Env} {R : Room} {s : State} {m : MethodId} {args : Array Value} {below : List Frame} {meth : Method} {c : Code} {T : State} {H : Heap} {locs : List Loc} {cells slots : Nat}
abbrev vx_CSW (R : Room) (s : State) (args : Array Value) (own : String) (index : Nat) (y : MethodName) (bytes : ByteArray) (maxL : Nat) (ret : Option FieldType) (hh : List (Nat × Nat × Nat × Nat)) (ws : List Cond) (rm : Room) (mc ms n : Nat) : Prop :=
  (rm.cells = mc ∧ rm.slots = ms ∧ rm.frames + 1 ≤ R.frames ∧ 8 + (maxL + 11) + rm.locals ≤ R.locals ∧ (∀ w ∈ ws, ∀ (a' : Array Value) (U : State), s.WarmedH U.vm → w.before a' U = true) ∧ Cond.codeWith y bytes maxL ret hh ∈ ws) ∧
  (Cond.codeWith y bytes maxL ret hh).before args s = true ∧ (Cond.initialized y.cls).before args s = true ∧ (y.cls ≠ "java/lang/invoke/MethodHandle" ∧ y.cls ≠ "java/lang/invoke/VarHandle") ∧
  (∀ sig, parseMethodDescriptor y.desc = some sig → n = sig.parameters.length) ∧ (Cond.methodLink own index y).before args s = true ∧ (Cond.static y).before args s = true
theorem vx_cwSW {own : String} {index maxL mc ms : Nat} {y : MethodName} {bytes : ByteArray} {ret : Option FieldType} {hh : List (Nat × Nat × Nat × Nat)} {Ts ws ws' : List Cond} {rm : Room} (n : Nat) (ht : ∀ w ∈ Ts, w.before args s = true) (hT : GoodIn Ts (va_wsS own index y ws)) (hw : ws = Cond.codeWith y bytes maxL ret hh :: ws') (hrc : rm.cells = mc) (hrs : rm.slots = ms)
    (hd : y.cls ≠ "java/lang/invoke/MethodHandle" ∧ y.cls ≠ "java/lang/invoke/VarHandle" ∧ (parseMethodDescriptor y.desc).map (fun d => d.parameters.length) = some n) (hR : rm.frames + 1 ≤ R.frames ∧ 8 + (maxL + 11) + rm.locals ≤ R.locals) :
    vx_CSW R s args own index y bytes maxL ret hh ws rm mc ms n := by
  have ok : ∀ w ∈ va_wsS own index y ws, w.before args s = true := fun w h => ht w (hT w h).1
  have hG : GoodIn Ts ws := fun w h => hT w (by unfold va_wsS; exact List.mem_append_right _ h)
  have hc : Cond.codeWith y bytes maxL ret hh ∈ ws := by rw [hw]; exact List.mem_cons_self
  refine ⟨⟨hrc, hrs, hR.1, hR.2, pay_in ht hG, hc⟩, ht _ (hG _ hc).1, ok _ (by simp [va_wsS]), ⟨hd.1, hd.2.1⟩, fun sig h => ?_, ok _ (by simp [va_wsS]), ok _ (by simp [va_wsS])⟩
  have h2 := hd.2.2
  rw [h] at h2
  exact (Option.some.inj h2).symm
theorem vx_callSW (X : Stand p l e R s m args below meth c T locs cells slots) (hexec : p.tables.exec = Jvm.exec) {own : String} {index : Nat} {y : MethodName} {bytes : ByteArray} {maxL : Nat} {ret : Option FieldType} {hh : List (Nat × Nat × Nat × Nat)}
    (hown : s.vm.findClass own = some m.cls) (hlink : (Cond.methodLink own index y).before args s = true) (hstat : (Cond.static y).before args s = true) (hinit : (Cond.initialized y.cls).before args s = true)
    (hcode : (Cond.codeWith y bytes maxL ret hh).before args s = true) (hy : y.cls ≠ "java/lang/invoke/MethodHandle" ∧ y.cls ≠ "java/lang/invoke/VarHandle")
    {W9 : Nat} {Pre : Pt → Array Value → Prop} {Post : Pt → Array Value → Option Value → Pt → Prop} (hK : Back l R p e below s args y 3 W9 Pre Post)
    {g : JFrame} (hg : g.method = m) (hsize : g.locals.size = c.maxLocals) {argsL rest : List Value} (hlen : ∀ sig, parseMethodDescriptor y.desc = some sig → argsL.length = sig.parameters.length)
    (hstack : g.stack = argsL.reverse ++ rest) (hW : 2 * g.monitorRoom + (rest.map fun v => v.category).sum ≤ W9) (hdg : decode c.code g.pc = .ok (.invokestatic index, 3))
    (hpre : ∀ vm₁, s.WarmedH vm₁ → Pre ⟨T.setVm vm₁, locs, cells, slots⟩ argsL.toArray) :
    ∃ (v : Option Value) (vm₁ : Vm) (B : Pt), s.WarmedH vm₁ ∧ Stand p l e R s m args below meth c B.U B.locs B.cells B.slots ∧ Post ⟨T.setVm vm₁, locs, cells, slots⟩ argsL.toArray v B ∧
      ∀ target, Steps p.tables e below (B.U.setTop { g with pc := g.pc + 3, stack := v.toList ++ rest }) target → Steps p.tables e below (T.setTop g) target := by
  obtain ⟨mk, methM, cM, hnamed, hmethM, -, -, -, -, -, -, hsigM⟩ := Cond.codeWith_spec hcode
  have hstatic : methM.isStatic = true := Cond.static_spec hnamed hmethM hstat
  obtain ⟨kP, hkP, -⟩ := className_of_methodNamed hnamed
  have hinitP : kP.init = .initialized := Cond.initialized_spec (findClass_of_methodNamed hnamed) hkP hinit
  obtain ⟨vm₁, X₁, hstep₁⟩ := X.invokestatic hexec hown hlink hnamed hmethM hstatic hkP hinitP hy (g := g) hg (argsL := argsL) (rest := rest) (hlen _ hsigM) hstack hdg
  obtain ⟨v, B, X', hpost, hsteps⟩ := hK m meth c ⟨T.setVm vm₁, locs, cells, slots⟩ { g with stack := rest } (.invokestatic index) mk argsL.toArray X₁ hg hsize hdg hW (X₁.named hnamed) (hpre vm₁ X₁.warmed)
  exact ⟨v, vm₁, B, X₁.warmed, X', hpost, fun target h => hstep₁ _ fun acts => by rw [doInvoke_state]; exact hsteps.trans h⟩
theorem vx_runSW {y : MethodName} {bytes cc : ByteArray} {maxL nL mc ms n index : Nat} {ret : Option FieldType} {hh : List (Nat × Nat × Nat × Nat)} {ws : List Cond} {rm : Room} {Pc : Array Value → State → Prop} {Qc : Array Value → State → Outcome → State → Prop} {free : Addr → Prop} {Ts : List Cond} {own : String} {As rest : List Value} {g : JFrame}
    (S : CallFix p m c cc nL s args Ts own) (hM : Met l y ws rm Pc Qc mc ms free) (cw : vx_CSW R s args own index y bytes maxL ret hh ws rm mc ms n) (hp : PreS s H Pc As)
    (hg : g.method = m) (hn : As.length = n) (hsize : g.locals.size = nL) (hstack : g.stack = As.reverse ++ rest) (hW : 2 * g.monitorRoom + (rest.map fun v => v.category).sum ≤ 8) (hdg : decode cc g.pc = .ok (.invokestatic index, 3)) (hf : cells + mc ≤ R.cells ∧ slots + ms ≤ R.slots) :
    va_Run p l e R s m args below meth c H locs cells slots mc ms g rest (Qc As.toArray) (free) := by
  obtain ⟨⟨hrc, hrs, hfr, hlo, hws, hcw⟩, hcode, hini, hy, hlen, hl, hstt⟩ := cw
  have hK : Back l R p e below s args y 3 8 (PreOf R mc ms Pc) (PostOf Qc mc ms free) := va_backW (hh := hh) (bytes := bytes) (maxL := maxL) (ret := ret) hM hp.1 hrc hrs hfr hlo hws hcw (fun a' U hW => word_at hW (Or.inl (by first | rfl | simp [Cond.onTables, Cond.keeps, Cond.steady])) hini)
  obtain ⟨hx, hb, hml, ho, -⟩ := S
  intro T hT X
  obtain ⟨v, vm₁, ⟨U', l2, c2, s2⟩, hW₁, X', ⟨g', mk, t, L, e1, e2, hq, h1, hL, h2, h3⟩, st⟩ := vx_callSW X hx (hh := hh) (bytes := bytes) (maxL := maxL) (ret := ret) ho hl hstt hini hcode hy hK hg (hsize.trans hml.symm) (argsL := As) (rest := rest) (fun sig h => hn.trans (hlen sig h)) hstack hW (by rw [hb]; exact hdg)
    (fun vm₁ hW₁ => ⟨hf.1, hf.2, hp.2 (T.setVm vm₁) hT hW₁⟩)
  dsimp only [Pt.U, Pt.locs, Pt.cells, Pt.slots] at X' e1 e2 h1 h2 h3 st
  subst h1; subst h2; subst h3
  exact ⟨v, (T.setVm vm₁).calling g' mk As.toArray, t, U', L, hT, X', hL, e1, e2, hq, st⟩
/-- not caught here, past rows that name other classes: it goes on to the caller -/
theorem vx_outP {p : Program} {l : Launch} {e : Env} {R : Room} {s : State} {m : MethodId} {args : Array Value} {below : List Frame} {meth : Method} {c : Code} {H : Heap} {locs : List Loc} {cells slots : Nat} {free : Addr → Prop} {ls : Array Slot} {rest : List Value} {Qc : Array Value → State → Outcome → State → Prop} {XC : String → State → State → Prop}
    {pc : Nat} {own E : String} {ce : Cell} {q : Addr} {mc ms : Nat} (hown : s.vm.findClass own = some m.cls) (hlocks : meth.locks = false)
    (hpass : ∀ z ∈ c.exceptionTable.toList, covers z pc = false ∨ (z.catchType ≠ 0 ∧ ∃ nm : String, (Cond.classLink own z.catchType nm).before args s = true ∧ va_Nc E nm s)) (hcell : H[q]? = some ce) (hv : ce.vm = .none) (hcl : s.vm.findClass E = some ce.cls)
    (hx : ∀ t : State, t.heap = H → s.vm.Alike t.vm → XC E s t) (hf : ∀ z ∈ locs, free z.base) (hc : cells ≤ mc) (hs : slots ≤ ms) :
    vx_W p l e R s m args below meth c H locs cells slots (vx_MQ below Qc XC args s mc ms free) (F0 m pc ls rest) q := by
  intro T hT X
  have hpl : e.platform.magicAccessors = ({} : Platform).magicAccessors := by rw [X.admits.platform]
  obtain ⟨vm', hW', X', st⟩ := X.outThrough hlocks q (g := F0 m pc ls rest) rfl rfl rfl (cell := ce) (by rw [hT]; exact hcell) (by rw [hv]; rfl)
    (by obtain ⟨k9, h9, -⟩ := Vm.findClass_spec hcl; exact ⟨k9, h9⟩) (fun z hz => by
      rcases hpass z hz with h | ⟨hz0, nm, hl1, hn1⟩
      · exact Or.inl h
      · obtain ⟨c6, hc6, hcl6⟩ := Cond.classLink_spec hown hl1 e.platform hpl
        obtain ⟨a8, b8, h1, h2, h3⟩ := hn1
        cases Option.some.inj (h1.symm.trans hcl)
        cases Option.some.inj (h2.symm.trans hc6)
        exact Or.inr ⟨hz0, _, hcl6, h3⟩)
  obtain ⟨g₀, hfr⟩ := X'.frames_eq
  have hcell9 : ((T.setVm vm').setFrames (.throwing q :: below)).heap[q]? = some ce := by
    show T.heap[q]? = some ce
    rw [hT]; exact hcell
  have hend : Ended ((T.setVm vm').setFrames (.throwing q :: below)) below (.threw q) := State.frames_setFrames _ (State.cur_lt_of_frames hfr)
  refine ⟨(T.setVm vm').setFrames (.throwing q :: below), ?_, .threw q, X'.here.running, hend, Or.inr ⟨q, rfl, E, ce, locs, hx _ hT (X'.ends _).1.alike, hcell9, hv, hcl, (X'.ends _).1, (X'.ends _).2.mono hc hs, hf⟩⟩
  rw [X.pushThrowing_eq]
  exact st
/-- a thing of a world lies in the heap -/
theorem vx_lt {D : va_G} {cl : List vw_C} {ws : va_W} {H1 : Heap} (h : va_P D cl ws H1) {k : Nat} {q : Nat × va_E} (hk : ws[k]? = some q) : q.1 < H1.size := (h k q hk).lt
end VXS
/-! ===== END ===== -/
/-! ===== BEGIN methods with a table of their own: called by a name, returning or throwing ===== -/
section VXH
/-! vx_backW, vx_callVX, vx_callSX, vx_callVW, vx_runVW, vx_runVX, vx_runSX, vx_ofWH follow the same proofs as their sisters above (Free/Laws.lean, Shelf42/LK1.lean); vx_outP calls Shelf42/NT130.lean (outThrough). -/
section
variable {l : Launch} {R : Room} {p : Program} {e : Env} {below : List Frame} {s : State} {sargs : Array Value} {y : MethodName} {len W9 : Nat}
theorem vx_backW {ws : List Cond} {rm : Room} {Pc : Array Value → State → Prop} {Qc : Array Value → State → Outcome → State → Prop} {XC : String → State → State → Prop} {mc ms : Nat} {free : Addr → Prop} {bytes : ByteArray} {maxL : Nat} {ret : Option FieldType} {hh : List (Nat × Nat × Nat × Nat)}
    (hM : vx_Met l y ws rm Pc Qc XC mc ms free) (hblind : FrameBlind Pc) (hrc : rm.cells = mc) (hrs : rm.slots = ms)
    (hframes : rm.frames + 1 ≤ R.frames) (hlocals : W9 + (maxL + 11) + rm.locals ≤ R.locals)
    (hws : ∀ w ∈ ws, ∀ a' U, s.WarmedH U.vm → w.before a' U = true) (hcode : Cond.codeWith y bytes maxL ret hh ∈ ws) (hinit : ∀ a' U, s.WarmedH U.vm → (Cond.initialized y.cls).before a' U = true) :
    vx_Back l R p e below s sargs y len W9 (PreOf R mc ms Pc) (PostOf Qc mc ms free) (vx_Post XC mc ms free) := by
  intro m meth c A g ig mk a X hg hsize hdg hW hn hp
  have h1 : (headSpec ws rm).pre.before a A.U = true := atoms_intro fun w hw => hws w hw _ _ X.warmed
  have h2 : (Cond.codeWith y bytes maxL ret hh).before a A.U = true := hws _ hcode _ _ X.warmed
  have h3 : (Cond.initialized y.cls).before a A.U = true := hinit _ _ X.warmed
  have h4 : A.cells + (headSpec ws rm).room.cells ≤ R.cells := by rw [show (headSpec ws rm).room.cells = mc from hrc]; exact hp.1
  have h5 : A.slots + (headSpec ws rm).room.slots ≤ R.slots := by rw [show (headSpec ws rm).room.slots = ms from hrs]; exact hp.2.1
  have hPc : Pc a (A.U.calling g mk a) := hblind _ _ _ _ hp.2.2
  obtain ⟨U, Ls, c0, s0⟩ := A
  dsimp only [Pt.U, Pt.locs, Pt.cells, Pt.slots] at h1 h2 h3 h4 h5 X hn hPc ⊢
  obtain ⟨m9, methY, cY, hn9, hmY, hcY, -, hlY, -⟩ := Cond.codeWith_spec h2
  cases Option.some.inj (hn9.symm.trans hn)
  obtain ⟨kY, hkY, -⟩ := className_of_methodNamed hn
  have hinitY : kY.init = .initialized := Cond.initialized_spec (findClass_of_methodNamed hn) hkY h3
  have h : At U g.method c below := by rw [hg]; exact X.here
  have hlocals9 : W9 + (maxL + 11) + (headSpec ws rm).room.locals ≤ R.locals := hlocals
  have happ : (headSpec ws rm).appliesLoose y e.platform (U.calling g mk a) = true :=
    Spec.appliesLoose_calling (g := g) h hdg hn hkY hinitY
      (X.room_calling (g := g) (R' := (headSpec ws rm).room) hsize hmY hcY hframes (by rw [hlY]; omega) h4 h5) h1
  obtain ⟨mid, hmid⟩ := h.above
  have hfr : (U.setTop g).frames = (.java g :: mid) ++ below := by rw [State.frames_setTop' g h.top, hmid]; rfl
  obtain ⟨o, s₂, hsteps, -, hend, hq⟩ := Steps.callFree hM p X.admits X.cas X.clock (acts := []) hfr happ hPc trivial
  have hq' : vx_Q Qc XC mc ms free a (U.calling g mk a) o s₂ := hq
  rw [State.frames_setTop' g h.top] at hend
  obtain ⟨g₀, hg0⟩ := Option.isSome_iff_exists.mp h.top
  obtain ⟨r, hr⟩ := State.topJava?_eq_some.mp hg0
  have hr' : (({ U with heap := s₂.heap, slotsUsed := s₂.slotsUsed } : State).setVm s₂.vm).frames = .java g₀ :: r := hr
  rcases hq' with ⟨hqc, L, hfe, hL⟩ | ⟨q, rfl, E, ce, L, hx, hce, hcv, hcl, hW₂, hsm, hL⟩
  · obtain ⟨⟨v, rfl⟩, hW₂, e2, q2, q3, q4, q5, q6⟩ := id hfe
    have e3 : s₂ = ({ (U.calling g mk a).setFrames s₂.frames with heap := s₂.heap, slotsUsed := s₂.slotsUsed } : State).setVm s₂.vm := by
      have : s₂ = ({ s₂ with vm := (U.calling g mk a).vm } : State).setVm s₂.vm := rfl
      rw [e2] at this
      exact this
    obtain ⟨c₂, i₂, len₂, hc₂, hd₂, hf₂⟩ := hend
    have hW' : U.WarmedH s₂.vm := hW₂
    have hcc : c₂ = c := by
      have h1 : s₂.code? g.method = U.code? g.method := by
        rw [State.code?_eq, State.code?_eq, hW'.alike.method?]
      exact Option.some.inj (hc₂.symm.trans (h1.trans h.code))
    subst hcc
    have hlen : len₂ = len := by rw [hdg] at hd₂; cases hd₂; rfl
    subst hlen
    have hs₂ : s₂ = (({ U with heap := s₂.heap, slotsUsed := s₂.slotsUsed } : State).setVm s₂.vm).setTop { g with pc := g.pc + len₂, stack := v.toList ++ g.stack } := by
      refine e3.trans ?_
      rw [hf₂, State.calling_eq h.top, State.setFrames_setFrames, State.setTop_of_frames _ hr', hr]
      rfl
    have hsame : U.sameButNew ({ U with heap := s₂.heap, slotsUsed := s₂.slotsUsed } : State) L mc ms := by
      refine ⟨?_, q2, q3, q4, q5, q6⟩
      obtain ⟨t, ht, -⟩ := State.frames_cons hr
      show ({ U with heap := s₂.heap, slotsUsed := s₂.slotsUsed } : State) = { U.setFrames U.frames with heap := s₂.heap, slotsUsed := s₂.slotsUsed }
      rw [State.setFrames_self ht]
    subst hg
    refine Or.inl ⟨v, ⟨(({ U with heap := s₂.heap, slotsUsed := s₂.slotsUsed } : State).setVm s₂.vm), Ls ++ L, c0 + mc, s0 + ms⟩,
      ⟨X.admits, X.cas, X.clock, X.frames, X.room, X.hears, X.method, X.code, (X.here.setHeapUsed s₂.heap s₂.slotsUsed).setVm hW'.alike, X.tail, State.WarmedH.trans X.warmed hW', X.limits, X.bytes, X.same.trans (hsame.setVm s.vm)⟩,
      ⟨g, mk, s₂, L, rfl, rfl, hqc, rfl, hL, rfl, rfl⟩, ?_⟩
    show Steps p.tables e below _ ((({ U with heap := s₂.heap, slotsUsed := s₂.slotsUsed } : State).setVm s₂.vm).setTop { g with pc := g.pc + len₂, stack := v.toList ++ g.stack })
    rw [← hs₂]
    exact hsteps
  · obtain ⟨e2, q2, q3, q4, q5, q6⟩ := id hsm
    have e3 : s₂ = ({ (U.calling g mk a).setFrames s₂.frames with heap := s₂.heap, slotsUsed := s₂.slotsUsed } : State).setVm s₂.vm := by
      have : s₂ = ({ s₂ with vm := (U.calling g mk a).vm } : State).setVm s₂.vm := rfl
      rw [e2] at this
      exact this
    have hf₂ : s₂.frames = .throwing q :: .java g :: U.frames.tail := hend
    have hW' : U.WarmedH s₂.vm := hW₂
    have hs₂ : s₂ = ((({ U with heap := s₂.heap, slotsUsed := s₂.slotsUsed } : State).setVm s₂.vm).setTop g).pushFrame (.throwing q) := by
      refine e3.trans ?_
      rw [hf₂, State.calling_eq h.top, State.setFrames_setFrames, State.pushFrame, State.frames_setTop _ hr', State.setTop_of_frames _ hr', State.setFrames_setFrames, hr]
      rfl
    have hsame : U.sameButNew ({ U with heap := s₂.heap, slotsUsed := s₂.slotsUsed } : State) L mc ms := by
      refine ⟨?_, q2, q3, q4, q5, q6⟩
      obtain ⟨t, ht, -⟩ := State.frames_cons hr
      show ({ U with heap := s₂.heap, slotsUsed := s₂.slotsUsed } : State) = { U.setFrames U.frames with heap := s₂.heap, slotsUsed := s₂.slotsUsed }
      rw [State.setFrames_self ht]
    subst hg
    refine Or.inr ⟨q, ⟨(({ U with heap := s₂.heap, slotsUsed := s₂.slotsUsed } : State).setVm s₂.vm), Ls ++ L, c0 + mc, s0 + ms⟩,
      ⟨X.admits, X.cas, X.clock, X.frames, X.room, X.hears, X.method, X.code, (X.here.setHeapUsed s₂.heap s₂.slotsUsed).setVm hW'.alike, X.tail, State.WarmedH.trans X.warmed hW', X.limits, X.bytes, X.same.trans (hsame.setVm s.vm)⟩,
      ⟨g, mk, s₂, L, E, ce, rfl, rfl, hx, hce, hcv, hcl, rfl, hL, rfl, rfl⟩, ?_⟩
    show Steps p.tables e below _ (((({ U with heap := s₂.heap, slotsUsed := s₂.slotsUsed } : State).setVm s₂.vm).setTop g).pushFrame (.throwing q))
    rw [← hs₂]
    exact hsteps
end
variable {p : Program} {l : Launch} {e : Env} {R : Room} {s : State} {m : MethodId} {args : Array Value} {below : List Frame} {meth : Method} {c : Code} {T : State} {H : Heap} {locs : List Loc} {cells slots : Nat}
theorem vx_callVX (X : Stand p l e R s m args below meth c T locs cells slots) (hexec : p.tables.exec = Jvm.exec) {own C : String} {index : Nat} {y : MethodName} {bytes : ByteArray} {maxL : Nat} {ret : Option FieldType} {hh : List (Nat × Nat × Nat × Nat)}
    (hown : s.vm.findClass own = some m.cls) (hlink : (Cond.methodLink own index y).before args s = true) (hinst : (Cond.instanceMethod y).before args s = true) (hsel : (Cond.selects C y y).before args s = true)
    (hcode : (Cond.codeWith y bytes maxL ret hh).before args s = true) (hy : y.cls ≠ "java/lang/invoke/MethodHandle" ∧ y.cls ≠ "java/lang/invoke/VarHandle")
    {W9 : Nat} {Pre : Pt → Array Value → Prop} {Post : Pt → Array Value → Option Value → Pt → Prop} {PostX : Pt → Array Value → Addr → Pt → Prop} (hK : vx_Back l R p e below s args y 3 W9 Pre Post PostX)
    {b : Addr} {cellB : Cell} (hcell : T.heap[b]? = some cellB) (hobj : cellB.vm.isStatics = false) (hcls : s.vm.findClass C = some cellB.cls)
    {g : JFrame} (hg : g.method = m) (hsize : g.locals.size = c.maxLocals) {argsL rest : List Value} (hlen : ∀ sig, parseMethodDescriptor y.desc = some sig → argsL.length = sig.parameters.length)
    (hstack : g.stack = argsL.reverse ++ .ref b :: rest) (hW : 2 * g.monitorRoom + (rest.map fun v => v.category).sum ≤ W9) (hdg : decode c.code g.pc = .ok (.invokevirtual index, 3))
    (hpre : ∀ vm₁, s.WarmedH vm₁ → Pre ⟨T.setVm vm₁, locs, cells, slots⟩ (Value.ref b :: argsL).toArray) :
    (∃ (v : Option Value) (vm₁ : Vm) (B : Pt), s.WarmedH vm₁ ∧ Stand p l e R s m args below meth c B.U B.locs B.cells B.slots ∧ Post ⟨T.setVm vm₁, locs, cells, slots⟩ (Value.ref b :: argsL).toArray v B ∧
      ∀ target, Steps p.tables e below (B.U.setTop { g with pc := g.pc + 3, stack := v.toList ++ rest }) target → Steps p.tables e below (T.setTop g) target) ∨
    (∃ (q : Addr) (vm₁ : Vm) (B : Pt), s.WarmedH vm₁ ∧ Stand p l e R s m args below meth c B.U B.locs B.cells B.slots ∧ PostX ⟨T.setVm vm₁, locs, cells, slots⟩ (Value.ref b :: argsL).toArray q B ∧
      Steps p.tables e below (T.setTop g) ((B.U.setTop { g with stack := rest }).pushFrame (.throwing q))) := by
  obtain ⟨mk, methM, hnamed, hmethM, hstM, habM⟩ := Cond.instanceMethod_spec hinst
  obtain ⟨m8, methM', cM, hn8, hmethM', -, -, -, -, -, -, hsigM⟩ := Cond.codeWith_spec hcode
  cases Option.some.inj (hn8.symm.trans hnamed)
  cases hmethM.symm.trans hmethM'
  obtain ⟨c2, r2, m2, q1, q2, q3, q4, kP, hkP, hkPi⟩ := Cond.selects_spec hsel
  cases hcls.symm.trans q1
  cases (State.methodFound?_of_named hnamed hy).symm.trans q2
  cases hnamed.symm.trans q3
  have hselP : selectMethod e.platform s.vm cellB.cls mk = .method mk := by rw [Launch.admits_selectMethod X.admits]; exact q4
  obtain ⟨vm₁, X₁, hstep₁⟩ := X.invokevirtual hexec hown hlink hnamed hmethM hstM hkP hkPi hy (a := b) (cell := cellB) hcell
    (fun z h => by rw [h] at hobj; cases hobj) hselP hmethM habM hkP hkPi (g := g) hg (argsL := argsL) (rest := rest) (hlen _ hsigM) hstack hdg
  rcases hK m meth c ⟨T.setVm vm₁, locs, cells, slots⟩ { g with stack := rest } (.invokevirtual index) mk (Value.ref b :: argsL).toArray X₁ hg hsize hdg hW (X₁.named hnamed) (hpre vm₁ X₁.warmed) with ⟨v, B, X', hpost, hsteps⟩ | ⟨q, B, X', hpost, hsteps⟩
  · exact Or.inl ⟨v, vm₁, B, X₁.warmed, X', hpost, fun target h => hstep₁ _ fun acts => by rw [doInvoke_state]; exact hsteps.trans h⟩
  · exact Or.inr ⟨q, vm₁, B, X₁.warmed, X', hpost, hstep₁ _ fun acts => by rw [doInvoke_state]; exact hsteps⟩
theorem vx_callSX (X : Stand p l e R s m args below meth c T locs cells slots) (hexec : p.tables.exec = Jvm.exec) {own : String} {index : Nat} {y : MethodName} {bytes : ByteArray} {maxL : Nat} {ret : Option FieldType} {hh : List (Nat × Nat × Nat × Nat)}
    (hown : s.vm.findClass own = some m.cls) (hlink : (Cond.methodLink own index y).before args s = true) (hstat : (Cond.static y).before args s = true) (hinit : (Cond.initialized y.cls).before args s = true)
    (hcode : (Cond.codeWith y bytes maxL ret hh).before args s = true) (hy : y.cls ≠ "java/lang/invoke/MethodHandle" ∧ y.cls ≠ "java/lang/invoke/VarHandle")
    {W9 : Nat} {Pre : Pt → Array Value → Prop} {Post : Pt → Array Value → Option Value → Pt → Prop} {PostX : Pt → Array Value → Addr → Pt → Prop} (hK : vx_Back l R p e below s args y 3 W9 Pre Post PostX)
    {g : JFrame} (hg : g.method = m) (hsize : g.locals.size = c.maxLocals) {argsL rest : List Value} (hlen : ∀ sig, parseMethodDescriptor y.desc = some sig → argsL.length = sig.parameters.length)
    (hstack : g.stack = argsL.reverse ++ rest) (hW : 2 * g.monitorRoom + (rest.map fun v => v.category).sum ≤ W9) (hdg : decode c.code g.pc = .ok (.invokestatic index, 3))
    (hpre : ∀ vm₁, s.WarmedH vm₁ → Pre ⟨T.setVm vm₁, locs, cells, slots⟩ argsL.toArray) :
    (∃ (v : Option Value) (vm₁ : Vm) (B : Pt), s.WarmedH vm₁ ∧ Stand p l e R s m args below meth c B.U B.locs B.cells B.slots ∧ Post ⟨T.setVm vm₁, locs, cells, slots⟩ argsL.toArray v B ∧
      ∀ target, Steps p.tables e below (B.U.setTop { g with pc := g.pc + 3, stack := v.toList ++ rest }) target → Steps p.tables e below (T.setTop g) target) ∨
    (∃ (q : Addr) (vm₁ : Vm) (B : Pt), s.WarmedH vm₁ ∧ Stand p l e R s m args below meth c B.U B.locs B.cells B.slots ∧ PostX ⟨T.setVm vm₁, locs, cells, slots⟩ argsL.toArray q B ∧
      Steps p.tables e below (T.setTop g) ((B.U.setTop { g with stack := rest }).pushFrame (.throwing q))) := by
  obtain ⟨mk, methM, cM, hnamed, hmethM, -, -, -, -, -, -, hsigM⟩ := Cond.codeWith_spec hcode
  have hstatic : methM.isStatic = true := Cond.static_spec hnamed hmethM hstat
  obtain ⟨kP, hkP, -⟩ := className_of_methodNamed hnamed
  have hinitP : kP.init = .initialized := Cond.initialized_spec (findClass_of_methodNamed hnamed) hkP hinit
  obtain ⟨vm₁, X₁, hstep₁⟩ := X.invokestatic hexec hown hlink hnamed hmethM hstatic hkP hinitP hy (g := g) hg (argsL := argsL) (rest := rest) (hlen _ hsigM) hstack hdg
  rcases hK m meth c ⟨T.setVm vm₁, locs, cells, slots⟩ { g with stack := rest } (.invokestatic index) mk argsL.toArray X₁ hg hsize hdg hW (X₁.named hnamed) (hpre vm₁ X₁.warmed) with ⟨v, B, X', hpost, hsteps⟩ | ⟨q, B, X', hpost, hsteps⟩
  · exact Or.inl ⟨v, vm₁, B, X₁.warmed, X', hpost, fun target h => hstep₁ _ fun acts => by rw [doInvoke_state]; exact hsteps.trans h⟩
  · exact Or.inr ⟨q, vm₁, B, X₁.warmed, X', hpost, hstep₁ _ fun acts => by rw [doInvoke_state]; exact hsteps⟩
theorem vx_callVW (X : Stand p l e R s m args below meth c T locs cells slots) (hexec : p.tables.exec = Jvm.exec) {own C : String} {index : Nat} {y : MethodName} {bytes : ByteArray} {maxL : Nat} {ret : Option FieldType} {hh : List (Nat × Nat × Nat × Nat)}
    (hown : s.vm.findClass own = some m.cls) (hlink : (Cond.methodLink own index y).before args s = true) (hinst : (Cond.instanceMethod y).before args s = true) (hsel : (Cond.selects C y y).before args s = true)
    (hcode : (Cond.codeWith y bytes maxL ret hh).before args s = true) (hy : y.cls ≠ "java/lang/invoke/MethodHandle" ∧ y.cls ≠ "java/lang/invoke/VarHandle")
    {W9 : Nat} {Pre : Pt → Array Value → Prop} {Post : Pt → Array Value → Option Value → Pt → Prop} (hK : Back l R p e below s args y 3 W9 Pre Post)
    {b : Addr} {cellB : Cell} (hcell : T.heap[b]? = some cellB) (hobj : cellB.vm.isStatics = false) (hcls : s.vm.findClass C = some cellB.cls)
    {g : JFrame} (hg : g.method = m) (hsize : g.locals.size = c.maxLocals) {argsL rest : List Value} (hlen : ∀ sig, parseMethodDescriptor y.desc = some sig → argsL.length = sig.parameters.length)
    (hstack : g.stack = argsL.reverse ++ .ref b :: rest) (hW : 2 * g.monitorRoom + (rest.map fun v => v.category).sum ≤ W9) (hdg : decode c.code g.pc = .ok (.invokevirtual index, 3))
    (hpre : ∀ vm₁, s.WarmedH vm₁ → Pre ⟨T.setVm vm₁, locs, cells, slots⟩ (Value.ref b :: argsL).toArray) :
    ∃ (v : Option Value) (vm₁ : Vm) (B : Pt), s.WarmedH vm₁ ∧ Stand p l e R s m args below meth c B.U B.locs B.cells B.slots ∧ Post ⟨T.setVm vm₁, locs, cells, slots⟩ (Value.ref b :: argsL).toArray v B ∧
      ∀ target, Steps p.tables e below (B.U.setTop { g with pc := g.pc + 3, stack := v.toList ++ rest }) target → Steps p.tables e below (T.setTop g) target := by
  obtain ⟨mk, methM, hnamed, hmethM, hstM, habM⟩ := Cond.instanceMethod_spec hinst
  obtain ⟨m8, methM', cM, hn8, hmethM', -, -, -, -, -, -, hsigM⟩ := Cond.codeWith_spec hcode
  cases Option.some.inj (hn8.symm.trans hnamed)
  cases hmethM.symm.trans hmethM'
  obtain ⟨c2, r2, m2, q1, q2, q3, q4, kP, hkP, hkPi⟩ := Cond.selects_spec hsel
  cases hcls.symm.trans q1
  cases (State.methodFound?_of_named hnamed hy).symm.trans q2
  cases hnamed.symm.trans q3
  have hselP : selectMethod e.platform s.vm cellB.cls mk = .method mk := by rw [Launch.admits_selectMethod X.admits]; exact q4
  obtain ⟨vm₁, X₁, hstep₁⟩ := X.invokevirtual hexec hown hlink hnamed hmethM hstM hkP hkPi hy (a := b) (cell := cellB) hcell
    (fun z h => by rw [h] at hobj; cases hobj) hselP hmethM habM hkP hkPi (g := g) hg (argsL := argsL) (rest := rest) (hlen _ hsigM) hstack hdg
  obtain ⟨v, B, X', hpost, hsteps⟩ := hK m meth c ⟨T.setVm vm₁, locs, cells, slots⟩ { g with stack := rest } (.invokevirtual index) mk (Value.ref b :: argsL).toArray X₁ hg hsize hdg hW (X₁.named hnamed) (hpre vm₁ X₁.warmed)
  exact ⟨v, vm₁, B, X₁.warmed, X', hpost, fun target h => hstep₁ _ fun acts => by rw [doInvoke_state]; exact hsteps.trans h⟩
abbrev vx_CVW (R : Room) (s : State) (args : Array Value) (own C : String) (index : Nat) (y : MethodName) (bytes : ByteArray) (maxL : Nat) (ret : Option FieldType) (hh : List (Nat × Nat × Nat × Nat)) (ws : List Cond) (rm : Room) (mc ms n : Nat) : Prop :=
  (rm.cells = mc ∧ rm.slots = ms ∧ rm.frames + 1 ≤ R.frames ∧ 8 + (maxL + 11) + rm.locals ≤ R.locals ∧ (∀ w ∈ ws, ∀ (a' : Array Value) (U : State), s.WarmedH U.vm → w.before a' U = true) ∧ Cond.codeWith y bytes maxL ret hh ∈ ws) ∧
  (Cond.codeWith y bytes maxL ret hh).before args s = true ∧ (Cond.initialized y.cls).before args s = true ∧ (y.cls ≠ "java/lang/invoke/MethodHandle" ∧ y.cls ≠ "java/lang/invoke/VarHandle") ∧
  (∀ sig, parseMethodDescriptor y.desc = some sig → n = sig.parameters.length) ∧ (Cond.methodLink own index y).before args s = true ∧ (Cond.instanceMethod y).before args s = true ∧ (Cond.selects C y y).before args s = true
theorem vx_cwVW {own C : String} {index maxL mc ms : Nat} {y : MethodName} {bytes : ByteArray} {ret : Option FieldType} {hh : List (Nat × Nat × Nat × Nat)} {Ts ws ws' : List Cond} {rm : Room} (n : Nat) (ht : ∀ w ∈ Ts, w.before args s = true) (hT : GoodIn Ts (wsV own index C y ws)) (hw : ws = Cond.codeWith y bytes maxL ret hh :: ws') (hrc : rm.cells = mc) (hrs : rm.slots = ms)
    (hd : y.cls = C ∧ y.cls ≠ "java/lang/invoke/MethodHandle" ∧ y.cls ≠ "java/lang/invoke/VarHandle" ∧ (parseMethodDescriptor y.desc).map (fun d => d.parameters.length) = some n) (hR : rm.frames + 1 ≤ R.frames ∧ 8 + (maxL + 11) + rm.locals ≤ R.locals) :
    vx_CVW R s args own C index y bytes maxL ret hh ws rm mc ms n := by
  obtain ⟨hC, hd⟩ := hd
  subst hC
  have ok : ∀ w ∈ wsV own index y.cls y ws, w.before args s = true := fun w h => ht w (hT w h).1
  have hG : GoodIn Ts ws := fun w h => hT w (by unfold wsV; exact List.mem_append_right _ h)
  have hc : Cond.codeWith y bytes maxL ret hh ∈ ws := by rw [hw]; exact List.mem_cons_self
  refine ⟨⟨hrc, hrs, hR.1, hR.2, pay_in ht hG, hc⟩, ht _ (hG _ hc).1, ok _ (by simp [wsV]), ⟨hd.1, hd.2.1⟩, fun sig h => ?_, ok _ (by simp [wsV]), ok _ (by simp [wsV]), ok _ (by simp [wsV])⟩
  have h2 := hd.2.2
  rw [h] at h2
  exact (Option.some.inj h2).symm
theorem vx_runVW {y : MethodName} {bytes cc : ByteArray} {maxL nL mc ms n index : Nat} {ret : Option FieldType} {hh : List (Nat × Nat × Nat × Nat)} {ws : List Cond} {rm : Room} {Pc : Array Value → State → Prop} {Qc : Array Value → State → Outcome → State → Prop} {free : Addr → Prop} {Ts : List Cond} {own C : String} {b : Addr} {As rest : List Value} {g : JFrame}
    (S : CallFix p m c cc nL s args Ts own) (hM : Met l y ws rm Pc Qc mc ms free) (cw : vx_CVW R s args own C index y bytes maxL ret hh ws rm mc ms n) (hp : PreV s H C b Pc As)
    (hg : g.method = m) (hn : As.length = n) (hsize : g.locals.size = nL) (hstack : g.stack = As.reverse ++ .ref b :: rest) (hW : 2 * g.monitorRoom + (rest.map fun v => v.category).sum ≤ 8) (hdg : decode cc g.pc = .ok (.invokevirtual index, 3)) (hf : cells + mc ≤ R.cells ∧ slots + ms ≤ R.slots) :
    va_Run p l e R s m args below meth c H locs cells slots mc ms g rest (Qc (Value.ref b :: As).toArray) free := by
  obtain ⟨⟨hrc, hrs, hfr, hlo, hws, hcw⟩, hcode, hini, hy, hlen, hl, hin, hse⟩ := cw
  have hK : Back l R p e below s args y 3 8 (PreOf R mc ms Pc) (PostOf Qc mc ms free) := va_backW (hh := hh) (bytes := bytes) (maxL := maxL) (ret := ret) hM hp.1 hrc hrs hfr hlo hws hcw (fun a' U hW => word_at hW (Or.inl (by first | rfl | simp [Cond.onTables, Cond.keeps, Cond.steady])) hini)
  obtain ⟨hx, hb, hml, ho, -⟩ := S
  obtain ⟨-, ⟨cellB, hcB, hoB, hclB⟩, hPc⟩ := hp
  intro T hT X
  obtain ⟨v, vm₁, ⟨U', l2, c2, s2⟩, hW₁, X', ⟨g', mk, t, L, e1, e2, hq, h1, hL, h2, h3⟩, st⟩ := vx_callVW X hx (C := C) (hh := hh) (bytes := bytes) (maxL := maxL) (ret := ret) ho hl hin hse hcode hy hK (by rw [hT]; exact hcB) hoB hclB hg (hsize.trans hml.symm) (argsL := As) (rest := rest) (fun sig h => hn.trans (hlen sig h)) hstack hW (by rw [hb]; exact hdg)
    (fun vm₁ hW₁ => ⟨hf.1, hf.2, hPc (T.setVm vm₁) hT hW₁⟩)
  dsimp only [Pt.U, Pt.locs, Pt.cells, Pt.slots] at X' e1 e2 h1 h2 h3 st
  subst h1; subst h2; subst h3
  exact ⟨v, (T.setVm vm₁).calling g' mk (Value.ref b :: As).toArray, t, U', L, hT, X', hL, e1, e2, hq, st⟩
section
variable {y : MethodName} {bytes cc : ByteArray} {maxL nL mc ms n index : Nat} {ret : Option FieldType} {ws : List Cond} {rm : Room} {Pc : Array Value → State → Prop} {Qc : Array Value → State → Outcome → State → Prop} {XC : String → State → State → Prop} {free : Addr → Prop} {Ts : List Cond} {own C : String} {b : Addr} {As rest : List Value} {g : JFrame}
theorem vx_runVX {hh : List (Nat × Nat × Nat × Nat)} (S : CallFix p m c cc nL s args Ts own) (hM : vx_Met l y ws rm Pc Qc XC mc ms free) (cw : vx_CVW R s args own C index y bytes maxL ret hh ws rm mc ms n) (hp : PreV s H C b Pc As)
    (hg : g.method = m) (hn : As.length = n) (hsize : g.locals.size = nL) (hstack : g.stack = As.reverse ++ .ref b :: rest) (hW : 2 * g.monitorRoom + (rest.map fun v => v.category).sum ≤ 8) (hdg : decode cc g.pc = .ok (.invokevirtual index, 3)) (hf : cells + mc ≤ R.cells ∧ slots + ms ≤ R.slots) :
    vx_Run p l e R s m args below meth c H locs cells slots mc ms g rest (Qc (Value.ref b :: As).toArray) XC free := by
  obtain ⟨⟨hrc, hrs, hfr, hlo, hws, hcw⟩, hcode, hini, hy, hlen, hl, hin, hse⟩ := cw
  have hK : vx_Back l R p e below s args y 3 8 (PreOf R mc ms Pc) (PostOf Qc mc ms free) (vx_Post XC mc ms free) := vx_backW (hh := hh) (bytes := bytes) (maxL := maxL) (ret := ret) hM hp.1 hrc hrs hfr hlo hws hcw (fun a' U hW => word_at hW (Or.inl (by first | rfl | simp [Cond.onTables, Cond.keeps, Cond.steady])) hini)
  obtain ⟨hx, hb, hml, ho, -⟩ := S
  obtain ⟨-, ⟨cellB, hcB, hoB, hclB⟩, hPc⟩ := hp
  intro T hT X
  rcases vx_callVX X hx (C := C) (hh := hh) (bytes := bytes) (maxL := maxL) (ret := ret) ho hl hin hse hcode hy hK (by rw [hT]; exact hcB) hoB hclB hg (hsize.trans hml.symm) (argsL := As) (rest := rest) (fun sig h => hn.trans (hlen sig h)) hstack hW (by rw [hb]; exact hdg)
    (fun vm₁ hW₁ => ⟨hf.1, hf.2, hPc (T.setVm vm₁) hT hW₁⟩) with ⟨v, vm₁, ⟨U', l2, c2, s2⟩, hW₁, X', ⟨g', mk, t, L, e1, e2, hq, h1, hL, h2, h3⟩, st⟩ | ⟨q, vm₁, ⟨U', l2, c2, s2⟩, hW₁, X', ⟨g', mk, t, L, E, ce, e1, e2, hq, hce, hcv, hcl, h1, hL, h2, h3⟩, st⟩
  · dsimp only [Pt.U, Pt.locs, Pt.cells, Pt.slots] at X' e1 e2 h1 h2 h3 st
    subst h1; subst h2; subst h3
    exact Or.inl ⟨v, (T.setVm vm₁).calling g' mk (Value.ref b :: As).toArray, t, U', L, hT, X', hL, e1, e2, hq, st⟩
  · dsimp only [Pt.U, Pt.locs, Pt.cells, Pt.slots] at X' e1 e2 h1 h2 h3 st hcl
    subst h1; subst h2; subst h3
    exact Or.inr ⟨q, (T.setVm vm₁).calling g' mk (Value.ref b :: As).toArray, t, U', L, E, ce, hT, X', hL, e1, e2, hq, hce, hcv, vx_cls hW₁ hcl, st⟩
theorem vx_runSX {hh : List (Nat × Nat × Nat × Nat)} (S : CallFix p m c cc nL s args Ts own) (hM : vx_Met l y ws rm Pc Qc XC mc ms free) (cw : vx_CSW R s args own index y bytes maxL ret hh ws rm mc ms n) (hp : PreS s H Pc As)
    (hg : g.method = m) (hn : As.length = n) (hsize : g.locals.size = nL) (hstack : g.stack = As.reverse ++ rest) (hW : 2 * g.monitorRoom + (rest.map fun v => v.category).sum ≤ 8) (hdg : decode cc g.pc = .ok (.invokestatic index, 3)) (hf : cells + mc ≤ R.cells ∧ slots + ms ≤ R.slots) :
    vx_Run p l e R s m args below meth c H locs cells slots mc ms g rest (Qc As.toArray) XC free := by
  obtain ⟨⟨hrc, hrs, hfr, hlo, hws, hcw⟩, hcode, hini, hy, hlen, hl, hstt⟩ := cw
  have hK : vx_Back l R p e below s args y 3 8 (PreOf R mc ms Pc) (PostOf Qc mc ms free) (vx_Post XC mc ms free) := vx_backW (hh := hh) (bytes := bytes) (maxL := maxL) (ret := ret) hM hp.1 hrc hrs hfr hlo hws hcw (fun a' U hW => word_at hW (Or.inl (by first | rfl | simp [Cond.onTables, Cond.keeps, Cond.steady])) hini)
  obtain ⟨hx, hb, hml, ho, -⟩ := S
  intro T hT X
  rcases vx_callSX X hx (hh := hh) (bytes := bytes) (maxL := maxL) (ret := ret) ho hl hstt hini hcode hy hK hg (hsize.trans hml.symm) (argsL := As) (rest := rest) (fun sig h => hn.trans (hlen sig h)) hstack hW (by rw [hb]; exact hdg)
    (fun vm₁ hW₁ => ⟨hf.1, hf.2, hp.2 (T.setVm vm₁) hT hW₁⟩) with ⟨v, vm₁, ⟨U', l2, c2, s2⟩, hW₁, X', ⟨g', mk, t, L, e1, e2, hq, h1, hL, h2, h3⟩, st⟩ | ⟨q, vm₁, ⟨U', l2, c2, s2⟩, hW₁, X', ⟨g', mk, t, L, E, ce, e1, e2, hq, hce, hcv, hcl, h1, hL, h2, h3⟩, st⟩
  · dsimp only [Pt.U, Pt.locs, Pt.cells, Pt.slots] at X' e1 e2 h1 h2 h3 st
    subst h1; subst h2; subst h3
    exact Or.inl ⟨v, (T.setVm vm₁).calling g' mk As.toArray, t, U', L, hT, X', hL, e1, e2, hq, st⟩
  · dsimp only [Pt.U, Pt.locs, Pt.cells, Pt.slots] at X' e1 e2 h1 h2 h3 st hcl
    subst h1; subst h2; subst h3
    exact Or.inr ⟨q, (T.setVm vm₁).calling g' mk As.toArray, t, U', L, E, ce, hT, X', hL, e1, e2, hq, hce, hcv, vx_cls hW₁ hcl, st⟩
end
end VXH
theorem vx_ofWH {l : Launch} {y : MethodName} {ws ws' : List Cond} {rm : Room} {Pc : Array Value → State → Prop} {Qc : Array Value → State → Outcome → State → Prop} {XC : String → State → State → Prop} {mc ms : Nat} {free : Addr → Prop} {cc : ByteArray} {maxL : Nat} {ret : Option FieldType} {hh : List (Nat × Nat × Nat × Nat)}
    (hy : plainName y.cls = true) (hw : ws = Cond.codeWith y cc maxL ret hh :: ws')
    (body : ∀ p e s m args below meth c s₁, BodyLoose p l y (headSpec ws rm) cc maxL ret e s m args below meth c s₁ → c.maxLocals = maxL → Pc args s →
      W p l e (headSpec ws rm).room s m args below meth c s.heap [] 0 0 (vx_MQ below Qc XC args s mc ms free) (entryFrame m args maxL)) : vx_Met l y ws rm Pc Qc XC mc ms free := by
  refine MetFree.of_bodyS (code := cc) (maxLocals := maxL) (ret := ret) hy ?_ ?_
  · intro args s m h hn
    obtain ⟨m9, meth, c, hn9, h1, h2, h3, h4, -, h5, h6, -⟩ := Cond.codeWith_spec (atoms_spec (ws := ws) h _ (by rw [hw]; exact List.mem_cons_self))
    cases hn.symm.trans hn9
    exact ⟨meth, c, h1, h2, h3, h4, h5, h6⟩
  · intro p e s m args below meth c s₁ B hml hP _
    have hh0 : s₁.heap = s.heap := by rw [B.state]; rfl
    obtain ⟨t, a1, o, b1, b2, b3⟩ := body p e s m args below meth c s₁ B hml hP s₁ hh0 (Stand.of_body B)
    exact ⟨t, o, a1, b1, b2, b3⟩
/-! ===== END ===== -/
end
section
/-! by program: classes, methods -/
def T_b : u_T := fun k => match k with
  | 0 => ("CutShears$BarPlan", "wanted", "[I", true)
  | 1 => ("CutShears$BarPlan", "begins", "[I", true)
  | 2 => ("CutShears$BarPlan", "steps", "[I", true)
  | 3 => ("CutShears$BarPlan", "length", "I", false)
  | 4 => ("CutShears$BarPlan", "error", "I", false)
  | 5 => ("CutShears$BarPlan", "head", "I", false)
  | 6 => ("CutShears$BarPlan", "tail", "I", false)
  | 7 => ("CutShears$BarPlan", "count", "I", false)
  | 8 => ("CutShears$BarPlan", "cutCount", "I", false)
  | 9 => ("CutShears$BarPlan", "cutSteps", "I", false)
  | _ => ("CutShears$BarPlan", "rest", "I", false)
def ty_b : Nat → FieldType := fun k => match k with
  | 0 => .array .int
  | 1 => .array .int
  | 2 => .array .int
  | 3 => .int
  | 4 => .int
  | 5 => .int
  | 6 => .int
  | 7 => .int
  | 8 => .int
  | 9 => .int
  | _ => .int
theorem nm_b : ∀ a, a < 11 → ∀ b, b < 11 → a ≠ b → (T_b a).2.1 ≠ (T_b b).2.1 := by decide +kernel
theorem ty_b_ok : ∀ k, k < 11 → parseFieldDescriptor (T_b k).2.2.1 = some (ty_b k) := by decide +kernel
def T_c : u_T := fun k => match k with
  | 0 => ("CutShears$CoolingBed", "cuts", "[I", true)
  | 1 => ("CutShears$CoolingBed", "places", "I", false)
  | 2 => ("CutShears$CoolingBed", "longest", "I", false)
  | _ => ("CutShears$CoolingBed", "lying", "I", false)
def ty_c : Nat → FieldType := fun k => match k with
  | 0 => .array .int
  | 1 => .int
  | 2 => .int
  | _ => .int
theorem nm_c : ∀ a, a < 4 → ∀ b, b < 4 → a ≠ b → (T_c a).2.1 ≠ (T_c b).2.1 := by decide +kernel
theorem ty_c_ok : ∀ k, k < 4 → parseFieldDescriptor (T_c k).2.2.1 = some (ty_c k) := by decide +kernel
def T_k : u_T := fun k => match k with
  | 0 => ("CutShears$CutBook", "wanted", "[I", true)
  | 1 => ("CutShears$CutBook", "steps", "[I", true)
  | 2 => ("CutShears$CutBook", "places", "[I", true)
  | 3 => ("CutShears$CutBook", "bundles", "[I", true)
  | 4 => ("CutShears$CutBook", "sideCuts", "[I", true)
  | 5 => ("CutShears$CutBook", "sums", "[I", true)
  | 6 => ("CutShears$CutBook", "count", "I", false)
  | 7 => ("CutShears$CutBook", "sideCount", "I", false)
  | _ => ("CutShears$CutBook", "bundleCount", "I", false)
def ty_k : Nat → FieldType := fun k => match k with
  | 0 => .array .int
  | 1 => .array .int
  | 2 => .array .int
  | 3 => .array .int
  | 4 => .array .int
  | 5 => .array .int
  | 6 => .int
  | 7 => .int
  | _ => .int
theorem nm_k : ∀ a, a < 9 → ∀ b, b < 9 → a ≠ b → (T_k a).2.1 ≠ (T_k b).2.1 := by decide +kernel
theorem ty_k_ok : ∀ k, k < 9 → parseFieldDescriptor (T_k k).2.2.1 = some (ty_k k) := by decide +kernel
def T_t : u_T := fun k => match k with
  | 0 => ("CutShears$LossTable", "lows", "[I", true)
  | 1 => ("CutShears$LossTable", "highs", "[I", true)
  | 2 => ("CutShears$LossTable", "ranks", "[I", true)
  | 3 => ("CutShears$LossTable", "costs", "[I", true)
  | 4 => ("CutShears$LossTable", "firstWanted", "[I", true)
  | 5 => ("CutShears$LossTable", "firstSteps", "[I", true)
  | _ => ("CutShears$LossTable", "count", "I", false)
def ty_t : Nat → FieldType := fun k => match k with
  | 0 => .array .int
  | 1 => .array .int
  | 2 => .array .int
  | 3 => .array .int
  | 4 => .array .int
  | 5 => .array .int
  | _ => .int
theorem nm_t : ∀ a, a < 7 → ∀ b, b < 7 → a ≠ b → (T_t a).2.1 ≠ (T_t b).2.1 := by decide +kernel
theorem ty_t_ok : ∀ k, k < 7 → parseFieldDescriptor (T_t k).2.2.1 = some (ty_t k) := by decide +kernel
def T_x : u_T := fun k => match k with
  | 0 => ("CutShears", "table", "LCutShears$LossTable;", true)
  | 1 => ("CutShears", "plan", "LCutShears$BarPlan;", true)
  | 2 => ("CutShears", "book", "LCutShears$CutBook;", true)
  | _ => ("CutShears", "cooling", "LCutShears$CoolingBed;", true)
def ty_x : Nat → FieldType := fun k => match k with
  | 0 => .object "CutShears$LossTable"
  | 1 => .object "CutShears$BarPlan"
  | 2 => .object "CutShears$CutBook"
  | _ => .object "CutShears$CoolingBed"
theorem nm_x : ∀ a, a < 4 → ∀ b, b < 4 → a ≠ b → (T_x a).2.1 ≠ (T_x b).2.1 := by decide +kernel
theorem ty_x_ok : ∀ k, k < 4 → parseFieldDescriptor (T_x k).2.2.1 = some (ty_x k) := by decide +kernel
def T_m : u_T := fun k => match k with
  | 0 => ("CutShearsModel", "thrown", "I", false)
  | 1 => ("CutShearsModel", "wanted", "I", false)
  | 2 => ("CutShearsModel", "low", "[I", true)
  | 3 => ("CutShearsModel", "high", "[I", true)
  | 4 => ("CutShearsModel", "rank", "[I", true)
  | 5 => ("CutShearsModel", "length", "I", false)
  | 6 => ("CutShearsModel", "error", "I", false)
  | 7 => ("CutShearsModel", "head", "I", false)
  | 8 => ("CutShearsModel", "tail", "I", false)
  | 9 => ("CutShearsModel", "places", "I", false)
  | 10 => ("CutShearsModel", "longest", "I", false)
  | 11 => ("CutShearsModel", "cuts", "I", false)
  | 12 => ("CutShearsModel", "first", "I", false)
  | 13 => ("CutShearsModel", "cutWanted", "[I", true)
  | 14 => ("CutShearsModel", "cutSteps", "[I", true)
  | 15 => ("CutShearsModel", "cutPlace", "[I", true)
  | 16 => ("CutShearsModel", "cutBundle", "[I", true)
  | 17 => ("CutShearsModel", "aside", "[Z", true)
  | 18 => ("CutShearsModel", "bundles", "I", false)
  | 19 => ("CutShearsModel", "loss", "[I", true)
  | 20 => ("CutShearsModel", "ranks", "[I", true)
  | 21 => ("CutShearsModel", "many", "[I", true)
  | 22 => ("CutShearsModel", "next", "[I", true)
  | 23 => ("CutShearsModel", "steps", "[I", true)
  | 24 => ("CutShearsModel", "foundWanted", "I", false)
  | 25 => ("CutShearsModel", "foundBegin", "I", false)
  | _ => ("CutShearsModel", "foundSteps", "I", false)
def ty_m : Nat → FieldType := fun k => match k with
  | 0 => .int
  | 1 => .int
  | 2 => .array .int
  | 3 => .array .int
  | 4 => .array .int
  | 5 => .int
  | 6 => .int
  | 7 => .int
  | 8 => .int
  | 9 => .int
  | 10 => .int
  | 11 => .int
  | 12 => .int
  | 13 => .array .int
  | 14 => .array .int
  | 15 => .array .int
  | 16 => .array .int
  | 17 => .array .boolean
  | 18 => .int
  | 19 => .array .int
  | 20 => .array .int
  | 21 => .array .int
  | 22 => .array .int
  | 23 => .array .int
  | 24 => .int
  | 25 => .int
  | _ => .int
theorem nm_m : ∀ a, a < 27 → ∀ b, b < 27 → a ≠ b → (T_m a).2.1 ≠ (T_m b).2.1 := by decide +kernel
theorem ty_m_ok : ∀ k, k < 27 → parseFieldDescriptor (T_m k).2.2.1 = some (ty_m k) := by decide +kernel
abbrev vwCl : List vw_C := [("CutShears$BarPlan", T_b, 11), ("CutShears$CoolingBed", T_c, 4), ("CutShears$CutBook", T_k, 9), ("CutShears$LossTable", T_t, 7), ("CutShears", T_x, 4), ("CutShearsModel", T_m, 27)]
abbrev cc_x_init : ByteArray := prog_1_method_1_code
abbrev y_x_init : MethodName := ⟨"CutShears", "<init>", "()V"⟩
abbrev cc_x_want : ByteArray := prog_1_method_2_code
abbrev y_x_want : MethodName := ⟨"CutShears", "want", "(III)I"⟩
abbrev cc_x_bar : ByteArray := prog_1_method_3_code
abbrev y_x_bar : MethodName := ⟨"CutShears", "bar", "(II)V"⟩
abbrev cc_x_crop : ByteArray := prog_1_method_4_code
abbrev y_x_crop : MethodName := ⟨"CutShears", "crop", "(II)V"⟩
abbrev cc_x_known : ByteArray := prog_1_method_5_code
abbrev y_x_known : MethodName := ⟨"CutShears", "known", "(I)V"⟩
abbrev cc_x_pieces : ByteArray := prog_1_method_6_code
abbrev y_x_pieces : MethodName := ⟨"CutShears", "pieces", "()I"⟩
abbrev cc_x_piece : ByteArray := prog_1_method_7_code
abbrev y_x_piece : MethodName := ⟨"CutShears", "piece", "(II)I"⟩
abbrev cc_x_loss : ByteArray := prog_1_method_8_code
abbrev y_x_loss : MethodName := ⟨"CutShears", "loss", "()I"⟩
abbrev cc_x_cut : ByteArray := prog_1_method_9_code
abbrev y_x_cut : MethodName := ⟨"CutShears", "cut", "()I"⟩
abbrev cc_x_bed : ByteArray := prog_1_method_10_code
abbrev y_x_bed : MethodName := ⟨"CutShears", "bed", "(II)V"⟩
abbrev cc_x_at : ByteArray := prog_1_method_11_code
abbrev y_x_at : MethodName := ⟨"CutShears", "at", "(I)I"⟩
abbrev cc_x_bundle : ByteArray := prog_1_method_12_code
abbrev y_x_bundle : MethodName := ⟨"CutShears", "bundle", "(II)I"⟩
abbrev cc_x_cutAt : ByteArray := prog_1_method_13_code
abbrev y_x_cutAt : MethodName := ⟨"CutShears", "cutAt", "(II)I"⟩
abbrev cc_x_blade : ByteArray := prog_1_method_14_code
abbrev y_x_blade : MethodName := ⟨"CutShears", "blade", "(III)I"⟩
abbrev cc_x_sum : ByteArray := prog_1_method_15_code
abbrev y_x_sum : MethodName := ⟨"CutShears", "sum", "(I)I"⟩
abbrev cc_x_side : ByteArray := prog_1_method_16_code
abbrev y_x_side : MethodName := ⟨"CutShears", "side", "(I)I"⟩
abbrev cc_x_thousandthsOfTurns : ByteArray := prog_1_method_17_code
abbrev y_x_thousandthsOfTurns : MethodName := ⟨"CutShears", "thousandthsOfTurns", "(II)I"⟩
abbrev cc_x_requireIndex : ByteArray := prog_1_method_18_code
abbrev y_x_requireIndex : MethodName := ⟨"CutShears", "requireIndex", "(II)V"⟩
abbrev cc_x_requireRange : ByteArray := prog_1_method_19_code
abbrev y_x_requireRange : MethodName := ⟨"CutShears", "requireRange", "(III)V"⟩
abbrev cc_x_numberAt : ByteArray := prog_1_method_20_code
abbrev y_x_numberAt : MethodName := ⟨"CutShears", "numberAt", "([II)I"⟩
abbrev cc_m_init : ByteArray := prog_7_method_1_code
abbrev y_m_init : MethodName := ⟨"CutShearsModel", "<init>", "()V"⟩
abbrev cc_m_thrown : ByteArray := prog_7_method_2_code
abbrev y_m_thrown : MethodName := ⟨"CutShearsModel", "thrown", "()I"⟩
abbrev cc_m_in : ByteArray := prog_7_method_3_code
abbrev y_m_in : MethodName := ⟨"CutShearsModel", "in", "(III)Z"⟩
abbrev cc_m_goes : ByteArray := prog_7_method_4_code
abbrev y_m_goes : MethodName := ⟨"CutShearsModel", "goes", "(ZZZ)Z"⟩
abbrev cc_m_isWanted : ByteArray := prog_7_method_5_code
abbrev y_m_isWanted : MethodName := ⟨"CutShearsModel", "isWanted", "(I)Z"⟩
abbrev cc_m_room : ByteArray := prog_7_method_6_code
abbrev y_m_room : MethodName := ⟨"CutShearsModel", "room", "(IIII)I"⟩
abbrev cc_m_taken : ByteArray := prog_7_method_7_code
abbrev y_m_taken : MethodName := ⟨"CutShearsModel", "taken", "()I"⟩
abbrev cc_m_left : ByteArray := prog_7_method_8_code
abbrev y_m_left : MethodName := ⟨"CutShearsModel", "left", "()I"⟩
abbrev cc_m_want : ByteArray := prog_7_method_9_code
abbrev y_m_want : MethodName := ⟨"CutShearsModel", "want", "(III)I"⟩
abbrev cc_m_bar : ByteArray := prog_7_method_10_code
abbrev y_m_bar : MethodName := ⟨"CutShearsModel", "bar", "(II)V"⟩
abbrev cc_m_crop : ByteArray := prog_7_method_11_code
abbrev y_m_crop : MethodName := ⟨"CutShearsModel", "crop", "(II)V"⟩
abbrev cc_m_known : ByteArray := prog_7_method_12_code
abbrev y_m_known : MethodName := ⟨"CutShearsModel", "known", "(I)V"⟩
abbrev cc_m_isBetter : ByteArray := prog_7_method_13_code
abbrev y_m_isBetter : MethodName := ⟨"CutShearsModel", "isBetter", "(IIII)Z"⟩
abbrev cc_m_plan : ByteArray := prog_7_method_14_code
abbrev y_m_plan : MethodName := ⟨"CutShearsModel", "plan", "()V"⟩
abbrev cc_m_pieces : ByteArray := prog_7_method_15_code
abbrev y_m_pieces : MethodName := ⟨"CutShearsModel", "pieces", "()I"⟩
abbrev cc_m_finds : ByteArray := prog_7_method_16_code
abbrev y_m_finds : MethodName := ⟨"CutShearsModel", "finds", "(I)Z"⟩
abbrev cc_m_piece : ByteArray := prog_7_method_17_code
abbrev y_m_piece : MethodName := ⟨"CutShearsModel", "piece", "(II)I"⟩
abbrev cc_m_loss : ByteArray := prog_7_method_18_code
abbrev y_m_loss : MethodName := ⟨"CutShearsModel", "loss", "()I"⟩
abbrev cc_m_lying : ByteArray := prog_7_method_19_code
abbrev y_m_lying : MethodName := ⟨"CutShearsModel", "lying", "(I)I"⟩
abbrev cc_m_cut : ByteArray := prog_7_method_20_code
abbrev y_m_cut : MethodName := ⟨"CutShearsModel", "cut", "()I"⟩
abbrev cc_m_bed : ByteArray := prog_7_method_21_code
abbrev y_m_bed : MethodName := ⟨"CutShearsModel", "bed", "(II)V"⟩
abbrev cc_m_at : ByteArray := prog_7_method_22_code
abbrev y_m_at : MethodName := ⟨"CutShearsModel", "at", "(I)I"⟩
abbrev cc_m_bundle : ByteArray := prog_7_method_23_code
abbrev y_m_bundle : MethodName := ⟨"CutShearsModel", "bundle", "(II)I"⟩
abbrev cc_m_cutAt : ByteArray := prog_7_method_24_code
abbrev y_m_cutAt : MethodName := ⟨"CutShearsModel", "cutAt", "(II)I"⟩
abbrev cc_m_blade : ByteArray := prog_7_method_25_code
abbrev y_m_blade : MethodName := ⟨"CutShearsModel", "blade", "(III)I"⟩
abbrev cc_m_sum : ByteArray := prog_7_method_26_code
abbrev y_m_sum : MethodName := ⟨"CutShearsModel", "sum", "(I)I"⟩
abbrev cc_m_side : ByteArray := prog_7_method_27_code
abbrev y_m_side : MethodName := ⟨"CutShearsModel", "side", "(I)I"⟩
abbrev cc_b_init : ByteArray := prog_2_method_1_code
abbrev y_b_init : MethodName := ⟨"CutShears$BarPlan", "<init>", "()V"⟩
abbrev cc_b_startBar : ByteArray := prog_2_method_2_code
abbrev y_b_startBar : MethodName := ⟨"CutShears$BarPlan", "startBar", "(II)V"⟩
abbrev cc_b_changeCrops : ByteArray := prog_2_method_3_code
abbrev y_b_changeCrops : MethodName := ⟨"CutShears$BarPlan", "changeCrops", "(II)V"⟩
abbrev cc_b_learnLength : ByteArray := prog_2_method_4_code
abbrev y_b_learnLength : MethodName := ⟨"CutShears$BarPlan", "learnLength", "(I)V"⟩
abbrev cc_b_requireCutsFit : ByteArray := prog_2_method_5_code
abbrev y_b_requireCutsFit : MethodName := ⟨"CutShears$BarPlan", "requireCutsFit", "(I)V"⟩
abbrev cc_b_roomOf : ByteArray := prog_2_method_6_code
abbrev y_b_roomOf : MethodName := ⟨"CutShears$BarPlan", "roomOf", "(IIII)I"⟩
abbrev cc_b_planRest : ByteArray := prog_2_method_7_code
abbrev y_b_planRest : MethodName := ⟨"CutShears$BarPlan", "planRest", "(LCutShears$LossTable;)V"⟩
abbrev cc_b_markNextCut : ByteArray := prog_2_method_8_code
abbrev y_b_markNextCut : MethodName := ⟨"CutShears$BarPlan", "markNextCut", "()V"⟩
abbrev cc_b_wantedOf : ByteArray := prog_2_method_9_code
abbrev y_b_wantedOf : MethodName := ⟨"CutShears$BarPlan", "wantedOf", "(I)I"⟩
abbrev cc_b_beginOf : ByteArray := prog_2_method_10_code
abbrev y_b_beginOf : MethodName := ⟨"CutShears$BarPlan", "beginOf", "(I)I"⟩
abbrev cc_b_stepsOf : ByteArray := prog_2_method_11_code
abbrev y_b_stepsOf : MethodName := ⟨"CutShears$BarPlan", "stepsOf", "(I)I"⟩
abbrev cc_c_init : ByteArray := prog_3_method_1_code
abbrev y_c_init : MethodName := ⟨"CutShears$CoolingBed", "<init>", "()V"⟩
abbrev cc_c_lay : ByteArray := prog_3_method_2_code
abbrev y_c_lay : MethodName := ⟨"CutShears$CoolingBed", "lay", "(II)I"⟩
abbrev cc_c_cutOn : ByteArray := prog_3_method_3_code
abbrev y_c_cutOn : MethodName := ⟨"CutShears$CoolingBed", "cutOn", "(I)I"⟩
abbrev cc_c_free : ByteArray := prog_3_method_4_code
abbrev y_c_free : MethodName := ⟨"CutShears$CoolingBed", "free", "(I)V"⟩
abbrev cc_k_init : ByteArray := prog_4_method_1_code
abbrev y_k_init : MethodName := ⟨"CutShears$CutBook", "<init>", "()V"⟩
abbrev cc_k_enter : ByteArray := prog_4_method_2_code
abbrev y_k_enter : MethodName := ⟨"CutShears$CutBook", "enter", "(III)V"⟩
abbrev cc_k_tell : ByteArray := prog_4_method_3_code
abbrev y_k_tell : MethodName := ⟨"CutShears$CutBook", "tell", "(II)I"⟩
abbrev cc_k_sumOf : ByteArray := prog_4_method_4_code
abbrev y_k_sumOf : MethodName := ⟨"CutShears$CutBook", "sumOf", "(I)I"⟩
abbrev cc_k_sideCut : ByteArray := prog_4_method_5_code
abbrev y_k_sideCut : MethodName := ⟨"CutShears$CutBook", "sideCut", "(I)I"⟩
abbrev cc_k_isOnBed : ByteArray := prog_4_method_6_code
abbrev y_k_isOnBed : MethodName := ⟨"CutShears$CutBook", "isOnBed", "(II)Z"⟩
abbrev cc_k_countOnBed : ByteArray := prog_4_method_7_code
abbrev y_k_countOnBed : MethodName := ⟨"CutShears$CutBook", "countOnBed", "(I)I"⟩
abbrev cc_k_takeBundle : ByteArray := prog_4_method_8_code
abbrev y_k_takeBundle : MethodName := ⟨"CutShears$CutBook", "takeBundle", "(IILCutShears$CoolingBed;)I"⟩
abbrev cc_t_init : ByteArray := prog_5_method_1_code
abbrev y_t_init : MethodName := ⟨"CutShears$LossTable", "<init>", "()V"⟩
abbrev cc_t_add : ByteArray := prog_5_method_2_code
abbrev y_t_add : MethodName := ⟨"CutShears$LossTable", "add", "(III)I"⟩
abbrev cc_t_fill : ByteArray := prog_5_method_3_code
abbrev y_t_fill : MethodName := ⟨"CutShears$LossTable", "fill", "()V"⟩
abbrev cc_t_tryFirst : ByteArray := prog_5_method_4_code
abbrev y_t_tryFirst : MethodName := ⟨"CutShears$LossTable", "tryFirst", "(II)V"⟩
abbrev cc_l_want : ByteArray := method_3_code
abbrev y_l_want : MethodName := ⟨"CutShearsLaw", "want", "(LCutShears;III[J)I"⟩
abbrev cc_l_bar : ByteArray := method_4_code
abbrev y_l_bar : MethodName := ⟨"CutShearsLaw", "bar", "(LCutShears;II)I"⟩
abbrev cc_l_crop : ByteArray := method_5_code
abbrev y_l_crop : MethodName := ⟨"CutShearsLaw", "crop", "(LCutShears;II)I"⟩
abbrev cc_l_known : ByteArray := method_6_code
abbrev y_l_known : MethodName := ⟨"CutShearsLaw", "known", "(LCutShears;I)I"⟩
abbrev cc_l_piece : ByteArray := method_7_code
abbrev y_l_piece : MethodName := ⟨"CutShearsLaw", "piece", "(LCutShears;II[J)I"⟩
abbrev cc_l_cut : ByteArray := method_8_code
abbrev y_l_cut : MethodName := ⟨"CutShearsLaw", "cut", "(LCutShears;[J)I"⟩
abbrev cc_l_bed : ByteArray := method_9_code
abbrev y_l_bed : MethodName := ⟨"CutShearsLaw", "bed", "(LCutShears;II)I"⟩
abbrev cc_l_at : ByteArray := method_10_code
abbrev y_l_at : MethodName := ⟨"CutShearsLaw", "at", "(LCutShears;I[J)I"⟩
abbrev cc_l_bundle : ByteArray := method_11_code
abbrev y_l_bundle : MethodName := ⟨"CutShearsLaw", "bundle", "(LCutShears;II[J)I"⟩
abbrev cc_l_cutAt : ByteArray := method_12_code
abbrev y_l_cutAt : MethodName := ⟨"CutShearsLaw", "cutAt", "(LCutShears;II[J)I"⟩
abbrev cc_l_blade : ByteArray := method_13_code
abbrev y_l_blade : MethodName := ⟨"CutShearsLaw", "blade", "(LCutShears;III[J)I"⟩
abbrev cc_l_sum : ByteArray := method_14_code
abbrev y_l_sum : MethodName := ⟨"CutShearsLaw", "sum", "(LCutShears;I[J)I"⟩
abbrev cc_l_side : ByteArray := method_15_code
abbrev y_l_side : MethodName := ⟨"CutShearsLaw", "side", "(LCutShears;I[J)I"⟩
end
section
/-! by program: decode rows of the class -/
theorem d_t_init_0 : decode cc_t_init 0 = .ok (.aload_n 0, 1) := by decide +kernel
theorem d_t_init_1 : decode cc_t_init 1 = .ok (.invokespecial 3, 3) := by decide +kernel
theorem d_t_init_4 : decode cc_t_init 4 = .ok (.aload_n 0, 1) := by decide +kernel
theorem d_t_init_5 : decode cc_t_init 5 = .ok (.bipush 6, 2) := by decide +kernel
theorem d_t_init_7 : decode cc_t_init 7 = .ok (.newarray .int, 2) := by decide +kernel
theorem d_t_init_9 : decode cc_t_init 9 = .ok (.putfield 9, 3) := by decide +kernel
theorem d_t_init_12 : decode cc_t_init 12 = .ok (.aload_n 0, 1) := by decide +kernel
theorem d_t_init_13 : decode cc_t_init 13 = .ok (.bipush 6, 2) := by decide +kernel
theorem d_t_init_15 : decode cc_t_init 15 = .ok (.newarray .int, 2) := by decide +kernel
theorem d_t_init_17 : decode cc_t_init 17 = .ok (.putfield 15, 3) := by decide +kernel
theorem d_t_init_20 : decode cc_t_init 20 = .ok (.aload_n 0, 1) := by decide +kernel
theorem d_t_init_21 : decode cc_t_init 21 = .ok (.bipush 6, 2) := by decide +kernel
theorem d_t_init_23 : decode cc_t_init 23 = .ok (.newarray .int, 2) := by decide +kernel
theorem d_t_init_25 : decode cc_t_init 25 = .ok (.putfield 18, 3) := by decide +kernel
theorem d_t_init_28 : decode cc_t_init 28 = .ok (.aload_n 0, 1) := by decide +kernel
theorem d_t_init_29 : decode cc_t_init 29 = .ok (.sipush 201, 3) := by decide +kernel
theorem d_t_init_32 : decode cc_t_init 32 = .ok (.newarray .int, 2) := by decide +kernel
theorem d_t_init_34 : decode cc_t_init 34 = .ok (.putfield 21, 3) := by decide +kernel
theorem d_t_init_37 : decode cc_t_init 37 = .ok (.aload_n 0, 1) := by decide +kernel
theorem d_t_init_38 : decode cc_t_init 38 = .ok (.sipush 201, 3) := by decide +kernel
theorem d_t_init_41 : decode cc_t_init 41 = .ok (.newarray .int, 2) := by decide +kernel
theorem d_t_init_43 : decode cc_t_init 43 = .ok (.putfield 24, 3) := by decide +kernel
theorem d_t_init_46 : decode cc_t_init 46 = .ok (.aload_n 0, 1) := by decide +kernel
theorem d_t_init_47 : decode cc_t_init 47 = .ok (.sipush 201, 3) := by decide +kernel
theorem d_t_init_50 : decode cc_t_init 50 = .ok (.newarray .int, 2) := by decide +kernel
theorem d_t_init_52 : decode cc_t_init 52 = .ok (.putfield 27, 3) := by decide +kernel
theorem d_t_init_55 : decode cc_t_init 55 = .ok (.aload_n 0, 1) := by decide +kernel
theorem d_t_init_56 : decode cc_t_init 56 = .ok (.iconst 0, 1) := by decide +kernel
theorem d_t_init_57 : decode cc_t_init 57 = .ok (.putfield 30, 3) := by decide +kernel
theorem d_t_init_60 : decode cc_t_init 60 = .ok (.return_, 1) := by decide +kernel
theorem d_t_add_0 : decode cc_t_add 0 = .ok (.aload_n 0, 1) := by decide +kernel
theorem d_t_add_1 : decode cc_t_add 1 = .ok (.getfield 30, 3) := by decide +kernel
theorem d_t_add_4 : decode cc_t_add 4 = .ok (.bipush 6, 2) := by decide +kernel
theorem d_t_add_6 : decode cc_t_add 6 = .ok (.if_icmp .lt 13, 3) := by decide +kernel
theorem d_t_add_9 : decode cc_t_add 9 = .ok (.new 34, 3) := by decide +kernel
theorem d_t_add_12 : decode cc_t_add 12 = .ok (.dup, 1) := by decide +kernel
theorem d_t_add_13 : decode cc_t_add 13 = .ok (.ldc 36, 2) := by decide +kernel
theorem d_t_add_15 : decode cc_t_add 15 = .ok (.invokespecial 38, 3) := by decide +kernel
theorem d_t_add_18 : decode cc_t_add 18 = .ok (.athrow, 1) := by decide +kernel
theorem d_t_add_19 : decode cc_t_add 19 = .ok (.aload_n 0, 1) := by decide +kernel
theorem d_t_add_20 : decode cc_t_add 20 = .ok (.getfield 9, 3) := by decide +kernel
theorem d_t_add_23 : decode cc_t_add 23 = .ok (.aload_n 0, 1) := by decide +kernel
theorem d_t_add_24 : decode cc_t_add 24 = .ok (.getfield 30, 3) := by decide +kernel
theorem d_t_add_27 : decode cc_t_add 27 = .ok (.iload_n 1, 1) := by decide +kernel
theorem d_t_add_28 : decode cc_t_add 28 = .ok (.iastore, 1) := by decide +kernel
theorem d_t_add_29 : decode cc_t_add 29 = .ok (.aload_n 0, 1) := by decide +kernel
theorem d_t_add_30 : decode cc_t_add 30 = .ok (.getfield 15, 3) := by decide +kernel
theorem d_t_add_33 : decode cc_t_add 33 = .ok (.aload_n 0, 1) := by decide +kernel
theorem d_t_add_34 : decode cc_t_add 34 = .ok (.getfield 30, 3) := by decide +kernel
theorem d_t_add_37 : decode cc_t_add 37 = .ok (.iload_n 2, 1) := by decide +kernel
theorem d_t_add_38 : decode cc_t_add 38 = .ok (.iastore, 1) := by decide +kernel
theorem d_t_add_39 : decode cc_t_add 39 = .ok (.aload_n 0, 1) := by decide +kernel
theorem d_t_add_40 : decode cc_t_add 40 = .ok (.getfield 18, 3) := by decide +kernel
theorem d_t_add_43 : decode cc_t_add 43 = .ok (.aload_n 0, 1) := by decide +kernel
theorem d_t_add_44 : decode cc_t_add 44 = .ok (.getfield 30, 3) := by decide +kernel
theorem d_t_add_47 : decode cc_t_add 47 = .ok (.iload_n 3, 1) := by decide +kernel
theorem d_t_add_48 : decode cc_t_add 48 = .ok (.iastore, 1) := by decide +kernel
theorem d_t_add_49 : decode cc_t_add 49 = .ok (.aload_n 0, 1) := by decide +kernel
theorem d_t_add_50 : decode cc_t_add 50 = .ok (.dup, 1) := by decide +kernel
theorem d_t_add_51 : decode cc_t_add 51 = .ok (.getfield 30, 3) := by decide +kernel
theorem d_t_add_54 : decode cc_t_add 54 = .ok (.iconst 1, 1) := by decide +kernel
theorem d_t_add_55 : decode cc_t_add 55 = .ok (.iadd, 1) := by decide +kernel
theorem d_t_add_56 : decode cc_t_add 56 = .ok (.putfield 30, 3) := by decide +kernel
theorem d_t_add_59 : decode cc_t_add 59 = .ok (.aload_n 0, 1) := by decide +kernel
theorem d_t_add_60 : decode cc_t_add 60 = .ok (.invokevirtual 41, 3) := by decide +kernel
theorem d_t_add_63 : decode cc_t_add 63 = .ok (.aload_n 0, 1) := by decide +kernel
theorem d_t_add_64 : decode cc_t_add 64 = .ok (.getfield 30, 3) := by decide +kernel
theorem d_t_add_67 : decode cc_t_add 67 = .ok (.iconst 1, 1) := by decide +kernel
theorem d_t_add_68 : decode cc_t_add 68 = .ok (.isub, 1) := by decide +kernel
theorem d_t_add_69 : decode cc_t_add 69 = .ok (.ireturn, 1) := by decide +kernel
theorem d_t_fill_0 : decode cc_t_fill 0 = .ok (.iconst 0, 1) := by decide +kernel
theorem d_t_fill_1 : decode cc_t_fill 1 = .ok (.istore_n 1, 1) := by decide +kernel
theorem d_t_fill_2 : decode cc_t_fill 2 = .ok (.iload_n 1, 1) := by decide +kernel
theorem d_t_fill_3 : decode cc_t_fill 3 = .ok (.sipush 200, 3) := by decide +kernel
theorem d_t_fill_6 : decode cc_t_fill 6 = .ok (.if_icmp .gt 55, 3) := by decide +kernel
theorem d_t_fill_9 : decode cc_t_fill 9 = .ok (.aload_n 0, 1) := by decide +kernel
theorem d_t_fill_10 : decode cc_t_fill 10 = .ok (.getfield 21, 3) := by decide +kernel
theorem d_t_fill_13 : decode cc_t_fill 13 = .ok (.iload_n 1, 1) := by decide +kernel
theorem d_t_fill_14 : decode cc_t_fill 14 = .ok (.iload_n 1, 1) := by decide +kernel
theorem d_t_fill_15 : decode cc_t_fill 15 = .ok (.ldc 44, 2) := by decide +kernel
theorem d_t_fill_17 : decode cc_t_fill 17 = .ok (.imul, 1) := by decide +kernel
theorem d_t_fill_18 : decode cc_t_fill 18 = .ok (.iastore, 1) := by decide +kernel
theorem d_t_fill_19 : decode cc_t_fill 19 = .ok (.aload_n 0, 1) := by decide +kernel
theorem d_t_fill_20 : decode cc_t_fill 20 = .ok (.getfield 24, 3) := by decide +kernel
theorem d_t_fill_23 : decode cc_t_fill 23 = .ok (.iload_n 1, 1) := by decide +kernel
theorem d_t_fill_24 : decode cc_t_fill 24 = .ok (.iconst (-1), 1) := by decide +kernel
theorem d_t_fill_25 : decode cc_t_fill 25 = .ok (.iastore, 1) := by decide +kernel
theorem d_t_fill_26 : decode cc_t_fill 26 = .ok (.aload_n 0, 1) := by decide +kernel
theorem d_t_fill_27 : decode cc_t_fill 27 = .ok (.getfield 27, 3) := by decide +kernel
theorem d_t_fill_30 : decode cc_t_fill 30 = .ok (.iload_n 1, 1) := by decide +kernel
theorem d_t_fill_31 : decode cc_t_fill 31 = .ok (.iconst 0, 1) := by decide +kernel
theorem d_t_fill_32 : decode cc_t_fill 32 = .ok (.iastore, 1) := by decide +kernel
theorem d_t_fill_33 : decode cc_t_fill 33 = .ok (.iconst 0, 1) := by decide +kernel
theorem d_t_fill_34 : decode cc_t_fill 34 = .ok (.istore_n 2, 1) := by decide +kernel
theorem d_t_fill_35 : decode cc_t_fill 35 = .ok (.iload_n 2, 1) := by decide +kernel
theorem d_t_fill_36 : decode cc_t_fill 36 = .ok (.aload_n 0, 1) := by decide +kernel
theorem d_t_fill_37 : decode cc_t_fill 37 = .ok (.getfield 30, 3) := by decide +kernel
theorem d_t_fill_40 : decode cc_t_fill 40 = .ok (.if_icmp .ge 15, 3) := by decide +kernel
theorem d_t_fill_43 : decode cc_t_fill 43 = .ok (.aload_n 0, 1) := by decide +kernel
theorem d_t_fill_44 : decode cc_t_fill 44 = .ok (.iload_n 1, 1) := by decide +kernel
theorem d_t_fill_45 : decode cc_t_fill 45 = .ok (.iload_n 2, 1) := by decide +kernel
theorem d_t_fill_46 : decode cc_t_fill 46 = .ok (.invokevirtual 45, 3) := by decide +kernel
theorem d_t_fill_49 : decode cc_t_fill 49 = .ok (.iinc 2 1, 3) := by decide +kernel
theorem d_t_fill_52 : decode cc_t_fill 52 = .ok (.goto (-17), 3) := by decide +kernel
theorem d_t_fill_55 : decode cc_t_fill 55 = .ok (.iinc 1 1, 3) := by decide +kernel
theorem d_t_fill_58 : decode cc_t_fill 58 = .ok (.goto (-56), 3) := by decide +kernel
theorem d_t_fill_61 : decode cc_t_fill 61 = .ok (.return_, 1) := by decide +kernel
theorem d_t_tryFirst_0 : decode cc_t_tryFirst 0 = .ok (.aload_n 0, 1) := by decide +kernel
theorem d_t_tryFirst_1 : decode cc_t_tryFirst 1 = .ok (.getfield 15, 3) := by decide +kernel
theorem d_t_tryFirst_4 : decode cc_t_tryFirst 4 = .ok (.iload_n 2, 1) := by decide +kernel
theorem d_t_tryFirst_5 : decode cc_t_tryFirst 5 = .ok (.iaload, 1) := by decide +kernel
theorem d_t_tryFirst_6 : decode cc_t_tryFirst 6 = .ok (.iload_n 1, 1) := by decide +kernel
theorem d_t_tryFirst_7 : decode cc_t_tryFirst 7 = .ok (.invokestatic 49, 3) := by decide +kernel
theorem d_t_tryFirst_10 : decode cc_t_tryFirst 10 = .ok (.istore_n 3, 1) := by decide +kernel
theorem d_t_tryFirst_11 : decode cc_t_tryFirst 11 = .ok (.iconst 1, 1) := by decide +kernel
theorem d_t_tryFirst_12 : decode cc_t_tryFirst 12 = .ok (.aload_n 0, 1) := by decide +kernel
theorem d_t_tryFirst_13 : decode cc_t_tryFirst 13 = .ok (.getfield 18, 3) := by decide +kernel
theorem d_t_tryFirst_16 : decode cc_t_tryFirst 16 = .ok (.iload_n 2, 1) := by decide +kernel
theorem d_t_tryFirst_17 : decode cc_t_tryFirst 17 = .ok (.iaload, 1) := by decide +kernel
theorem d_t_tryFirst_18 : decode cc_t_tryFirst 18 = .ok (.sipush 256, 3) := by decide +kernel
theorem d_t_tryFirst_21 : decode cc_t_tryFirst 21 = .ok (.imul, 1) := by decide +kernel
theorem d_t_tryFirst_22 : decode cc_t_tryFirst 22 = .ok (.isub, 1) := by decide +kernel
theorem d_t_tryFirst_23 : decode cc_t_tryFirst 23 = .ok (.istore 4, 2) := by decide +kernel
theorem d_t_tryFirst_25 : decode cc_t_tryFirst 25 = .ok (.aload_n 0, 1) := by decide +kernel
theorem d_t_tryFirst_26 : decode cc_t_tryFirst 26 = .ok (.getfield 9, 3) := by decide +kernel
theorem d_t_tryFirst_29 : decode cc_t_tryFirst 29 = .ok (.iload_n 2, 1) := by decide +kernel
theorem d_t_tryFirst_30 : decode cc_t_tryFirst 30 = .ok (.iaload, 1) := by decide +kernel
theorem d_t_tryFirst_31 : decode cc_t_tryFirst 31 = .ok (.istore 5, 2) := by decide +kernel
theorem d_t_tryFirst_33 : decode cc_t_tryFirst 33 = .ok (.iload 5, 2) := by decide +kernel
theorem d_t_tryFirst_35 : decode cc_t_tryFirst 35 = .ok (.iload_n 3, 1) := by decide +kernel
theorem d_t_tryFirst_36 : decode cc_t_tryFirst 36 = .ok (.if_icmp .gt 57, 3) := by decide +kernel
theorem d_t_tryFirst_39 : decode cc_t_tryFirst 39 = .ok (.aload_n 0, 1) := by decide +kernel
theorem d_t_tryFirst_40 : decode cc_t_tryFirst 40 = .ok (.getfield 21, 3) := by decide +kernel
theorem d_t_tryFirst_43 : decode cc_t_tryFirst 43 = .ok (.iload_n 1, 1) := by decide +kernel
theorem d_t_tryFirst_44 : decode cc_t_tryFirst 44 = .ok (.iload 5, 2) := by decide +kernel
theorem d_t_tryFirst_46 : decode cc_t_tryFirst 46 = .ok (.isub, 1) := by decide +kernel
theorem d_t_tryFirst_47 : decode cc_t_tryFirst 47 = .ok (.iaload, 1) := by decide +kernel
theorem d_t_tryFirst_48 : decode cc_t_tryFirst 48 = .ok (.iload 4, 2) := by decide +kernel
theorem d_t_tryFirst_50 : decode cc_t_tryFirst 50 = .ok (.iadd, 1) := by decide +kernel
theorem d_t_tryFirst_51 : decode cc_t_tryFirst 51 = .ok (.istore 6, 2) := by decide +kernel
theorem d_t_tryFirst_53 : decode cc_t_tryFirst 53 = .ok (.iload 6, 2) := by decide +kernel
theorem d_t_tryFirst_55 : decode cc_t_tryFirst 55 = .ok (.aload_n 0, 1) := by decide +kernel
theorem d_t_tryFirst_56 : decode cc_t_tryFirst 56 = .ok (.getfield 21, 3) := by decide +kernel
theorem d_t_tryFirst_59 : decode cc_t_tryFirst 59 = .ok (.iload_n 1, 1) := by decide +kernel
theorem d_t_tryFirst_60 : decode cc_t_tryFirst 60 = .ok (.iaload, 1) := by decide +kernel
theorem d_t_tryFirst_61 : decode cc_t_tryFirst 61 = .ok (.if_icmp .ge 26, 3) := by decide +kernel
theorem d_t_tryFirst_64 : decode cc_t_tryFirst 64 = .ok (.aload_n 0, 1) := by decide +kernel
theorem d_t_tryFirst_65 : decode cc_t_tryFirst 65 = .ok (.getfield 21, 3) := by decide +kernel
theorem d_t_tryFirst_68 : decode cc_t_tryFirst 68 = .ok (.iload_n 1, 1) := by decide +kernel
theorem d_t_tryFirst_69 : decode cc_t_tryFirst 69 = .ok (.iload 6, 2) := by decide +kernel
theorem d_t_tryFirst_71 : decode cc_t_tryFirst 71 = .ok (.iastore, 1) := by decide +kernel
theorem d_t_tryFirst_72 : decode cc_t_tryFirst 72 = .ok (.aload_n 0, 1) := by decide +kernel
theorem d_t_tryFirst_73 : decode cc_t_tryFirst 73 = .ok (.getfield 24, 3) := by decide +kernel
theorem d_t_tryFirst_76 : decode cc_t_tryFirst 76 = .ok (.iload_n 1, 1) := by decide +kernel
theorem d_t_tryFirst_77 : decode cc_t_tryFirst 77 = .ok (.iload_n 2, 1) := by decide +kernel
theorem d_t_tryFirst_78 : decode cc_t_tryFirst 78 = .ok (.iastore, 1) := by decide +kernel
theorem d_t_tryFirst_79 : decode cc_t_tryFirst 79 = .ok (.aload_n 0, 1) := by decide +kernel
theorem d_t_tryFirst_80 : decode cc_t_tryFirst 80 = .ok (.getfield 27, 3) := by decide +kernel
theorem d_t_tryFirst_83 : decode cc_t_tryFirst 83 = .ok (.iload_n 1, 1) := by decide +kernel
theorem d_t_tryFirst_84 : decode cc_t_tryFirst 84 = .ok (.iload 5, 2) := by decide +kernel
theorem d_t_tryFirst_86 : decode cc_t_tryFirst 86 = .ok (.iastore, 1) := by decide +kernel
theorem d_t_tryFirst_87 : decode cc_t_tryFirst 87 = .ok (.iinc 5 1, 3) := by decide +kernel
theorem d_t_tryFirst_90 : decode cc_t_tryFirst 90 = .ok (.goto (-57), 3) := by decide +kernel
theorem d_t_tryFirst_93 : decode cc_t_tryFirst 93 = .ok (.return_, 1) := by decide +kernel
theorem d_b_init_0 : decode cc_b_init 0 = .ok (.aload_n 0, 1) := by decide +kernel
theorem d_b_init_1 : decode cc_b_init 1 = .ok (.invokespecial 3, 3) := by decide +kernel
theorem d_b_init_4 : decode cc_b_init 4 = .ok (.aload_n 0, 1) := by decide +kernel
theorem d_b_init_5 : decode cc_b_init 5 = .ok (.sipush 200, 3) := by decide +kernel
theorem d_b_init_8 : decode cc_b_init 8 = .ok (.newarray .int, 2) := by decide +kernel
theorem d_b_init_10 : decode cc_b_init 10 = .ok (.putfield 9, 3) := by decide +kernel
theorem d_b_init_13 : decode cc_b_init 13 = .ok (.aload_n 0, 1) := by decide +kernel
theorem d_b_init_14 : decode cc_b_init 14 = .ok (.sipush 200, 3) := by decide +kernel
theorem d_b_init_17 : decode cc_b_init 17 = .ok (.newarray .int, 2) := by decide +kernel
theorem d_b_init_19 : decode cc_b_init 19 = .ok (.putfield 15, 3) := by decide +kernel
theorem d_b_init_22 : decode cc_b_init 22 = .ok (.aload_n 0, 1) := by decide +kernel
theorem d_b_init_23 : decode cc_b_init 23 = .ok (.sipush 200, 3) := by decide +kernel
theorem d_b_init_26 : decode cc_b_init 26 = .ok (.newarray .int, 2) := by decide +kernel
theorem d_b_init_28 : decode cc_b_init 28 = .ok (.putfield 18, 3) := by decide +kernel
theorem d_b_init_31 : decode cc_b_init 31 = .ok (.aload_n 0, 1) := by decide +kernel
theorem d_b_init_32 : decode cc_b_init 32 = .ok (.bipush 100, 2) := by decide +kernel
theorem d_b_init_34 : decode cc_b_init 34 = .ok (.putfield 21, 3) := by decide +kernel
theorem d_b_init_37 : decode cc_b_init 37 = .ok (.aload_n 0, 1) := by decide +kernel
theorem d_b_init_38 : decode cc_b_init 38 = .ok (.iconst 0, 1) := by decide +kernel
theorem d_b_init_39 : decode cc_b_init 39 = .ok (.putfield 25, 3) := by decide +kernel
theorem d_b_init_42 : decode cc_b_init 42 = .ok (.aload_n 0, 1) := by decide +kernel
theorem d_b_init_43 : decode cc_b_init 43 = .ok (.iconst 0, 1) := by decide +kernel
theorem d_b_init_44 : decode cc_b_init 44 = .ok (.putfield 28, 3) := by decide +kernel
theorem d_b_init_47 : decode cc_b_init 47 = .ok (.aload_n 0, 1) := by decide +kernel
theorem d_b_init_48 : decode cc_b_init 48 = .ok (.iconst 0, 1) := by decide +kernel
theorem d_b_init_49 : decode cc_b_init 49 = .ok (.putfield 31, 3) := by decide +kernel
theorem d_b_init_52 : decode cc_b_init 52 = .ok (.aload_n 0, 1) := by decide +kernel
theorem d_b_init_53 : decode cc_b_init 53 = .ok (.iconst 0, 1) := by decide +kernel
theorem d_b_init_54 : decode cc_b_init 54 = .ok (.putfield 34, 3) := by decide +kernel
theorem d_b_init_57 : decode cc_b_init 57 = .ok (.aload_n 0, 1) := by decide +kernel
theorem d_b_init_58 : decode cc_b_init 58 = .ok (.iconst 0, 1) := by decide +kernel
theorem d_b_init_59 : decode cc_b_init 59 = .ok (.putfield 37, 3) := by decide +kernel
theorem d_b_init_62 : decode cc_b_init 62 = .ok (.aload_n 0, 1) := by decide +kernel
theorem d_b_init_63 : decode cc_b_init 63 = .ok (.iconst 0, 1) := by decide +kernel
theorem d_b_init_64 : decode cc_b_init 64 = .ok (.putfield 40, 3) := by decide +kernel
theorem d_b_init_67 : decode cc_b_init 67 = .ok (.aload_n 0, 1) := by decide +kernel
theorem d_b_init_68 : decode cc_b_init 68 = .ok (.bipush 100, 2) := by decide +kernel
theorem d_b_init_70 : decode cc_b_init 70 = .ok (.putfield 43, 3) := by decide +kernel
theorem d_b_init_73 : decode cc_b_init 73 = .ok (.return_, 1) := by decide +kernel
theorem d_b_startBar_0 : decode cc_b_startBar 0 = .ok (.aload_n 0, 1) := by decide +kernel
theorem d_b_startBar_1 : decode cc_b_startBar 1 = .ok (.iload_n 1, 1) := by decide +kernel
theorem d_b_startBar_2 : decode cc_b_startBar 2 = .ok (.putfield 21, 3) := by decide +kernel
theorem d_b_startBar_5 : decode cc_b_startBar 5 = .ok (.aload_n 0, 1) := by decide +kernel
theorem d_b_startBar_6 : decode cc_b_startBar 6 = .ok (.iload_n 2, 1) := by decide +kernel
theorem d_b_startBar_7 : decode cc_b_startBar 7 = .ok (.putfield 25, 3) := by decide +kernel
theorem d_b_startBar_10 : decode cc_b_startBar 10 = .ok (.aload_n 0, 1) := by decide +kernel
theorem d_b_startBar_11 : decode cc_b_startBar 11 = .ok (.iconst 0, 1) := by decide +kernel
theorem d_b_startBar_12 : decode cc_b_startBar 12 = .ok (.putfield 37, 3) := by decide +kernel
theorem d_b_startBar_15 : decode cc_b_startBar 15 = .ok (.aload_n 0, 1) := by decide +kernel
theorem d_b_startBar_16 : decode cc_b_startBar 16 = .ok (.iconst 0, 1) := by decide +kernel
theorem d_b_startBar_17 : decode cc_b_startBar 17 = .ok (.putfield 40, 3) := by decide +kernel
theorem d_b_startBar_20 : decode cc_b_startBar 20 = .ok (.return_, 1) := by decide +kernel
theorem d_b_changeCrops_0 : decode cc_b_changeCrops 0 = .ok (.aload_n 0, 1) := by decide +kernel
theorem d_b_changeCrops_1 : decode cc_b_changeCrops 1 = .ok (.getfield 37, 3) := by decide +kernel
theorem d_b_changeCrops_4 : decode cc_b_changeCrops 4 = .ok (.ifCond .le 21, 3) := by decide +kernel
theorem d_b_changeCrops_7 : decode cc_b_changeCrops 7 = .ok (.iload_n 1, 1) := by decide +kernel
theorem d_b_changeCrops_8 : decode cc_b_changeCrops 8 = .ok (.aload_n 0, 1) := by decide +kernel
theorem d_b_changeCrops_9 : decode cc_b_changeCrops 9 = .ok (.getfield 28, 3) := by decide +kernel
theorem d_b_changeCrops_12 : decode cc_b_changeCrops 12 = .ok (.if_icmp .eq 13, 3) := by decide +kernel
theorem d_b_changeCrops_15 : decode cc_b_changeCrops 15 = .ok (.new 46, 3) := by decide +kernel
theorem d_b_changeCrops_18 : decode cc_b_changeCrops 18 = .ok (.dup, 1) := by decide +kernel
theorem d_b_changeCrops_19 : decode cc_b_changeCrops 19 = .ok (.ldc 48, 2) := by decide +kernel
theorem d_b_changeCrops_21 : decode cc_b_changeCrops 21 = .ok (.invokespecial 50, 3) := by decide +kernel
theorem d_b_changeCrops_24 : decode cc_b_changeCrops 24 = .ok (.athrow, 1) := by decide +kernel
theorem d_b_changeCrops_25 : decode cc_b_changeCrops 25 = .ok (.aload_n 0, 1) := by decide +kernel
theorem d_b_changeCrops_26 : decode cc_b_changeCrops 26 = .ok (.aload_n 0, 1) := by decide +kernel
theorem d_b_changeCrops_27 : decode cc_b_changeCrops 27 = .ok (.getfield 21, 3) := by decide +kernel
theorem d_b_changeCrops_30 : decode cc_b_changeCrops 30 = .ok (.aload_n 0, 1) := by decide +kernel
theorem d_b_changeCrops_31 : decode cc_b_changeCrops 31 = .ok (.getfield 25, 3) := by decide +kernel
theorem d_b_changeCrops_34 : decode cc_b_changeCrops 34 = .ok (.iload_n 1, 1) := by decide +kernel
theorem d_b_changeCrops_35 : decode cc_b_changeCrops 35 = .ok (.iload_n 2, 1) := by decide +kernel
theorem d_b_changeCrops_36 : decode cc_b_changeCrops 36 = .ok (.invokestatic 53, 3) := by decide +kernel
theorem d_b_changeCrops_39 : decode cc_b_changeCrops 39 = .ok (.invokevirtual 57, 3) := by decide +kernel
theorem d_b_changeCrops_42 : decode cc_b_changeCrops 42 = .ok (.aload_n 0, 1) := by decide +kernel
theorem d_b_changeCrops_43 : decode cc_b_changeCrops 43 = .ok (.iload_n 1, 1) := by decide +kernel
theorem d_b_changeCrops_44 : decode cc_b_changeCrops 44 = .ok (.putfield 28, 3) := by decide +kernel
theorem d_b_changeCrops_47 : decode cc_b_changeCrops 47 = .ok (.aload_n 0, 1) := by decide +kernel
theorem d_b_changeCrops_48 : decode cc_b_changeCrops 48 = .ok (.iload_n 2, 1) := by decide +kernel
theorem d_b_changeCrops_49 : decode cc_b_changeCrops 49 = .ok (.putfield 31, 3) := by decide +kernel
theorem d_b_changeCrops_52 : decode cc_b_changeCrops 52 = .ok (.return_, 1) := by decide +kernel
theorem d_b_learnLength_0 : decode cc_b_learnLength 0 = .ok (.aload_n 0, 1) := by decide +kernel
theorem d_b_learnLength_1 : decode cc_b_learnLength 1 = .ok (.iload_n 1, 1) := by decide +kernel
theorem d_b_learnLength_2 : decode cc_b_learnLength 2 = .ok (.iconst 0, 1) := by decide +kernel
theorem d_b_learnLength_3 : decode cc_b_learnLength 3 = .ok (.aload_n 0, 1) := by decide +kernel
theorem d_b_learnLength_4 : decode cc_b_learnLength 4 = .ok (.getfield 28, 3) := by decide +kernel
theorem d_b_learnLength_7 : decode cc_b_learnLength 7 = .ok (.aload_n 0, 1) := by decide +kernel
theorem d_b_learnLength_8 : decode cc_b_learnLength 8 = .ok (.getfield 31, 3) := by decide +kernel
theorem d_b_learnLength_11 : decode cc_b_learnLength 11 = .ok (.invokestatic 53, 3) := by decide +kernel
theorem d_b_learnLength_14 : decode cc_b_learnLength 14 = .ok (.invokevirtual 57, 3) := by decide +kernel
theorem d_b_learnLength_17 : decode cc_b_learnLength 17 = .ok (.aload_n 0, 1) := by decide +kernel
theorem d_b_learnLength_18 : decode cc_b_learnLength 18 = .ok (.iload_n 1, 1) := by decide +kernel
theorem d_b_learnLength_19 : decode cc_b_learnLength 19 = .ok (.putfield 21, 3) := by decide +kernel
theorem d_b_learnLength_22 : decode cc_b_learnLength 22 = .ok (.aload_n 0, 1) := by decide +kernel
theorem d_b_learnLength_23 : decode cc_b_learnLength 23 = .ok (.iconst 0, 1) := by decide +kernel
theorem d_b_learnLength_24 : decode cc_b_learnLength 24 = .ok (.putfield 25, 3) := by decide +kernel
theorem d_b_learnLength_27 : decode cc_b_learnLength 27 = .ok (.return_, 1) := by decide +kernel
theorem d_b_requireCutsFit_0 : decode cc_b_requireCutsFit 0 = .ok (.aload_n 0, 1) := by decide +kernel
theorem d_b_requireCutsFit_1 : decode cc_b_requireCutsFit 1 = .ok (.getfield 40, 3) := by decide +kernel
theorem d_b_requireCutsFit_4 : decode cc_b_requireCutsFit 4 = .ok (.iload_n 1, 1) := by decide +kernel
theorem d_b_requireCutsFit_5 : decode cc_b_requireCutsFit 5 = .ok (.if_icmp .le 13, 3) := by decide +kernel
theorem d_b_requireCutsFit_8 : decode cc_b_requireCutsFit 8 = .ok (.new 46, 3) := by decide +kernel
theorem d_b_requireCutsFit_11 : decode cc_b_requireCutsFit 11 = .ok (.dup, 1) := by decide +kernel
theorem d_b_requireCutsFit_12 : decode cc_b_requireCutsFit 12 = .ok (.ldc 61, 2) := by decide +kernel
theorem d_b_requireCutsFit_14 : decode cc_b_requireCutsFit 14 = .ok (.invokespecial 50, 3) := by decide +kernel
theorem d_b_requireCutsFit_17 : decode cc_b_requireCutsFit 17 = .ok (.athrow, 1) := by decide +kernel
theorem d_b_requireCutsFit_18 : decode cc_b_requireCutsFit 18 = .ok (.return_, 1) := by decide +kernel
theorem d_b_roomOf_0 : decode cc_b_roomOf 0 = .ok (.iconst 0, 1) := by decide +kernel
theorem d_b_roomOf_1 : decode cc_b_roomOf 1 = .ok (.iload_n 0, 1) := by decide +kernel
theorem d_b_roomOf_2 : decode cc_b_roomOf 2 = .ok (.iload_n 1, 1) := by decide +kernel
theorem d_b_roomOf_3 : decode cc_b_roomOf 3 = .ok (.isub, 1) := by decide +kernel
theorem d_b_roomOf_4 : decode cc_b_roomOf 4 = .ok (.iload_n 2, 1) := by decide +kernel
theorem d_b_roomOf_5 : decode cc_b_roomOf 5 = .ok (.isub, 1) := by decide +kernel
theorem d_b_roomOf_6 : decode cc_b_roomOf 6 = .ok (.iload_n 3, 1) := by decide +kernel
theorem d_b_roomOf_7 : decode cc_b_roomOf 7 = .ok (.isub, 1) := by decide +kernel
theorem d_b_roomOf_8 : decode cc_b_roomOf 8 = .ok (.invokestatic 63, 3) := by decide +kernel
theorem d_b_roomOf_11 : decode cc_b_roomOf 11 = .ok (.ireturn, 1) := by decide +kernel
theorem d_b_planRest_0 : decode cc_b_planRest 0 = .ok (.aload_n 0, 1) := by decide +kernel
theorem d_b_planRest_1 : decode cc_b_planRest 1 = .ok (.getfield 21, 3) := by decide +kernel
theorem d_b_planRest_4 : decode cc_b_planRest 4 = .ok (.aload_n 0, 1) := by decide +kernel
theorem d_b_planRest_5 : decode cc_b_planRest 5 = .ok (.getfield 25, 3) := by decide +kernel
theorem d_b_planRest_8 : decode cc_b_planRest 8 = .ok (.aload_n 0, 1) := by decide +kernel
theorem d_b_planRest_9 : decode cc_b_planRest 9 = .ok (.getfield 28, 3) := by decide +kernel
theorem d_b_planRest_12 : decode cc_b_planRest 12 = .ok (.aload_n 0, 1) := by decide +kernel
theorem d_b_planRest_13 : decode cc_b_planRest 13 = .ok (.getfield 31, 3) := by decide +kernel
theorem d_b_planRest_16 : decode cc_b_planRest 16 = .ok (.invokestatic 53, 3) := by decide +kernel
theorem d_b_planRest_19 : decode cc_b_planRest 19 = .ok (.aload_n 0, 1) := by decide +kernel
theorem d_b_planRest_20 : decode cc_b_planRest 20 = .ok (.getfield 40, 3) := by decide +kernel
theorem d_b_planRest_23 : decode cc_b_planRest 23 = .ok (.isub, 1) := by decide +kernel
theorem d_b_planRest_24 : decode cc_b_planRest 24 = .ok (.istore_n 2, 1) := by decide +kernel
theorem d_b_planRest_25 : decode cc_b_planRest 25 = .ok (.aload_n 0, 1) := by decide +kernel
theorem d_b_planRest_26 : decode cc_b_planRest 26 = .ok (.getfield 28, 3) := by decide +kernel
theorem d_b_planRest_29 : decode cc_b_planRest 29 = .ok (.aload_n 0, 1) := by decide +kernel
theorem d_b_planRest_30 : decode cc_b_planRest 30 = .ok (.getfield 40, 3) := by decide +kernel
theorem d_b_planRest_33 : decode cc_b_planRest 33 = .ok (.iadd, 1) := by decide +kernel
theorem d_b_planRest_34 : decode cc_b_planRest 34 = .ok (.istore_n 3, 1) := by decide +kernel
theorem d_b_planRest_35 : decode cc_b_planRest 35 = .ok (.aload_n 0, 1) := by decide +kernel
theorem d_b_planRest_36 : decode cc_b_planRest 36 = .ok (.aload_n 0, 1) := by decide +kernel
theorem d_b_planRest_37 : decode cc_b_planRest 37 = .ok (.getfield 37, 3) := by decide +kernel
theorem d_b_planRest_40 : decode cc_b_planRest 40 = .ok (.putfield 34, 3) := by decide +kernel
theorem d_b_planRest_43 : decode cc_b_planRest 43 = .ok (.aload_n 0, 1) := by decide +kernel
theorem d_b_planRest_44 : decode cc_b_planRest 44 = .ok (.getfield 37, 3) := by decide +kernel
theorem d_b_planRest_47 : decode cc_b_planRest 47 = .ok (.istore 4, 2) := by decide +kernel
theorem d_b_planRest_49 : decode cc_b_planRest 49 = .ok (.iload 4, 2) := by decide +kernel
theorem d_b_planRest_51 : decode cc_b_planRest 51 = .ok (.sipush 200, 3) := by decide +kernel
theorem d_b_planRest_54 : decode cc_b_planRest 54 = .ok (.if_icmp .ge 78, 3) := by decide +kernel
theorem d_b_planRest_57 : decode cc_b_planRest 57 = .ok (.aload_n 1, 1) := by decide +kernel
theorem d_b_planRest_58 : decode cc_b_planRest 58 = .ok (.getfield 69, 3) := by decide +kernel
theorem d_b_planRest_61 : decode cc_b_planRest 61 = .ok (.iload_n 2, 1) := by decide +kernel
theorem d_b_planRest_62 : decode cc_b_planRest 62 = .ok (.invokestatic 74, 3) := by decide +kernel
theorem d_b_planRest_65 : decode cc_b_planRest 65 = .ok (.istore 5, 2) := by decide +kernel
theorem d_b_planRest_67 : decode cc_b_planRest 67 = .ok (.iload 5, 2) := by decide +kernel
theorem d_b_planRest_69 : decode cc_b_planRest 69 = .ok (.iconst 1, 1) := by decide +kernel
theorem d_b_planRest_70 : decode cc_b_planRest 70 = .ok (.if_icmp .ge 6, 3) := by decide +kernel
theorem d_b_planRest_73 : decode cc_b_planRest 73 = .ok (.goto 59, 3) := by decide +kernel
theorem d_b_planRest_76 : decode cc_b_planRest 76 = .ok (.aload_n 0, 1) := by decide +kernel
theorem d_b_planRest_77 : decode cc_b_planRest 77 = .ok (.getfield 9, 3) := by decide +kernel
theorem d_b_planRest_80 : decode cc_b_planRest 80 = .ok (.iload 4, 2) := by decide +kernel
theorem d_b_planRest_82 : decode cc_b_planRest 82 = .ok (.aload_n 1, 1) := by decide +kernel
theorem d_b_planRest_83 : decode cc_b_planRest 83 = .ok (.getfield 78, 3) := by decide +kernel
theorem d_b_planRest_86 : decode cc_b_planRest 86 = .ok (.iload_n 2, 1) := by decide +kernel
theorem d_b_planRest_87 : decode cc_b_planRest 87 = .ok (.invokestatic 74, 3) := by decide +kernel
theorem d_b_planRest_90 : decode cc_b_planRest 90 = .ok (.iastore, 1) := by decide +kernel
theorem d_b_planRest_91 : decode cc_b_planRest 91 = .ok (.aload_n 0, 1) := by decide +kernel
theorem d_b_planRest_92 : decode cc_b_planRest 92 = .ok (.getfield 15, 3) := by decide +kernel
theorem d_b_planRest_95 : decode cc_b_planRest 95 = .ok (.iload 4, 2) := by decide +kernel
theorem d_b_planRest_97 : decode cc_b_planRest 97 = .ok (.iload_n 3, 1) := by decide +kernel
theorem d_b_planRest_98 : decode cc_b_planRest 98 = .ok (.iastore, 1) := by decide +kernel
theorem d_b_planRest_99 : decode cc_b_planRest 99 = .ok (.aload_n 0, 1) := by decide +kernel
theorem d_b_planRest_100 : decode cc_b_planRest 100 = .ok (.getfield 18, 3) := by decide +kernel
theorem d_b_planRest_103 : decode cc_b_planRest 103 = .ok (.iload 4, 2) := by decide +kernel
theorem d_b_planRest_105 : decode cc_b_planRest 105 = .ok (.iload 5, 2) := by decide +kernel
theorem d_b_planRest_107 : decode cc_b_planRest 107 = .ok (.iastore, 1) := by decide +kernel
theorem d_b_planRest_108 : decode cc_b_planRest 108 = .ok (.iload_n 3, 1) := by decide +kernel
theorem d_b_planRest_109 : decode cc_b_planRest 109 = .ok (.iload 5, 2) := by decide +kernel
theorem d_b_planRest_111 : decode cc_b_planRest 111 = .ok (.iadd, 1) := by decide +kernel
theorem d_b_planRest_112 : decode cc_b_planRest 112 = .ok (.istore_n 3, 1) := by decide +kernel
theorem d_b_planRest_113 : decode cc_b_planRest 113 = .ok (.iload_n 2, 1) := by decide +kernel
theorem d_b_planRest_114 : decode cc_b_planRest 114 = .ok (.iload 5, 2) := by decide +kernel
theorem d_b_planRest_116 : decode cc_b_planRest 116 = .ok (.isub, 1) := by decide +kernel
theorem d_b_planRest_117 : decode cc_b_planRest 117 = .ok (.istore_n 2, 1) := by decide +kernel
theorem d_b_planRest_118 : decode cc_b_planRest 118 = .ok (.aload_n 0, 1) := by decide +kernel
theorem d_b_planRest_119 : decode cc_b_planRest 119 = .ok (.iload 4, 2) := by decide +kernel
theorem d_b_planRest_121 : decode cc_b_planRest 121 = .ok (.iconst 1, 1) := by decide +kernel
theorem d_b_planRest_122 : decode cc_b_planRest 122 = .ok (.iadd, 1) := by decide +kernel
theorem d_b_planRest_123 : decode cc_b_planRest 123 = .ok (.putfield 34, 3) := by decide +kernel
theorem d_b_planRest_126 : decode cc_b_planRest 126 = .ok (.iinc 4 1, 3) := by decide +kernel
theorem d_b_planRest_129 : decode cc_b_planRest 129 = .ok (.goto (-80), 3) := by decide +kernel
theorem d_b_planRest_132 : decode cc_b_planRest 132 = .ok (.aload_n 0, 1) := by decide +kernel
theorem d_b_planRest_133 : decode cc_b_planRest 133 = .ok (.iload_n 2, 1) := by decide +kernel
theorem d_b_planRest_134 : decode cc_b_planRest 134 = .ok (.putfield 43, 3) := by decide +kernel
theorem d_b_planRest_137 : decode cc_b_planRest 137 = .ok (.return_, 1) := by decide +kernel
theorem d_b_markNextCut_0 : decode cc_b_markNextCut 0 = .ok (.aload_n 0, 1) := by decide +kernel
theorem d_b_markNextCut_1 : decode cc_b_markNextCut 1 = .ok (.getfield 37, 3) := by decide +kernel
theorem d_b_markNextCut_4 : decode cc_b_markNextCut 4 = .ok (.aload_n 0, 1) := by decide +kernel
theorem d_b_markNextCut_5 : decode cc_b_markNextCut 5 = .ok (.getfield 34, 3) := by decide +kernel
theorem d_b_markNextCut_8 : decode cc_b_markNextCut 8 = .ok (.if_icmp .ge 30, 3) := by decide +kernel
theorem d_b_markNextCut_11 : decode cc_b_markNextCut 11 = .ok (.aload_n 0, 1) := by decide +kernel
theorem d_b_markNextCut_12 : decode cc_b_markNextCut 12 = .ok (.dup, 1) := by decide +kernel
theorem d_b_markNextCut_13 : decode cc_b_markNextCut 13 = .ok (.getfield 40, 3) := by decide +kernel
theorem d_b_markNextCut_16 : decode cc_b_markNextCut 16 = .ok (.aload_n 0, 1) := by decide +kernel
theorem d_b_markNextCut_17 : decode cc_b_markNextCut 17 = .ok (.aload_n 0, 1) := by decide +kernel
theorem d_b_markNextCut_18 : decode cc_b_markNextCut 18 = .ok (.getfield 37, 3) := by decide +kernel
theorem d_b_markNextCut_21 : decode cc_b_markNextCut 21 = .ok (.invokevirtual 81, 3) := by decide +kernel
theorem d_b_markNextCut_24 : decode cc_b_markNextCut 24 = .ok (.iadd, 1) := by decide +kernel
theorem d_b_markNextCut_25 : decode cc_b_markNextCut 25 = .ok (.putfield 40, 3) := by decide +kernel
theorem d_b_markNextCut_28 : decode cc_b_markNextCut 28 = .ok (.aload_n 0, 1) := by decide +kernel
theorem d_b_markNextCut_29 : decode cc_b_markNextCut 29 = .ok (.dup, 1) := by decide +kernel
theorem d_b_markNextCut_30 : decode cc_b_markNextCut 30 = .ok (.getfield 37, 3) := by decide +kernel
theorem d_b_markNextCut_33 : decode cc_b_markNextCut 33 = .ok (.iconst 1, 1) := by decide +kernel
theorem d_b_markNextCut_34 : decode cc_b_markNextCut 34 = .ok (.iadd, 1) := by decide +kernel
theorem d_b_markNextCut_35 : decode cc_b_markNextCut 35 = .ok (.putfield 37, 3) := by decide +kernel
theorem d_b_markNextCut_38 : decode cc_b_markNextCut 38 = .ok (.return_, 1) := by decide +kernel
theorem d_b_wantedOf_0 : decode cc_b_wantedOf 0 = .ok (.aload_n 0, 1) := by decide +kernel
theorem d_b_wantedOf_1 : decode cc_b_wantedOf 1 = .ok (.getfield 9, 3) := by decide +kernel
theorem d_b_wantedOf_4 : decode cc_b_wantedOf 4 = .ok (.iload_n 1, 1) := by decide +kernel
theorem d_b_wantedOf_5 : decode cc_b_wantedOf 5 = .ok (.invokestatic 74, 3) := by decide +kernel
theorem d_b_wantedOf_8 : decode cc_b_wantedOf 8 = .ok (.ireturn, 1) := by decide +kernel
theorem d_b_beginOf_0 : decode cc_b_beginOf 0 = .ok (.aload_n 0, 1) := by decide +kernel
theorem d_b_beginOf_1 : decode cc_b_beginOf 1 = .ok (.getfield 15, 3) := by decide +kernel
theorem d_b_beginOf_4 : decode cc_b_beginOf 4 = .ok (.iload_n 1, 1) := by decide +kernel
theorem d_b_beginOf_5 : decode cc_b_beginOf 5 = .ok (.invokestatic 74, 3) := by decide +kernel
theorem d_b_beginOf_8 : decode cc_b_beginOf 8 = .ok (.ireturn, 1) := by decide +kernel
theorem d_b_stepsOf_0 : decode cc_b_stepsOf 0 = .ok (.aload_n 0, 1) := by decide +kernel
theorem d_b_stepsOf_1 : decode cc_b_stepsOf 1 = .ok (.getfield 18, 3) := by decide +kernel
theorem d_b_stepsOf_4 : decode cc_b_stepsOf 4 = .ok (.iload_n 1, 1) := by decide +kernel
theorem d_b_stepsOf_5 : decode cc_b_stepsOf 5 = .ok (.invokestatic 74, 3) := by decide +kernel
theorem d_b_stepsOf_8 : decode cc_b_stepsOf 8 = .ok (.ireturn, 1) := by decide +kernel
theorem d_c_init_0 : decode cc_c_init 0 = .ok (.aload_n 0, 1) := by decide +kernel
theorem d_c_init_1 : decode cc_c_init 1 = .ok (.invokespecial 3, 3) := by decide +kernel
theorem d_c_init_4 : decode cc_c_init 4 = .ok (.aload_n 0, 1) := by decide +kernel
theorem d_c_init_5 : decode cc_c_init 5 = .ok (.bipush 20, 2) := by decide +kernel
theorem d_c_init_7 : decode cc_c_init 7 = .ok (.newarray .int, 2) := by decide +kernel
theorem d_c_init_9 : decode cc_c_init 9 = .ok (.putfield 9, 3) := by decide +kernel
theorem d_c_init_12 : decode cc_c_init 12 = .ok (.aload_n 0, 1) := by decide +kernel
theorem d_c_init_13 : decode cc_c_init 13 = .ok (.bipush 10, 2) := by decide +kernel
theorem d_c_init_15 : decode cc_c_init 15 = .ok (.putfield 15, 3) := by decide +kernel
theorem d_c_init_18 : decode cc_c_init 18 = .ok (.aload_n 0, 1) := by decide +kernel
theorem d_c_init_19 : decode cc_c_init 19 = .ok (.sipush 200, 3) := by decide +kernel
theorem d_c_init_22 : decode cc_c_init 22 = .ok (.putfield 19, 3) := by decide +kernel
theorem d_c_init_25 : decode cc_c_init 25 = .ok (.aload_n 0, 1) := by decide +kernel
theorem d_c_init_26 : decode cc_c_init 26 = .ok (.iconst 0, 1) := by decide +kernel
theorem d_c_init_27 : decode cc_c_init 27 = .ok (.putfield 22, 3) := by decide +kernel
theorem d_c_init_30 : decode cc_c_init 30 = .ok (.iconst 0, 1) := by decide +kernel
theorem d_c_init_31 : decode cc_c_init 31 = .ok (.istore_n 1, 1) := by decide +kernel
theorem d_c_init_32 : decode cc_c_init 32 = .ok (.iload_n 1, 1) := by decide +kernel
theorem d_c_init_33 : decode cc_c_init 33 = .ok (.bipush 20, 2) := by decide +kernel
theorem d_c_init_35 : decode cc_c_init 35 = .ok (.if_icmp .ge 16, 3) := by decide +kernel
theorem d_c_init_38 : decode cc_c_init 38 = .ok (.aload_n 0, 1) := by decide +kernel
theorem d_c_init_39 : decode cc_c_init 39 = .ok (.getfield 9, 3) := by decide +kernel
theorem d_c_init_42 : decode cc_c_init 42 = .ok (.iload_n 1, 1) := by decide +kernel
theorem d_c_init_43 : decode cc_c_init 43 = .ok (.iconst (-1), 1) := by decide +kernel
theorem d_c_init_44 : decode cc_c_init 44 = .ok (.iastore, 1) := by decide +kernel
theorem d_c_init_45 : decode cc_c_init 45 = .ok (.iinc 1 1, 3) := by decide +kernel
theorem d_c_init_48 : decode cc_c_init 48 = .ok (.goto (-16), 3) := by decide +kernel
theorem d_c_init_51 : decode cc_c_init 51 = .ok (.return_, 1) := by decide +kernel
theorem d_c_lay_0 : decode cc_c_lay 0 = .ok (.iload_n 2, 1) := by decide +kernel
theorem d_c_lay_1 : decode cc_c_lay 1 = .ok (.aload_n 0, 1) := by decide +kernel
theorem d_c_lay_2 : decode cc_c_lay 2 = .ok (.getfield 19, 3) := by decide +kernel
theorem d_c_lay_5 : decode cc_c_lay 5 = .ok (.if_icmp .le 5, 3) := by decide +kernel
theorem d_c_lay_8 : decode cc_c_lay 8 = .ok (.iconst (-1), 1) := by decide +kernel
theorem d_c_lay_9 : decode cc_c_lay 9 = .ok (.ireturn, 1) := by decide +kernel
theorem d_c_lay_10 : decode cc_c_lay 10 = .ok (.iconst 0, 1) := by decide +kernel
theorem d_c_lay_11 : decode cc_c_lay 11 = .ok (.istore_n 3, 1) := by decide +kernel
theorem d_c_lay_12 : decode cc_c_lay 12 = .ok (.iload_n 3, 1) := by decide +kernel
theorem d_c_lay_13 : decode cc_c_lay 13 = .ok (.aload_n 0, 1) := by decide +kernel
theorem d_c_lay_14 : decode cc_c_lay 14 = .ok (.getfield 15, 3) := by decide +kernel
theorem d_c_lay_17 : decode cc_c_lay 17 = .ok (.if_icmp .ge 38, 3) := by decide +kernel
theorem d_c_lay_20 : decode cc_c_lay 20 = .ok (.aload_n 0, 1) := by decide +kernel
theorem d_c_lay_21 : decode cc_c_lay 21 = .ok (.getfield 9, 3) := by decide +kernel
theorem d_c_lay_24 : decode cc_c_lay 24 = .ok (.iload_n 3, 1) := by decide +kernel
theorem d_c_lay_25 : decode cc_c_lay 25 = .ok (.iaload, 1) := by decide +kernel
theorem d_c_lay_26 : decode cc_c_lay 26 = .ok (.iconst (-1), 1) := by decide +kernel
theorem d_c_lay_27 : decode cc_c_lay 27 = .ok (.if_icmp .ne 22, 3) := by decide +kernel
theorem d_c_lay_30 : decode cc_c_lay 30 = .ok (.aload_n 0, 1) := by decide +kernel
theorem d_c_lay_31 : decode cc_c_lay 31 = .ok (.getfield 9, 3) := by decide +kernel
theorem d_c_lay_34 : decode cc_c_lay 34 = .ok (.iload_n 3, 1) := by decide +kernel
theorem d_c_lay_35 : decode cc_c_lay 35 = .ok (.iload_n 1, 1) := by decide +kernel
theorem d_c_lay_36 : decode cc_c_lay 36 = .ok (.iastore, 1) := by decide +kernel
theorem d_c_lay_37 : decode cc_c_lay 37 = .ok (.aload_n 0, 1) := by decide +kernel
theorem d_c_lay_38 : decode cc_c_lay 38 = .ok (.dup, 1) := by decide +kernel
theorem d_c_lay_39 : decode cc_c_lay 39 = .ok (.getfield 22, 3) := by decide +kernel
theorem d_c_lay_42 : decode cc_c_lay 42 = .ok (.iconst 1, 1) := by decide +kernel
theorem d_c_lay_43 : decode cc_c_lay 43 = .ok (.iadd, 1) := by decide +kernel
theorem d_c_lay_44 : decode cc_c_lay 44 = .ok (.putfield 22, 3) := by decide +kernel
theorem d_c_lay_47 : decode cc_c_lay 47 = .ok (.iload_n 3, 1) := by decide +kernel
theorem d_c_lay_48 : decode cc_c_lay 48 = .ok (.ireturn, 1) := by decide +kernel
theorem d_c_lay_49 : decode cc_c_lay 49 = .ok (.iinc 3 1, 3) := by decide +kernel
theorem d_c_lay_52 : decode cc_c_lay 52 = .ok (.goto (-40), 3) := by decide +kernel
theorem d_c_lay_55 : decode cc_c_lay 55 = .ok (.iconst (-1), 1) := by decide +kernel
theorem d_c_lay_56 : decode cc_c_lay 56 = .ok (.ireturn, 1) := by decide +kernel
theorem d_c_cutOn_0 : decode cc_c_cutOn 0 = .ok (.aload_n 0, 1) := by decide +kernel
theorem d_c_cutOn_1 : decode cc_c_cutOn 1 = .ok (.getfield 9, 3) := by decide +kernel
theorem d_c_cutOn_4 : decode cc_c_cutOn 4 = .ok (.iload_n 1, 1) := by decide +kernel
theorem d_c_cutOn_5 : decode cc_c_cutOn 5 = .ok (.invokestatic 25, 3) := by decide +kernel
theorem d_c_cutOn_8 : decode cc_c_cutOn 8 = .ok (.ireturn, 1) := by decide +kernel
theorem d_c_free_0 : decode cc_c_free 0 = .ok (.iload_n 1, 1) := by decide +kernel
theorem d_c_free_1 : decode cc_c_free 1 = .ok (.ifCond .lt 19, 3) := by decide +kernel
theorem d_c_free_4 : decode cc_c_free 4 = .ok (.iload_n 1, 1) := by decide +kernel
theorem d_c_free_5 : decode cc_c_free 5 = .ok (.bipush 20, 2) := by decide +kernel
theorem d_c_free_7 : decode cc_c_free 7 = .ok (.if_icmp .ge 13, 3) := by decide +kernel
theorem d_c_free_10 : decode cc_c_free 10 = .ok (.aload_n 0, 1) := by decide +kernel
theorem d_c_free_11 : decode cc_c_free 11 = .ok (.getfield 9, 3) := by decide +kernel
theorem d_c_free_14 : decode cc_c_free 14 = .ok (.iload_n 1, 1) := by decide +kernel
theorem d_c_free_15 : decode cc_c_free 15 = .ok (.iaload, 1) := by decide +kernel
theorem d_c_free_16 : decode cc_c_free 16 = .ok (.iconst (-1), 1) := by decide +kernel
theorem d_c_free_17 : decode cc_c_free 17 = .ok (.if_icmp .ne 4, 3) := by decide +kernel
theorem d_c_free_20 : decode cc_c_free 20 = .ok (.return_, 1) := by decide +kernel
theorem d_c_free_21 : decode cc_c_free 21 = .ok (.aload_n 0, 1) := by decide +kernel
theorem d_c_free_22 : decode cc_c_free 22 = .ok (.getfield 9, 3) := by decide +kernel
theorem d_c_free_25 : decode cc_c_free 25 = .ok (.iload_n 1, 1) := by decide +kernel
theorem d_c_free_26 : decode cc_c_free 26 = .ok (.iconst (-1), 1) := by decide +kernel
theorem d_c_free_27 : decode cc_c_free 27 = .ok (.iastore, 1) := by decide +kernel
theorem d_c_free_28 : decode cc_c_free 28 = .ok (.aload_n 0, 1) := by decide +kernel
theorem d_c_free_29 : decode cc_c_free 29 = .ok (.dup, 1) := by decide +kernel
theorem d_c_free_30 : decode cc_c_free 30 = .ok (.getfield 22, 3) := by decide +kernel
theorem d_c_free_33 : decode cc_c_free 33 = .ok (.iconst 1, 1) := by decide +kernel
theorem d_c_free_34 : decode cc_c_free 34 = .ok (.isub, 1) := by decide +kernel
theorem d_c_free_35 : decode cc_c_free 35 = .ok (.putfield 22, 3) := by decide +kernel
theorem d_c_free_38 : decode cc_c_free 38 = .ok (.return_, 1) := by decide +kernel
theorem d_k_init_0 : decode cc_k_init 0 = .ok (.aload_n 0, 1) := by decide +kernel
theorem d_k_init_1 : decode cc_k_init 1 = .ok (.invokespecial 3, 3) := by decide +kernel
theorem d_k_init_4 : decode cc_k_init 4 = .ok (.aload_n 0, 1) := by decide +kernel
theorem d_k_init_5 : decode cc_k_init 5 = .ok (.sipush 300, 3) := by decide +kernel
theorem d_k_init_8 : decode cc_k_init 8 = .ok (.newarray .int, 2) := by decide +kernel
theorem d_k_init_10 : decode cc_k_init 10 = .ok (.putfield 9, 3) := by decide +kernel
theorem d_k_init_13 : decode cc_k_init 13 = .ok (.aload_n 0, 1) := by decide +kernel
theorem d_k_init_14 : decode cc_k_init 14 = .ok (.sipush 300, 3) := by decide +kernel
theorem d_k_init_17 : decode cc_k_init 17 = .ok (.newarray .int, 2) := by decide +kernel
theorem d_k_init_19 : decode cc_k_init 19 = .ok (.putfield 15, 3) := by decide +kernel
theorem d_k_init_22 : decode cc_k_init 22 = .ok (.aload_n 0, 1) := by decide +kernel
theorem d_k_init_23 : decode cc_k_init 23 = .ok (.sipush 300, 3) := by decide +kernel
theorem d_k_init_26 : decode cc_k_init 26 = .ok (.newarray .int, 2) := by decide +kernel
theorem d_k_init_28 : decode cc_k_init 28 = .ok (.putfield 18, 3) := by decide +kernel
theorem d_k_init_31 : decode cc_k_init 31 = .ok (.aload_n 0, 1) := by decide +kernel
theorem d_k_init_32 : decode cc_k_init 32 = .ok (.sipush 300, 3) := by decide +kernel
theorem d_k_init_35 : decode cc_k_init 35 = .ok (.newarray .int, 2) := by decide +kernel
theorem d_k_init_37 : decode cc_k_init 37 = .ok (.putfield 21, 3) := by decide +kernel
theorem d_k_init_40 : decode cc_k_init 40 = .ok (.aload_n 0, 1) := by decide +kernel
theorem d_k_init_41 : decode cc_k_init 41 = .ok (.sipush 300, 3) := by decide +kernel
theorem d_k_init_44 : decode cc_k_init 44 = .ok (.newarray .int, 2) := by decide +kernel
theorem d_k_init_46 : decode cc_k_init 46 = .ok (.putfield 24, 3) := by decide +kernel
theorem d_k_init_49 : decode cc_k_init 49 = .ok (.aload_n 0, 1) := by decide +kernel
theorem d_k_init_50 : decode cc_k_init 50 = .ok (.bipush 6, 2) := by decide +kernel
theorem d_k_init_52 : decode cc_k_init 52 = .ok (.newarray .int, 2) := by decide +kernel
theorem d_k_init_54 : decode cc_k_init 54 = .ok (.putfield 27, 3) := by decide +kernel
theorem d_k_init_57 : decode cc_k_init 57 = .ok (.aload_n 0, 1) := by decide +kernel
theorem d_k_init_58 : decode cc_k_init 58 = .ok (.iconst 0, 1) := by decide +kernel
theorem d_k_init_59 : decode cc_k_init 59 = .ok (.putfield 30, 3) := by decide +kernel
theorem d_k_init_62 : decode cc_k_init 62 = .ok (.aload_n 0, 1) := by decide +kernel
theorem d_k_init_63 : decode cc_k_init 63 = .ok (.iconst 0, 1) := by decide +kernel
theorem d_k_init_64 : decode cc_k_init 64 = .ok (.putfield 34, 3) := by decide +kernel
theorem d_k_init_67 : decode cc_k_init 67 = .ok (.aload_n 0, 1) := by decide +kernel
theorem d_k_init_68 : decode cc_k_init 68 = .ok (.iconst 0, 1) := by decide +kernel
theorem d_k_init_69 : decode cc_k_init 69 = .ok (.putfield 37, 3) := by decide +kernel
theorem d_k_init_72 : decode cc_k_init 72 = .ok (.return_, 1) := by decide +kernel
theorem d_k_enter_0 : decode cc_k_enter 0 = .ok (.aload_n 0, 1) := by decide +kernel
theorem d_k_enter_1 : decode cc_k_enter 1 = .ok (.getfield 30, 3) := by decide +kernel
theorem d_k_enter_4 : decode cc_k_enter 4 = .ok (.sipush 300, 3) := by decide +kernel
theorem d_k_enter_7 : decode cc_k_enter 7 = .ok (.if_icmp .ge 13, 3) := by decide +kernel
theorem d_k_enter_10 : decode cc_k_enter 10 = .ok (.iload_n 1, 1) := by decide +kernel
theorem d_k_enter_11 : decode cc_k_enter 11 = .ok (.ifCond .lt 9, 3) := by decide +kernel
theorem d_k_enter_14 : decode cc_k_enter 14 = .ok (.iload_n 1, 1) := by decide +kernel
theorem d_k_enter_15 : decode cc_k_enter 15 = .ok (.bipush 6, 2) := by decide +kernel
theorem d_k_enter_17 : decode cc_k_enter 17 = .ok (.if_icmp .lt 4, 3) := by decide +kernel
theorem d_k_enter_20 : decode cc_k_enter 20 = .ok (.return_, 1) := by decide +kernel
theorem d_k_enter_21 : decode cc_k_enter 21 = .ok (.aload_n 0, 1) := by decide +kernel
theorem d_k_enter_22 : decode cc_k_enter 22 = .ok (.getfield 9, 3) := by decide +kernel
theorem d_k_enter_25 : decode cc_k_enter 25 = .ok (.aload_n 0, 1) := by decide +kernel
theorem d_k_enter_26 : decode cc_k_enter 26 = .ok (.getfield 30, 3) := by decide +kernel
theorem d_k_enter_29 : decode cc_k_enter 29 = .ok (.iload_n 1, 1) := by decide +kernel
theorem d_k_enter_30 : decode cc_k_enter 30 = .ok (.iastore, 1) := by decide +kernel
theorem d_k_enter_31 : decode cc_k_enter 31 = .ok (.aload_n 0, 1) := by decide +kernel
theorem d_k_enter_32 : decode cc_k_enter 32 = .ok (.getfield 15, 3) := by decide +kernel
theorem d_k_enter_35 : decode cc_k_enter 35 = .ok (.aload_n 0, 1) := by decide +kernel
theorem d_k_enter_36 : decode cc_k_enter 36 = .ok (.getfield 30, 3) := by decide +kernel
theorem d_k_enter_39 : decode cc_k_enter 39 = .ok (.iload_n 2, 1) := by decide +kernel
theorem d_k_enter_40 : decode cc_k_enter 40 = .ok (.iastore, 1) := by decide +kernel
theorem d_k_enter_41 : decode cc_k_enter 41 = .ok (.aload_n 0, 1) := by decide +kernel
theorem d_k_enter_42 : decode cc_k_enter 42 = .ok (.getfield 18, 3) := by decide +kernel
theorem d_k_enter_45 : decode cc_k_enter 45 = .ok (.aload_n 0, 1) := by decide +kernel
theorem d_k_enter_46 : decode cc_k_enter 46 = .ok (.getfield 30, 3) := by decide +kernel
theorem d_k_enter_49 : decode cc_k_enter 49 = .ok (.iload_n 3, 1) := by decide +kernel
theorem d_k_enter_50 : decode cc_k_enter 50 = .ok (.iastore, 1) := by decide +kernel
theorem d_k_enter_51 : decode cc_k_enter 51 = .ok (.aload_n 0, 1) := by decide +kernel
theorem d_k_enter_52 : decode cc_k_enter 52 = .ok (.getfield 21, 3) := by decide +kernel
theorem d_k_enter_55 : decode cc_k_enter 55 = .ok (.aload_n 0, 1) := by decide +kernel
theorem d_k_enter_56 : decode cc_k_enter 56 = .ok (.getfield 30, 3) := by decide +kernel
theorem d_k_enter_59 : decode cc_k_enter 59 = .ok (.iconst (-1), 1) := by decide +kernel
theorem d_k_enter_60 : decode cc_k_enter 60 = .ok (.iastore, 1) := by decide +kernel
theorem d_k_enter_61 : decode cc_k_enter 61 = .ok (.aload_n 0, 1) := by decide +kernel
theorem d_k_enter_62 : decode cc_k_enter 62 = .ok (.getfield 27, 3) := by decide +kernel
theorem d_k_enter_65 : decode cc_k_enter 65 = .ok (.iload_n 1, 1) := by decide +kernel
theorem d_k_enter_66 : decode cc_k_enter 66 = .ok (.dup2, 1) := by decide +kernel
theorem d_k_enter_67 : decode cc_k_enter 67 = .ok (.iaload, 1) := by decide +kernel
theorem d_k_enter_68 : decode cc_k_enter 68 = .ok (.iload_n 2, 1) := by decide +kernel
theorem d_k_enter_69 : decode cc_k_enter 69 = .ok (.iadd, 1) := by decide +kernel
theorem d_k_enter_70 : decode cc_k_enter 70 = .ok (.iastore, 1) := by decide +kernel
theorem d_k_enter_71 : decode cc_k_enter 71 = .ok (.iload_n 3, 1) := by decide +kernel
theorem d_k_enter_72 : decode cc_k_enter 72 = .ok (.iconst (-1), 1) := by decide +kernel
theorem d_k_enter_73 : decode cc_k_enter 73 = .ok (.if_icmp .ne 36, 3) := by decide +kernel
theorem d_k_enter_76 : decode cc_k_enter 76 = .ok (.aload_n 0, 1) := by decide +kernel
theorem d_k_enter_77 : decode cc_k_enter 77 = .ok (.getfield 34, 3) := by decide +kernel
theorem d_k_enter_80 : decode cc_k_enter 80 = .ok (.sipush 300, 3) := by decide +kernel
theorem d_k_enter_83 : decode cc_k_enter 83 = .ok (.if_icmp .ge 26, 3) := by decide +kernel
theorem d_k_enter_86 : decode cc_k_enter 86 = .ok (.aload_n 0, 1) := by decide +kernel
theorem d_k_enter_87 : decode cc_k_enter 87 = .ok (.getfield 24, 3) := by decide +kernel
theorem d_k_enter_90 : decode cc_k_enter 90 = .ok (.aload_n 0, 1) := by decide +kernel
theorem d_k_enter_91 : decode cc_k_enter 91 = .ok (.getfield 34, 3) := by decide +kernel
theorem d_k_enter_94 : decode cc_k_enter 94 = .ok (.aload_n 0, 1) := by decide +kernel
theorem d_k_enter_95 : decode cc_k_enter 95 = .ok (.getfield 30, 3) := by decide +kernel
theorem d_k_enter_98 : decode cc_k_enter 98 = .ok (.iastore, 1) := by decide +kernel
theorem d_k_enter_99 : decode cc_k_enter 99 = .ok (.aload_n 0, 1) := by decide +kernel
theorem d_k_enter_100 : decode cc_k_enter 100 = .ok (.dup, 1) := by decide +kernel
theorem d_k_enter_101 : decode cc_k_enter 101 = .ok (.getfield 34, 3) := by decide +kernel
theorem d_k_enter_104 : decode cc_k_enter 104 = .ok (.iconst 1, 1) := by decide +kernel
theorem d_k_enter_105 : decode cc_k_enter 105 = .ok (.iadd, 1) := by decide +kernel
theorem d_k_enter_106 : decode cc_k_enter 106 = .ok (.putfield 34, 3) := by decide +kernel
theorem d_k_enter_109 : decode cc_k_enter 109 = .ok (.aload_n 0, 1) := by decide +kernel
theorem d_k_enter_110 : decode cc_k_enter 110 = .ok (.dup, 1) := by decide +kernel
theorem d_k_enter_111 : decode cc_k_enter 111 = .ok (.getfield 30, 3) := by decide +kernel
theorem d_k_enter_114 : decode cc_k_enter 114 = .ok (.iconst 1, 1) := by decide +kernel
theorem d_k_enter_115 : decode cc_k_enter 115 = .ok (.iadd, 1) := by decide +kernel
theorem d_k_enter_116 : decode cc_k_enter 116 = .ok (.putfield 30, 3) := by decide +kernel
theorem d_k_enter_119 : decode cc_k_enter 119 = .ok (.return_, 1) := by decide +kernel
theorem d_k_tell_0 : decode cc_k_tell 0 = .ok (.iload_n 2, 1) := by decide +kernel
theorem d_k_tell_1 : decode cc_k_tell 1 = .ok (.tableswitch 54 0 2 #[27, 36, 45], 27) := by decide +kernel
theorem d_k_tell_28 : decode cc_k_tell 28 = .ok (.aload_n 0, 1) := by decide +kernel
theorem d_k_tell_29 : decode cc_k_tell 29 = .ok (.getfield 9, 3) := by decide +kernel
theorem d_k_tell_32 : decode cc_k_tell 32 = .ok (.iload_n 1, 1) := by decide +kernel
theorem d_k_tell_33 : decode cc_k_tell 33 = .ok (.invokestatic 40, 3) := by decide +kernel
theorem d_k_tell_36 : decode cc_k_tell 36 = .ok (.ireturn, 1) := by decide +kernel
theorem d_k_tell_37 : decode cc_k_tell 37 = .ok (.aload_n 0, 1) := by decide +kernel
theorem d_k_tell_38 : decode cc_k_tell 38 = .ok (.getfield 15, 3) := by decide +kernel
theorem d_k_tell_41 : decode cc_k_tell 41 = .ok (.iload_n 1, 1) := by decide +kernel
theorem d_k_tell_42 : decode cc_k_tell 42 = .ok (.invokestatic 40, 3) := by decide +kernel
theorem d_k_tell_45 : decode cc_k_tell 45 = .ok (.ireturn, 1) := by decide +kernel
theorem d_k_tell_46 : decode cc_k_tell 46 = .ok (.aload_n 0, 1) := by decide +kernel
theorem d_k_tell_47 : decode cc_k_tell 47 = .ok (.getfield 18, 3) := by decide +kernel
theorem d_k_tell_50 : decode cc_k_tell 50 = .ok (.iload_n 1, 1) := by decide +kernel
theorem d_k_tell_51 : decode cc_k_tell 51 = .ok (.invokestatic 40, 3) := by decide +kernel
theorem d_k_tell_54 : decode cc_k_tell 54 = .ok (.ireturn, 1) := by decide +kernel
theorem d_k_tell_55 : decode cc_k_tell 55 = .ok (.aload_n 0, 1) := by decide +kernel
theorem d_k_tell_56 : decode cc_k_tell 56 = .ok (.getfield 21, 3) := by decide +kernel
theorem d_k_tell_59 : decode cc_k_tell 59 = .ok (.iload_n 1, 1) := by decide +kernel
theorem d_k_tell_60 : decode cc_k_tell 60 = .ok (.invokestatic 40, 3) := by decide +kernel
theorem d_k_tell_63 : decode cc_k_tell 63 = .ok (.ireturn, 1) := by decide +kernel
theorem d_k_sumOf_0 : decode cc_k_sumOf 0 = .ok (.aload_n 0, 1) := by decide +kernel
theorem d_k_sumOf_1 : decode cc_k_sumOf 1 = .ok (.getfield 27, 3) := by decide +kernel
theorem d_k_sumOf_4 : decode cc_k_sumOf 4 = .ok (.iload_n 1, 1) := by decide +kernel
theorem d_k_sumOf_5 : decode cc_k_sumOf 5 = .ok (.invokestatic 40, 3) := by decide +kernel
theorem d_k_sumOf_8 : decode cc_k_sumOf 8 = .ok (.ireturn, 1) := by decide +kernel
theorem d_k_sideCut_0 : decode cc_k_sideCut 0 = .ok (.iload_n 1, 1) := by decide +kernel
theorem d_k_sideCut_1 : decode cc_k_sideCut 1 = .ok (.aload_n 0, 1) := by decide +kernel
theorem d_k_sideCut_2 : decode cc_k_sideCut 2 = .ok (.getfield 34, 3) := by decide +kernel
theorem d_k_sideCut_5 : decode cc_k_sideCut 5 = .ok (.if_icmp .ge 14, 3) := by decide +kernel
theorem d_k_sideCut_8 : decode cc_k_sideCut 8 = .ok (.aload_n 0, 1) := by decide +kernel
theorem d_k_sideCut_9 : decode cc_k_sideCut 9 = .ok (.getfield 24, 3) := by decide +kernel
theorem d_k_sideCut_12 : decode cc_k_sideCut 12 = .ok (.iload_n 1, 1) := by decide +kernel
theorem d_k_sideCut_13 : decode cc_k_sideCut 13 = .ok (.invokestatic 40, 3) := by decide +kernel
theorem d_k_sideCut_16 : decode cc_k_sideCut 16 = .ok (.goto 4, 3) := by decide +kernel
theorem d_k_sideCut_19 : decode cc_k_sideCut 19 = .ok (.iconst (-1), 1) := by decide +kernel
theorem d_k_sideCut_20 : decode cc_k_sideCut 20 = .ok (.ireturn, 1) := by decide +kernel
theorem d_k_isOnBed_0 : decode cc_k_isOnBed 0 = .ok (.aload_n 0, 1) := by decide +kernel
theorem d_k_isOnBed_1 : decode cc_k_isOnBed 1 = .ok (.getfield 9, 3) := by decide +kernel
theorem d_k_isOnBed_4 : decode cc_k_isOnBed 4 = .ok (.iload_n 1, 1) := by decide +kernel
theorem d_k_isOnBed_5 : decode cc_k_isOnBed 5 = .ok (.iaload, 1) := by decide +kernel
theorem d_k_isOnBed_6 : decode cc_k_isOnBed 6 = .ok (.iload_n 2, 1) := by decide +kernel
theorem d_k_isOnBed_7 : decode cc_k_isOnBed 7 = .ok (.if_icmp .ne 16, 3) := by decide +kernel
theorem d_k_isOnBed_10 : decode cc_k_isOnBed 10 = .ok (.aload_n 0, 1) := by decide +kernel
theorem d_k_isOnBed_11 : decode cc_k_isOnBed 11 = .ok (.getfield 18, 3) := by decide +kernel
theorem d_k_isOnBed_14 : decode cc_k_isOnBed 14 = .ok (.iload_n 1, 1) := by decide +kernel
theorem d_k_isOnBed_15 : decode cc_k_isOnBed 15 = .ok (.iaload, 1) := by decide +kernel
theorem d_k_isOnBed_16 : decode cc_k_isOnBed 16 = .ok (.ifCond .lt 7, 3) := by decide +kernel
theorem d_k_isOnBed_19 : decode cc_k_isOnBed 19 = .ok (.iconst 1, 1) := by decide +kernel
theorem d_k_isOnBed_20 : decode cc_k_isOnBed 20 = .ok (.goto 4, 3) := by decide +kernel
theorem d_k_isOnBed_23 : decode cc_k_isOnBed 23 = .ok (.iconst 0, 1) := by decide +kernel
theorem d_k_isOnBed_24 : decode cc_k_isOnBed 24 = .ok (.ireturn, 1) := by decide +kernel
theorem d_k_countOnBed_0 : decode cc_k_countOnBed 0 = .ok (.iconst 0, 1) := by decide +kernel
theorem d_k_countOnBed_1 : decode cc_k_countOnBed 1 = .ok (.istore_n 2, 1) := by decide +kernel
theorem d_k_countOnBed_2 : decode cc_k_countOnBed 2 = .ok (.iconst 0, 1) := by decide +kernel
theorem d_k_countOnBed_3 : decode cc_k_countOnBed 3 = .ok (.istore_n 3, 1) := by decide +kernel
theorem d_k_countOnBed_4 : decode cc_k_countOnBed 4 = .ok (.iload_n 3, 1) := by decide +kernel
theorem d_k_countOnBed_5 : decode cc_k_countOnBed 5 = .ok (.aload_n 0, 1) := by decide +kernel
theorem d_k_countOnBed_6 : decode cc_k_countOnBed 6 = .ok (.getfield 30, 3) := by decide +kernel
theorem d_k_countOnBed_9 : decode cc_k_countOnBed 9 = .ok (.if_icmp .ge 21, 3) := by decide +kernel
theorem d_k_countOnBed_12 : decode cc_k_countOnBed 12 = .ok (.aload_n 0, 1) := by decide +kernel
theorem d_k_countOnBed_13 : decode cc_k_countOnBed 13 = .ok (.iload_n 3, 1) := by decide +kernel
theorem d_k_countOnBed_14 : decode cc_k_countOnBed 14 = .ok (.iload_n 1, 1) := by decide +kernel
theorem d_k_countOnBed_15 : decode cc_k_countOnBed 15 = .ok (.invokevirtual 44, 3) := by decide +kernel
theorem d_k_countOnBed_18 : decode cc_k_countOnBed 18 = .ok (.ifCond .eq 6, 3) := by decide +kernel
theorem d_k_countOnBed_21 : decode cc_k_countOnBed 21 = .ok (.iinc 2 1, 3) := by decide +kernel
theorem d_k_countOnBed_24 : decode cc_k_countOnBed 24 = .ok (.iinc 3 1, 3) := by decide +kernel
theorem d_k_countOnBed_27 : decode cc_k_countOnBed 27 = .ok (.goto (-23), 3) := by decide +kernel
theorem d_k_countOnBed_30 : decode cc_k_countOnBed 30 = .ok (.iload_n 2, 1) := by decide +kernel
theorem d_k_countOnBed_31 : decode cc_k_countOnBed 31 = .ok (.ireturn, 1) := by decide +kernel
theorem d_k_takeBundle_0 : decode cc_k_takeBundle 0 = .ok (.iconst 0, 1) := by decide +kernel
theorem d_k_takeBundle_1 : decode cc_k_takeBundle 1 = .ok (.istore 4, 2) := by decide +kernel
theorem d_k_takeBundle_3 : decode cc_k_takeBundle 3 = .ok (.iconst 0, 1) := by decide +kernel
theorem d_k_takeBundle_4 : decode cc_k_takeBundle 4 = .ok (.istore 5, 2) := by decide +kernel
theorem d_k_takeBundle_6 : decode cc_k_takeBundle 6 = .ok (.iload 5, 2) := by decide +kernel
theorem d_k_takeBundle_8 : decode cc_k_takeBundle 8 = .ok (.aload_n 0, 1) := by decide +kernel
theorem d_k_takeBundle_9 : decode cc_k_takeBundle 9 = .ok (.getfield 30, 3) := by decide +kernel
theorem d_k_takeBundle_12 : decode cc_k_takeBundle 12 = .ok (.if_icmp .ge 59, 3) := by decide +kernel
theorem d_k_takeBundle_15 : decode cc_k_takeBundle 15 = .ok (.iload 4, 2) := by decide +kernel
theorem d_k_takeBundle_17 : decode cc_k_takeBundle 17 = .ok (.iload_n 2, 1) := by decide +kernel
theorem d_k_takeBundle_18 : decode cc_k_takeBundle 18 = .ok (.if_icmp .ge 53, 3) := by decide +kernel
theorem d_k_takeBundle_21 : decode cc_k_takeBundle 21 = .ok (.aload_n 0, 1) := by decide +kernel
theorem d_k_takeBundle_22 : decode cc_k_takeBundle 22 = .ok (.iload 5, 2) := by decide +kernel
theorem d_k_takeBundle_24 : decode cc_k_takeBundle 24 = .ok (.iload_n 1, 1) := by decide +kernel
theorem d_k_takeBundle_25 : decode cc_k_takeBundle 25 = .ok (.invokevirtual 44, 3) := by decide +kernel
theorem d_k_takeBundle_28 : decode cc_k_takeBundle 28 = .ok (.ifCond .eq 37, 3) := by decide +kernel
theorem d_k_takeBundle_31 : decode cc_k_takeBundle 31 = .ok (.aload_n 3, 1) := by decide +kernel
theorem d_k_takeBundle_32 : decode cc_k_takeBundle 32 = .ok (.aload_n 0, 1) := by decide +kernel
theorem d_k_takeBundle_33 : decode cc_k_takeBundle 33 = .ok (.getfield 18, 3) := by decide +kernel
theorem d_k_takeBundle_36 : decode cc_k_takeBundle 36 = .ok (.iload 5, 2) := by decide +kernel
theorem d_k_takeBundle_38 : decode cc_k_takeBundle 38 = .ok (.iaload, 1) := by decide +kernel
theorem d_k_takeBundle_39 : decode cc_k_takeBundle 39 = .ok (.invokevirtual 48, 3) := by decide +kernel
theorem d_k_takeBundle_42 : decode cc_k_takeBundle 42 = .ok (.aload_n 0, 1) := by decide +kernel
theorem d_k_takeBundle_43 : decode cc_k_takeBundle 43 = .ok (.getfield 18, 3) := by decide +kernel
theorem d_k_takeBundle_46 : decode cc_k_takeBundle 46 = .ok (.iload 5, 2) := by decide +kernel
theorem d_k_takeBundle_48 : decode cc_k_takeBundle 48 = .ok (.bipush (-2), 2) := by decide +kernel
theorem d_k_takeBundle_50 : decode cc_k_takeBundle 50 = .ok (.iastore, 1) := by decide +kernel
theorem d_k_takeBundle_51 : decode cc_k_takeBundle 51 = .ok (.aload_n 0, 1) := by decide +kernel
theorem d_k_takeBundle_52 : decode cc_k_takeBundle 52 = .ok (.getfield 21, 3) := by decide +kernel
theorem d_k_takeBundle_55 : decode cc_k_takeBundle 55 = .ok (.iload 5, 2) := by decide +kernel
theorem d_k_takeBundle_57 : decode cc_k_takeBundle 57 = .ok (.aload_n 0, 1) := by decide +kernel
theorem d_k_takeBundle_58 : decode cc_k_takeBundle 58 = .ok (.getfield 37, 3) := by decide +kernel
theorem d_k_takeBundle_61 : decode cc_k_takeBundle 61 = .ok (.iastore, 1) := by decide +kernel
theorem d_k_takeBundle_62 : decode cc_k_takeBundle 62 = .ok (.iinc 4 1, 3) := by decide +kernel
theorem d_k_takeBundle_65 : decode cc_k_takeBundle 65 = .ok (.iinc 5 1, 3) := by decide +kernel
theorem d_k_takeBundle_68 : decode cc_k_takeBundle 68 = .ok (.goto (-62), 3) := by decide +kernel
theorem d_k_takeBundle_71 : decode cc_k_takeBundle 71 = .ok (.aload_n 0, 1) := by decide +kernel
theorem d_k_takeBundle_72 : decode cc_k_takeBundle 72 = .ok (.dup, 1) := by decide +kernel
theorem d_k_takeBundle_73 : decode cc_k_takeBundle 73 = .ok (.getfield 37, 3) := by decide +kernel
theorem d_k_takeBundle_76 : decode cc_k_takeBundle 76 = .ok (.iconst 1, 1) := by decide +kernel
theorem d_k_takeBundle_77 : decode cc_k_takeBundle 77 = .ok (.iadd, 1) := by decide +kernel
theorem d_k_takeBundle_78 : decode cc_k_takeBundle 78 = .ok (.putfield 37, 3) := by decide +kernel
theorem d_k_takeBundle_81 : decode cc_k_takeBundle 81 = .ok (.aload_n 0, 1) := by decide +kernel
theorem d_k_takeBundle_82 : decode cc_k_takeBundle 82 = .ok (.getfield 37, 3) := by decide +kernel
theorem d_k_takeBundle_85 : decode cc_k_takeBundle 85 = .ok (.ireturn, 1) := by decide +kernel
theorem d_x_init_0 : decode cc_x_init 0 = .ok (.aload_n 0, 1) := by decide +kernel
theorem d_x_init_1 : decode cc_x_init 1 = .ok (.invokespecial 1, 3) := by decide +kernel
theorem d_x_init_4 : decode cc_x_init 4 = .ok (.aload_n 0, 1) := by decide +kernel
theorem d_x_init_5 : decode cc_x_init 5 = .ok (.new 7, 3) := by decide +kernel
theorem d_x_init_8 : decode cc_x_init 8 = .ok (.dup, 1) := by decide +kernel
theorem d_x_init_9 : decode cc_x_init 9 = .ok (.invokespecial 9, 3) := by decide +kernel
theorem d_x_init_12 : decode cc_x_init 12 = .ok (.putfield 10, 3) := by decide +kernel
theorem d_x_init_15 : decode cc_x_init 15 = .ok (.aload_n 0, 1) := by decide +kernel
theorem d_x_init_16 : decode cc_x_init 16 = .ok (.new 16, 3) := by decide +kernel
theorem d_x_init_19 : decode cc_x_init 19 = .ok (.dup, 1) := by decide +kernel
theorem d_x_init_20 : decode cc_x_init 20 = .ok (.invokespecial 18, 3) := by decide +kernel
theorem d_x_init_23 : decode cc_x_init 23 = .ok (.putfield 19, 3) := by decide +kernel
theorem d_x_init_26 : decode cc_x_init 26 = .ok (.aload_n 0, 1) := by decide +kernel
theorem d_x_init_27 : decode cc_x_init 27 = .ok (.new 23, 3) := by decide +kernel
theorem d_x_init_30 : decode cc_x_init 30 = .ok (.dup, 1) := by decide +kernel
theorem d_x_init_31 : decode cc_x_init 31 = .ok (.invokespecial 25, 3) := by decide +kernel
theorem d_x_init_34 : decode cc_x_init 34 = .ok (.putfield 26, 3) := by decide +kernel
theorem d_x_init_37 : decode cc_x_init 37 = .ok (.aload_n 0, 1) := by decide +kernel
theorem d_x_init_38 : decode cc_x_init 38 = .ok (.new 30, 3) := by decide +kernel
theorem d_x_init_41 : decode cc_x_init 41 = .ok (.dup, 1) := by decide +kernel
theorem d_x_init_42 : decode cc_x_init 42 = .ok (.invokespecial 32, 3) := by decide +kernel
theorem d_x_init_45 : decode cc_x_init 45 = .ok (.putfield 33, 3) := by decide +kernel
theorem d_x_init_48 : decode cc_x_init 48 = .ok (.return_, 1) := by decide +kernel
theorem d_x_want_0 : decode cc_x_want 0 = .ok (.iload_n 1, 1) := by decide +kernel
theorem d_x_want_1 : decode cc_x_want 1 = .ok (.iconst 1, 1) := by decide +kernel
theorem d_x_want_2 : decode cc_x_want 2 = .ok (.sipush 200, 3) := by decide +kernel
theorem d_x_want_5 : decode cc_x_want 5 = .ok (.invokestatic 37, 3) := by decide +kernel
theorem d_x_want_8 : decode cc_x_want 8 = .ok (.iload_n 2, 1) := by decide +kernel
theorem d_x_want_9 : decode cc_x_want 9 = .ok (.iload_n 1, 1) := by decide +kernel
theorem d_x_want_10 : decode cc_x_want 10 = .ok (.sipush 200, 3) := by decide +kernel
theorem d_x_want_13 : decode cc_x_want 13 = .ok (.invokestatic 37, 3) := by decide +kernel
theorem d_x_want_16 : decode cc_x_want 16 = .ok (.iload_n 3, 1) := by decide +kernel
theorem d_x_want_17 : decode cc_x_want 17 = .ok (.iconst 0, 1) := by decide +kernel
theorem d_x_want_18 : decode cc_x_want 18 = .ok (.bipush 9, 2) := by decide +kernel
theorem d_x_want_20 : decode cc_x_want 20 = .ok (.invokestatic 37, 3) := by decide +kernel
theorem d_x_want_23 : decode cc_x_want 23 = .ok (.aload_n 0, 1) := by decide +kernel
theorem d_x_want_24 : decode cc_x_want 24 = .ok (.getfield 10, 3) := by decide +kernel
theorem d_x_want_27 : decode cc_x_want 27 = .ok (.iload_n 1, 1) := by decide +kernel
theorem d_x_want_28 : decode cc_x_want 28 = .ok (.iload_n 2, 1) := by decide +kernel
theorem d_x_want_29 : decode cc_x_want 29 = .ok (.iload_n 3, 1) := by decide +kernel
theorem d_x_want_30 : decode cc_x_want 30 = .ok (.invokevirtual 41, 3) := by decide +kernel
theorem d_x_want_33 : decode cc_x_want 33 = .ok (.istore 4, 2) := by decide +kernel
theorem d_x_want_35 : decode cc_x_want 35 = .ok (.aload_n 0, 1) := by decide +kernel
theorem d_x_want_36 : decode cc_x_want 36 = .ok (.getfield 19, 3) := by decide +kernel
theorem d_x_want_39 : decode cc_x_want 39 = .ok (.aload_n 0, 1) := by decide +kernel
theorem d_x_want_40 : decode cc_x_want 40 = .ok (.getfield 10, 3) := by decide +kernel
theorem d_x_want_43 : decode cc_x_want 43 = .ok (.invokevirtual 45, 3) := by decide +kernel
theorem d_x_want_46 : decode cc_x_want 46 = .ok (.iload 4, 2) := by decide +kernel
theorem d_x_want_48 : decode cc_x_want 48 = .ok (.ireturn, 1) := by decide +kernel
theorem d_x_bar_0 : decode cc_x_bar 0 = .ok (.iload_n 1, 1) := by decide +kernel
theorem d_x_bar_1 : decode cc_x_bar 1 = .ok (.iconst 1, 1) := by decide +kernel
theorem d_x_bar_2 : decode cc_x_bar 2 = .ok (.sipush 200, 3) := by decide +kernel
theorem d_x_bar_5 : decode cc_x_bar 5 = .ok (.invokestatic 37, 3) := by decide +kernel
theorem d_x_bar_8 : decode cc_x_bar 8 = .ok (.iload_n 2, 1) := by decide +kernel
theorem d_x_bar_9 : decode cc_x_bar 9 = .ok (.iconst 0, 1) := by decide +kernel
theorem d_x_bar_10 : decode cc_x_bar 10 = .ok (.bipush 50, 2) := by decide +kernel
theorem d_x_bar_12 : decode cc_x_bar 12 = .ok (.invokestatic 37, 3) := by decide +kernel
theorem d_x_bar_15 : decode cc_x_bar 15 = .ok (.aload_n 0, 1) := by decide +kernel
theorem d_x_bar_16 : decode cc_x_bar 16 = .ok (.getfield 19, 3) := by decide +kernel
theorem d_x_bar_19 : decode cc_x_bar 19 = .ok (.iload_n 1, 1) := by decide +kernel
theorem d_x_bar_20 : decode cc_x_bar 20 = .ok (.iload_n 2, 1) := by decide +kernel
theorem d_x_bar_21 : decode cc_x_bar 21 = .ok (.invokevirtual 49, 3) := by decide +kernel
theorem d_x_bar_24 : decode cc_x_bar 24 = .ok (.aload_n 0, 1) := by decide +kernel
theorem d_x_bar_25 : decode cc_x_bar 25 = .ok (.getfield 19, 3) := by decide +kernel
theorem d_x_bar_28 : decode cc_x_bar 28 = .ok (.aload_n 0, 1) := by decide +kernel
theorem d_x_bar_29 : decode cc_x_bar 29 = .ok (.getfield 10, 3) := by decide +kernel
theorem d_x_bar_32 : decode cc_x_bar 32 = .ok (.invokevirtual 45, 3) := by decide +kernel
theorem d_x_bar_35 : decode cc_x_bar 35 = .ok (.return_, 1) := by decide +kernel
theorem d_x_crop_0 : decode cc_x_crop 0 = .ok (.iload_n 1, 1) := by decide +kernel
theorem d_x_crop_1 : decode cc_x_crop 1 = .ok (.iconst 0, 1) := by decide +kernel
theorem d_x_crop_2 : decode cc_x_crop 2 = .ok (.bipush 100, 2) := by decide +kernel
theorem d_x_crop_4 : decode cc_x_crop 4 = .ok (.invokestatic 37, 3) := by decide +kernel
theorem d_x_crop_7 : decode cc_x_crop 7 = .ok (.iload_n 2, 1) := by decide +kernel
theorem d_x_crop_8 : decode cc_x_crop 8 = .ok (.iconst 0, 1) := by decide +kernel
theorem d_x_crop_9 : decode cc_x_crop 9 = .ok (.bipush 100, 2) := by decide +kernel
theorem d_x_crop_11 : decode cc_x_crop 11 = .ok (.invokestatic 37, 3) := by decide +kernel
theorem d_x_crop_14 : decode cc_x_crop 14 = .ok (.aload_n 0, 1) := by decide +kernel
theorem d_x_crop_15 : decode cc_x_crop 15 = .ok (.getfield 19, 3) := by decide +kernel
theorem d_x_crop_18 : decode cc_x_crop 18 = .ok (.iload_n 1, 1) := by decide +kernel
theorem d_x_crop_19 : decode cc_x_crop 19 = .ok (.iload_n 2, 1) := by decide +kernel
theorem d_x_crop_20 : decode cc_x_crop 20 = .ok (.invokevirtual 53, 3) := by decide +kernel
theorem d_x_crop_23 : decode cc_x_crop 23 = .ok (.aload_n 0, 1) := by decide +kernel
theorem d_x_crop_24 : decode cc_x_crop 24 = .ok (.getfield 19, 3) := by decide +kernel
theorem d_x_crop_27 : decode cc_x_crop 27 = .ok (.aload_n 0, 1) := by decide +kernel
theorem d_x_crop_28 : decode cc_x_crop 28 = .ok (.getfield 10, 3) := by decide +kernel
theorem d_x_crop_31 : decode cc_x_crop 31 = .ok (.invokevirtual 45, 3) := by decide +kernel
theorem d_x_crop_34 : decode cc_x_crop 34 = .ok (.return_, 1) := by decide +kernel
theorem d_x_known_0 : decode cc_x_known 0 = .ok (.iload_n 1, 1) := by decide +kernel
theorem d_x_known_1 : decode cc_x_known 1 = .ok (.iconst 1, 1) := by decide +kernel
theorem d_x_known_2 : decode cc_x_known 2 = .ok (.sipush 200, 3) := by decide +kernel
theorem d_x_known_5 : decode cc_x_known 5 = .ok (.invokestatic 37, 3) := by decide +kernel
theorem d_x_known_8 : decode cc_x_known 8 = .ok (.aload_n 0, 1) := by decide +kernel
theorem d_x_known_9 : decode cc_x_known 9 = .ok (.getfield 19, 3) := by decide +kernel
theorem d_x_known_12 : decode cc_x_known 12 = .ok (.iload_n 1, 1) := by decide +kernel
theorem d_x_known_13 : decode cc_x_known 13 = .ok (.invokevirtual 56, 3) := by decide +kernel
theorem d_x_known_16 : decode cc_x_known 16 = .ok (.aload_n 0, 1) := by decide +kernel
theorem d_x_known_17 : decode cc_x_known 17 = .ok (.getfield 19, 3) := by decide +kernel
theorem d_x_known_20 : decode cc_x_known 20 = .ok (.aload_n 0, 1) := by decide +kernel
theorem d_x_known_21 : decode cc_x_known 21 = .ok (.getfield 10, 3) := by decide +kernel
theorem d_x_known_24 : decode cc_x_known 24 = .ok (.invokevirtual 45, 3) := by decide +kernel
theorem d_x_known_27 : decode cc_x_known 27 = .ok (.return_, 1) := by decide +kernel
theorem d_x_pieces_0 : decode cc_x_pieces 0 = .ok (.aload_n 0, 1) := by decide +kernel
theorem d_x_pieces_1 : decode cc_x_pieces 1 = .ok (.getfield 19, 3) := by decide +kernel
theorem d_x_pieces_4 : decode cc_x_pieces 4 = .ok (.getfield 60, 3) := by decide +kernel
theorem d_x_pieces_7 : decode cc_x_pieces 7 = .ok (.ireturn, 1) := by decide +kernel
theorem d_x_piece_0 : decode cc_x_piece 0 = .ok (.iload_n 1, 1) := by decide +kernel
theorem d_x_piece_1 : decode cc_x_piece 1 = .ok (.aload_n 0, 1) := by decide +kernel
theorem d_x_piece_2 : decode cc_x_piece 2 = .ok (.getfield 19, 3) := by decide +kernel
theorem d_x_piece_5 : decode cc_x_piece 5 = .ok (.getfield 60, 3) := by decide +kernel
theorem d_x_piece_8 : decode cc_x_piece 8 = .ok (.invokestatic 64, 3) := by decide +kernel
theorem d_x_piece_11 : decode cc_x_piece 11 = .ok (.iload_n 2, 1) := by decide +kernel
theorem d_x_piece_12 : decode cc_x_piece 12 = .ok (.iconst 4, 1) := by decide +kernel
theorem d_x_piece_13 : decode cc_x_piece 13 = .ok (.invokestatic 64, 3) := by decide +kernel
theorem d_x_piece_16 : decode cc_x_piece 16 = .ok (.iload_n 2, 1) := by decide +kernel
theorem d_x_piece_17 : decode cc_x_piece 17 = .ok (.tableswitch 54 0 2 #[27, 36, 45], 27) := by decide +kernel
theorem d_x_piece_44 : decode cc_x_piece 44 = .ok (.aload_n 0, 1) := by decide +kernel
theorem d_x_piece_45 : decode cc_x_piece 45 = .ok (.getfield 19, 3) := by decide +kernel
theorem d_x_piece_48 : decode cc_x_piece 48 = .ok (.iload_n 1, 1) := by decide +kernel
theorem d_x_piece_49 : decode cc_x_piece 49 = .ok (.invokevirtual 67, 3) := by decide +kernel
theorem d_x_piece_52 : decode cc_x_piece 52 = .ok (.ireturn, 1) := by decide +kernel
theorem d_x_piece_53 : decode cc_x_piece 53 = .ok (.aload_n 0, 1) := by decide +kernel
theorem d_x_piece_54 : decode cc_x_piece 54 = .ok (.getfield 19, 3) := by decide +kernel
theorem d_x_piece_57 : decode cc_x_piece 57 = .ok (.iload_n 1, 1) := by decide +kernel
theorem d_x_piece_58 : decode cc_x_piece 58 = .ok (.invokevirtual 71, 3) := by decide +kernel
theorem d_x_piece_61 : decode cc_x_piece 61 = .ok (.ireturn, 1) := by decide +kernel
theorem d_x_piece_62 : decode cc_x_piece 62 = .ok (.aload_n 0, 1) := by decide +kernel
theorem d_x_piece_63 : decode cc_x_piece 63 = .ok (.getfield 19, 3) := by decide +kernel
theorem d_x_piece_66 : decode cc_x_piece 66 = .ok (.iload_n 1, 1) := by decide +kernel
theorem d_x_piece_67 : decode cc_x_piece 67 = .ok (.invokevirtual 74, 3) := by decide +kernel
theorem d_x_piece_70 : decode cc_x_piece 70 = .ok (.ireturn, 1) := by decide +kernel
theorem d_x_piece_71 : decode cc_x_piece 71 = .ok (.iload_n 1, 1) := by decide +kernel
theorem d_x_piece_72 : decode cc_x_piece 72 = .ok (.aload_n 0, 1) := by decide +kernel
theorem d_x_piece_73 : decode cc_x_piece 73 = .ok (.getfield 19, 3) := by decide +kernel
theorem d_x_piece_76 : decode cc_x_piece 76 = .ok (.getfield 77, 3) := by decide +kernel
theorem d_x_piece_79 : decode cc_x_piece 79 = .ok (.if_icmp .ge 7, 3) := by decide +kernel
theorem d_x_piece_82 : decode cc_x_piece 82 = .ok (.iconst 1, 1) := by decide +kernel
theorem d_x_piece_83 : decode cc_x_piece 83 = .ok (.goto 4, 3) := by decide +kernel
theorem d_x_piece_86 : decode cc_x_piece 86 = .ok (.iconst 0, 1) := by decide +kernel
theorem d_x_piece_87 : decode cc_x_piece 87 = .ok (.ireturn, 1) := by decide +kernel
theorem d_x_loss_0 : decode cc_x_loss 0 = .ok (.aload_n 0, 1) := by decide +kernel
theorem d_x_loss_1 : decode cc_x_loss 1 = .ok (.getfield 19, 3) := by decide +kernel
theorem d_x_loss_4 : decode cc_x_loss 4 = .ok (.getfield 80, 3) := by decide +kernel
theorem d_x_loss_7 : decode cc_x_loss 7 = .ok (.ireturn, 1) := by decide +kernel
theorem d_x_cut_0 : decode cc_x_cut 0 = .ok (.aload_n 0, 1) := by decide +kernel
theorem d_x_cut_1 : decode cc_x_cut 1 = .ok (.getfield 19, 3) := by decide +kernel
theorem d_x_cut_4 : decode cc_x_cut 4 = .ok (.getfield 77, 3) := by decide +kernel
theorem d_x_cut_7 : decode cc_x_cut 7 = .ok (.istore_n 1, 1) := by decide +kernel
theorem d_x_cut_8 : decode cc_x_cut 8 = .ok (.iload_n 1, 1) := by decide +kernel
theorem d_x_cut_9 : decode cc_x_cut 9 = .ok (.aload_n 0, 1) := by decide +kernel
theorem d_x_cut_10 : decode cc_x_cut 10 = .ok (.getfield 19, 3) := by decide +kernel
theorem d_x_cut_13 : decode cc_x_cut 13 = .ok (.getfield 60, 3) := by decide +kernel
theorem d_x_cut_16 : decode cc_x_cut 16 = .ok (.if_icmp .lt 13, 3) := by decide +kernel
theorem d_x_cut_19 : decode cc_x_cut 19 = .ok (.new 83, 3) := by decide +kernel
theorem d_x_cut_22 : decode cc_x_cut 22 = .ok (.dup, 1) := by decide +kernel
theorem d_x_cut_23 : decode cc_x_cut 23 = .ok (.ldc 85, 2) := by decide +kernel
theorem d_x_cut_25 : decode cc_x_cut 25 = .ok (.invokespecial 87, 3) := by decide +kernel
theorem d_x_cut_28 : decode cc_x_cut 28 = .ok (.athrow, 1) := by decide +kernel
theorem d_x_cut_29 : decode cc_x_cut 29 = .ok (.aload_n 0, 1) := by decide +kernel
theorem d_x_cut_30 : decode cc_x_cut 30 = .ok (.getfield 26, 3) := by decide +kernel
theorem d_x_cut_33 : decode cc_x_cut 33 = .ok (.getfield 90, 3) := by decide +kernel
theorem d_x_cut_36 : decode cc_x_cut 36 = .ok (.sipush 300, 3) := by decide +kernel
theorem d_x_cut_39 : decode cc_x_cut 39 = .ok (.if_icmp .lt 13, 3) := by decide +kernel
theorem d_x_cut_42 : decode cc_x_cut 42 = .ok (.new 91, 3) := by decide +kernel
theorem d_x_cut_45 : decode cc_x_cut 45 = .ok (.dup, 1) := by decide +kernel
theorem d_x_cut_46 : decode cc_x_cut 46 = .ok (.ldc 93, 2) := by decide +kernel
theorem d_x_cut_48 : decode cc_x_cut 48 = .ok (.invokespecial 95, 3) := by decide +kernel
theorem d_x_cut_51 : decode cc_x_cut 51 = .ok (.athrow, 1) := by decide +kernel
theorem d_x_cut_52 : decode cc_x_cut 52 = .ok (.aload_n 0, 1) := by decide +kernel
theorem d_x_cut_53 : decode cc_x_cut 53 = .ok (.getfield 19, 3) := by decide +kernel
theorem d_x_cut_56 : decode cc_x_cut 56 = .ok (.iload_n 1, 1) := by decide +kernel
theorem d_x_cut_57 : decode cc_x_cut 57 = .ok (.invokevirtual 74, 3) := by decide +kernel
theorem d_x_cut_60 : decode cc_x_cut 60 = .ok (.istore_n 2, 1) := by decide +kernel
theorem d_x_cut_61 : decode cc_x_cut 61 = .ok (.aload_n 0, 1) := by decide +kernel
theorem d_x_cut_62 : decode cc_x_cut 62 = .ok (.getfield 33, 3) := by decide +kernel
theorem d_x_cut_65 : decode cc_x_cut 65 = .ok (.aload_n 0, 1) := by decide +kernel
theorem d_x_cut_66 : decode cc_x_cut 66 = .ok (.getfield 26, 3) := by decide +kernel
theorem d_x_cut_69 : decode cc_x_cut 69 = .ok (.getfield 90, 3) := by decide +kernel
theorem d_x_cut_72 : decode cc_x_cut 72 = .ok (.iload_n 2, 1) := by decide +kernel
theorem d_x_cut_73 : decode cc_x_cut 73 = .ok (.invokevirtual 96, 3) := by decide +kernel
theorem d_x_cut_76 : decode cc_x_cut 76 = .ok (.istore_n 3, 1) := by decide +kernel
theorem d_x_cut_77 : decode cc_x_cut 77 = .ok (.aload_n 0, 1) := by decide +kernel
theorem d_x_cut_78 : decode cc_x_cut 78 = .ok (.getfield 26, 3) := by decide +kernel
theorem d_x_cut_81 : decode cc_x_cut 81 = .ok (.aload_n 0, 1) := by decide +kernel
theorem d_x_cut_82 : decode cc_x_cut 82 = .ok (.getfield 19, 3) := by decide +kernel
theorem d_x_cut_85 : decode cc_x_cut 85 = .ok (.iload_n 1, 1) := by decide +kernel
theorem d_x_cut_86 : decode cc_x_cut 86 = .ok (.invokevirtual 67, 3) := by decide +kernel
theorem d_x_cut_89 : decode cc_x_cut 89 = .ok (.iload_n 2, 1) := by decide +kernel
theorem d_x_cut_90 : decode cc_x_cut 90 = .ok (.iload_n 3, 1) := by decide +kernel
theorem d_x_cut_91 : decode cc_x_cut 91 = .ok (.invokevirtual 100, 3) := by decide +kernel
theorem d_x_cut_94 : decode cc_x_cut 94 = .ok (.aload_n 0, 1) := by decide +kernel
theorem d_x_cut_95 : decode cc_x_cut 95 = .ok (.getfield 19, 3) := by decide +kernel
theorem d_x_cut_98 : decode cc_x_cut 98 = .ok (.invokevirtual 103, 3) := by decide +kernel
theorem d_x_cut_101 : decode cc_x_cut 101 = .ok (.iload_n 3, 1) := by decide +kernel
theorem d_x_cut_102 : decode cc_x_cut 102 = .ok (.ireturn, 1) := by decide +kernel
theorem d_x_bed_0 : decode cc_x_bed 0 = .ok (.aload_n 0, 1) := by decide +kernel
theorem d_x_bed_1 : decode cc_x_bed 1 = .ok (.getfield 33, 3) := by decide +kernel
theorem d_x_bed_4 : decode cc_x_bed 4 = .ok (.getfield 106, 3) := by decide +kernel
theorem d_x_bed_7 : decode cc_x_bed 7 = .ok (.ifCond .le 13, 3) := by decide +kernel
theorem d_x_bed_10 : decode cc_x_bed 10 = .ok (.new 83, 3) := by decide +kernel
theorem d_x_bed_13 : decode cc_x_bed 13 = .ok (.dup, 1) := by decide +kernel
theorem d_x_bed_14 : decode cc_x_bed 14 = .ok (.ldc 109, 2) := by decide +kernel
theorem d_x_bed_16 : decode cc_x_bed 16 = .ok (.invokespecial 87, 3) := by decide +kernel
theorem d_x_bed_19 : decode cc_x_bed 19 = .ok (.athrow, 1) := by decide +kernel
theorem d_x_bed_20 : decode cc_x_bed 20 = .ok (.iload_n 1, 1) := by decide +kernel
theorem d_x_bed_21 : decode cc_x_bed 21 = .ok (.iconst 1, 1) := by decide +kernel
theorem d_x_bed_22 : decode cc_x_bed 22 = .ok (.bipush 20, 2) := by decide +kernel
theorem d_x_bed_24 : decode cc_x_bed 24 = .ok (.invokestatic 37, 3) := by decide +kernel
theorem d_x_bed_27 : decode cc_x_bed 27 = .ok (.iload_n 2, 1) := by decide +kernel
theorem d_x_bed_28 : decode cc_x_bed 28 = .ok (.iconst 1, 1) := by decide +kernel
theorem d_x_bed_29 : decode cc_x_bed 29 = .ok (.sipush 200, 3) := by decide +kernel
theorem d_x_bed_32 : decode cc_x_bed 32 = .ok (.invokestatic 37, 3) := by decide +kernel
theorem d_x_bed_35 : decode cc_x_bed 35 = .ok (.aload_n 0, 1) := by decide +kernel
theorem d_x_bed_36 : decode cc_x_bed 36 = .ok (.getfield 33, 3) := by decide +kernel
theorem d_x_bed_39 : decode cc_x_bed 39 = .ok (.iload_n 1, 1) := by decide +kernel
theorem d_x_bed_40 : decode cc_x_bed 40 = .ok (.putfield 111, 3) := by decide +kernel
theorem d_x_bed_43 : decode cc_x_bed 43 = .ok (.aload_n 0, 1) := by decide +kernel
theorem d_x_bed_44 : decode cc_x_bed 44 = .ok (.getfield 33, 3) := by decide +kernel
theorem d_x_bed_47 : decode cc_x_bed 47 = .ok (.iload_n 2, 1) := by decide +kernel
theorem d_x_bed_48 : decode cc_x_bed 48 = .ok (.putfield 114, 3) := by decide +kernel
theorem d_x_bed_51 : decode cc_x_bed 51 = .ok (.return_, 1) := by decide +kernel
theorem d_x_at_0 : decode cc_x_at 0 = .ok (.iload_n 1, 1) := by decide +kernel
theorem d_x_at_1 : decode cc_x_at 1 = .ok (.aload_n 0, 1) := by decide +kernel
theorem d_x_at_2 : decode cc_x_at 2 = .ok (.getfield 33, 3) := by decide +kernel
theorem d_x_at_5 : decode cc_x_at 5 = .ok (.getfield 111, 3) := by decide +kernel
theorem d_x_at_8 : decode cc_x_at 8 = .ok (.invokestatic 64, 3) := by decide +kernel
theorem d_x_at_11 : decode cc_x_at 11 = .ok (.aload_n 0, 1) := by decide +kernel
theorem d_x_at_12 : decode cc_x_at 12 = .ok (.getfield 33, 3) := by decide +kernel
theorem d_x_at_15 : decode cc_x_at 15 = .ok (.iload_n 1, 1) := by decide +kernel
theorem d_x_at_16 : decode cc_x_at 16 = .ok (.invokevirtual 117, 3) := by decide +kernel
theorem d_x_at_19 : decode cc_x_at 19 = .ok (.ireturn, 1) := by decide +kernel
theorem d_x_bundle_0 : decode cc_x_bundle 0 = .ok (.iload_n 1, 1) := by decide +kernel
theorem d_x_bundle_1 : decode cc_x_bundle 1 = .ok (.aload_n 0, 1) := by decide +kernel
theorem d_x_bundle_2 : decode cc_x_bundle 2 = .ok (.getfield 10, 3) := by decide +kernel
theorem d_x_bundle_5 : decode cc_x_bundle 5 = .ok (.getfield 120, 3) := by decide +kernel
theorem d_x_bundle_8 : decode cc_x_bundle 8 = .ok (.invokestatic 64, 3) := by decide +kernel
theorem d_x_bundle_11 : decode cc_x_bundle 11 = .ok (.iload_n 2, 1) := by decide +kernel
theorem d_x_bundle_12 : decode cc_x_bundle 12 = .ok (.iconst 1, 1) := by decide +kernel
theorem d_x_bundle_13 : decode cc_x_bundle 13 = .ok (.bipush 20, 2) := by decide +kernel
theorem d_x_bundle_15 : decode cc_x_bundle 15 = .ok (.invokestatic 37, 3) := by decide +kernel
theorem d_x_bundle_18 : decode cc_x_bundle 18 = .ok (.aload_n 0, 1) := by decide +kernel
theorem d_x_bundle_19 : decode cc_x_bundle 19 = .ok (.getfield 26, 3) := by decide +kernel
theorem d_x_bundle_22 : decode cc_x_bundle 22 = .ok (.iload_n 1, 1) := by decide +kernel
theorem d_x_bundle_23 : decode cc_x_bundle 23 = .ok (.invokevirtual 121, 3) := by decide +kernel
theorem d_x_bundle_26 : decode cc_x_bundle 26 = .ok (.iload_n 2, 1) := by decide +kernel
theorem d_x_bundle_27 : decode cc_x_bundle 27 = .ok (.if_icmp .ge 13, 3) := by decide +kernel
theorem d_x_bundle_30 : decode cc_x_bundle 30 = .ok (.new 91, 3) := by decide +kernel
theorem d_x_bundle_33 : decode cc_x_bundle 33 = .ok (.dup, 1) := by decide +kernel
theorem d_x_bundle_34 : decode cc_x_bundle 34 = .ok (.ldc 124, 2) := by decide +kernel
theorem d_x_bundle_36 : decode cc_x_bundle 36 = .ok (.invokespecial 95, 3) := by decide +kernel
theorem d_x_bundle_39 : decode cc_x_bundle 39 = .ok (.athrow, 1) := by decide +kernel
theorem d_x_bundle_40 : decode cc_x_bundle 40 = .ok (.aload_n 0, 1) := by decide +kernel
theorem d_x_bundle_41 : decode cc_x_bundle 41 = .ok (.getfield 26, 3) := by decide +kernel
theorem d_x_bundle_44 : decode cc_x_bundle 44 = .ok (.iload_n 1, 1) := by decide +kernel
theorem d_x_bundle_45 : decode cc_x_bundle 45 = .ok (.iload_n 2, 1) := by decide +kernel
theorem d_x_bundle_46 : decode cc_x_bundle 46 = .ok (.aload_n 0, 1) := by decide +kernel
theorem d_x_bundle_47 : decode cc_x_bundle 47 = .ok (.getfield 33, 3) := by decide +kernel
theorem d_x_bundle_50 : decode cc_x_bundle 50 = .ok (.invokevirtual 126, 3) := by decide +kernel
theorem d_x_bundle_53 : decode cc_x_bundle 53 = .ok (.ireturn, 1) := by decide +kernel
theorem d_x_cutAt_0 : decode cc_x_cutAt 0 = .ok (.iload_n 1, 1) := by decide +kernel
theorem d_x_cutAt_1 : decode cc_x_cutAt 1 = .ok (.aload_n 0, 1) := by decide +kernel
theorem d_x_cutAt_2 : decode cc_x_cutAt 2 = .ok (.getfield 26, 3) := by decide +kernel
theorem d_x_cutAt_5 : decode cc_x_cutAt 5 = .ok (.getfield 90, 3) := by decide +kernel
theorem d_x_cutAt_8 : decode cc_x_cutAt 8 = .ok (.invokestatic 64, 3) := by decide +kernel
theorem d_x_cutAt_11 : decode cc_x_cutAt 11 = .ok (.iload_n 2, 1) := by decide +kernel
theorem d_x_cutAt_12 : decode cc_x_cutAt 12 = .ok (.iconst 4, 1) := by decide +kernel
theorem d_x_cutAt_13 : decode cc_x_cutAt 13 = .ok (.invokestatic 64, 3) := by decide +kernel
theorem d_x_cutAt_16 : decode cc_x_cutAt 16 = .ok (.aload_n 0, 1) := by decide +kernel
theorem d_x_cutAt_17 : decode cc_x_cutAt 17 = .ok (.getfield 26, 3) := by decide +kernel
theorem d_x_cutAt_20 : decode cc_x_cutAt 20 = .ok (.iload_n 1, 1) := by decide +kernel
theorem d_x_cutAt_21 : decode cc_x_cutAt 21 = .ok (.iload_n 2, 1) := by decide +kernel
theorem d_x_cutAt_22 : decode cc_x_cutAt 22 = .ok (.invokevirtual 130, 3) := by decide +kernel
theorem d_x_cutAt_25 : decode cc_x_cutAt 25 = .ok (.ireturn, 1) := by decide +kernel
theorem d_x_blade_0 : decode cc_x_blade 0 = .ok (.iload_n 1, 1) := by decide +kernel
theorem d_x_blade_1 : decode cc_x_blade 1 = .ok (.aload_n 0, 1) := by decide +kernel
theorem d_x_blade_2 : decode cc_x_blade 2 = .ok (.getfield 19, 3) := by decide +kernel
theorem d_x_blade_5 : decode cc_x_blade 5 = .ok (.getfield 60, 3) := by decide +kernel
theorem d_x_blade_8 : decode cc_x_blade 8 = .ok (.invokestatic 64, 3) := by decide +kernel
theorem d_x_blade_11 : decode cc_x_blade 11 = .ok (.iload_n 3, 1) := by decide +kernel
theorem d_x_blade_12 : decode cc_x_blade 12 = .ok (.iconst 2, 1) := by decide +kernel
theorem d_x_blade_13 : decode cc_x_blade 13 = .ok (.invokestatic 64, 3) := by decide +kernel
theorem d_x_blade_16 : decode cc_x_blade 16 = .ok (.iload_n 2, 1) := by decide +kernel
theorem d_x_blade_17 : decode cc_x_blade 17 = .ok (.iconst 1, 1) := by decide +kernel
theorem d_x_blade_18 : decode cc_x_blade 18 = .ok (.sipush 1000, 3) := by decide +kernel
theorem d_x_blade_21 : decode cc_x_blade 21 = .ok (.invokestatic 37, 3) := by decide +kernel
theorem d_x_blade_24 : decode cc_x_blade 24 = .ok (.aload_n 0, 1) := by decide +kernel
theorem d_x_blade_25 : decode cc_x_blade 25 = .ok (.getfield 19, 3) := by decide +kernel
theorem d_x_blade_28 : decode cc_x_blade 28 = .ok (.iload_n 1, 1) := by decide +kernel
theorem d_x_blade_29 : decode cc_x_blade 29 = .ok (.invokevirtual 71, 3) := by decide +kernel
theorem d_x_blade_32 : decode cc_x_blade 32 = .ok (.aload_n 0, 1) := by decide +kernel
theorem d_x_blade_33 : decode cc_x_blade 33 = .ok (.getfield 19, 3) := by decide +kernel
theorem d_x_blade_36 : decode cc_x_blade 36 = .ok (.iload_n 1, 1) := by decide +kernel
theorem d_x_blade_37 : decode cc_x_blade 37 = .ok (.invokevirtual 74, 3) := by decide +kernel
theorem d_x_blade_40 : decode cc_x_blade 40 = .ok (.iadd, 1) := by decide +kernel
theorem d_x_blade_41 : decode cc_x_blade 41 = .ok (.iload_n 2, 1) := by decide +kernel
theorem d_x_blade_42 : decode cc_x_blade 42 = .ok (.invokestatic 133, 3) := by decide +kernel
theorem d_x_blade_45 : decode cc_x_blade 45 = .ok (.istore 4, 2) := by decide +kernel
theorem d_x_blade_47 : decode cc_x_blade 47 = .ok (.iload_n 3, 1) := by decide +kernel
theorem d_x_blade_48 : decode cc_x_blade 48 = .ok (.ifCond .ne 12, 3) := by decide +kernel
theorem d_x_blade_51 : decode cc_x_blade 51 = .ok (.iload 4, 2) := by decide +kernel
theorem d_x_blade_53 : decode cc_x_blade 53 = .ok (.sipush 1000, 3) := by decide +kernel
theorem d_x_blade_56 : decode cc_x_blade 56 = .ok (.idiv, 1) := by decide +kernel
theorem d_x_blade_57 : decode cc_x_blade 57 = .ok (.goto 9, 3) := by decide +kernel
theorem d_x_blade_60 : decode cc_x_blade 60 = .ok (.iload 4, 2) := by decide +kernel
theorem d_x_blade_62 : decode cc_x_blade 62 = .ok (.sipush 1000, 3) := by decide +kernel
theorem d_x_blade_65 : decode cc_x_blade 65 = .ok (.irem, 1) := by decide +kernel
theorem d_x_blade_66 : decode cc_x_blade 66 = .ok (.ireturn, 1) := by decide +kernel
theorem d_x_sum_0 : decode cc_x_sum 0 = .ok (.iload_n 1, 1) := by decide +kernel
theorem d_x_sum_1 : decode cc_x_sum 1 = .ok (.aload_n 0, 1) := by decide +kernel
theorem d_x_sum_2 : decode cc_x_sum 2 = .ok (.getfield 10, 3) := by decide +kernel
theorem d_x_sum_5 : decode cc_x_sum 5 = .ok (.getfield 120, 3) := by decide +kernel
theorem d_x_sum_8 : decode cc_x_sum 8 = .ok (.invokestatic 64, 3) := by decide +kernel
theorem d_x_sum_11 : decode cc_x_sum 11 = .ok (.aload_n 0, 1) := by decide +kernel
theorem d_x_sum_12 : decode cc_x_sum 12 = .ok (.getfield 26, 3) := by decide +kernel
theorem d_x_sum_15 : decode cc_x_sum 15 = .ok (.iload_n 1, 1) := by decide +kernel
theorem d_x_sum_16 : decode cc_x_sum 16 = .ok (.invokevirtual 136, 3) := by decide +kernel
theorem d_x_sum_19 : decode cc_x_sum 19 = .ok (.ireturn, 1) := by decide +kernel
theorem d_x_side_0 : decode cc_x_side 0 = .ok (.iload_n 1, 1) := by decide +kernel
theorem d_x_side_1 : decode cc_x_side 1 = .ok (.ifCond .ge 13, 3) := by decide +kernel
theorem d_x_side_4 : decode cc_x_side 4 = .ok (.new 139, 3) := by decide +kernel
theorem d_x_side_7 : decode cc_x_side 7 = .ok (.dup, 1) := by decide +kernel
theorem d_x_side_8 : decode cc_x_side 8 = .ok (.ldc 141, 2) := by decide +kernel
theorem d_x_side_10 : decode cc_x_side 10 = .ok (.invokespecial 143, 3) := by decide +kernel
theorem d_x_side_13 : decode cc_x_side 13 = .ok (.athrow, 1) := by decide +kernel
theorem d_x_side_14 : decode cc_x_side 14 = .ok (.aload_n 0, 1) := by decide +kernel
theorem d_x_side_15 : decode cc_x_side 15 = .ok (.getfield 26, 3) := by decide +kernel
theorem d_x_side_18 : decode cc_x_side 18 = .ok (.iload_n 1, 1) := by decide +kernel
theorem d_x_side_19 : decode cc_x_side 19 = .ok (.invokevirtual 144, 3) := by decide +kernel
theorem d_x_side_22 : decode cc_x_side 22 = .ok (.ireturn, 1) := by decide +kernel
theorem d_x_thousandthsOfTurns_0 : decode cc_x_thousandthsOfTurns 0 = .ok (.iload_n 1, 1) := by decide +kernel
theorem d_x_thousandthsOfTurns_1 : decode cc_x_thousandthsOfTurns 1 = .ok (.iconst 1, 1) := by decide +kernel
theorem d_x_thousandthsOfTurns_2 : decode cc_x_thousandthsOfTurns 2 = .ok (.if_icmp .ge 5, 3) := by decide +kernel
theorem d_x_thousandthsOfTurns_5 : decode cc_x_thousandthsOfTurns 5 = .ok (.iconst 0, 1) := by decide +kernel
theorem d_x_thousandthsOfTurns_6 : decode cc_x_thousandthsOfTurns 6 = .ok (.ireturn, 1) := by decide +kernel
theorem d_x_thousandthsOfTurns_7 : decode cc_x_thousandthsOfTurns 7 = .ok (.sipush 2000, 3) := by decide +kernel
theorem d_x_thousandthsOfTurns_10 : decode cc_x_thousandthsOfTurns 10 = .ok (.iload_n 0, 1) := by decide +kernel
theorem d_x_thousandthsOfTurns_11 : decode cc_x_thousandthsOfTurns 11 = .ok (.imul, 1) := by decide +kernel
theorem d_x_thousandthsOfTurns_12 : decode cc_x_thousandthsOfTurns 12 = .ok (.iload_n 1, 1) := by decide +kernel
theorem d_x_thousandthsOfTurns_13 : decode cc_x_thousandthsOfTurns 13 = .ok (.iadd, 1) := by decide +kernel
theorem d_x_thousandthsOfTurns_14 : decode cc_x_thousandthsOfTurns 14 = .ok (.iconst 2, 1) := by decide +kernel
theorem d_x_thousandthsOfTurns_15 : decode cc_x_thousandthsOfTurns 15 = .ok (.iload_n 1, 1) := by decide +kernel
theorem d_x_thousandthsOfTurns_16 : decode cc_x_thousandthsOfTurns 16 = .ok (.imul, 1) := by decide +kernel
theorem d_x_thousandthsOfTurns_17 : decode cc_x_thousandthsOfTurns 17 = .ok (.idiv, 1) := by decide +kernel
theorem d_x_thousandthsOfTurns_18 : decode cc_x_thousandthsOfTurns 18 = .ok (.ireturn, 1) := by decide +kernel
theorem d_x_requireIndex_0 : decode cc_x_requireIndex 0 = .ok (.iload_n 0, 1) := by decide +kernel
theorem d_x_requireIndex_1 : decode cc_x_requireIndex 1 = .ok (.ifCond .lt 8, 3) := by decide +kernel
theorem d_x_requireIndex_4 : decode cc_x_requireIndex 4 = .ok (.iload_n 0, 1) := by decide +kernel
theorem d_x_requireIndex_5 : decode cc_x_requireIndex 5 = .ok (.iload_n 1, 1) := by decide +kernel
theorem d_x_requireIndex_6 : decode cc_x_requireIndex 6 = .ok (.if_icmp .lt 13, 3) := by decide +kernel
theorem d_x_requireIndex_9 : decode cc_x_requireIndex 9 = .ok (.new 139, 3) := by decide +kernel
theorem d_x_requireIndex_12 : decode cc_x_requireIndex 12 = .ok (.dup, 1) := by decide +kernel
theorem d_x_requireIndex_13 : decode cc_x_requireIndex 13 = .ok (.ldc 147, 2) := by decide +kernel
theorem d_x_requireIndex_15 : decode cc_x_requireIndex 15 = .ok (.invokespecial 143, 3) := by decide +kernel
theorem d_x_requireIndex_18 : decode cc_x_requireIndex 18 = .ok (.athrow, 1) := by decide +kernel
theorem d_x_requireIndex_19 : decode cc_x_requireIndex 19 = .ok (.return_, 1) := by decide +kernel
theorem d_x_requireRange_0 : decode cc_x_requireRange 0 = .ok (.iload_n 0, 1) := by decide +kernel
theorem d_x_requireRange_1 : decode cc_x_requireRange 1 = .ok (.iload_n 1, 1) := by decide +kernel
theorem d_x_requireRange_2 : decode cc_x_requireRange 2 = .ok (.if_icmp .lt 8, 3) := by decide +kernel
theorem d_x_requireRange_5 : decode cc_x_requireRange 5 = .ok (.iload_n 0, 1) := by decide +kernel
theorem d_x_requireRange_6 : decode cc_x_requireRange 6 = .ok (.iload_n 2, 1) := by decide +kernel
theorem d_x_requireRange_7 : decode cc_x_requireRange 7 = .ok (.if_icmp .le 13, 3) := by decide +kernel
theorem d_x_requireRange_10 : decode cc_x_requireRange 10 = .ok (.new 149, 3) := by decide +kernel
theorem d_x_requireRange_13 : decode cc_x_requireRange 13 = .ok (.dup, 1) := by decide +kernel
theorem d_x_requireRange_14 : decode cc_x_requireRange 14 = .ok (.ldc 151, 2) := by decide +kernel
theorem d_x_requireRange_16 : decode cc_x_requireRange 16 = .ok (.invokespecial 153, 3) := by decide +kernel
theorem d_x_requireRange_19 : decode cc_x_requireRange 19 = .ok (.athrow, 1) := by decide +kernel
theorem d_x_requireRange_20 : decode cc_x_requireRange 20 = .ok (.return_, 1) := by decide +kernel
theorem d_x_numberAt_0 : decode cc_x_numberAt 0 = .ok (.iload_n 1, 1) := by decide +kernel
theorem d_x_numberAt_1 : decode cc_x_numberAt 1 = .ok (.ifCond .lt 9, 3) := by decide +kernel
theorem d_x_numberAt_4 : decode cc_x_numberAt 4 = .ok (.iload_n 1, 1) := by decide +kernel
theorem d_x_numberAt_5 : decode cc_x_numberAt 5 = .ok (.aload_n 0, 1) := by decide +kernel
theorem d_x_numberAt_6 : decode cc_x_numberAt 6 = .ok (.arraylength, 1) := by decide +kernel
theorem d_x_numberAt_7 : decode cc_x_numberAt 7 = .ok (.if_icmp .lt 7, 3) := by decide +kernel
theorem d_x_numberAt_10 : decode cc_x_numberAt 10 = .ok (.iconst (-1), 1) := by decide +kernel
theorem d_x_numberAt_11 : decode cc_x_numberAt 11 = .ok (.goto 6, 3) := by decide +kernel
theorem d_x_numberAt_14 : decode cc_x_numberAt 14 = .ok (.aload_n 0, 1) := by decide +kernel
theorem d_x_numberAt_15 : decode cc_x_numberAt 15 = .ok (.iload_n 1, 1) := by decide +kernel
theorem d_x_numberAt_16 : decode cc_x_numberAt 16 = .ok (.iaload, 1) := by decide +kernel
theorem d_x_numberAt_17 : decode cc_x_numberAt 17 = .ok (.ireturn, 1) := by decide +kernel
end
section
/-! by program: decode rows of the reference -/
theorem d_m_init_0 : decode cc_m_init 0 = .ok (.aload_n 0, 1) := by decide +kernel
theorem d_m_init_1 : decode cc_m_init 1 = .ok (.invokespecial 1, 3) := by decide +kernel
theorem d_m_init_4 : decode cc_m_init 4 = .ok (.aload_n 0, 1) := by decide +kernel
theorem d_m_init_5 : decode cc_m_init 5 = .ok (.bipush 6, 2) := by decide +kernel
theorem d_m_init_7 : decode cc_m_init 7 = .ok (.newarray .int, 2) := by decide +kernel
theorem d_m_init_9 : decode cc_m_init 9 = .ok (.putfield 7, 3) := by decide +kernel
theorem d_m_init_12 : decode cc_m_init 12 = .ok (.aload_n 0, 1) := by decide +kernel
theorem d_m_init_13 : decode cc_m_init 13 = .ok (.bipush 6, 2) := by decide +kernel
theorem d_m_init_15 : decode cc_m_init 15 = .ok (.newarray .int, 2) := by decide +kernel
theorem d_m_init_17 : decode cc_m_init 17 = .ok (.putfield 13, 3) := by decide +kernel
theorem d_m_init_20 : decode cc_m_init 20 = .ok (.aload_n 0, 1) := by decide +kernel
theorem d_m_init_21 : decode cc_m_init 21 = .ok (.bipush 6, 2) := by decide +kernel
theorem d_m_init_23 : decode cc_m_init 23 = .ok (.newarray .int, 2) := by decide +kernel
theorem d_m_init_25 : decode cc_m_init 25 = .ok (.putfield 16, 3) := by decide +kernel
theorem d_m_init_28 : decode cc_m_init 28 = .ok (.aload_n 0, 1) := by decide +kernel
theorem d_m_init_29 : decode cc_m_init 29 = .ok (.bipush 100, 2) := by decide +kernel
theorem d_m_init_31 : decode cc_m_init 31 = .ok (.putfield 19, 3) := by decide +kernel
theorem d_m_init_34 : decode cc_m_init 34 = .ok (.aload_n 0, 1) := by decide +kernel
theorem d_m_init_35 : decode cc_m_init 35 = .ok (.bipush 10, 2) := by decide +kernel
theorem d_m_init_37 : decode cc_m_init 37 = .ok (.putfield 23, 3) := by decide +kernel
theorem d_m_init_40 : decode cc_m_init 40 = .ok (.aload_n 0, 1) := by decide +kernel
theorem d_m_init_41 : decode cc_m_init 41 = .ok (.sipush 200, 3) := by decide +kernel
theorem d_m_init_44 : decode cc_m_init 44 = .ok (.putfield 26, 3) := by decide +kernel
theorem d_m_init_47 : decode cc_m_init 47 = .ok (.aload_n 0, 1) := by decide +kernel
theorem d_m_init_48 : decode cc_m_init 48 = .ok (.sipush 300, 3) := by decide +kernel
theorem d_m_init_51 : decode cc_m_init 51 = .ok (.newarray .int, 2) := by decide +kernel
theorem d_m_init_53 : decode cc_m_init 53 = .ok (.putfield 29, 3) := by decide +kernel
theorem d_m_init_56 : decode cc_m_init 56 = .ok (.aload_n 0, 1) := by decide +kernel
theorem d_m_init_57 : decode cc_m_init 57 = .ok (.sipush 300, 3) := by decide +kernel
theorem d_m_init_60 : decode cc_m_init 60 = .ok (.newarray .int, 2) := by decide +kernel
theorem d_m_init_62 : decode cc_m_init 62 = .ok (.putfield 32, 3) := by decide +kernel
theorem d_m_init_65 : decode cc_m_init 65 = .ok (.aload_n 0, 1) := by decide +kernel
theorem d_m_init_66 : decode cc_m_init 66 = .ok (.sipush 300, 3) := by decide +kernel
theorem d_m_init_69 : decode cc_m_init 69 = .ok (.newarray .int, 2) := by decide +kernel
theorem d_m_init_71 : decode cc_m_init 71 = .ok (.putfield 35, 3) := by decide +kernel
theorem d_m_init_74 : decode cc_m_init 74 = .ok (.aload_n 0, 1) := by decide +kernel
theorem d_m_init_75 : decode cc_m_init 75 = .ok (.sipush 300, 3) := by decide +kernel
theorem d_m_init_78 : decode cc_m_init 78 = .ok (.newarray .int, 2) := by decide +kernel
theorem d_m_init_80 : decode cc_m_init 80 = .ok (.putfield 38, 3) := by decide +kernel
theorem d_m_init_83 : decode cc_m_init 83 = .ok (.aload_n 0, 1) := by decide +kernel
theorem d_m_init_84 : decode cc_m_init 84 = .ok (.sipush 300, 3) := by decide +kernel
theorem d_m_init_87 : decode cc_m_init 87 = .ok (.newarray .boolean, 2) := by decide +kernel
theorem d_m_init_89 : decode cc_m_init 89 = .ok (.putfield 41, 3) := by decide +kernel
theorem d_m_init_92 : decode cc_m_init 92 = .ok (.aload_n 0, 1) := by decide +kernel
theorem d_m_init_93 : decode cc_m_init 93 = .ok (.sipush 201, 3) := by decide +kernel
theorem d_m_init_96 : decode cc_m_init 96 = .ok (.newarray .int, 2) := by decide +kernel
theorem d_m_init_98 : decode cc_m_init 98 = .ok (.putfield 45, 3) := by decide +kernel
theorem d_m_init_101 : decode cc_m_init 101 = .ok (.aload_n 0, 1) := by decide +kernel
theorem d_m_init_102 : decode cc_m_init 102 = .ok (.sipush 201, 3) := by decide +kernel
theorem d_m_init_105 : decode cc_m_init 105 = .ok (.newarray .int, 2) := by decide +kernel
theorem d_m_init_107 : decode cc_m_init 107 = .ok (.putfield 48, 3) := by decide +kernel
theorem d_m_init_110 : decode cc_m_init 110 = .ok (.aload_n 0, 1) := by decide +kernel
theorem d_m_init_111 : decode cc_m_init 111 = .ok (.sipush 201, 3) := by decide +kernel
theorem d_m_init_114 : decode cc_m_init 114 = .ok (.newarray .int, 2) := by decide +kernel
theorem d_m_init_116 : decode cc_m_init 116 = .ok (.putfield 51, 3) := by decide +kernel
theorem d_m_init_119 : decode cc_m_init 119 = .ok (.aload_n 0, 1) := by decide +kernel
theorem d_m_init_120 : decode cc_m_init 120 = .ok (.sipush 201, 3) := by decide +kernel
theorem d_m_init_123 : decode cc_m_init 123 = .ok (.newarray .int, 2) := by decide +kernel
theorem d_m_init_125 : decode cc_m_init 125 = .ok (.putfield 54, 3) := by decide +kernel
theorem d_m_init_128 : decode cc_m_init 128 = .ok (.aload_n 0, 1) := by decide +kernel
theorem d_m_init_129 : decode cc_m_init 129 = .ok (.sipush 201, 3) := by decide +kernel
theorem d_m_init_132 : decode cc_m_init 132 = .ok (.newarray .int, 2) := by decide +kernel
theorem d_m_init_134 : decode cc_m_init 134 = .ok (.putfield 57, 3) := by decide +kernel
theorem d_m_init_137 : decode cc_m_init 137 = .ok (.return_, 1) := by decide +kernel
theorem d_m_thrown_0 : decode cc_m_thrown 0 = .ok (.aload_n 0, 1) := by decide +kernel
theorem d_m_thrown_1 : decode cc_m_thrown 1 = .ok (.getfield 60, 3) := by decide +kernel
theorem d_m_thrown_4 : decode cc_m_thrown 4 = .ok (.ireturn, 1) := by decide +kernel
theorem d_m_in_0 : decode cc_m_in 0 = .ok (.iload_n 0, 1) := by decide +kernel
theorem d_m_in_1 : decode cc_m_in 1 = .ok (.iload_n 1, 1) := by decide +kernel
theorem d_m_in_2 : decode cc_m_in 2 = .ok (.if_icmp .lt 12, 3) := by decide +kernel
theorem d_m_in_5 : decode cc_m_in 5 = .ok (.iload_n 0, 1) := by decide +kernel
theorem d_m_in_6 : decode cc_m_in 6 = .ok (.iload_n 2, 1) := by decide +kernel
theorem d_m_in_7 : decode cc_m_in 7 = .ok (.if_icmp .gt 7, 3) := by decide +kernel
theorem d_m_in_10 : decode cc_m_in 10 = .ok (.iconst 1, 1) := by decide +kernel
theorem d_m_in_11 : decode cc_m_in 11 = .ok (.goto 4, 3) := by decide +kernel
theorem d_m_in_14 : decode cc_m_in 14 = .ok (.iconst 0, 1) := by decide +kernel
theorem d_m_in_15 : decode cc_m_in 15 = .ok (.ireturn, 1) := by decide +kernel
theorem d_m_goes_0 : decode cc_m_goes 0 = .ok (.aload_n 0, 1) := by decide +kernel
theorem d_m_goes_1 : decode cc_m_goes 1 = .ok (.iload_n 1, 1) := by decide +kernel
theorem d_m_goes_2 : decode cc_m_goes 2 = .ok (.ifCond .ne 7, 3) := by decide +kernel
theorem d_m_goes_5 : decode cc_m_goes 5 = .ok (.iconst 1, 1) := by decide +kernel
theorem d_m_goes_6 : decode cc_m_goes 6 = .ok (.goto 20, 3) := by decide +kernel
theorem d_m_goes_9 : decode cc_m_goes 9 = .ok (.iload_n 2, 1) := by decide +kernel
theorem d_m_goes_10 : decode cc_m_goes 10 = .ok (.ifCond .ne 7, 3) := by decide +kernel
theorem d_m_goes_13 : decode cc_m_goes 13 = .ok (.iconst 2, 1) := by decide +kernel
theorem d_m_goes_14 : decode cc_m_goes 14 = .ok (.goto 12, 3) := by decide +kernel
theorem d_m_goes_17 : decode cc_m_goes 17 = .ok (.iload_n 3, 1) := by decide +kernel
theorem d_m_goes_18 : decode cc_m_goes 18 = .ok (.ifCond .ne 7, 3) := by decide +kernel
theorem d_m_goes_21 : decode cc_m_goes 21 = .ok (.iconst 3, 1) := by decide +kernel
theorem d_m_goes_22 : decode cc_m_goes 22 = .ok (.goto 4, 3) := by decide +kernel
theorem d_m_goes_25 : decode cc_m_goes 25 = .ok (.iconst 0, 1) := by decide +kernel
theorem d_m_goes_26 : decode cc_m_goes 26 = .ok (.putfield 60, 3) := by decide +kernel
theorem d_m_goes_29 : decode cc_m_goes 29 = .ok (.aload_n 0, 1) := by decide +kernel
theorem d_m_goes_30 : decode cc_m_goes 30 = .ok (.getfield 60, 3) := by decide +kernel
theorem d_m_goes_33 : decode cc_m_goes 33 = .ok (.ifCond .ne 7, 3) := by decide +kernel
theorem d_m_goes_36 : decode cc_m_goes 36 = .ok (.iconst 1, 1) := by decide +kernel
theorem d_m_goes_37 : decode cc_m_goes 37 = .ok (.goto 4, 3) := by decide +kernel
theorem d_m_goes_40 : decode cc_m_goes 40 = .ok (.iconst 0, 1) := by decide +kernel
theorem d_m_goes_41 : decode cc_m_goes 41 = .ok (.ireturn, 1) := by decide +kernel
theorem d_m_isWanted_0 : decode cc_m_isWanted 0 = .ok (.iload_n 1, 1) := by decide +kernel
theorem d_m_isWanted_1 : decode cc_m_isWanted 1 = .ok (.iconst 0, 1) := by decide +kernel
theorem d_m_isWanted_2 : decode cc_m_isWanted 2 = .ok (.aload_n 0, 1) := by decide +kernel
theorem d_m_isWanted_3 : decode cc_m_isWanted 3 = .ok (.getfield 63, 3) := by decide +kernel
theorem d_m_isWanted_6 : decode cc_m_isWanted 6 = .ok (.iconst 1, 1) := by decide +kernel
theorem d_m_isWanted_7 : decode cc_m_isWanted 7 = .ok (.isub, 1) := by decide +kernel
theorem d_m_isWanted_8 : decode cc_m_isWanted 8 = .ok (.invokestatic 66, 3) := by decide +kernel
theorem d_m_isWanted_11 : decode cc_m_isWanted 11 = .ok (.ireturn, 1) := by decide +kernel
theorem d_m_room_0 : decode cc_m_room 0 = .ok (.iload_n 0, 1) := by decide +kernel
theorem d_m_room_1 : decode cc_m_room 1 = .ok (.iload_n 1, 1) := by decide +kernel
theorem d_m_room_2 : decode cc_m_room 2 = .ok (.isub, 1) := by decide +kernel
theorem d_m_room_3 : decode cc_m_room 3 = .ok (.iload_n 2, 1) := by decide +kernel
theorem d_m_room_4 : decode cc_m_room 4 = .ok (.isub, 1) := by decide +kernel
theorem d_m_room_5 : decode cc_m_room 5 = .ok (.iload_n 3, 1) := by decide +kernel
theorem d_m_room_6 : decode cc_m_room 6 = .ok (.isub, 1) := by decide +kernel
theorem d_m_room_7 : decode cc_m_room 7 = .ok (.istore 4, 2) := by decide +kernel
theorem d_m_room_9 : decode cc_m_room 9 = .ok (.iload 4, 2) := by decide +kernel
theorem d_m_room_11 : decode cc_m_room 11 = .ok (.ifCond .le 8, 3) := by decide +kernel
theorem d_m_room_14 : decode cc_m_room 14 = .ok (.iload 4, 2) := by decide +kernel
theorem d_m_room_16 : decode cc_m_room 16 = .ok (.goto 4, 3) := by decide +kernel
theorem d_m_room_19 : decode cc_m_room 19 = .ok (.iconst 0, 1) := by decide +kernel
theorem d_m_room_20 : decode cc_m_room 20 = .ok (.ireturn, 1) := by decide +kernel
theorem d_m_taken_0 : decode cc_m_taken 0 = .ok (.iconst 0, 1) := by decide +kernel
theorem d_m_taken_1 : decode cc_m_taken 1 = .ok (.istore_n 1, 1) := by decide +kernel
theorem d_m_taken_2 : decode cc_m_taken 2 = .ok (.aload_n 0, 1) := by decide +kernel
theorem d_m_taken_3 : decode cc_m_taken 3 = .ok (.getfield 70, 3) := by decide +kernel
theorem d_m_taken_6 : decode cc_m_taken 6 = .ok (.istore_n 2, 1) := by decide +kernel
theorem d_m_taken_7 : decode cc_m_taken 7 = .ok (.iload_n 2, 1) := by decide +kernel
theorem d_m_taken_8 : decode cc_m_taken 8 = .ok (.aload_n 0, 1) := by decide +kernel
theorem d_m_taken_9 : decode cc_m_taken 9 = .ok (.getfield 73, 3) := by decide +kernel
theorem d_m_taken_12 : decode cc_m_taken 12 = .ok (.if_icmp .ge 18, 3) := by decide +kernel
theorem d_m_taken_15 : decode cc_m_taken 15 = .ok (.iload_n 1, 1) := by decide +kernel
theorem d_m_taken_16 : decode cc_m_taken 16 = .ok (.aload_n 0, 1) := by decide +kernel
theorem d_m_taken_17 : decode cc_m_taken 17 = .ok (.getfield 32, 3) := by decide +kernel
theorem d_m_taken_20 : decode cc_m_taken 20 = .ok (.iload_n 2, 1) := by decide +kernel
theorem d_m_taken_21 : decode cc_m_taken 21 = .ok (.iaload, 1) := by decide +kernel
theorem d_m_taken_22 : decode cc_m_taken 22 = .ok (.iadd, 1) := by decide +kernel
theorem d_m_taken_23 : decode cc_m_taken 23 = .ok (.istore_n 1, 1) := by decide +kernel
theorem d_m_taken_24 : decode cc_m_taken 24 = .ok (.iinc 2 1, 3) := by decide +kernel
theorem d_m_taken_27 : decode cc_m_taken 27 = .ok (.goto (-20), 3) := by decide +kernel
theorem d_m_taken_30 : decode cc_m_taken 30 = .ok (.iload_n 1, 1) := by decide +kernel
theorem d_m_taken_31 : decode cc_m_taken 31 = .ok (.ireturn, 1) := by decide +kernel
theorem d_m_left_0 : decode cc_m_left 0 = .ok (.aload_n 0, 1) := by decide +kernel
theorem d_m_left_1 : decode cc_m_left 1 = .ok (.getfield 19, 3) := by decide +kernel
theorem d_m_left_4 : decode cc_m_left 4 = .ok (.aload_n 0, 1) := by decide +kernel
theorem d_m_left_5 : decode cc_m_left 5 = .ok (.getfield 76, 3) := by decide +kernel
theorem d_m_left_8 : decode cc_m_left 8 = .ok (.aload_n 0, 1) := by decide +kernel
theorem d_m_left_9 : decode cc_m_left 9 = .ok (.getfield 79, 3) := by decide +kernel
theorem d_m_left_12 : decode cc_m_left 12 = .ok (.aload_n 0, 1) := by decide +kernel
theorem d_m_left_13 : decode cc_m_left 13 = .ok (.getfield 82, 3) := by decide +kernel
theorem d_m_left_16 : decode cc_m_left 16 = .ok (.invokestatic 85, 3) := by decide +kernel
theorem d_m_left_19 : decode cc_m_left 19 = .ok (.aload_n 0, 1) := by decide +kernel
theorem d_m_left_20 : decode cc_m_left 20 = .ok (.invokevirtual 89, 3) := by decide +kernel
theorem d_m_left_23 : decode cc_m_left 23 = .ok (.isub, 1) := by decide +kernel
theorem d_m_left_24 : decode cc_m_left 24 = .ok (.ireturn, 1) := by decide +kernel
theorem d_m_want_0 : decode cc_m_want 0 = .ok (.aload_n 0, 1) := by decide +kernel
theorem d_m_want_1 : decode cc_m_want 1 = .ok (.iload_n 1, 1) := by decide +kernel
theorem d_m_want_2 : decode cc_m_want 2 = .ok (.iconst 1, 1) := by decide +kernel
theorem d_m_want_3 : decode cc_m_want 3 = .ok (.sipush 200, 3) := by decide +kernel
theorem d_m_want_6 : decode cc_m_want 6 = .ok (.invokestatic 66, 3) := by decide +kernel
theorem d_m_want_9 : decode cc_m_want 9 = .ok (.ifCond .eq 28, 3) := by decide +kernel
theorem d_m_want_12 : decode cc_m_want 12 = .ok (.iload_n 2, 1) := by decide +kernel
theorem d_m_want_13 : decode cc_m_want 13 = .ok (.iload_n 1, 1) := by decide +kernel
theorem d_m_want_14 : decode cc_m_want 14 = .ok (.sipush 200, 3) := by decide +kernel
theorem d_m_want_17 : decode cc_m_want 17 = .ok (.invokestatic 66, 3) := by decide +kernel
theorem d_m_want_20 : decode cc_m_want 20 = .ok (.ifCond .eq 17, 3) := by decide +kernel
theorem d_m_want_23 : decode cc_m_want 23 = .ok (.iload_n 3, 1) := by decide +kernel
theorem d_m_want_24 : decode cc_m_want 24 = .ok (.iconst 0, 1) := by decide +kernel
theorem d_m_want_25 : decode cc_m_want 25 = .ok (.bipush 9, 2) := by decide +kernel
theorem d_m_want_27 : decode cc_m_want 27 = .ok (.invokestatic 66, 3) := by decide +kernel
theorem d_m_want_30 : decode cc_m_want 30 = .ok (.ifCond .eq 7, 3) := by decide +kernel
theorem d_m_want_33 : decode cc_m_want 33 = .ok (.iconst 1, 1) := by decide +kernel
theorem d_m_want_34 : decode cc_m_want 34 = .ok (.goto 4, 3) := by decide +kernel
theorem d_m_want_37 : decode cc_m_want 37 = .ok (.iconst 0, 1) := by decide +kernel
theorem d_m_want_38 : decode cc_m_want 38 = .ok (.aload_n 0, 1) := by decide +kernel
theorem d_m_want_39 : decode cc_m_want 39 = .ok (.getfield 63, 3) := by decide +kernel
theorem d_m_want_42 : decode cc_m_want 42 = .ok (.bipush 6, 2) := by decide +kernel
theorem d_m_want_44 : decode cc_m_want 44 = .ok (.if_icmp .ge 7, 3) := by decide +kernel
theorem d_m_want_47 : decode cc_m_want 47 = .ok (.iconst 1, 1) := by decide +kernel
theorem d_m_want_48 : decode cc_m_want 48 = .ok (.goto 4, 3) := by decide +kernel
theorem d_m_want_51 : decode cc_m_want 51 = .ok (.iconst 0, 1) := by decide +kernel
theorem d_m_want_52 : decode cc_m_want 52 = .ok (.iconst 1, 1) := by decide +kernel
theorem d_m_want_53 : decode cc_m_want 53 = .ok (.invokevirtual 93, 3) := by decide +kernel
theorem d_m_want_56 : decode cc_m_want 56 = .ok (.ifCond .ne 5, 3) := by decide +kernel
theorem d_m_want_59 : decode cc_m_want 59 = .ok (.iconst 0, 1) := by decide +kernel
theorem d_m_want_60 : decode cc_m_want 60 = .ok (.ireturn, 1) := by decide +kernel
theorem d_m_want_61 : decode cc_m_want 61 = .ok (.aload_n 0, 1) := by decide +kernel
theorem d_m_want_62 : decode cc_m_want 62 = .ok (.getfield 7, 3) := by decide +kernel
theorem d_m_want_65 : decode cc_m_want 65 = .ok (.aload_n 0, 1) := by decide +kernel
theorem d_m_want_66 : decode cc_m_want 66 = .ok (.getfield 63, 3) := by decide +kernel
theorem d_m_want_69 : decode cc_m_want 69 = .ok (.iload_n 1, 1) := by decide +kernel
theorem d_m_want_70 : decode cc_m_want 70 = .ok (.iastore, 1) := by decide +kernel
theorem d_m_want_71 : decode cc_m_want 71 = .ok (.aload_n 0, 1) := by decide +kernel
theorem d_m_want_72 : decode cc_m_want 72 = .ok (.getfield 13, 3) := by decide +kernel
theorem d_m_want_75 : decode cc_m_want 75 = .ok (.aload_n 0, 1) := by decide +kernel
theorem d_m_want_76 : decode cc_m_want 76 = .ok (.getfield 63, 3) := by decide +kernel
theorem d_m_want_79 : decode cc_m_want 79 = .ok (.iload_n 2, 1) := by decide +kernel
theorem d_m_want_80 : decode cc_m_want 80 = .ok (.iastore, 1) := by decide +kernel
theorem d_m_want_81 : decode cc_m_want 81 = .ok (.aload_n 0, 1) := by decide +kernel
theorem d_m_want_82 : decode cc_m_want 82 = .ok (.getfield 16, 3) := by decide +kernel
theorem d_m_want_85 : decode cc_m_want 85 = .ok (.aload_n 0, 1) := by decide +kernel
theorem d_m_want_86 : decode cc_m_want 86 = .ok (.getfield 63, 3) := by decide +kernel
theorem d_m_want_89 : decode cc_m_want 89 = .ok (.iload_n 3, 1) := by decide +kernel
theorem d_m_want_90 : decode cc_m_want 90 = .ok (.iastore, 1) := by decide +kernel
theorem d_m_want_91 : decode cc_m_want 91 = .ok (.aload_n 0, 1) := by decide +kernel
theorem d_m_want_92 : decode cc_m_want 92 = .ok (.dup, 1) := by decide +kernel
theorem d_m_want_93 : decode cc_m_want 93 = .ok (.getfield 63, 3) := by decide +kernel
theorem d_m_want_96 : decode cc_m_want 96 = .ok (.iconst 1, 1) := by decide +kernel
theorem d_m_want_97 : decode cc_m_want 97 = .ok (.iadd, 1) := by decide +kernel
theorem d_m_want_98 : decode cc_m_want 98 = .ok (.putfield 63, 3) := by decide +kernel
theorem d_m_want_101 : decode cc_m_want 101 = .ok (.aload_n 0, 1) := by decide +kernel
theorem d_m_want_102 : decode cc_m_want 102 = .ok (.getfield 63, 3) := by decide +kernel
theorem d_m_want_105 : decode cc_m_want 105 = .ok (.iconst 1, 1) := by decide +kernel
theorem d_m_want_106 : decode cc_m_want 106 = .ok (.isub, 1) := by decide +kernel
theorem d_m_want_107 : decode cc_m_want 107 = .ok (.ireturn, 1) := by decide +kernel
theorem d_m_bar_0 : decode cc_m_bar 0 = .ok (.aload_n 0, 1) := by decide +kernel
theorem d_m_bar_1 : decode cc_m_bar 1 = .ok (.iload_n 1, 1) := by decide +kernel
theorem d_m_bar_2 : decode cc_m_bar 2 = .ok (.iconst 1, 1) := by decide +kernel
theorem d_m_bar_3 : decode cc_m_bar 3 = .ok (.sipush 200, 3) := by decide +kernel
theorem d_m_bar_6 : decode cc_m_bar 6 = .ok (.invokestatic 66, 3) := by decide +kernel
theorem d_m_bar_9 : decode cc_m_bar 9 = .ok (.ifCond .eq 17, 3) := by decide +kernel
theorem d_m_bar_12 : decode cc_m_bar 12 = .ok (.iload_n 2, 1) := by decide +kernel
theorem d_m_bar_13 : decode cc_m_bar 13 = .ok (.iconst 0, 1) := by decide +kernel
theorem d_m_bar_14 : decode cc_m_bar 14 = .ok (.bipush 50, 2) := by decide +kernel
theorem d_m_bar_16 : decode cc_m_bar 16 = .ok (.invokestatic 66, 3) := by decide +kernel
theorem d_m_bar_19 : decode cc_m_bar 19 = .ok (.ifCond .eq 7, 3) := by decide +kernel
theorem d_m_bar_22 : decode cc_m_bar 22 = .ok (.iconst 1, 1) := by decide +kernel
theorem d_m_bar_23 : decode cc_m_bar 23 = .ok (.goto 4, 3) := by decide +kernel
theorem d_m_bar_26 : decode cc_m_bar 26 = .ok (.iconst 0, 1) := by decide +kernel
theorem d_m_bar_27 : decode cc_m_bar 27 = .ok (.iconst 1, 1) := by decide +kernel
theorem d_m_bar_28 : decode cc_m_bar 28 = .ok (.iconst 1, 1) := by decide +kernel
theorem d_m_bar_29 : decode cc_m_bar 29 = .ok (.invokevirtual 93, 3) := by decide +kernel
theorem d_m_bar_32 : decode cc_m_bar 32 = .ok (.ifCond .ne 4, 3) := by decide +kernel
theorem d_m_bar_35 : decode cc_m_bar 35 = .ok (.return_, 1) := by decide +kernel
theorem d_m_bar_36 : decode cc_m_bar 36 = .ok (.aload_n 0, 1) := by decide +kernel
theorem d_m_bar_37 : decode cc_m_bar 37 = .ok (.iload_n 1, 1) := by decide +kernel
theorem d_m_bar_38 : decode cc_m_bar 38 = .ok (.putfield 19, 3) := by decide +kernel
theorem d_m_bar_41 : decode cc_m_bar 41 = .ok (.aload_n 0, 1) := by decide +kernel
theorem d_m_bar_42 : decode cc_m_bar 42 = .ok (.iload_n 2, 1) := by decide +kernel
theorem d_m_bar_43 : decode cc_m_bar 43 = .ok (.putfield 76, 3) := by decide +kernel
theorem d_m_bar_46 : decode cc_m_bar 46 = .ok (.aload_n 0, 1) := by decide +kernel
theorem d_m_bar_47 : decode cc_m_bar 47 = .ok (.aload_n 0, 1) := by decide +kernel
theorem d_m_bar_48 : decode cc_m_bar 48 = .ok (.getfield 73, 3) := by decide +kernel
theorem d_m_bar_51 : decode cc_m_bar 51 = .ok (.putfield 70, 3) := by decide +kernel
theorem d_m_bar_54 : decode cc_m_bar 54 = .ok (.return_, 1) := by decide +kernel
theorem d_m_crop_0 : decode cc_m_crop 0 = .ok (.iload_n 1, 1) := by decide +kernel
theorem d_m_crop_1 : decode cc_m_crop 1 = .ok (.iconst 0, 1) := by decide +kernel
theorem d_m_crop_2 : decode cc_m_crop 2 = .ok (.bipush 100, 2) := by decide +kernel
theorem d_m_crop_4 : decode cc_m_crop 4 = .ok (.invokestatic 66, 3) := by decide +kernel
theorem d_m_crop_7 : decode cc_m_crop 7 = .ok (.ifCond .eq 17, 3) := by decide +kernel
theorem d_m_crop_10 : decode cc_m_crop 10 = .ok (.iload_n 2, 1) := by decide +kernel
theorem d_m_crop_11 : decode cc_m_crop 11 = .ok (.iconst 0, 1) := by decide +kernel
theorem d_m_crop_12 : decode cc_m_crop 12 = .ok (.bipush 100, 2) := by decide +kernel
theorem d_m_crop_14 : decode cc_m_crop 14 = .ok (.invokestatic 66, 3) := by decide +kernel
theorem d_m_crop_17 : decode cc_m_crop 17 = .ok (.ifCond .eq 7, 3) := by decide +kernel
theorem d_m_crop_20 : decode cc_m_crop 20 = .ok (.iconst 1, 1) := by decide +kernel
theorem d_m_crop_21 : decode cc_m_crop 21 = .ok (.goto 4, 3) := by decide +kernel
theorem d_m_crop_24 : decode cc_m_crop 24 = .ok (.iconst 0, 1) := by decide +kernel
theorem d_m_crop_25 : decode cc_m_crop 25 = .ok (.istore_n 3, 1) := by decide +kernel
theorem d_m_crop_26 : decode cc_m_crop 26 = .ok (.iload_n 3, 1) := by decide +kernel
theorem d_m_crop_27 : decode cc_m_crop 27 = .ok (.ifCond .eq 46, 3) := by decide +kernel
theorem d_m_crop_30 : decode cc_m_crop 30 = .ok (.iload_n 1, 1) := by decide +kernel
theorem d_m_crop_31 : decode cc_m_crop 31 = .ok (.aload_n 0, 1) := by decide +kernel
theorem d_m_crop_32 : decode cc_m_crop 32 = .ok (.getfield 79, 3) := by decide +kernel
theorem d_m_crop_35 : decode cc_m_crop 35 = .ok (.if_icmp .eq 14, 3) := by decide +kernel
theorem d_m_crop_38 : decode cc_m_crop 38 = .ok (.aload_n 0, 1) := by decide +kernel
theorem d_m_crop_39 : decode cc_m_crop 39 = .ok (.getfield 70, 3) := by decide +kernel
theorem d_m_crop_42 : decode cc_m_crop 42 = .ok (.aload_n 0, 1) := by decide +kernel
theorem d_m_crop_43 : decode cc_m_crop 43 = .ok (.getfield 73, 3) := by decide +kernel
theorem d_m_crop_46 : decode cc_m_crop 46 = .ok (.if_icmp .ne 27, 3) := by decide +kernel
theorem d_m_crop_49 : decode cc_m_crop 49 = .ok (.aload_n 0, 1) := by decide +kernel
theorem d_m_crop_50 : decode cc_m_crop 50 = .ok (.invokevirtual 89, 3) := by decide +kernel
theorem d_m_crop_53 : decode cc_m_crop 53 = .ok (.aload_n 0, 1) := by decide +kernel
theorem d_m_crop_54 : decode cc_m_crop 54 = .ok (.getfield 19, 3) := by decide +kernel
theorem d_m_crop_57 : decode cc_m_crop 57 = .ok (.aload_n 0, 1) := by decide +kernel
theorem d_m_crop_58 : decode cc_m_crop 58 = .ok (.getfield 76, 3) := by decide +kernel
theorem d_m_crop_61 : decode cc_m_crop 61 = .ok (.iload_n 1, 1) := by decide +kernel
theorem d_m_crop_62 : decode cc_m_crop 62 = .ok (.iload_n 2, 1) := by decide +kernel
theorem d_m_crop_63 : decode cc_m_crop 63 = .ok (.invokestatic 85, 3) := by decide +kernel
theorem d_m_crop_66 : decode cc_m_crop 66 = .ok (.if_icmp .gt 7, 3) := by decide +kernel
theorem d_m_crop_69 : decode cc_m_crop 69 = .ok (.iconst 1, 1) := by decide +kernel
theorem d_m_crop_70 : decode cc_m_crop 70 = .ok (.goto 4, 3) := by decide +kernel
theorem d_m_crop_73 : decode cc_m_crop 73 = .ok (.iconst 0, 1) := by decide +kernel
theorem d_m_crop_74 : decode cc_m_crop 74 = .ok (.istore 4, 2) := by decide +kernel
theorem d_m_crop_76 : decode cc_m_crop 76 = .ok (.aload_n 0, 1) := by decide +kernel
theorem d_m_crop_77 : decode cc_m_crop 77 = .ok (.iload_n 3, 1) := by decide +kernel
theorem d_m_crop_78 : decode cc_m_crop 78 = .ok (.iload 4, 2) := by decide +kernel
theorem d_m_crop_80 : decode cc_m_crop 80 = .ok (.iconst 1, 1) := by decide +kernel
theorem d_m_crop_81 : decode cc_m_crop 81 = .ok (.invokevirtual 93, 3) := by decide +kernel
theorem d_m_crop_84 : decode cc_m_crop 84 = .ok (.ifCond .ne 4, 3) := by decide +kernel
theorem d_m_crop_87 : decode cc_m_crop 87 = .ok (.return_, 1) := by decide +kernel
theorem d_m_crop_88 : decode cc_m_crop 88 = .ok (.aload_n 0, 1) := by decide +kernel
theorem d_m_crop_89 : decode cc_m_crop 89 = .ok (.iload_n 1, 1) := by decide +kernel
theorem d_m_crop_90 : decode cc_m_crop 90 = .ok (.putfield 79, 3) := by decide +kernel
theorem d_m_crop_93 : decode cc_m_crop 93 = .ok (.aload_n 0, 1) := by decide +kernel
theorem d_m_crop_94 : decode cc_m_crop 94 = .ok (.iload_n 2, 1) := by decide +kernel
theorem d_m_crop_95 : decode cc_m_crop 95 = .ok (.putfield 82, 3) := by decide +kernel
theorem d_m_crop_98 : decode cc_m_crop 98 = .ok (.return_, 1) := by decide +kernel
theorem d_m_known_0 : decode cc_m_known 0 = .ok (.iload_n 1, 1) := by decide +kernel
theorem d_m_known_1 : decode cc_m_known 1 = .ok (.iconst 1, 1) := by decide +kernel
theorem d_m_known_2 : decode cc_m_known 2 = .ok (.sipush 200, 3) := by decide +kernel
theorem d_m_known_5 : decode cc_m_known 5 = .ok (.invokestatic 66, 3) := by decide +kernel
theorem d_m_known_8 : decode cc_m_known 8 = .ok (.istore_n 2, 1) := by decide +kernel
theorem d_m_known_9 : decode cc_m_known 9 = .ok (.aload_n 0, 1) := by decide +kernel
theorem d_m_known_10 : decode cc_m_known 10 = .ok (.iload_n 2, 1) := by decide +kernel
theorem d_m_known_11 : decode cc_m_known 11 = .ok (.iload_n 2, 1) := by decide +kernel
theorem d_m_known_12 : decode cc_m_known 12 = .ok (.ifCond .eq 27, 3) := by decide +kernel
theorem d_m_known_15 : decode cc_m_known 15 = .ok (.aload_n 0, 1) := by decide +kernel
theorem d_m_known_16 : decode cc_m_known 16 = .ok (.invokevirtual 89, 3) := by decide +kernel
theorem d_m_known_19 : decode cc_m_known 19 = .ok (.iload_n 1, 1) := by decide +kernel
theorem d_m_known_20 : decode cc_m_known 20 = .ok (.iconst 0, 1) := by decide +kernel
theorem d_m_known_21 : decode cc_m_known 21 = .ok (.aload_n 0, 1) := by decide +kernel
theorem d_m_known_22 : decode cc_m_known 22 = .ok (.getfield 79, 3) := by decide +kernel
theorem d_m_known_25 : decode cc_m_known 25 = .ok (.aload_n 0, 1) := by decide +kernel
theorem d_m_known_26 : decode cc_m_known 26 = .ok (.getfield 82, 3) := by decide +kernel
theorem d_m_known_29 : decode cc_m_known 29 = .ok (.invokestatic 85, 3) := by decide +kernel
theorem d_m_known_32 : decode cc_m_known 32 = .ok (.if_icmp .gt 7, 3) := by decide +kernel
theorem d_m_known_35 : decode cc_m_known 35 = .ok (.iconst 1, 1) := by decide +kernel
theorem d_m_known_36 : decode cc_m_known 36 = .ok (.goto 4, 3) := by decide +kernel
theorem d_m_known_39 : decode cc_m_known 39 = .ok (.iconst 0, 1) := by decide +kernel
theorem d_m_known_40 : decode cc_m_known 40 = .ok (.iconst 1, 1) := by decide +kernel
theorem d_m_known_41 : decode cc_m_known 41 = .ok (.invokevirtual 93, 3) := by decide +kernel
theorem d_m_known_44 : decode cc_m_known 44 = .ok (.ifCond .ne 4, 3) := by decide +kernel
theorem d_m_known_47 : decode cc_m_known 47 = .ok (.return_, 1) := by decide +kernel
theorem d_m_known_48 : decode cc_m_known 48 = .ok (.aload_n 0, 1) := by decide +kernel
theorem d_m_known_49 : decode cc_m_known 49 = .ok (.iload_n 1, 1) := by decide +kernel
theorem d_m_known_50 : decode cc_m_known 50 = .ok (.putfield 19, 3) := by decide +kernel
theorem d_m_known_53 : decode cc_m_known 53 = .ok (.aload_n 0, 1) := by decide +kernel
theorem d_m_known_54 : decode cc_m_known 54 = .ok (.iconst 0, 1) := by decide +kernel
theorem d_m_known_55 : decode cc_m_known 55 = .ok (.putfield 76, 3) := by decide +kernel
theorem d_m_known_58 : decode cc_m_known 58 = .ok (.return_, 1) := by decide +kernel
theorem d_m_isBetter_0 : decode cc_m_isBetter 0 = .ok (.iload_n 2, 1) := by decide +kernel
theorem d_m_isBetter_1 : decode cc_m_isBetter 1 = .ok (.aload_n 0, 1) := by decide +kernel
theorem d_m_isBetter_2 : decode cc_m_isBetter 2 = .ok (.getfield 45, 3) := by decide +kernel
theorem d_m_isBetter_5 : decode cc_m_isBetter 5 = .ok (.iload_n 1, 1) := by decide +kernel
theorem d_m_isBetter_6 : decode cc_m_isBetter 6 = .ok (.iaload, 1) := by decide +kernel
theorem d_m_isBetter_7 : decode cc_m_isBetter 7 = .ok (.if_icmp .eq 19, 3) := by decide +kernel
theorem d_m_isBetter_10 : decode cc_m_isBetter 10 = .ok (.iload_n 2, 1) := by decide +kernel
theorem d_m_isBetter_11 : decode cc_m_isBetter 11 = .ok (.aload_n 0, 1) := by decide +kernel
theorem d_m_isBetter_12 : decode cc_m_isBetter 12 = .ok (.getfield 45, 3) := by decide +kernel
theorem d_m_isBetter_15 : decode cc_m_isBetter 15 = .ok (.iload_n 1, 1) := by decide +kernel
theorem d_m_isBetter_16 : decode cc_m_isBetter 16 = .ok (.iaload, 1) := by decide +kernel
theorem d_m_isBetter_17 : decode cc_m_isBetter 17 = .ok (.if_icmp .ge 7, 3) := by decide +kernel
theorem d_m_isBetter_20 : decode cc_m_isBetter 20 = .ok (.iconst 1, 1) := by decide +kernel
theorem d_m_isBetter_21 : decode cc_m_isBetter 21 = .ok (.goto 4, 3) := by decide +kernel
theorem d_m_isBetter_24 : decode cc_m_isBetter 24 = .ok (.iconst 0, 1) := by decide +kernel
theorem d_m_isBetter_25 : decode cc_m_isBetter 25 = .ok (.ireturn, 1) := by decide +kernel
theorem d_m_isBetter_26 : decode cc_m_isBetter 26 = .ok (.iload_n 3, 1) := by decide +kernel
theorem d_m_isBetter_27 : decode cc_m_isBetter 27 = .ok (.aload_n 0, 1) := by decide +kernel
theorem d_m_isBetter_28 : decode cc_m_isBetter 28 = .ok (.getfield 48, 3) := by decide +kernel
theorem d_m_isBetter_31 : decode cc_m_isBetter 31 = .ok (.iload_n 1, 1) := by decide +kernel
theorem d_m_isBetter_32 : decode cc_m_isBetter 32 = .ok (.iaload, 1) := by decide +kernel
theorem d_m_isBetter_33 : decode cc_m_isBetter 33 = .ok (.if_icmp .eq 21, 3) := by decide +kernel
theorem d_m_isBetter_36 : decode cc_m_isBetter 36 = .ok (.iload_n 3, 1) := by decide +kernel
theorem d_m_isBetter_37 : decode cc_m_isBetter 37 = .ok (.aload_n 0, 1) := by decide +kernel
theorem d_m_isBetter_38 : decode cc_m_isBetter 38 = .ok (.getfield 48, 3) := by decide +kernel
theorem d_m_isBetter_41 : decode cc_m_isBetter 41 = .ok (.iload_n 1, 1) := by decide +kernel
theorem d_m_isBetter_42 : decode cc_m_isBetter 42 = .ok (.iaload, 1) := by decide +kernel
theorem d_m_isBetter_43 : decode cc_m_isBetter 43 = .ok (.if_icmp .le 7, 3) := by decide +kernel
theorem d_m_isBetter_46 : decode cc_m_isBetter 46 = .ok (.iconst 1, 1) := by decide +kernel
theorem d_m_isBetter_47 : decode cc_m_isBetter 47 = .ok (.goto 23, 3) := by decide +kernel
theorem d_m_isBetter_50 : decode cc_m_isBetter 50 = .ok (.iconst 0, 1) := by decide +kernel
theorem d_m_isBetter_51 : decode cc_m_isBetter 51 = .ok (.goto 19, 3) := by decide +kernel
theorem d_m_isBetter_54 : decode cc_m_isBetter 54 = .ok (.iload 4, 2) := by decide +kernel
theorem d_m_isBetter_56 : decode cc_m_isBetter 56 = .ok (.aload_n 0, 1) := by decide +kernel
theorem d_m_isBetter_57 : decode cc_m_isBetter 57 = .ok (.getfield 51, 3) := by decide +kernel
theorem d_m_isBetter_60 : decode cc_m_isBetter 60 = .ok (.iload_n 1, 1) := by decide +kernel
theorem d_m_isBetter_61 : decode cc_m_isBetter 61 = .ok (.iaload, 1) := by decide +kernel
theorem d_m_isBetter_62 : decode cc_m_isBetter 62 = .ok (.if_icmp .ge 7, 3) := by decide +kernel
theorem d_m_isBetter_65 : decode cc_m_isBetter 65 = .ok (.iconst 1, 1) := by decide +kernel
theorem d_m_isBetter_66 : decode cc_m_isBetter 66 = .ok (.goto 4, 3) := by decide +kernel
theorem d_m_isBetter_69 : decode cc_m_isBetter 69 = .ok (.iconst 0, 1) := by decide +kernel
theorem d_m_isBetter_70 : decode cc_m_isBetter 70 = .ok (.ireturn, 1) := by decide +kernel
theorem d_m_plan_0 : decode cc_m_plan 0 = .ok (.aload_n 0, 1) := by decide +kernel
theorem d_m_plan_1 : decode cc_m_plan 1 = .ok (.invokevirtual 97, 3) := by decide +kernel
theorem d_m_plan_4 : decode cc_m_plan 4 = .ok (.istore_n 1, 1) := by decide +kernel
theorem d_m_plan_5 : decode cc_m_plan 5 = .ok (.iconst 0, 1) := by decide +kernel
theorem d_m_plan_6 : decode cc_m_plan 6 = .ok (.istore_n 2, 1) := by decide +kernel
theorem d_m_plan_7 : decode cc_m_plan 7 = .ok (.iload_n 2, 1) := by decide +kernel
theorem d_m_plan_8 : decode cc_m_plan 8 = .ok (.iload_n 1, 1) := by decide +kernel
theorem d_m_plan_9 : decode cc_m_plan 9 = .ok (.if_icmp .gt 200, 3) := by decide +kernel
theorem d_m_plan_12 : decode cc_m_plan 12 = .ok (.aload_n 0, 1) := by decide +kernel
theorem d_m_plan_13 : decode cc_m_plan 13 = .ok (.getfield 45, 3) := by decide +kernel
theorem d_m_plan_16 : decode cc_m_plan 16 = .ok (.iload_n 2, 1) := by decide +kernel
theorem d_m_plan_17 : decode cc_m_plan 17 = .ok (.iload_n 2, 1) := by decide +kernel
theorem d_m_plan_18 : decode cc_m_plan 18 = .ok (.iastore, 1) := by decide +kernel
theorem d_m_plan_19 : decode cc_m_plan 19 = .ok (.aload_n 0, 1) := by decide +kernel
theorem d_m_plan_20 : decode cc_m_plan 20 = .ok (.getfield 48, 3) := by decide +kernel
theorem d_m_plan_23 : decode cc_m_plan 23 = .ok (.iload_n 2, 1) := by decide +kernel
theorem d_m_plan_24 : decode cc_m_plan 24 = .ok (.iconst 0, 1) := by decide +kernel
theorem d_m_plan_25 : decode cc_m_plan 25 = .ok (.iastore, 1) := by decide +kernel
theorem d_m_plan_26 : decode cc_m_plan 26 = .ok (.aload_n 0, 1) := by decide +kernel
theorem d_m_plan_27 : decode cc_m_plan 27 = .ok (.getfield 51, 3) := by decide +kernel
theorem d_m_plan_30 : decode cc_m_plan 30 = .ok (.iload_n 2, 1) := by decide +kernel
theorem d_m_plan_31 : decode cc_m_plan 31 = .ok (.iconst 0, 1) := by decide +kernel
theorem d_m_plan_32 : decode cc_m_plan 32 = .ok (.iastore, 1) := by decide +kernel
theorem d_m_plan_33 : decode cc_m_plan 33 = .ok (.aload_n 0, 1) := by decide +kernel
theorem d_m_plan_34 : decode cc_m_plan 34 = .ok (.getfield 54, 3) := by decide +kernel
theorem d_m_plan_37 : decode cc_m_plan 37 = .ok (.iload_n 2, 1) := by decide +kernel
theorem d_m_plan_38 : decode cc_m_plan 38 = .ok (.iconst (-1), 1) := by decide +kernel
theorem d_m_plan_39 : decode cc_m_plan 39 = .ok (.iastore, 1) := by decide +kernel
theorem d_m_plan_40 : decode cc_m_plan 40 = .ok (.iconst 0, 1) := by decide +kernel
theorem d_m_plan_41 : decode cc_m_plan 41 = .ok (.istore_n 3, 1) := by decide +kernel
theorem d_m_plan_42 : decode cc_m_plan 42 = .ok (.iload_n 3, 1) := by decide +kernel
theorem d_m_plan_43 : decode cc_m_plan 43 = .ok (.aload_n 0, 1) := by decide +kernel
theorem d_m_plan_44 : decode cc_m_plan 44 = .ok (.getfield 63, 3) := by decide +kernel
theorem d_m_plan_47 : decode cc_m_plan 47 = .ok (.if_icmp .ge 156, 3) := by decide +kernel
theorem d_m_plan_50 : decode cc_m_plan 50 = .ok (.aload_n 0, 1) := by decide +kernel
theorem d_m_plan_51 : decode cc_m_plan 51 = .ok (.getfield 7, 3) := by decide +kernel
theorem d_m_plan_54 : decode cc_m_plan 54 = .ok (.iload_n 3, 1) := by decide +kernel
theorem d_m_plan_55 : decode cc_m_plan 55 = .ok (.iaload, 1) := by decide +kernel
theorem d_m_plan_56 : decode cc_m_plan 56 = .ok (.istore 4, 2) := by decide +kernel
theorem d_m_plan_58 : decode cc_m_plan 58 = .ok (.iload 4, 2) := by decide +kernel
theorem d_m_plan_60 : decode cc_m_plan 60 = .ok (.aload_n 0, 1) := by decide +kernel
theorem d_m_plan_61 : decode cc_m_plan 61 = .ok (.getfield 13, 3) := by decide +kernel
theorem d_m_plan_64 : decode cc_m_plan 64 = .ok (.iload_n 3, 1) := by decide +kernel
theorem d_m_plan_65 : decode cc_m_plan 65 = .ok (.iaload, 1) := by decide +kernel
theorem d_m_plan_66 : decode cc_m_plan 66 = .ok (.if_icmp .gt 131, 3) := by decide +kernel
theorem d_m_plan_69 : decode cc_m_plan 69 = .ok (.iload 4, 2) := by decide +kernel
theorem d_m_plan_71 : decode cc_m_plan 71 = .ok (.iload_n 2, 1) := by decide +kernel
theorem d_m_plan_72 : decode cc_m_plan 72 = .ok (.if_icmp .gt 125, 3) := by decide +kernel
theorem d_m_plan_75 : decode cc_m_plan 75 = .ok (.aload_n 0, 1) := by decide +kernel
theorem d_m_plan_76 : decode cc_m_plan 76 = .ok (.iload_n 2, 1) := by decide +kernel
theorem d_m_plan_77 : decode cc_m_plan 77 = .ok (.aload_n 0, 1) := by decide +kernel
theorem d_m_plan_78 : decode cc_m_plan 78 = .ok (.getfield 45, 3) := by decide +kernel
theorem d_m_plan_81 : decode cc_m_plan 81 = .ok (.iload_n 2, 1) := by decide +kernel
theorem d_m_plan_82 : decode cc_m_plan 82 = .ok (.iload 4, 2) := by decide +kernel
theorem d_m_plan_84 : decode cc_m_plan 84 = .ok (.isub, 1) := by decide +kernel
theorem d_m_plan_85 : decode cc_m_plan 85 = .ok (.iaload, 1) := by decide +kernel
theorem d_m_plan_86 : decode cc_m_plan 86 = .ok (.aload_n 0, 1) := by decide +kernel
theorem d_m_plan_87 : decode cc_m_plan 87 = .ok (.getfield 48, 3) := by decide +kernel
theorem d_m_plan_90 : decode cc_m_plan 90 = .ok (.iload_n 2, 1) := by decide +kernel
theorem d_m_plan_91 : decode cc_m_plan 91 = .ok (.iload 4, 2) := by decide +kernel
theorem d_m_plan_93 : decode cc_m_plan 93 = .ok (.isub, 1) := by decide +kernel
theorem d_m_plan_94 : decode cc_m_plan 94 = .ok (.iaload, 1) := by decide +kernel
theorem d_m_plan_95 : decode cc_m_plan 95 = .ok (.aload_n 0, 1) := by decide +kernel
theorem d_m_plan_96 : decode cc_m_plan 96 = .ok (.getfield 16, 3) := by decide +kernel
theorem d_m_plan_99 : decode cc_m_plan 99 = .ok (.iload_n 3, 1) := by decide +kernel
theorem d_m_plan_100 : decode cc_m_plan 100 = .ok (.iaload, 1) := by decide +kernel
theorem d_m_plan_101 : decode cc_m_plan 101 = .ok (.iadd, 1) := by decide +kernel
theorem d_m_plan_102 : decode cc_m_plan 102 = .ok (.aload_n 0, 1) := by decide +kernel
theorem d_m_plan_103 : decode cc_m_plan 103 = .ok (.getfield 51, 3) := by decide +kernel
theorem d_m_plan_106 : decode cc_m_plan 106 = .ok (.iload_n 2, 1) := by decide +kernel
theorem d_m_plan_107 : decode cc_m_plan 107 = .ok (.iload 4, 2) := by decide +kernel
theorem d_m_plan_109 : decode cc_m_plan 109 = .ok (.isub, 1) := by decide +kernel
theorem d_m_plan_110 : decode cc_m_plan 110 = .ok (.iaload, 1) := by decide +kernel
theorem d_m_plan_111 : decode cc_m_plan 111 = .ok (.iconst 1, 1) := by decide +kernel
theorem d_m_plan_112 : decode cc_m_plan 112 = .ok (.iadd, 1) := by decide +kernel
theorem d_m_plan_113 : decode cc_m_plan 113 = .ok (.invokevirtual 100, 3) := by decide +kernel
theorem d_m_plan_116 : decode cc_m_plan 116 = .ok (.ifCond .ne 6, 3) := by decide +kernel
theorem d_m_plan_119 : decode cc_m_plan 119 = .ok (.goto 72, 3) := by decide +kernel
theorem d_m_plan_122 : decode cc_m_plan 122 = .ok (.aload_n 0, 1) := by decide +kernel
theorem d_m_plan_123 : decode cc_m_plan 123 = .ok (.getfield 45, 3) := by decide +kernel
theorem d_m_plan_126 : decode cc_m_plan 126 = .ok (.iload_n 2, 1) := by decide +kernel
theorem d_m_plan_127 : decode cc_m_plan 127 = .ok (.aload_n 0, 1) := by decide +kernel
theorem d_m_plan_128 : decode cc_m_plan 128 = .ok (.getfield 45, 3) := by decide +kernel
theorem d_m_plan_131 : decode cc_m_plan 131 = .ok (.iload_n 2, 1) := by decide +kernel
theorem d_m_plan_132 : decode cc_m_plan 132 = .ok (.iload 4, 2) := by decide +kernel
theorem d_m_plan_134 : decode cc_m_plan 134 = .ok (.isub, 1) := by decide +kernel
theorem d_m_plan_135 : decode cc_m_plan 135 = .ok (.iaload, 1) := by decide +kernel
theorem d_m_plan_136 : decode cc_m_plan 136 = .ok (.iastore, 1) := by decide +kernel
theorem d_m_plan_137 : decode cc_m_plan 137 = .ok (.aload_n 0, 1) := by decide +kernel
theorem d_m_plan_138 : decode cc_m_plan 138 = .ok (.getfield 48, 3) := by decide +kernel
theorem d_m_plan_141 : decode cc_m_plan 141 = .ok (.iload_n 2, 1) := by decide +kernel
theorem d_m_plan_142 : decode cc_m_plan 142 = .ok (.aload_n 0, 1) := by decide +kernel
theorem d_m_plan_143 : decode cc_m_plan 143 = .ok (.getfield 48, 3) := by decide +kernel
theorem d_m_plan_146 : decode cc_m_plan 146 = .ok (.iload_n 2, 1) := by decide +kernel
theorem d_m_plan_147 : decode cc_m_plan 147 = .ok (.iload 4, 2) := by decide +kernel
theorem d_m_plan_149 : decode cc_m_plan 149 = .ok (.isub, 1) := by decide +kernel
theorem d_m_plan_150 : decode cc_m_plan 150 = .ok (.iaload, 1) := by decide +kernel
theorem d_m_plan_151 : decode cc_m_plan 151 = .ok (.aload_n 0, 1) := by decide +kernel
theorem d_m_plan_152 : decode cc_m_plan 152 = .ok (.getfield 16, 3) := by decide +kernel
theorem d_m_plan_155 : decode cc_m_plan 155 = .ok (.iload_n 3, 1) := by decide +kernel
theorem d_m_plan_156 : decode cc_m_plan 156 = .ok (.iaload, 1) := by decide +kernel
theorem d_m_plan_157 : decode cc_m_plan 157 = .ok (.iadd, 1) := by decide +kernel
theorem d_m_plan_158 : decode cc_m_plan 158 = .ok (.iastore, 1) := by decide +kernel
theorem d_m_plan_159 : decode cc_m_plan 159 = .ok (.aload_n 0, 1) := by decide +kernel
theorem d_m_plan_160 : decode cc_m_plan 160 = .ok (.getfield 51, 3) := by decide +kernel
theorem d_m_plan_163 : decode cc_m_plan 163 = .ok (.iload_n 2, 1) := by decide +kernel
theorem d_m_plan_164 : decode cc_m_plan 164 = .ok (.aload_n 0, 1) := by decide +kernel
theorem d_m_plan_165 : decode cc_m_plan 165 = .ok (.getfield 51, 3) := by decide +kernel
theorem d_m_plan_168 : decode cc_m_plan 168 = .ok (.iload_n 2, 1) := by decide +kernel
theorem d_m_plan_169 : decode cc_m_plan 169 = .ok (.iload 4, 2) := by decide +kernel
theorem d_m_plan_171 : decode cc_m_plan 171 = .ok (.isub, 1) := by decide +kernel
theorem d_m_plan_172 : decode cc_m_plan 172 = .ok (.iaload, 1) := by decide +kernel
theorem d_m_plan_173 : decode cc_m_plan 173 = .ok (.iconst 1, 1) := by decide +kernel
theorem d_m_plan_174 : decode cc_m_plan 174 = .ok (.iadd, 1) := by decide +kernel
theorem d_m_plan_175 : decode cc_m_plan 175 = .ok (.iastore, 1) := by decide +kernel
theorem d_m_plan_176 : decode cc_m_plan 176 = .ok (.aload_n 0, 1) := by decide +kernel
theorem d_m_plan_177 : decode cc_m_plan 177 = .ok (.getfield 54, 3) := by decide +kernel
theorem d_m_plan_180 : decode cc_m_plan 180 = .ok (.iload_n 2, 1) := by decide +kernel
theorem d_m_plan_181 : decode cc_m_plan 181 = .ok (.iload_n 3, 1) := by decide +kernel
theorem d_m_plan_182 : decode cc_m_plan 182 = .ok (.iastore, 1) := by decide +kernel
theorem d_m_plan_183 : decode cc_m_plan 183 = .ok (.aload_n 0, 1) := by decide +kernel
theorem d_m_plan_184 : decode cc_m_plan 184 = .ok (.getfield 57, 3) := by decide +kernel
theorem d_m_plan_187 : decode cc_m_plan 187 = .ok (.iload_n 2, 1) := by decide +kernel
theorem d_m_plan_188 : decode cc_m_plan 188 = .ok (.iload 4, 2) := by decide +kernel
theorem d_m_plan_190 : decode cc_m_plan 190 = .ok (.iastore, 1) := by decide +kernel
theorem d_m_plan_191 : decode cc_m_plan 191 = .ok (.iinc 4 1, 3) := by decide +kernel
theorem d_m_plan_194 : decode cc_m_plan 194 = .ok (.goto (-136), 3) := by decide +kernel
theorem d_m_plan_197 : decode cc_m_plan 197 = .ok (.iinc 3 1, 3) := by decide +kernel
theorem d_m_plan_200 : decode cc_m_plan 200 = .ok (.goto (-158), 3) := by decide +kernel
theorem d_m_plan_203 : decode cc_m_plan 203 = .ok (.iinc 2 1, 3) := by decide +kernel
theorem d_m_plan_206 : decode cc_m_plan 206 = .ok (.goto (-199), 3) := by decide +kernel
theorem d_m_plan_209 : decode cc_m_plan 209 = .ok (.return_, 1) := by decide +kernel
theorem d_m_pieces_0 : decode cc_m_pieces 0 = .ok (.aload_n 0, 1) := by decide +kernel
theorem d_m_pieces_1 : decode cc_m_pieces 1 = .ok (.iconst 0, 1) := by decide +kernel
theorem d_m_pieces_2 : decode cc_m_pieces 2 = .ok (.putfield 60, 3) := by decide +kernel
theorem d_m_pieces_5 : decode cc_m_pieces 5 = .ok (.aload_n 0, 1) := by decide +kernel
theorem d_m_pieces_6 : decode cc_m_pieces 6 = .ok (.invokevirtual 104, 3) := by decide +kernel
theorem d_m_pieces_9 : decode cc_m_pieces 9 = .ok (.aload_n 0, 1) := by decide +kernel
theorem d_m_pieces_10 : decode cc_m_pieces 10 = .ok (.getfield 73, 3) := by decide +kernel
theorem d_m_pieces_13 : decode cc_m_pieces 13 = .ok (.aload_n 0, 1) := by decide +kernel
theorem d_m_pieces_14 : decode cc_m_pieces 14 = .ok (.getfield 70, 3) := by decide +kernel
theorem d_m_pieces_17 : decode cc_m_pieces 17 = .ok (.isub, 1) := by decide +kernel
theorem d_m_pieces_18 : decode cc_m_pieces 18 = .ok (.aload_n 0, 1) := by decide +kernel
theorem d_m_pieces_19 : decode cc_m_pieces 19 = .ok (.getfield 51, 3) := by decide +kernel
theorem d_m_pieces_22 : decode cc_m_pieces 22 = .ok (.aload_n 0, 1) := by decide +kernel
theorem d_m_pieces_23 : decode cc_m_pieces 23 = .ok (.invokevirtual 97, 3) := by decide +kernel
theorem d_m_pieces_26 : decode cc_m_pieces 26 = .ok (.iaload, 1) := by decide +kernel
theorem d_m_pieces_27 : decode cc_m_pieces 27 = .ok (.iadd, 1) := by decide +kernel
theorem d_m_pieces_28 : decode cc_m_pieces 28 = .ok (.ireturn, 1) := by decide +kernel
theorem d_m_finds_0 : decode cc_m_finds 0 = .ok (.iload_n 1, 1) := by decide +kernel
theorem d_m_finds_1 : decode cc_m_finds 1 = .ok (.ifCond .ge 5, 3) := by decide +kernel
theorem d_m_finds_4 : decode cc_m_finds 4 = .ok (.iconst 0, 1) := by decide +kernel
theorem d_m_finds_5 : decode cc_m_finds 5 = .ok (.ireturn, 1) := by decide +kernel
theorem d_m_finds_6 : decode cc_m_finds 6 = .ok (.aload_n 0, 1) := by decide +kernel
theorem d_m_finds_7 : decode cc_m_finds 7 = .ok (.aload_n 0, 1) := by decide +kernel
theorem d_m_finds_8 : decode cc_m_finds 8 = .ok (.getfield 79, 3) := by decide +kernel
theorem d_m_finds_11 : decode cc_m_finds 11 = .ok (.putfield 107, 3) := by decide +kernel
theorem d_m_finds_14 : decode cc_m_finds 14 = .ok (.aload_n 0, 1) := by decide +kernel
theorem d_m_finds_15 : decode cc_m_finds 15 = .ok (.getfield 70, 3) := by decide +kernel
theorem d_m_finds_18 : decode cc_m_finds 18 = .ok (.istore_n 2, 1) := by decide +kernel
theorem d_m_finds_19 : decode cc_m_finds 19 = .ok (.iload_n 2, 1) := by decide +kernel
theorem d_m_finds_20 : decode cc_m_finds 20 = .ok (.aload_n 0, 1) := by decide +kernel
theorem d_m_finds_21 : decode cc_m_finds 21 = .ok (.getfield 73, 3) := by decide +kernel
theorem d_m_finds_24 : decode cc_m_finds 24 = .ok (.if_icmp .ge 56, 3) := by decide +kernel
theorem d_m_finds_27 : decode cc_m_finds 27 = .ok (.aload_n 0, 1) := by decide +kernel
theorem d_m_finds_28 : decode cc_m_finds 28 = .ok (.aload_n 0, 1) := by decide +kernel
theorem d_m_finds_29 : decode cc_m_finds 29 = .ok (.getfield 29, 3) := by decide +kernel
theorem d_m_finds_32 : decode cc_m_finds 32 = .ok (.iload_n 2, 1) := by decide +kernel
theorem d_m_finds_33 : decode cc_m_finds 33 = .ok (.iaload, 1) := by decide +kernel
theorem d_m_finds_34 : decode cc_m_finds 34 = .ok (.putfield 110, 3) := by decide +kernel
theorem d_m_finds_37 : decode cc_m_finds 37 = .ok (.aload_n 0, 1) := by decide +kernel
theorem d_m_finds_38 : decode cc_m_finds 38 = .ok (.aload_n 0, 1) := by decide +kernel
theorem d_m_finds_39 : decode cc_m_finds 39 = .ok (.getfield 32, 3) := by decide +kernel
theorem d_m_finds_42 : decode cc_m_finds 42 = .ok (.iload_n 2, 1) := by decide +kernel
theorem d_m_finds_43 : decode cc_m_finds 43 = .ok (.iaload, 1) := by decide +kernel
theorem d_m_finds_44 : decode cc_m_finds 44 = .ok (.putfield 113, 3) := by decide +kernel
theorem d_m_finds_47 : decode cc_m_finds 47 = .ok (.iload_n 2, 1) := by decide +kernel
theorem d_m_finds_48 : decode cc_m_finds 48 = .ok (.aload_n 0, 1) := by decide +kernel
theorem d_m_finds_49 : decode cc_m_finds 49 = .ok (.getfield 70, 3) := by decide +kernel
theorem d_m_finds_52 : decode cc_m_finds 52 = .ok (.isub, 1) := by decide +kernel
theorem d_m_finds_53 : decode cc_m_finds 53 = .ok (.iload_n 1, 1) := by decide +kernel
theorem d_m_finds_54 : decode cc_m_finds 54 = .ok (.if_icmp .ne 5, 3) := by decide +kernel
theorem d_m_finds_57 : decode cc_m_finds 57 = .ok (.iconst 1, 1) := by decide +kernel
theorem d_m_finds_58 : decode cc_m_finds 58 = .ok (.ireturn, 1) := by decide +kernel
theorem d_m_finds_59 : decode cc_m_finds 59 = .ok (.aload_n 0, 1) := by decide +kernel
theorem d_m_finds_60 : decode cc_m_finds 60 = .ok (.aload_n 0, 1) := by decide +kernel
theorem d_m_finds_61 : decode cc_m_finds 61 = .ok (.getfield 107, 3) := by decide +kernel
theorem d_m_finds_64 : decode cc_m_finds 64 = .ok (.aload_n 0, 1) := by decide +kernel
theorem d_m_finds_65 : decode cc_m_finds 65 = .ok (.getfield 32, 3) := by decide +kernel
theorem d_m_finds_68 : decode cc_m_finds 68 = .ok (.iload_n 2, 1) := by decide +kernel
theorem d_m_finds_69 : decode cc_m_finds 69 = .ok (.iaload, 1) := by decide +kernel
theorem d_m_finds_70 : decode cc_m_finds 70 = .ok (.iadd, 1) := by decide +kernel
theorem d_m_finds_71 : decode cc_m_finds 71 = .ok (.putfield 107, 3) := by decide +kernel
theorem d_m_finds_74 : decode cc_m_finds 74 = .ok (.iinc 2 1, 3) := by decide +kernel
theorem d_m_finds_77 : decode cc_m_finds 77 = .ok (.goto (-58), 3) := by decide +kernel
theorem d_m_finds_80 : decode cc_m_finds 80 = .ok (.aload_n 0, 1) := by decide +kernel
theorem d_m_finds_81 : decode cc_m_finds 81 = .ok (.invokevirtual 104, 3) := by decide +kernel
theorem d_m_finds_84 : decode cc_m_finds 84 = .ok (.aload_n 0, 1) := by decide +kernel
theorem d_m_finds_85 : decode cc_m_finds 85 = .ok (.invokevirtual 97, 3) := by decide +kernel
theorem d_m_finds_88 : decode cc_m_finds 88 = .ok (.istore_n 2, 1) := by decide +kernel
theorem d_m_finds_89 : decode cc_m_finds 89 = .ok (.aload_n 0, 1) := by decide +kernel
theorem d_m_finds_90 : decode cc_m_finds 90 = .ok (.getfield 73, 3) := by decide +kernel
theorem d_m_finds_93 : decode cc_m_finds 93 = .ok (.aload_n 0, 1) := by decide +kernel
theorem d_m_finds_94 : decode cc_m_finds 94 = .ok (.getfield 70, 3) := by decide +kernel
theorem d_m_finds_97 : decode cc_m_finds 97 = .ok (.isub, 1) := by decide +kernel
theorem d_m_finds_98 : decode cc_m_finds 98 = .ok (.istore_n 3, 1) := by decide +kernel
theorem d_m_finds_99 : decode cc_m_finds 99 = .ok (.aload_n 0, 1) := by decide +kernel
theorem d_m_finds_100 : decode cc_m_finds 100 = .ok (.getfield 54, 3) := by decide +kernel
theorem d_m_finds_103 : decode cc_m_finds 103 = .ok (.iload_n 2, 1) := by decide +kernel
theorem d_m_finds_104 : decode cc_m_finds 104 = .ok (.iaload, 1) := by decide +kernel
theorem d_m_finds_105 : decode cc_m_finds 105 = .ok (.ifCond .lt 60, 3) := by decide +kernel
theorem d_m_finds_108 : decode cc_m_finds 108 = .ok (.aload_n 0, 1) := by decide +kernel
theorem d_m_finds_109 : decode cc_m_finds 109 = .ok (.aload_n 0, 1) := by decide +kernel
theorem d_m_finds_110 : decode cc_m_finds 110 = .ok (.getfield 54, 3) := by decide +kernel
theorem d_m_finds_113 : decode cc_m_finds 113 = .ok (.iload_n 2, 1) := by decide +kernel
theorem d_m_finds_114 : decode cc_m_finds 114 = .ok (.iaload, 1) := by decide +kernel
theorem d_m_finds_115 : decode cc_m_finds 115 = .ok (.putfield 110, 3) := by decide +kernel
theorem d_m_finds_118 : decode cc_m_finds 118 = .ok (.aload_n 0, 1) := by decide +kernel
theorem d_m_finds_119 : decode cc_m_finds 119 = .ok (.aload_n 0, 1) := by decide +kernel
theorem d_m_finds_120 : decode cc_m_finds 120 = .ok (.getfield 57, 3) := by decide +kernel
theorem d_m_finds_123 : decode cc_m_finds 123 = .ok (.iload_n 2, 1) := by decide +kernel
theorem d_m_finds_124 : decode cc_m_finds 124 = .ok (.iaload, 1) := by decide +kernel
theorem d_m_finds_125 : decode cc_m_finds 125 = .ok (.putfield 113, 3) := by decide +kernel
theorem d_m_finds_128 : decode cc_m_finds 128 = .ok (.iload_n 3, 1) := by decide +kernel
theorem d_m_finds_129 : decode cc_m_finds 129 = .ok (.iload_n 1, 1) := by decide +kernel
theorem d_m_finds_130 : decode cc_m_finds 130 = .ok (.if_icmp .ne 5, 3) := by decide +kernel
theorem d_m_finds_133 : decode cc_m_finds 133 = .ok (.iconst 1, 1) := by decide +kernel
theorem d_m_finds_134 : decode cc_m_finds 134 = .ok (.ireturn, 1) := by decide +kernel
theorem d_m_finds_135 : decode cc_m_finds 135 = .ok (.aload_n 0, 1) := by decide +kernel
theorem d_m_finds_136 : decode cc_m_finds 136 = .ok (.aload_n 0, 1) := by decide +kernel
theorem d_m_finds_137 : decode cc_m_finds 137 = .ok (.getfield 107, 3) := by decide +kernel
theorem d_m_finds_140 : decode cc_m_finds 140 = .ok (.aload_n 0, 1) := by decide +kernel
theorem d_m_finds_141 : decode cc_m_finds 141 = .ok (.getfield 57, 3) := by decide +kernel
theorem d_m_finds_144 : decode cc_m_finds 144 = .ok (.iload_n 2, 1) := by decide +kernel
theorem d_m_finds_145 : decode cc_m_finds 145 = .ok (.iaload, 1) := by decide +kernel
theorem d_m_finds_146 : decode cc_m_finds 146 = .ok (.iadd, 1) := by decide +kernel
theorem d_m_finds_147 : decode cc_m_finds 147 = .ok (.putfield 107, 3) := by decide +kernel
theorem d_m_finds_150 : decode cc_m_finds 150 = .ok (.iload_n 2, 1) := by decide +kernel
theorem d_m_finds_151 : decode cc_m_finds 151 = .ok (.aload_n 0, 1) := by decide +kernel
theorem d_m_finds_152 : decode cc_m_finds 152 = .ok (.getfield 57, 3) := by decide +kernel
theorem d_m_finds_155 : decode cc_m_finds 155 = .ok (.iload_n 2, 1) := by decide +kernel
theorem d_m_finds_156 : decode cc_m_finds 156 = .ok (.iaload, 1) := by decide +kernel
theorem d_m_finds_157 : decode cc_m_finds 157 = .ok (.isub, 1) := by decide +kernel
theorem d_m_finds_158 : decode cc_m_finds 158 = .ok (.istore_n 2, 1) := by decide +kernel
theorem d_m_finds_159 : decode cc_m_finds 159 = .ok (.iinc 3 1, 3) := by decide +kernel
theorem d_m_finds_162 : decode cc_m_finds 162 = .ok (.goto (-63), 3) := by decide +kernel
theorem d_m_finds_165 : decode cc_m_finds 165 = .ok (.iconst 0, 1) := by decide +kernel
theorem d_m_finds_166 : decode cc_m_finds 166 = .ok (.ireturn, 1) := by decide +kernel
theorem d_m_piece_0 : decode cc_m_piece 0 = .ok (.aload_n 0, 1) := by decide +kernel
theorem d_m_piece_1 : decode cc_m_piece 1 = .ok (.aload_n 0, 1) := by decide +kernel
theorem d_m_piece_2 : decode cc_m_piece 2 = .ok (.iload_n 1, 1) := by decide +kernel
theorem d_m_piece_3 : decode cc_m_piece 3 = .ok (.invokevirtual 116, 3) := by decide +kernel
theorem d_m_piece_6 : decode cc_m_piece 6 = .ok (.ifCond .eq 16, 3) := by decide +kernel
theorem d_m_piece_9 : decode cc_m_piece 9 = .ok (.iload_n 2, 1) := by decide +kernel
theorem d_m_piece_10 : decode cc_m_piece 10 = .ok (.iconst 0, 1) := by decide +kernel
theorem d_m_piece_11 : decode cc_m_piece 11 = .ok (.iconst 3, 1) := by decide +kernel
theorem d_m_piece_12 : decode cc_m_piece 12 = .ok (.invokestatic 66, 3) := by decide +kernel
theorem d_m_piece_15 : decode cc_m_piece 15 = .ok (.ifCond .eq 7, 3) := by decide +kernel
theorem d_m_piece_18 : decode cc_m_piece 18 = .ok (.iconst 1, 1) := by decide +kernel
theorem d_m_piece_19 : decode cc_m_piece 19 = .ok (.goto 4, 3) := by decide +kernel
theorem d_m_piece_22 : decode cc_m_piece 22 = .ok (.iconst 0, 1) := by decide +kernel
theorem d_m_piece_23 : decode cc_m_piece 23 = .ok (.iconst 1, 1) := by decide +kernel
theorem d_m_piece_24 : decode cc_m_piece 24 = .ok (.iconst 1, 1) := by decide +kernel
theorem d_m_piece_25 : decode cc_m_piece 25 = .ok (.invokevirtual 93, 3) := by decide +kernel
theorem d_m_piece_28 : decode cc_m_piece 28 = .ok (.ifCond .ne 5, 3) := by decide +kernel
theorem d_m_piece_31 : decode cc_m_piece 31 = .ok (.iconst 0, 1) := by decide +kernel
theorem d_m_piece_32 : decode cc_m_piece 32 = .ok (.ireturn, 1) := by decide +kernel
theorem d_m_piece_33 : decode cc_m_piece 33 = .ok (.iload_n 2, 1) := by decide +kernel
theorem d_m_piece_34 : decode cc_m_piece 34 = .ok (.ifCond .ne 10, 3) := by decide +kernel
theorem d_m_piece_37 : decode cc_m_piece 37 = .ok (.aload_n 0, 1) := by decide +kernel
theorem d_m_piece_38 : decode cc_m_piece 38 = .ok (.getfield 110, 3) := by decide +kernel
theorem d_m_piece_41 : decode cc_m_piece 41 = .ok (.goto 45, 3) := by decide +kernel
theorem d_m_piece_44 : decode cc_m_piece 44 = .ok (.iload_n 2, 1) := by decide +kernel
theorem d_m_piece_45 : decode cc_m_piece 45 = .ok (.iconst 1, 1) := by decide +kernel
theorem d_m_piece_46 : decode cc_m_piece 46 = .ok (.if_icmp .ne 10, 3) := by decide +kernel
theorem d_m_piece_49 : decode cc_m_piece 49 = .ok (.aload_n 0, 1) := by decide +kernel
theorem d_m_piece_50 : decode cc_m_piece 50 = .ok (.getfield 107, 3) := by decide +kernel
theorem d_m_piece_53 : decode cc_m_piece 53 = .ok (.goto 33, 3) := by decide +kernel
theorem d_m_piece_56 : decode cc_m_piece 56 = .ok (.iload_n 2, 1) := by decide +kernel
theorem d_m_piece_57 : decode cc_m_piece 57 = .ok (.iconst 2, 1) := by decide +kernel
theorem d_m_piece_58 : decode cc_m_piece 58 = .ok (.if_icmp .ne 10, 3) := by decide +kernel
theorem d_m_piece_61 : decode cc_m_piece 61 = .ok (.aload_n 0, 1) := by decide +kernel
theorem d_m_piece_62 : decode cc_m_piece 62 = .ok (.getfield 113, 3) := by decide +kernel
theorem d_m_piece_65 : decode cc_m_piece 65 = .ok (.goto 21, 3) := by decide +kernel
theorem d_m_piece_68 : decode cc_m_piece 68 = .ok (.iload_n 1, 1) := by decide +kernel
theorem d_m_piece_69 : decode cc_m_piece 69 = .ok (.aload_n 0, 1) := by decide +kernel
theorem d_m_piece_70 : decode cc_m_piece 70 = .ok (.getfield 73, 3) := by decide +kernel
theorem d_m_piece_73 : decode cc_m_piece 73 = .ok (.aload_n 0, 1) := by decide +kernel
theorem d_m_piece_74 : decode cc_m_piece 74 = .ok (.getfield 70, 3) := by decide +kernel
theorem d_m_piece_77 : decode cc_m_piece 77 = .ok (.isub, 1) := by decide +kernel
theorem d_m_piece_78 : decode cc_m_piece 78 = .ok (.if_icmp .ge 7, 3) := by decide +kernel
theorem d_m_piece_81 : decode cc_m_piece 81 = .ok (.iconst 1, 1) := by decide +kernel
theorem d_m_piece_82 : decode cc_m_piece 82 = .ok (.goto 4, 3) := by decide +kernel
theorem d_m_piece_85 : decode cc_m_piece 85 = .ok (.iconst 0, 1) := by decide +kernel
theorem d_m_piece_86 : decode cc_m_piece 86 = .ok (.ireturn, 1) := by decide +kernel
theorem d_m_loss_0 : decode cc_m_loss 0 = .ok (.aload_n 0, 1) := by decide +kernel
theorem d_m_loss_1 : decode cc_m_loss 1 = .ok (.iconst 0, 1) := by decide +kernel
theorem d_m_loss_2 : decode cc_m_loss 2 = .ok (.putfield 60, 3) := by decide +kernel
theorem d_m_loss_5 : decode cc_m_loss 5 = .ok (.aload_n 0, 1) := by decide +kernel
theorem d_m_loss_6 : decode cc_m_loss 6 = .ok (.invokevirtual 104, 3) := by decide +kernel
theorem d_m_loss_9 : decode cc_m_loss 9 = .ok (.aload_n 0, 1) := by decide +kernel
theorem d_m_loss_10 : decode cc_m_loss 10 = .ok (.getfield 45, 3) := by decide +kernel
theorem d_m_loss_13 : decode cc_m_loss 13 = .ok (.aload_n 0, 1) := by decide +kernel
theorem d_m_loss_14 : decode cc_m_loss 14 = .ok (.invokevirtual 97, 3) := by decide +kernel
theorem d_m_loss_17 : decode cc_m_loss 17 = .ok (.iaload, 1) := by decide +kernel
theorem d_m_loss_18 : decode cc_m_loss 18 = .ok (.ireturn, 1) := by decide +kernel
theorem d_m_lying_0 : decode cc_m_lying 0 = .ok (.iconst 0, 1) := by decide +kernel
theorem d_m_lying_1 : decode cc_m_lying 1 = .ok (.istore_n 2, 1) := by decide +kernel
theorem d_m_lying_2 : decode cc_m_lying 2 = .ok (.iload_n 2, 1) := by decide +kernel
theorem d_m_lying_3 : decode cc_m_lying 3 = .ok (.aload_n 0, 1) := by decide +kernel
theorem d_m_lying_4 : decode cc_m_lying 4 = .ok (.getfield 73, 3) := by decide +kernel
theorem d_m_lying_7 : decode cc_m_lying 7 = .ok (.if_icmp .ge 21, 3) := by decide +kernel
theorem d_m_lying_10 : decode cc_m_lying 10 = .ok (.aload_n 0, 1) := by decide +kernel
theorem d_m_lying_11 : decode cc_m_lying 11 = .ok (.getfield 35, 3) := by decide +kernel
theorem d_m_lying_14 : decode cc_m_lying 14 = .ok (.iload_n 2, 1) := by decide +kernel
theorem d_m_lying_15 : decode cc_m_lying 15 = .ok (.iaload, 1) := by decide +kernel
theorem d_m_lying_16 : decode cc_m_lying 16 = .ok (.iload_n 1, 1) := by decide +kernel
theorem d_m_lying_17 : decode cc_m_lying 17 = .ok (.if_icmp .ne 5, 3) := by decide +kernel
theorem d_m_lying_20 : decode cc_m_lying 20 = .ok (.iload_n 2, 1) := by decide +kernel
theorem d_m_lying_21 : decode cc_m_lying 21 = .ok (.ireturn, 1) := by decide +kernel
theorem d_m_lying_22 : decode cc_m_lying 22 = .ok (.iinc 2 1, 3) := by decide +kernel
theorem d_m_lying_25 : decode cc_m_lying 25 = .ok (.goto (-23), 3) := by decide +kernel
theorem d_m_lying_28 : decode cc_m_lying 28 = .ok (.iconst (-1), 1) := by decide +kernel
theorem d_m_lying_29 : decode cc_m_lying 29 = .ok (.ireturn, 1) := by decide +kernel
theorem d_m_cut_0 : decode cc_m_cut 0 = .ok (.aload_n 0, 1) := by decide +kernel
theorem d_m_cut_1 : decode cc_m_cut 1 = .ok (.aload_n 0, 1) := by decide +kernel
theorem d_m_cut_2 : decode cc_m_cut 2 = .ok (.getfield 73, 3) := by decide +kernel
theorem d_m_cut_5 : decode cc_m_cut 5 = .ok (.aload_n 0, 1) := by decide +kernel
theorem d_m_cut_6 : decode cc_m_cut 6 = .ok (.getfield 70, 3) := by decide +kernel
theorem d_m_cut_9 : decode cc_m_cut 9 = .ok (.isub, 1) := by decide +kernel
theorem d_m_cut_10 : decode cc_m_cut 10 = .ok (.invokevirtual 116, 3) := by decide +kernel
theorem d_m_cut_13 : decode cc_m_cut 13 = .ok (.istore_n 1, 1) := by decide +kernel
theorem d_m_cut_14 : decode cc_m_cut 14 = .ok (.aload_n 0, 1) := by decide +kernel
theorem d_m_cut_15 : decode cc_m_cut 15 = .ok (.iload_n 1, 1) := by decide +kernel
theorem d_m_cut_16 : decode cc_m_cut 16 = .ok (.aload_n 0, 1) := by decide +kernel
theorem d_m_cut_17 : decode cc_m_cut 17 = .ok (.getfield 73, 3) := by decide +kernel
theorem d_m_cut_20 : decode cc_m_cut 20 = .ok (.sipush 300, 3) := by decide +kernel
theorem d_m_cut_23 : decode cc_m_cut 23 = .ok (.if_icmp .ge 7, 3) := by decide +kernel
theorem d_m_cut_26 : decode cc_m_cut 26 = .ok (.iconst 1, 1) := by decide +kernel
theorem d_m_cut_27 : decode cc_m_cut 27 = .ok (.goto 4, 3) := by decide +kernel
theorem d_m_cut_30 : decode cc_m_cut 30 = .ok (.iconst 0, 1) := by decide +kernel
theorem d_m_cut_31 : decode cc_m_cut 31 = .ok (.iconst 1, 1) := by decide +kernel
theorem d_m_cut_32 : decode cc_m_cut 32 = .ok (.invokevirtual 93, 3) := by decide +kernel
theorem d_m_cut_35 : decode cc_m_cut 35 = .ok (.ifCond .ne 5, 3) := by decide +kernel
theorem d_m_cut_38 : decode cc_m_cut 38 = .ok (.iconst 0, 1) := by decide +kernel
theorem d_m_cut_39 : decode cc_m_cut 39 = .ok (.ireturn, 1) := by decide +kernel
theorem d_m_cut_40 : decode cc_m_cut 40 = .ok (.iconst 0, 1) := by decide +kernel
theorem d_m_cut_41 : decode cc_m_cut 41 = .ok (.istore_n 2, 1) := by decide +kernel
theorem d_m_cut_42 : decode cc_m_cut 42 = .ok (.iload_n 2, 1) := by decide +kernel
theorem d_m_cut_43 : decode cc_m_cut 43 = .ok (.aload_n 0, 1) := by decide +kernel
theorem d_m_cut_44 : decode cc_m_cut 44 = .ok (.getfield 23, 3) := by decide +kernel
theorem d_m_cut_47 : decode cc_m_cut 47 = .ok (.if_icmp .ge 17, 3) := by decide +kernel
theorem d_m_cut_50 : decode cc_m_cut 50 = .ok (.aload_n 0, 1) := by decide +kernel
theorem d_m_cut_51 : decode cc_m_cut 51 = .ok (.iload_n 2, 1) := by decide +kernel
theorem d_m_cut_52 : decode cc_m_cut 52 = .ok (.invokevirtual 120, 3) := by decide +kernel
theorem d_m_cut_55 : decode cc_m_cut 55 = .ok (.ifCond .lt 9, 3) := by decide +kernel
theorem d_m_cut_58 : decode cc_m_cut 58 = .ok (.iinc 2 1, 3) := by decide +kernel
theorem d_m_cut_61 : decode cc_m_cut 61 = .ok (.goto (-19), 3) := by decide +kernel
theorem d_m_cut_64 : decode cc_m_cut 64 = .ok (.iload_n 2, 1) := by decide +kernel
theorem d_m_cut_65 : decode cc_m_cut 65 = .ok (.aload_n 0, 1) := by decide +kernel
theorem d_m_cut_66 : decode cc_m_cut 66 = .ok (.getfield 23, 3) := by decide +kernel
theorem d_m_cut_69 : decode cc_m_cut 69 = .ok (.if_icmp .eq 14, 3) := by decide +kernel
theorem d_m_cut_72 : decode cc_m_cut 72 = .ok (.aload_n 0, 1) := by decide +kernel
theorem d_m_cut_73 : decode cc_m_cut 73 = .ok (.getfield 113, 3) := by decide +kernel
theorem d_m_cut_76 : decode cc_m_cut 76 = .ok (.aload_n 0, 1) := by decide +kernel
theorem d_m_cut_77 : decode cc_m_cut 77 = .ok (.getfield 26, 3) := by decide +kernel
theorem d_m_cut_80 : decode cc_m_cut 80 = .ok (.if_icmp .le 5, 3) := by decide +kernel
theorem d_m_cut_83 : decode cc_m_cut 83 = .ok (.iconst (-1), 1) := by decide +kernel
theorem d_m_cut_84 : decode cc_m_cut 84 = .ok (.istore_n 2, 1) := by decide +kernel
theorem d_m_cut_85 : decode cc_m_cut 85 = .ok (.aload_n 0, 1) := by decide +kernel
theorem d_m_cut_86 : decode cc_m_cut 86 = .ok (.getfield 29, 3) := by decide +kernel
theorem d_m_cut_89 : decode cc_m_cut 89 = .ok (.aload_n 0, 1) := by decide +kernel
theorem d_m_cut_90 : decode cc_m_cut 90 = .ok (.getfield 73, 3) := by decide +kernel
theorem d_m_cut_93 : decode cc_m_cut 93 = .ok (.aload_n 0, 1) := by decide +kernel
theorem d_m_cut_94 : decode cc_m_cut 94 = .ok (.getfield 110, 3) := by decide +kernel
theorem d_m_cut_97 : decode cc_m_cut 97 = .ok (.iastore, 1) := by decide +kernel
theorem d_m_cut_98 : decode cc_m_cut 98 = .ok (.aload_n 0, 1) := by decide +kernel
theorem d_m_cut_99 : decode cc_m_cut 99 = .ok (.getfield 32, 3) := by decide +kernel
theorem d_m_cut_102 : decode cc_m_cut 102 = .ok (.aload_n 0, 1) := by decide +kernel
theorem d_m_cut_103 : decode cc_m_cut 103 = .ok (.getfield 73, 3) := by decide +kernel
theorem d_m_cut_106 : decode cc_m_cut 106 = .ok (.aload_n 0, 1) := by decide +kernel
theorem d_m_cut_107 : decode cc_m_cut 107 = .ok (.getfield 113, 3) := by decide +kernel
theorem d_m_cut_110 : decode cc_m_cut 110 = .ok (.iastore, 1) := by decide +kernel
theorem d_m_cut_111 : decode cc_m_cut 111 = .ok (.aload_n 0, 1) := by decide +kernel
theorem d_m_cut_112 : decode cc_m_cut 112 = .ok (.getfield 35, 3) := by decide +kernel
theorem d_m_cut_115 : decode cc_m_cut 115 = .ok (.aload_n 0, 1) := by decide +kernel
theorem d_m_cut_116 : decode cc_m_cut 116 = .ok (.getfield 73, 3) := by decide +kernel
theorem d_m_cut_119 : decode cc_m_cut 119 = .ok (.iload_n 2, 1) := by decide +kernel
theorem d_m_cut_120 : decode cc_m_cut 120 = .ok (.iastore, 1) := by decide +kernel
theorem d_m_cut_121 : decode cc_m_cut 121 = .ok (.aload_n 0, 1) := by decide +kernel
theorem d_m_cut_122 : decode cc_m_cut 122 = .ok (.getfield 38, 3) := by decide +kernel
theorem d_m_cut_125 : decode cc_m_cut 125 = .ok (.aload_n 0, 1) := by decide +kernel
theorem d_m_cut_126 : decode cc_m_cut 126 = .ok (.getfield 73, 3) := by decide +kernel
theorem d_m_cut_129 : decode cc_m_cut 129 = .ok (.iconst (-1), 1) := by decide +kernel
theorem d_m_cut_130 : decode cc_m_cut 130 = .ok (.iastore, 1) := by decide +kernel
theorem d_m_cut_131 : decode cc_m_cut 131 = .ok (.aload_n 0, 1) := by decide +kernel
theorem d_m_cut_132 : decode cc_m_cut 132 = .ok (.getfield 41, 3) := by decide +kernel
theorem d_m_cut_135 : decode cc_m_cut 135 = .ok (.aload_n 0, 1) := by decide +kernel
theorem d_m_cut_136 : decode cc_m_cut 136 = .ok (.getfield 73, 3) := by decide +kernel
theorem d_m_cut_139 : decode cc_m_cut 139 = .ok (.iload_n 2, 1) := by decide +kernel
theorem d_m_cut_140 : decode cc_m_cut 140 = .ok (.iconst (-1), 1) := by decide +kernel
theorem d_m_cut_141 : decode cc_m_cut 141 = .ok (.if_icmp .ne 7, 3) := by decide +kernel
theorem d_m_cut_144 : decode cc_m_cut 144 = .ok (.iconst 1, 1) := by decide +kernel
theorem d_m_cut_145 : decode cc_m_cut 145 = .ok (.goto 4, 3) := by decide +kernel
theorem d_m_cut_148 : decode cc_m_cut 148 = .ok (.iconst 0, 1) := by decide +kernel
theorem d_m_cut_149 : decode cc_m_cut 149 = .ok (.bastore, 1) := by decide +kernel
theorem d_m_cut_150 : decode cc_m_cut 150 = .ok (.aload_n 0, 1) := by decide +kernel
theorem d_m_cut_151 : decode cc_m_cut 151 = .ok (.dup, 1) := by decide +kernel
theorem d_m_cut_152 : decode cc_m_cut 152 = .ok (.getfield 73, 3) := by decide +kernel
theorem d_m_cut_155 : decode cc_m_cut 155 = .ok (.iconst 1, 1) := by decide +kernel
theorem d_m_cut_156 : decode cc_m_cut 156 = .ok (.iadd, 1) := by decide +kernel
theorem d_m_cut_157 : decode cc_m_cut 157 = .ok (.putfield 73, 3) := by decide +kernel
theorem d_m_cut_160 : decode cc_m_cut 160 = .ok (.iload_n 2, 1) := by decide +kernel
theorem d_m_cut_161 : decode cc_m_cut 161 = .ok (.ireturn, 1) := by decide +kernel
theorem d_m_bed_0 : decode cc_m_bed 0 = .ok (.iconst 1, 1) := by decide +kernel
theorem d_m_bed_1 : decode cc_m_bed 1 = .ok (.istore_n 3, 1) := by decide +kernel
theorem d_m_bed_2 : decode cc_m_bed 2 = .ok (.iconst 0, 1) := by decide +kernel
theorem d_m_bed_3 : decode cc_m_bed 3 = .ok (.istore 4, 2) := by decide +kernel
theorem d_m_bed_5 : decode cc_m_bed 5 = .ok (.iload 4, 2) := by decide +kernel
theorem d_m_bed_7 : decode cc_m_bed 7 = .ok (.aload_n 0, 1) := by decide +kernel
theorem d_m_bed_8 : decode cc_m_bed 8 = .ok (.getfield 73, 3) := by decide +kernel
theorem d_m_bed_11 : decode cc_m_bed 11 = .ok (.if_icmp .ge 21, 3) := by decide +kernel
theorem d_m_bed_14 : decode cc_m_bed 14 = .ok (.aload_n 0, 1) := by decide +kernel
theorem d_m_bed_15 : decode cc_m_bed 15 = .ok (.getfield 35, 3) := by decide +kernel
theorem d_m_bed_18 : decode cc_m_bed 18 = .ok (.iload 4, 2) := by decide +kernel
theorem d_m_bed_20 : decode cc_m_bed 20 = .ok (.iaload, 1) := by decide +kernel
theorem d_m_bed_21 : decode cc_m_bed 21 = .ok (.ifCond .lt 5, 3) := by decide +kernel
theorem d_m_bed_24 : decode cc_m_bed 24 = .ok (.iconst 0, 1) := by decide +kernel
theorem d_m_bed_25 : decode cc_m_bed 25 = .ok (.istore_n 3, 1) := by decide +kernel
theorem d_m_bed_26 : decode cc_m_bed 26 = .ok (.iinc 4 1, 3) := by decide +kernel
theorem d_m_bed_29 : decode cc_m_bed 29 = .ok (.goto (-24), 3) := by decide +kernel
theorem d_m_bed_32 : decode cc_m_bed 32 = .ok (.aload_n 0, 1) := by decide +kernel
theorem d_m_bed_33 : decode cc_m_bed 33 = .ok (.iload_n 3, 1) := by decide +kernel
theorem d_m_bed_34 : decode cc_m_bed 34 = .ok (.iload_n 1, 1) := by decide +kernel
theorem d_m_bed_35 : decode cc_m_bed 35 = .ok (.iconst 1, 1) := by decide +kernel
theorem d_m_bed_36 : decode cc_m_bed 36 = .ok (.bipush 20, 2) := by decide +kernel
theorem d_m_bed_38 : decode cc_m_bed 38 = .ok (.invokestatic 66, 3) := by decide +kernel
theorem d_m_bed_41 : decode cc_m_bed 41 = .ok (.ifCond .eq 18, 3) := by decide +kernel
theorem d_m_bed_44 : decode cc_m_bed 44 = .ok (.iload_n 2, 1) := by decide +kernel
theorem d_m_bed_45 : decode cc_m_bed 45 = .ok (.iconst 1, 1) := by decide +kernel
theorem d_m_bed_46 : decode cc_m_bed 46 = .ok (.sipush 200, 3) := by decide +kernel
theorem d_m_bed_49 : decode cc_m_bed 49 = .ok (.invokestatic 66, 3) := by decide +kernel
theorem d_m_bed_52 : decode cc_m_bed 52 = .ok (.ifCond .eq 7, 3) := by decide +kernel
theorem d_m_bed_55 : decode cc_m_bed 55 = .ok (.iconst 1, 1) := by decide +kernel
theorem d_m_bed_56 : decode cc_m_bed 56 = .ok (.goto 4, 3) := by decide +kernel
theorem d_m_bed_59 : decode cc_m_bed 59 = .ok (.iconst 0, 1) := by decide +kernel
theorem d_m_bed_60 : decode cc_m_bed 60 = .ok (.iconst 1, 1) := by decide +kernel
theorem d_m_bed_61 : decode cc_m_bed 61 = .ok (.invokevirtual 93, 3) := by decide +kernel
theorem d_m_bed_64 : decode cc_m_bed 64 = .ok (.ifCond .ne 4, 3) := by decide +kernel
theorem d_m_bed_67 : decode cc_m_bed 67 = .ok (.return_, 1) := by decide +kernel
theorem d_m_bed_68 : decode cc_m_bed 68 = .ok (.aload_n 0, 1) := by decide +kernel
theorem d_m_bed_69 : decode cc_m_bed 69 = .ok (.iload_n 1, 1) := by decide +kernel
theorem d_m_bed_70 : decode cc_m_bed 70 = .ok (.putfield 23, 3) := by decide +kernel
theorem d_m_bed_73 : decode cc_m_bed 73 = .ok (.aload_n 0, 1) := by decide +kernel
theorem d_m_bed_74 : decode cc_m_bed 74 = .ok (.iload_n 2, 1) := by decide +kernel
theorem d_m_bed_75 : decode cc_m_bed 75 = .ok (.putfield 26, 3) := by decide +kernel
theorem d_m_bed_78 : decode cc_m_bed 78 = .ok (.return_, 1) := by decide +kernel
theorem d_m_at_0 : decode cc_m_at 0 = .ok (.aload_n 0, 1) := by decide +kernel
theorem d_m_at_1 : decode cc_m_at 1 = .ok (.iload_n 1, 1) := by decide +kernel
theorem d_m_at_2 : decode cc_m_at 2 = .ok (.iconst 0, 1) := by decide +kernel
theorem d_m_at_3 : decode cc_m_at 3 = .ok (.aload_n 0, 1) := by decide +kernel
theorem d_m_at_4 : decode cc_m_at 4 = .ok (.getfield 23, 3) := by decide +kernel
theorem d_m_at_7 : decode cc_m_at 7 = .ok (.iconst 1, 1) := by decide +kernel
theorem d_m_at_8 : decode cc_m_at 8 = .ok (.isub, 1) := by decide +kernel
theorem d_m_at_9 : decode cc_m_at 9 = .ok (.invokestatic 66, 3) := by decide +kernel
theorem d_m_at_12 : decode cc_m_at 12 = .ok (.iconst 1, 1) := by decide +kernel
theorem d_m_at_13 : decode cc_m_at 13 = .ok (.iconst 1, 1) := by decide +kernel
theorem d_m_at_14 : decode cc_m_at 14 = .ok (.invokevirtual 93, 3) := by decide +kernel
theorem d_m_at_17 : decode cc_m_at 17 = .ok (.ifCond .ne 5, 3) := by decide +kernel
theorem d_m_at_20 : decode cc_m_at 20 = .ok (.iconst 0, 1) := by decide +kernel
theorem d_m_at_21 : decode cc_m_at 21 = .ok (.ireturn, 1) := by decide +kernel
theorem d_m_at_22 : decode cc_m_at 22 = .ok (.aload_n 0, 1) := by decide +kernel
theorem d_m_at_23 : decode cc_m_at 23 = .ok (.iload_n 1, 1) := by decide +kernel
theorem d_m_at_24 : decode cc_m_at 24 = .ok (.invokevirtual 120, 3) := by decide +kernel
theorem d_m_at_27 : decode cc_m_at 27 = .ok (.ireturn, 1) := by decide +kernel
theorem d_m_bundle_0 : decode cc_m_bundle 0 = .ok (.iconst 0, 1) := by decide +kernel
theorem d_m_bundle_1 : decode cc_m_bundle 1 = .ok (.istore_n 3, 1) := by decide +kernel
theorem d_m_bundle_2 : decode cc_m_bundle 2 = .ok (.iconst 0, 1) := by decide +kernel
theorem d_m_bundle_3 : decode cc_m_bundle 3 = .ok (.istore 4, 2) := by decide +kernel
theorem d_m_bundle_5 : decode cc_m_bundle 5 = .ok (.iload 4, 2) := by decide +kernel
theorem d_m_bundle_7 : decode cc_m_bundle 7 = .ok (.aload_n 0, 1) := by decide +kernel
theorem d_m_bundle_8 : decode cc_m_bundle 8 = .ok (.getfield 73, 3) := by decide +kernel
theorem d_m_bundle_11 : decode cc_m_bundle 11 = .ok (.if_icmp .ge 33, 3) := by decide +kernel
theorem d_m_bundle_14 : decode cc_m_bundle 14 = .ok (.aload_n 0, 1) := by decide +kernel
theorem d_m_bundle_15 : decode cc_m_bundle 15 = .ok (.getfield 35, 3) := by decide +kernel
theorem d_m_bundle_18 : decode cc_m_bundle 18 = .ok (.iload 4, 2) := by decide +kernel
theorem d_m_bundle_20 : decode cc_m_bundle 20 = .ok (.iaload, 1) := by decide +kernel
theorem d_m_bundle_21 : decode cc_m_bundle 21 = .ok (.ifCond .lt 17, 3) := by decide +kernel
theorem d_m_bundle_24 : decode cc_m_bundle 24 = .ok (.aload_n 0, 1) := by decide +kernel
theorem d_m_bundle_25 : decode cc_m_bundle 25 = .ok (.getfield 29, 3) := by decide +kernel
theorem d_m_bundle_28 : decode cc_m_bundle 28 = .ok (.iload 4, 2) := by decide +kernel
theorem d_m_bundle_30 : decode cc_m_bundle 30 = .ok (.iaload, 1) := by decide +kernel
theorem d_m_bundle_31 : decode cc_m_bundle 31 = .ok (.iload_n 1, 1) := by decide +kernel
theorem d_m_bundle_32 : decode cc_m_bundle 32 = .ok (.if_icmp .ne 6, 3) := by decide +kernel
theorem d_m_bundle_35 : decode cc_m_bundle 35 = .ok (.iinc 3 1, 3) := by decide +kernel
theorem d_m_bundle_38 : decode cc_m_bundle 38 = .ok (.iinc 4 1, 3) := by decide +kernel
theorem d_m_bundle_41 : decode cc_m_bundle 41 = .ok (.goto (-36), 3) := by decide +kernel
theorem d_m_bundle_44 : decode cc_m_bundle 44 = .ok (.aload_n 0, 1) := by decide +kernel
theorem d_m_bundle_45 : decode cc_m_bundle 45 = .ok (.aload_n 0, 1) := by decide +kernel
theorem d_m_bundle_46 : decode cc_m_bundle 46 = .ok (.iload_n 1, 1) := by decide +kernel
theorem d_m_bundle_47 : decode cc_m_bundle 47 = .ok (.invokevirtual 124, 3) := by decide +kernel
theorem d_m_bundle_50 : decode cc_m_bundle 50 = .ok (.iload_n 2, 1) := by decide +kernel
theorem d_m_bundle_51 : decode cc_m_bundle 51 = .ok (.iconst 1, 1) := by decide +kernel
theorem d_m_bundle_52 : decode cc_m_bundle 52 = .ok (.bipush 20, 2) := by decide +kernel
theorem d_m_bundle_54 : decode cc_m_bundle 54 = .ok (.invokestatic 66, 3) := by decide +kernel
theorem d_m_bundle_57 : decode cc_m_bundle 57 = .ok (.iload_n 3, 1) := by decide +kernel
theorem d_m_bundle_58 : decode cc_m_bundle 58 = .ok (.iload_n 2, 1) := by decide +kernel
theorem d_m_bundle_59 : decode cc_m_bundle 59 = .ok (.if_icmp .lt 7, 3) := by decide +kernel
theorem d_m_bundle_62 : decode cc_m_bundle 62 = .ok (.iconst 1, 1) := by decide +kernel
theorem d_m_bundle_63 : decode cc_m_bundle 63 = .ok (.goto 4, 3) := by decide +kernel
theorem d_m_bundle_66 : decode cc_m_bundle 66 = .ok (.iconst 0, 1) := by decide +kernel
theorem d_m_bundle_67 : decode cc_m_bundle 67 = .ok (.invokevirtual 93, 3) := by decide +kernel
theorem d_m_bundle_70 : decode cc_m_bundle 70 = .ok (.ifCond .ne 5, 3) := by decide +kernel
theorem d_m_bundle_73 : decode cc_m_bundle 73 = .ok (.iconst 0, 1) := by decide +kernel
theorem d_m_bundle_74 : decode cc_m_bundle 74 = .ok (.ireturn, 1) := by decide +kernel
theorem d_m_bundle_75 : decode cc_m_bundle 75 = .ok (.iload_n 2, 1) := by decide +kernel
theorem d_m_bundle_76 : decode cc_m_bundle 76 = .ok (.istore 4, 2) := by decide +kernel
theorem d_m_bundle_78 : decode cc_m_bundle 78 = .ok (.iconst 0, 1) := by decide +kernel
theorem d_m_bundle_79 : decode cc_m_bundle 79 = .ok (.istore 5, 2) := by decide +kernel
theorem d_m_bundle_81 : decode cc_m_bundle 81 = .ok (.iload 5, 2) := by decide +kernel
theorem d_m_bundle_83 : decode cc_m_bundle 83 = .ok (.aload_n 0, 1) := by decide +kernel
theorem d_m_bundle_84 : decode cc_m_bundle 84 = .ok (.getfield 73, 3) := by decide +kernel
theorem d_m_bundle_87 : decode cc_m_bundle 87 = .ok (.if_icmp .ge 61, 3) := by decide +kernel
theorem d_m_bundle_90 : decode cc_m_bundle 90 = .ok (.iload 4, 2) := by decide +kernel
theorem d_m_bundle_92 : decode cc_m_bundle 92 = .ok (.ifCond .le 56, 3) := by decide +kernel
theorem d_m_bundle_95 : decode cc_m_bundle 95 = .ok (.aload_n 0, 1) := by decide +kernel
theorem d_m_bundle_96 : decode cc_m_bundle 96 = .ok (.getfield 35, 3) := by decide +kernel
theorem d_m_bundle_99 : decode cc_m_bundle 99 = .ok (.iload 5, 2) := by decide +kernel
theorem d_m_bundle_101 : decode cc_m_bundle 101 = .ok (.iaload, 1) := by decide +kernel
theorem d_m_bundle_102 : decode cc_m_bundle 102 = .ok (.ifCond .lt 40, 3) := by decide +kernel
theorem d_m_bundle_105 : decode cc_m_bundle 105 = .ok (.aload_n 0, 1) := by decide +kernel
theorem d_m_bundle_106 : decode cc_m_bundle 106 = .ok (.getfield 29, 3) := by decide +kernel
theorem d_m_bundle_109 : decode cc_m_bundle 109 = .ok (.iload 5, 2) := by decide +kernel
theorem d_m_bundle_111 : decode cc_m_bundle 111 = .ok (.iaload, 1) := by decide +kernel
theorem d_m_bundle_112 : decode cc_m_bundle 112 = .ok (.iload_n 1, 1) := by decide +kernel
theorem d_m_bundle_113 : decode cc_m_bundle 113 = .ok (.if_icmp .eq 6, 3) := by decide +kernel
theorem d_m_bundle_116 : decode cc_m_bundle 116 = .ok (.goto 26, 3) := by decide +kernel
theorem d_m_bundle_119 : decode cc_m_bundle 119 = .ok (.aload_n 0, 1) := by decide +kernel
theorem d_m_bundle_120 : decode cc_m_bundle 120 = .ok (.getfield 35, 3) := by decide +kernel
theorem d_m_bundle_123 : decode cc_m_bundle 123 = .ok (.iload 5, 2) := by decide +kernel
theorem d_m_bundle_125 : decode cc_m_bundle 125 = .ok (.bipush (-2), 2) := by decide +kernel
theorem d_m_bundle_127 : decode cc_m_bundle 127 = .ok (.iastore, 1) := by decide +kernel
theorem d_m_bundle_128 : decode cc_m_bundle 128 = .ok (.aload_n 0, 1) := by decide +kernel
theorem d_m_bundle_129 : decode cc_m_bundle 129 = .ok (.getfield 38, 3) := by decide +kernel
theorem d_m_bundle_132 : decode cc_m_bundle 132 = .ok (.iload 5, 2) := by decide +kernel
theorem d_m_bundle_134 : decode cc_m_bundle 134 = .ok (.aload_n 0, 1) := by decide +kernel
theorem d_m_bundle_135 : decode cc_m_bundle 135 = .ok (.getfield 127, 3) := by decide +kernel
theorem d_m_bundle_138 : decode cc_m_bundle 138 = .ok (.iastore, 1) := by decide +kernel
theorem d_m_bundle_139 : decode cc_m_bundle 139 = .ok (.iinc 4 (-1), 3) := by decide +kernel
theorem d_m_bundle_142 : decode cc_m_bundle 142 = .ok (.iinc 5 1, 3) := by decide +kernel
theorem d_m_bundle_145 : decode cc_m_bundle 145 = .ok (.goto (-64), 3) := by decide +kernel
theorem d_m_bundle_148 : decode cc_m_bundle 148 = .ok (.aload_n 0, 1) := by decide +kernel
theorem d_m_bundle_149 : decode cc_m_bundle 149 = .ok (.dup, 1) := by decide +kernel
theorem d_m_bundle_150 : decode cc_m_bundle 150 = .ok (.getfield 127, 3) := by decide +kernel
theorem d_m_bundle_153 : decode cc_m_bundle 153 = .ok (.iconst 1, 1) := by decide +kernel
theorem d_m_bundle_154 : decode cc_m_bundle 154 = .ok (.iadd, 1) := by decide +kernel
theorem d_m_bundle_155 : decode cc_m_bundle 155 = .ok (.putfield 127, 3) := by decide +kernel
theorem d_m_bundle_158 : decode cc_m_bundle 158 = .ok (.aload_n 0, 1) := by decide +kernel
theorem d_m_bundle_159 : decode cc_m_bundle 159 = .ok (.getfield 127, 3) := by decide +kernel
theorem d_m_bundle_162 : decode cc_m_bundle 162 = .ok (.ireturn, 1) := by decide +kernel
theorem d_m_cutAt_0 : decode cc_m_cutAt 0 = .ok (.aload_n 0, 1) := by decide +kernel
theorem d_m_cutAt_1 : decode cc_m_cutAt 1 = .ok (.iload_n 1, 1) := by decide +kernel
theorem d_m_cutAt_2 : decode cc_m_cutAt 2 = .ok (.iconst 0, 1) := by decide +kernel
theorem d_m_cutAt_3 : decode cc_m_cutAt 3 = .ok (.aload_n 0, 1) := by decide +kernel
theorem d_m_cutAt_4 : decode cc_m_cutAt 4 = .ok (.getfield 73, 3) := by decide +kernel
theorem d_m_cutAt_7 : decode cc_m_cutAt 7 = .ok (.iconst 1, 1) := by decide +kernel
theorem d_m_cutAt_8 : decode cc_m_cutAt 8 = .ok (.isub, 1) := by decide +kernel
theorem d_m_cutAt_9 : decode cc_m_cutAt 9 = .ok (.invokestatic 66, 3) := by decide +kernel
theorem d_m_cutAt_12 : decode cc_m_cutAt 12 = .ok (.ifCond .eq 16, 3) := by decide +kernel
theorem d_m_cutAt_15 : decode cc_m_cutAt 15 = .ok (.iload_n 2, 1) := by decide +kernel
theorem d_m_cutAt_16 : decode cc_m_cutAt 16 = .ok (.iconst 0, 1) := by decide +kernel
theorem d_m_cutAt_17 : decode cc_m_cutAt 17 = .ok (.iconst 3, 1) := by decide +kernel
theorem d_m_cutAt_18 : decode cc_m_cutAt 18 = .ok (.invokestatic 66, 3) := by decide +kernel
theorem d_m_cutAt_21 : decode cc_m_cutAt 21 = .ok (.ifCond .eq 7, 3) := by decide +kernel
theorem d_m_cutAt_24 : decode cc_m_cutAt 24 = .ok (.iconst 1, 1) := by decide +kernel
theorem d_m_cutAt_25 : decode cc_m_cutAt 25 = .ok (.goto 4, 3) := by decide +kernel
theorem d_m_cutAt_28 : decode cc_m_cutAt 28 = .ok (.iconst 0, 1) := by decide +kernel
theorem d_m_cutAt_29 : decode cc_m_cutAt 29 = .ok (.iconst 1, 1) := by decide +kernel
theorem d_m_cutAt_30 : decode cc_m_cutAt 30 = .ok (.iconst 1, 1) := by decide +kernel
theorem d_m_cutAt_31 : decode cc_m_cutAt 31 = .ok (.invokevirtual 93, 3) := by decide +kernel
theorem d_m_cutAt_34 : decode cc_m_cutAt 34 = .ok (.ifCond .ne 5, 3) := by decide +kernel
theorem d_m_cutAt_37 : decode cc_m_cutAt 37 = .ok (.iconst 0, 1) := by decide +kernel
theorem d_m_cutAt_38 : decode cc_m_cutAt 38 = .ok (.ireturn, 1) := by decide +kernel
theorem d_m_cutAt_39 : decode cc_m_cutAt 39 = .ok (.iload_n 2, 1) := by decide +kernel
theorem d_m_cutAt_40 : decode cc_m_cutAt 40 = .ok (.ifCond .ne 12, 3) := by decide +kernel
theorem d_m_cutAt_43 : decode cc_m_cutAt 43 = .ok (.aload_n 0, 1) := by decide +kernel
theorem d_m_cutAt_44 : decode cc_m_cutAt 44 = .ok (.getfield 29, 3) := by decide +kernel
theorem d_m_cutAt_47 : decode cc_m_cutAt 47 = .ok (.iload_n 1, 1) := by decide +kernel
theorem d_m_cutAt_48 : decode cc_m_cutAt 48 = .ok (.iaload, 1) := by decide +kernel
theorem d_m_cutAt_49 : decode cc_m_cutAt 49 = .ok (.goto 37, 3) := by decide +kernel
theorem d_m_cutAt_52 : decode cc_m_cutAt 52 = .ok (.iload_n 2, 1) := by decide +kernel
theorem d_m_cutAt_53 : decode cc_m_cutAt 53 = .ok (.iconst 1, 1) := by decide +kernel
theorem d_m_cutAt_54 : decode cc_m_cutAt 54 = .ok (.if_icmp .ne 12, 3) := by decide +kernel
theorem d_m_cutAt_57 : decode cc_m_cutAt 57 = .ok (.aload_n 0, 1) := by decide +kernel
theorem d_m_cutAt_58 : decode cc_m_cutAt 58 = .ok (.getfield 32, 3) := by decide +kernel
theorem d_m_cutAt_61 : decode cc_m_cutAt 61 = .ok (.iload_n 1, 1) := by decide +kernel
theorem d_m_cutAt_62 : decode cc_m_cutAt 62 = .ok (.iaload, 1) := by decide +kernel
theorem d_m_cutAt_63 : decode cc_m_cutAt 63 = .ok (.goto 23, 3) := by decide +kernel
theorem d_m_cutAt_66 : decode cc_m_cutAt 66 = .ok (.iload_n 2, 1) := by decide +kernel
theorem d_m_cutAt_67 : decode cc_m_cutAt 67 = .ok (.iconst 2, 1) := by decide +kernel
theorem d_m_cutAt_68 : decode cc_m_cutAt 68 = .ok (.if_icmp .ne 12, 3) := by decide +kernel
theorem d_m_cutAt_71 : decode cc_m_cutAt 71 = .ok (.aload_n 0, 1) := by decide +kernel
theorem d_m_cutAt_72 : decode cc_m_cutAt 72 = .ok (.getfield 35, 3) := by decide +kernel
theorem d_m_cutAt_75 : decode cc_m_cutAt 75 = .ok (.iload_n 1, 1) := by decide +kernel
theorem d_m_cutAt_76 : decode cc_m_cutAt 76 = .ok (.iaload, 1) := by decide +kernel
theorem d_m_cutAt_77 : decode cc_m_cutAt 77 = .ok (.goto 9, 3) := by decide +kernel
theorem d_m_cutAt_80 : decode cc_m_cutAt 80 = .ok (.aload_n 0, 1) := by decide +kernel
theorem d_m_cutAt_81 : decode cc_m_cutAt 81 = .ok (.getfield 38, 3) := by decide +kernel
theorem d_m_cutAt_84 : decode cc_m_cutAt 84 = .ok (.iload_n 1, 1) := by decide +kernel
theorem d_m_cutAt_85 : decode cc_m_cutAt 85 = .ok (.iaload, 1) := by decide +kernel
theorem d_m_cutAt_86 : decode cc_m_cutAt 86 = .ok (.ireturn, 1) := by decide +kernel
theorem d_m_blade_0 : decode cc_m_blade 0 = .ok (.aload_n 0, 1) := by decide +kernel
theorem d_m_blade_1 : decode cc_m_blade 1 = .ok (.aload_n 0, 1) := by decide +kernel
theorem d_m_blade_2 : decode cc_m_blade 2 = .ok (.iload_n 1, 1) := by decide +kernel
theorem d_m_blade_3 : decode cc_m_blade 3 = .ok (.invokevirtual 116, 3) := by decide +kernel
theorem d_m_blade_6 : decode cc_m_blade 6 = .ok (.ifCond .eq 16, 3) := by decide +kernel
theorem d_m_blade_9 : decode cc_m_blade 9 = .ok (.iload_n 3, 1) := by decide +kernel
theorem d_m_blade_10 : decode cc_m_blade 10 = .ok (.iconst 0, 1) := by decide +kernel
theorem d_m_blade_11 : decode cc_m_blade 11 = .ok (.iconst 1, 1) := by decide +kernel
theorem d_m_blade_12 : decode cc_m_blade 12 = .ok (.invokestatic 66, 3) := by decide +kernel
theorem d_m_blade_15 : decode cc_m_blade 15 = .ok (.ifCond .eq 7, 3) := by decide +kernel
theorem d_m_blade_18 : decode cc_m_blade 18 = .ok (.iconst 1, 1) := by decide +kernel
theorem d_m_blade_19 : decode cc_m_blade 19 = .ok (.goto 4, 3) := by decide +kernel
theorem d_m_blade_22 : decode cc_m_blade 22 = .ok (.iconst 0, 1) := by decide +kernel
theorem d_m_blade_23 : decode cc_m_blade 23 = .ok (.iload_n 2, 1) := by decide +kernel
theorem d_m_blade_24 : decode cc_m_blade 24 = .ok (.iconst 1, 1) := by decide +kernel
theorem d_m_blade_25 : decode cc_m_blade 25 = .ok (.sipush 1000, 3) := by decide +kernel
theorem d_m_blade_28 : decode cc_m_blade 28 = .ok (.invokestatic 66, 3) := by decide +kernel
theorem d_m_blade_31 : decode cc_m_blade 31 = .ok (.iconst 1, 1) := by decide +kernel
theorem d_m_blade_32 : decode cc_m_blade 32 = .ok (.invokevirtual 93, 3) := by decide +kernel
theorem d_m_blade_35 : decode cc_m_blade 35 = .ok (.ifCond .ne 5, 3) := by decide +kernel
theorem d_m_blade_38 : decode cc_m_blade 38 = .ok (.iconst 0, 1) := by decide +kernel
theorem d_m_blade_39 : decode cc_m_blade 39 = .ok (.ireturn, 1) := by decide +kernel
theorem d_m_blade_40 : decode cc_m_blade 40 = .ok (.aload_n 0, 1) := by decide +kernel
theorem d_m_blade_41 : decode cc_m_blade 41 = .ok (.getfield 107, 3) := by decide +kernel
theorem d_m_blade_44 : decode cc_m_blade 44 = .ok (.aload_n 0, 1) := by decide +kernel
theorem d_m_blade_45 : decode cc_m_blade 45 = .ok (.getfield 113, 3) := by decide +kernel
theorem d_m_blade_48 : decode cc_m_blade 48 = .ok (.iadd, 1) := by decide +kernel
theorem d_m_blade_49 : decode cc_m_blade 49 = .ok (.istore 4, 2) := by decide +kernel
theorem d_m_blade_51 : decode cc_m_blade 51 = .ok (.sipush 2000, 3) := by decide +kernel
theorem d_m_blade_54 : decode cc_m_blade 54 = .ok (.iload 4, 2) := by decide +kernel
theorem d_m_blade_56 : decode cc_m_blade 56 = .ok (.imul, 1) := by decide +kernel
theorem d_m_blade_57 : decode cc_m_blade 57 = .ok (.iload_n 2, 1) := by decide +kernel
theorem d_m_blade_58 : decode cc_m_blade 58 = .ok (.iadd, 1) := by decide +kernel
theorem d_m_blade_59 : decode cc_m_blade 59 = .ok (.iconst 2, 1) := by decide +kernel
theorem d_m_blade_60 : decode cc_m_blade 60 = .ok (.iload_n 2, 1) := by decide +kernel
theorem d_m_blade_61 : decode cc_m_blade 61 = .ok (.imul, 1) := by decide +kernel
theorem d_m_blade_62 : decode cc_m_blade 62 = .ok (.idiv, 1) := by decide +kernel
theorem d_m_blade_63 : decode cc_m_blade 63 = .ok (.istore 5, 2) := by decide +kernel
theorem d_m_blade_65 : decode cc_m_blade 65 = .ok (.iload_n 3, 1) := by decide +kernel
theorem d_m_blade_66 : decode cc_m_blade 66 = .ok (.ifCond .ne 12, 3) := by decide +kernel
theorem d_m_blade_69 : decode cc_m_blade 69 = .ok (.iload 5, 2) := by decide +kernel
theorem d_m_blade_71 : decode cc_m_blade 71 = .ok (.sipush 1000, 3) := by decide +kernel
theorem d_m_blade_74 : decode cc_m_blade 74 = .ok (.idiv, 1) := by decide +kernel
theorem d_m_blade_75 : decode cc_m_blade 75 = .ok (.goto 9, 3) := by decide +kernel
theorem d_m_blade_78 : decode cc_m_blade 78 = .ok (.iload 5, 2) := by decide +kernel
theorem d_m_blade_80 : decode cc_m_blade 80 = .ok (.sipush 1000, 3) := by decide +kernel
theorem d_m_blade_83 : decode cc_m_blade 83 = .ok (.irem, 1) := by decide +kernel
theorem d_m_blade_84 : decode cc_m_blade 84 = .ok (.ireturn, 1) := by decide +kernel
theorem d_m_sum_0 : decode cc_m_sum 0 = .ok (.aload_n 0, 1) := by decide +kernel
theorem d_m_sum_1 : decode cc_m_sum 1 = .ok (.aload_n 0, 1) := by decide +kernel
theorem d_m_sum_2 : decode cc_m_sum 2 = .ok (.iload_n 1, 1) := by decide +kernel
theorem d_m_sum_3 : decode cc_m_sum 3 = .ok (.invokevirtual 124, 3) := by decide +kernel
theorem d_m_sum_6 : decode cc_m_sum 6 = .ok (.iconst 1, 1) := by decide +kernel
theorem d_m_sum_7 : decode cc_m_sum 7 = .ok (.iconst 1, 1) := by decide +kernel
theorem d_m_sum_8 : decode cc_m_sum 8 = .ok (.invokevirtual 93, 3) := by decide +kernel
theorem d_m_sum_11 : decode cc_m_sum 11 = .ok (.ifCond .ne 5, 3) := by decide +kernel
theorem d_m_sum_14 : decode cc_m_sum 14 = .ok (.iconst 0, 1) := by decide +kernel
theorem d_m_sum_15 : decode cc_m_sum 15 = .ok (.ireturn, 1) := by decide +kernel
theorem d_m_sum_16 : decode cc_m_sum 16 = .ok (.iconst 0, 1) := by decide +kernel
theorem d_m_sum_17 : decode cc_m_sum 17 = .ok (.istore_n 2, 1) := by decide +kernel
theorem d_m_sum_18 : decode cc_m_sum 18 = .ok (.iconst 0, 1) := by decide +kernel
theorem d_m_sum_19 : decode cc_m_sum 19 = .ok (.istore_n 3, 1) := by decide +kernel
theorem d_m_sum_20 : decode cc_m_sum 20 = .ok (.iload_n 3, 1) := by decide +kernel
theorem d_m_sum_21 : decode cc_m_sum 21 = .ok (.aload_n 0, 1) := by decide +kernel
theorem d_m_sum_22 : decode cc_m_sum 22 = .ok (.getfield 73, 3) := by decide +kernel
theorem d_m_sum_25 : decode cc_m_sum 25 = .ok (.if_icmp .ge 28, 3) := by decide +kernel
theorem d_m_sum_28 : decode cc_m_sum 28 = .ok (.aload_n 0, 1) := by decide +kernel
theorem d_m_sum_29 : decode cc_m_sum 29 = .ok (.getfield 29, 3) := by decide +kernel
theorem d_m_sum_32 : decode cc_m_sum 32 = .ok (.iload_n 3, 1) := by decide +kernel
theorem d_m_sum_33 : decode cc_m_sum 33 = .ok (.iaload, 1) := by decide +kernel
theorem d_m_sum_34 : decode cc_m_sum 34 = .ok (.iload_n 1, 1) := by decide +kernel
theorem d_m_sum_35 : decode cc_m_sum 35 = .ok (.if_icmp .ne 12, 3) := by decide +kernel
theorem d_m_sum_38 : decode cc_m_sum 38 = .ok (.iload_n 2, 1) := by decide +kernel
theorem d_m_sum_39 : decode cc_m_sum 39 = .ok (.aload_n 0, 1) := by decide +kernel
theorem d_m_sum_40 : decode cc_m_sum 40 = .ok (.getfield 32, 3) := by decide +kernel
theorem d_m_sum_43 : decode cc_m_sum 43 = .ok (.iload_n 3, 1) := by decide +kernel
theorem d_m_sum_44 : decode cc_m_sum 44 = .ok (.iaload, 1) := by decide +kernel
theorem d_m_sum_45 : decode cc_m_sum 45 = .ok (.iadd, 1) := by decide +kernel
theorem d_m_sum_46 : decode cc_m_sum 46 = .ok (.istore_n 2, 1) := by decide +kernel
theorem d_m_sum_47 : decode cc_m_sum 47 = .ok (.iinc 3 1, 3) := by decide +kernel
theorem d_m_sum_50 : decode cc_m_sum 50 = .ok (.goto (-30), 3) := by decide +kernel
theorem d_m_sum_53 : decode cc_m_sum 53 = .ok (.iload_n 2, 1) := by decide +kernel
theorem d_m_sum_54 : decode cc_m_sum 54 = .ok (.ireturn, 1) := by decide +kernel
theorem d_m_side_0 : decode cc_m_side 0 = .ok (.aload_n 0, 1) := by decide +kernel
theorem d_m_side_1 : decode cc_m_side 1 = .ok (.iload_n 1, 1) := by decide +kernel
theorem d_m_side_2 : decode cc_m_side 2 = .ok (.ifCond .lt 7, 3) := by decide +kernel
theorem d_m_side_5 : decode cc_m_side 5 = .ok (.iconst 1, 1) := by decide +kernel
theorem d_m_side_6 : decode cc_m_side 6 = .ok (.goto 4, 3) := by decide +kernel
theorem d_m_side_9 : decode cc_m_side 9 = .ok (.iconst 0, 1) := by decide +kernel
theorem d_m_side_10 : decode cc_m_side 10 = .ok (.iconst 1, 1) := by decide +kernel
theorem d_m_side_11 : decode cc_m_side 11 = .ok (.iconst 1, 1) := by decide +kernel
theorem d_m_side_12 : decode cc_m_side 12 = .ok (.invokevirtual 93, 3) := by decide +kernel
theorem d_m_side_15 : decode cc_m_side 15 = .ok (.ifCond .ne 5, 3) := by decide +kernel
theorem d_m_side_18 : decode cc_m_side 18 = .ok (.iconst 0, 1) := by decide +kernel
theorem d_m_side_19 : decode cc_m_side 19 = .ok (.ireturn, 1) := by decide +kernel
theorem d_m_side_20 : decode cc_m_side 20 = .ok (.iload_n 1, 1) := by decide +kernel
theorem d_m_side_21 : decode cc_m_side 21 = .ok (.istore_n 2, 1) := by decide +kernel
theorem d_m_side_22 : decode cc_m_side 22 = .ok (.iconst 0, 1) := by decide +kernel
theorem d_m_side_23 : decode cc_m_side 23 = .ok (.istore_n 3, 1) := by decide +kernel
theorem d_m_side_24 : decode cc_m_side 24 = .ok (.iload_n 3, 1) := by decide +kernel
theorem d_m_side_25 : decode cc_m_side 25 = .ok (.aload_n 0, 1) := by decide +kernel
theorem d_m_side_26 : decode cc_m_side 26 = .ok (.getfield 73, 3) := by decide +kernel
theorem d_m_side_29 : decode cc_m_side 29 = .ok (.if_icmp .ge 30, 3) := by decide +kernel
theorem d_m_side_32 : decode cc_m_side 32 = .ok (.aload_n 0, 1) := by decide +kernel
theorem d_m_side_33 : decode cc_m_side 33 = .ok (.getfield 41, 3) := by decide +kernel
theorem d_m_side_36 : decode cc_m_side 36 = .ok (.iload_n 3, 1) := by decide +kernel
theorem d_m_side_37 : decode cc_m_side 37 = .ok (.baload, 1) := by decide +kernel
theorem d_m_side_38 : decode cc_m_side 38 = .ok (.ifCond .ne 6, 3) := by decide +kernel
theorem d_m_side_41 : decode cc_m_side 41 = .ok (.goto 12, 3) := by decide +kernel
theorem d_m_side_44 : decode cc_m_side 44 = .ok (.iload_n 2, 1) := by decide +kernel
theorem d_m_side_45 : decode cc_m_side 45 = .ok (.ifCond .ne 5, 3) := by decide +kernel
theorem d_m_side_48 : decode cc_m_side 48 = .ok (.iload_n 3, 1) := by decide +kernel
theorem d_m_side_49 : decode cc_m_side 49 = .ok (.ireturn, 1) := by decide +kernel
theorem d_m_side_50 : decode cc_m_side 50 = .ok (.iinc 2 (-1), 3) := by decide +kernel
theorem d_m_side_53 : decode cc_m_side 53 = .ok (.iinc 3 1, 3) := by decide +kernel
theorem d_m_side_56 : decode cc_m_side 56 = .ok (.goto (-32), 3) := by decide +kernel
theorem d_m_side_59 : decode cc_m_side 59 = .ok (.iconst (-1), 1) := by decide +kernel
theorem d_m_side_60 : decode cc_m_side 60 = .ok (.ireturn, 1) := by decide +kernel
end
section
/-! by program: decode rows of the law -/
theorem d_l_want_0 : decode cc_l_want 0 = .ok (.aload 4, 2) := by decide +kernel
theorem d_l_want_2 : decode cc_l_want 2 = .ok (.iconst 0, 1) := by decide +kernel
theorem d_l_want_3 : decode cc_l_want 3 = .ok (.aload_n 0, 1) := by decide +kernel
theorem d_l_want_4 : decode cc_l_want 4 = .ok (.iload_n 1, 1) := by decide +kernel
theorem d_l_want_5 : decode cc_l_want 5 = .ok (.iload_n 2, 1) := by decide +kernel
theorem d_l_want_6 : decode cc_l_want 6 = .ok (.iload_n 3, 1) := by decide +kernel
theorem d_l_want_7 : decode cc_l_want 7 = .ok (.invokevirtual 7, 3) := by decide +kernel
theorem d_l_want_10 : decode cc_l_want 10 = .ok (.i2l, 1) := by decide +kernel
theorem d_l_want_11 : decode cc_l_want 11 = .ok (.lastore, 1) := by decide +kernel
theorem d_l_want_12 : decode cc_l_want 12 = .ok (.goto 11, 3) := by decide +kernel
theorem d_l_want_15 : decode cc_l_want 15 = .ok (.astore 5, 2) := by decide +kernel
theorem d_l_want_17 : decode cc_l_want 17 = .ok (.iconst 1, 1) := by decide +kernel
theorem d_l_want_18 : decode cc_l_want 18 = .ok (.ireturn, 1) := by decide +kernel
theorem d_l_want_19 : decode cc_l_want 19 = .ok (.astore 5, 2) := by decide +kernel
theorem d_l_want_21 : decode cc_l_want 21 = .ok (.iconst 2, 1) := by decide +kernel
theorem d_l_want_22 : decode cc_l_want 22 = .ok (.ireturn, 1) := by decide +kernel
theorem d_l_want_23 : decode cc_l_want 23 = .ok (.iconst 0, 1) := by decide +kernel
theorem d_l_want_24 : decode cc_l_want 24 = .ok (.ireturn, 1) := by decide +kernel
theorem d_l_bar_0 : decode cc_l_bar 0 = .ok (.aload_n 0, 1) := by decide +kernel
theorem d_l_bar_1 : decode cc_l_bar 1 = .ok (.iload_n 1, 1) := by decide +kernel
theorem d_l_bar_2 : decode cc_l_bar 2 = .ok (.iload_n 2, 1) := by decide +kernel
theorem d_l_bar_3 : decode cc_l_bar 3 = .ok (.invokevirtual 17, 3) := by decide +kernel
theorem d_l_bar_6 : decode cc_l_bar 6 = .ok (.goto 6, 3) := by decide +kernel
theorem d_l_bar_9 : decode cc_l_bar 9 = .ok (.astore_n 3, 1) := by decide +kernel
theorem d_l_bar_10 : decode cc_l_bar 10 = .ok (.iconst 1, 1) := by decide +kernel
theorem d_l_bar_11 : decode cc_l_bar 11 = .ok (.ireturn, 1) := by decide +kernel
theorem d_l_bar_12 : decode cc_l_bar 12 = .ok (.iconst 0, 1) := by decide +kernel
theorem d_l_bar_13 : decode cc_l_bar 13 = .ok (.ireturn, 1) := by decide +kernel
theorem d_l_crop_0 : decode cc_l_crop 0 = .ok (.aload_n 0, 1) := by decide +kernel
theorem d_l_crop_1 : decode cc_l_crop 1 = .ok (.iload_n 1, 1) := by decide +kernel
theorem d_l_crop_2 : decode cc_l_crop 2 = .ok (.iload_n 2, 1) := by decide +kernel
theorem d_l_crop_3 : decode cc_l_crop 3 = .ok (.invokevirtual 21, 3) := by decide +kernel
theorem d_l_crop_6 : decode cc_l_crop 6 = .ok (.goto 9, 3) := by decide +kernel
theorem d_l_crop_9 : decode cc_l_crop 9 = .ok (.astore_n 3, 1) := by decide +kernel
theorem d_l_crop_10 : decode cc_l_crop 10 = .ok (.iconst 1, 1) := by decide +kernel
theorem d_l_crop_11 : decode cc_l_crop 11 = .ok (.ireturn, 1) := by decide +kernel
theorem d_l_crop_12 : decode cc_l_crop 12 = .ok (.astore_n 3, 1) := by decide +kernel
theorem d_l_crop_13 : decode cc_l_crop 13 = .ok (.iconst 2, 1) := by decide +kernel
theorem d_l_crop_14 : decode cc_l_crop 14 = .ok (.ireturn, 1) := by decide +kernel
theorem d_l_crop_15 : decode cc_l_crop 15 = .ok (.iconst 0, 1) := by decide +kernel
theorem d_l_crop_16 : decode cc_l_crop 16 = .ok (.ireturn, 1) := by decide +kernel
theorem d_l_known_0 : decode cc_l_known 0 = .ok (.aload_n 0, 1) := by decide +kernel
theorem d_l_known_1 : decode cc_l_known 1 = .ok (.iload_n 1, 1) := by decide +kernel
theorem d_l_known_2 : decode cc_l_known 2 = .ok (.invokevirtual 24, 3) := by decide +kernel
theorem d_l_known_5 : decode cc_l_known 5 = .ok (.goto 9, 3) := by decide +kernel
theorem d_l_known_8 : decode cc_l_known 8 = .ok (.astore_n 2, 1) := by decide +kernel
theorem d_l_known_9 : decode cc_l_known 9 = .ok (.iconst 1, 1) := by decide +kernel
theorem d_l_known_10 : decode cc_l_known 10 = .ok (.ireturn, 1) := by decide +kernel
theorem d_l_known_11 : decode cc_l_known 11 = .ok (.astore_n 2, 1) := by decide +kernel
theorem d_l_known_12 : decode cc_l_known 12 = .ok (.iconst 2, 1) := by decide +kernel
theorem d_l_known_13 : decode cc_l_known 13 = .ok (.ireturn, 1) := by decide +kernel
theorem d_l_known_14 : decode cc_l_known 14 = .ok (.iconst 0, 1) := by decide +kernel
theorem d_l_known_15 : decode cc_l_known 15 = .ok (.ireturn, 1) := by decide +kernel
theorem d_l_piece_0 : decode cc_l_piece 0 = .ok (.aload_n 3, 1) := by decide +kernel
theorem d_l_piece_1 : decode cc_l_piece 1 = .ok (.iconst 0, 1) := by decide +kernel
theorem d_l_piece_2 : decode cc_l_piece 2 = .ok (.aload_n 0, 1) := by decide +kernel
theorem d_l_piece_3 : decode cc_l_piece 3 = .ok (.iload_n 1, 1) := by decide +kernel
theorem d_l_piece_4 : decode cc_l_piece 4 = .ok (.iload_n 2, 1) := by decide +kernel
theorem d_l_piece_5 : decode cc_l_piece 5 = .ok (.invokevirtual 28, 3) := by decide +kernel
theorem d_l_piece_8 : decode cc_l_piece 8 = .ok (.i2l, 1) := by decide +kernel
theorem d_l_piece_9 : decode cc_l_piece 9 = .ok (.lastore, 1) := by decide +kernel
theorem d_l_piece_10 : decode cc_l_piece 10 = .ok (.goto 7, 3) := by decide +kernel
theorem d_l_piece_13 : decode cc_l_piece 13 = .ok (.astore 4, 2) := by decide +kernel
theorem d_l_piece_15 : decode cc_l_piece 15 = .ok (.iconst 1, 1) := by decide +kernel
theorem d_l_piece_16 : decode cc_l_piece 16 = .ok (.ireturn, 1) := by decide +kernel
theorem d_l_piece_17 : decode cc_l_piece 17 = .ok (.iconst 0, 1) := by decide +kernel
theorem d_l_piece_18 : decode cc_l_piece 18 = .ok (.ireturn, 1) := by decide +kernel
theorem d_l_cut_0 : decode cc_l_cut 0 = .ok (.aload_n 1, 1) := by decide +kernel
theorem d_l_cut_1 : decode cc_l_cut 1 = .ok (.iconst 0, 1) := by decide +kernel
theorem d_l_cut_2 : decode cc_l_cut 2 = .ok (.aload_n 0, 1) := by decide +kernel
theorem d_l_cut_3 : decode cc_l_cut 3 = .ok (.invokevirtual 34, 3) := by decide +kernel
theorem d_l_cut_6 : decode cc_l_cut 6 = .ok (.i2l, 1) := by decide +kernel
theorem d_l_cut_7 : decode cc_l_cut 7 = .ok (.lastore, 1) := by decide +kernel
theorem d_l_cut_8 : decode cc_l_cut 8 = .ok (.goto 9, 3) := by decide +kernel
theorem d_l_cut_11 : decode cc_l_cut 11 = .ok (.astore_n 2, 1) := by decide +kernel
theorem d_l_cut_12 : decode cc_l_cut 12 = .ok (.iconst 1, 1) := by decide +kernel
theorem d_l_cut_13 : decode cc_l_cut 13 = .ok (.ireturn, 1) := by decide +kernel
theorem d_l_cut_14 : decode cc_l_cut 14 = .ok (.astore_n 2, 1) := by decide +kernel
theorem d_l_cut_15 : decode cc_l_cut 15 = .ok (.iconst 2, 1) := by decide +kernel
theorem d_l_cut_16 : decode cc_l_cut 16 = .ok (.ireturn, 1) := by decide +kernel
theorem d_l_cut_17 : decode cc_l_cut 17 = .ok (.iconst 0, 1) := by decide +kernel
theorem d_l_cut_18 : decode cc_l_cut 18 = .ok (.ireturn, 1) := by decide +kernel
theorem d_l_bed_0 : decode cc_l_bed 0 = .ok (.aload_n 0, 1) := by decide +kernel
theorem d_l_bed_1 : decode cc_l_bed 1 = .ok (.iload_n 1, 1) := by decide +kernel
theorem d_l_bed_2 : decode cc_l_bed 2 = .ok (.iload_n 2, 1) := by decide +kernel
theorem d_l_bed_3 : decode cc_l_bed 3 = .ok (.invokevirtual 40, 3) := by decide +kernel
theorem d_l_bed_6 : decode cc_l_bed 6 = .ok (.goto 9, 3) := by decide +kernel
theorem d_l_bed_9 : decode cc_l_bed 9 = .ok (.astore_n 3, 1) := by decide +kernel
theorem d_l_bed_10 : decode cc_l_bed 10 = .ok (.iconst 1, 1) := by decide +kernel
theorem d_l_bed_11 : decode cc_l_bed 11 = .ok (.ireturn, 1) := by decide +kernel
theorem d_l_bed_12 : decode cc_l_bed 12 = .ok (.astore_n 3, 1) := by decide +kernel
theorem d_l_bed_13 : decode cc_l_bed 13 = .ok (.iconst 2, 1) := by decide +kernel
theorem d_l_bed_14 : decode cc_l_bed 14 = .ok (.ireturn, 1) := by decide +kernel
theorem d_l_bed_15 : decode cc_l_bed 15 = .ok (.iconst 0, 1) := by decide +kernel
theorem d_l_bed_16 : decode cc_l_bed 16 = .ok (.ireturn, 1) := by decide +kernel
theorem d_l_at_0 : decode cc_l_at 0 = .ok (.aload_n 2, 1) := by decide +kernel
theorem d_l_at_1 : decode cc_l_at 1 = .ok (.iconst 0, 1) := by decide +kernel
theorem d_l_at_2 : decode cc_l_at 2 = .ok (.aload_n 0, 1) := by decide +kernel
theorem d_l_at_3 : decode cc_l_at 3 = .ok (.iload_n 1, 1) := by decide +kernel
theorem d_l_at_4 : decode cc_l_at 4 = .ok (.invokevirtual 43, 3) := by decide +kernel
theorem d_l_at_7 : decode cc_l_at 7 = .ok (.i2l, 1) := by decide +kernel
theorem d_l_at_8 : decode cc_l_at 8 = .ok (.lastore, 1) := by decide +kernel
theorem d_l_at_9 : decode cc_l_at 9 = .ok (.goto 6, 3) := by decide +kernel
theorem d_l_at_12 : decode cc_l_at 12 = .ok (.astore_n 3, 1) := by decide +kernel
theorem d_l_at_13 : decode cc_l_at 13 = .ok (.iconst 1, 1) := by decide +kernel
theorem d_l_at_14 : decode cc_l_at 14 = .ok (.ireturn, 1) := by decide +kernel
theorem d_l_at_15 : decode cc_l_at 15 = .ok (.iconst 0, 1) := by decide +kernel
theorem d_l_at_16 : decode cc_l_at 16 = .ok (.ireturn, 1) := by decide +kernel
theorem d_l_bundle_0 : decode cc_l_bundle 0 = .ok (.aload_n 3, 1) := by decide +kernel
theorem d_l_bundle_1 : decode cc_l_bundle 1 = .ok (.iconst 0, 1) := by decide +kernel
theorem d_l_bundle_2 : decode cc_l_bundle 2 = .ok (.aload_n 0, 1) := by decide +kernel
theorem d_l_bundle_3 : decode cc_l_bundle 3 = .ok (.iload_n 1, 1) := by decide +kernel
theorem d_l_bundle_4 : decode cc_l_bundle 4 = .ok (.iload_n 2, 1) := by decide +kernel
theorem d_l_bundle_5 : decode cc_l_bundle 5 = .ok (.invokevirtual 47, 3) := by decide +kernel
theorem d_l_bundle_8 : decode cc_l_bundle 8 = .ok (.i2l, 1) := by decide +kernel
theorem d_l_bundle_9 : decode cc_l_bundle 9 = .ok (.lastore, 1) := by decide +kernel
theorem d_l_bundle_10 : decode cc_l_bundle 10 = .ok (.goto 15, 3) := by decide +kernel
theorem d_l_bundle_13 : decode cc_l_bundle 13 = .ok (.astore 4, 2) := by decide +kernel
theorem d_l_bundle_15 : decode cc_l_bundle 15 = .ok (.iconst 1, 1) := by decide +kernel
theorem d_l_bundle_16 : decode cc_l_bundle 16 = .ok (.ireturn, 1) := by decide +kernel
theorem d_l_bundle_17 : decode cc_l_bundle 17 = .ok (.astore 4, 2) := by decide +kernel
theorem d_l_bundle_19 : decode cc_l_bundle 19 = .ok (.iconst 2, 1) := by decide +kernel
theorem d_l_bundle_20 : decode cc_l_bundle 20 = .ok (.ireturn, 1) := by decide +kernel
theorem d_l_bundle_21 : decode cc_l_bundle 21 = .ok (.astore 4, 2) := by decide +kernel
theorem d_l_bundle_23 : decode cc_l_bundle 23 = .ok (.iconst 3, 1) := by decide +kernel
theorem d_l_bundle_24 : decode cc_l_bundle 24 = .ok (.ireturn, 1) := by decide +kernel
theorem d_l_bundle_25 : decode cc_l_bundle 25 = .ok (.iconst 0, 1) := by decide +kernel
theorem d_l_bundle_26 : decode cc_l_bundle 26 = .ok (.ireturn, 1) := by decide +kernel
theorem d_l_cutAt_0 : decode cc_l_cutAt 0 = .ok (.aload_n 3, 1) := by decide +kernel
theorem d_l_cutAt_1 : decode cc_l_cutAt 1 = .ok (.iconst 0, 1) := by decide +kernel
theorem d_l_cutAt_2 : decode cc_l_cutAt 2 = .ok (.aload_n 0, 1) := by decide +kernel
theorem d_l_cutAt_3 : decode cc_l_cutAt 3 = .ok (.iload_n 1, 1) := by decide +kernel
theorem d_l_cutAt_4 : decode cc_l_cutAt 4 = .ok (.iload_n 2, 1) := by decide +kernel
theorem d_l_cutAt_5 : decode cc_l_cutAt 5 = .ok (.invokevirtual 50, 3) := by decide +kernel
theorem d_l_cutAt_8 : decode cc_l_cutAt 8 = .ok (.i2l, 1) := by decide +kernel
theorem d_l_cutAt_9 : decode cc_l_cutAt 9 = .ok (.lastore, 1) := by decide +kernel
theorem d_l_cutAt_10 : decode cc_l_cutAt 10 = .ok (.goto 7, 3) := by decide +kernel
theorem d_l_cutAt_13 : decode cc_l_cutAt 13 = .ok (.astore 4, 2) := by decide +kernel
theorem d_l_cutAt_15 : decode cc_l_cutAt 15 = .ok (.iconst 1, 1) := by decide +kernel
theorem d_l_cutAt_16 : decode cc_l_cutAt 16 = .ok (.ireturn, 1) := by decide +kernel
theorem d_l_cutAt_17 : decode cc_l_cutAt 17 = .ok (.iconst 0, 1) := by decide +kernel
theorem d_l_cutAt_18 : decode cc_l_cutAt 18 = .ok (.ireturn, 1) := by decide +kernel
theorem d_l_blade_0 : decode cc_l_blade 0 = .ok (.aload 4, 2) := by decide +kernel
theorem d_l_blade_2 : decode cc_l_blade 2 = .ok (.iconst 0, 1) := by decide +kernel
theorem d_l_blade_3 : decode cc_l_blade 3 = .ok (.aload_n 0, 1) := by decide +kernel
theorem d_l_blade_4 : decode cc_l_blade 4 = .ok (.iload_n 1, 1) := by decide +kernel
theorem d_l_blade_5 : decode cc_l_blade 5 = .ok (.iload_n 2, 1) := by decide +kernel
theorem d_l_blade_6 : decode cc_l_blade 6 = .ok (.iload_n 3, 1) := by decide +kernel
theorem d_l_blade_7 : decode cc_l_blade 7 = .ok (.invokevirtual 53, 3) := by decide +kernel
theorem d_l_blade_10 : decode cc_l_blade 10 = .ok (.i2l, 1) := by decide +kernel
theorem d_l_blade_11 : decode cc_l_blade 11 = .ok (.lastore, 1) := by decide +kernel
theorem d_l_blade_12 : decode cc_l_blade 12 = .ok (.goto 11, 3) := by decide +kernel
theorem d_l_blade_15 : decode cc_l_blade 15 = .ok (.astore 5, 2) := by decide +kernel
theorem d_l_blade_17 : decode cc_l_blade 17 = .ok (.iconst 1, 1) := by decide +kernel
theorem d_l_blade_18 : decode cc_l_blade 18 = .ok (.ireturn, 1) := by decide +kernel
theorem d_l_blade_19 : decode cc_l_blade 19 = .ok (.astore 5, 2) := by decide +kernel
theorem d_l_blade_21 : decode cc_l_blade 21 = .ok (.iconst 2, 1) := by decide +kernel
theorem d_l_blade_22 : decode cc_l_blade 22 = .ok (.ireturn, 1) := by decide +kernel
theorem d_l_blade_23 : decode cc_l_blade 23 = .ok (.iconst 0, 1) := by decide +kernel
theorem d_l_blade_24 : decode cc_l_blade 24 = .ok (.ireturn, 1) := by decide +kernel
theorem d_l_sum_0 : decode cc_l_sum 0 = .ok (.aload_n 2, 1) := by decide +kernel
theorem d_l_sum_1 : decode cc_l_sum 1 = .ok (.iconst 0, 1) := by decide +kernel
theorem d_l_sum_2 : decode cc_l_sum 2 = .ok (.aload_n 0, 1) := by decide +kernel
theorem d_l_sum_3 : decode cc_l_sum 3 = .ok (.iload_n 1, 1) := by decide +kernel
theorem d_l_sum_4 : decode cc_l_sum 4 = .ok (.invokevirtual 56, 3) := by decide +kernel
theorem d_l_sum_7 : decode cc_l_sum 7 = .ok (.i2l, 1) := by decide +kernel
theorem d_l_sum_8 : decode cc_l_sum 8 = .ok (.lastore, 1) := by decide +kernel
theorem d_l_sum_9 : decode cc_l_sum 9 = .ok (.goto 6, 3) := by decide +kernel
theorem d_l_sum_12 : decode cc_l_sum 12 = .ok (.astore_n 3, 1) := by decide +kernel
theorem d_l_sum_13 : decode cc_l_sum 13 = .ok (.iconst 1, 1) := by decide +kernel
theorem d_l_sum_14 : decode cc_l_sum 14 = .ok (.ireturn, 1) := by decide +kernel
theorem d_l_sum_15 : decode cc_l_sum 15 = .ok (.iconst 0, 1) := by decide +kernel
theorem d_l_sum_16 : decode cc_l_sum 16 = .ok (.ireturn, 1) := by decide +kernel
theorem d_l_side_0 : decode cc_l_side 0 = .ok (.aload_n 2, 1) := by decide +kernel
theorem d_l_side_1 : decode cc_l_side 1 = .ok (.iconst 0, 1) := by decide +kernel
theorem d_l_side_2 : decode cc_l_side 2 = .ok (.aload_n 0, 1) := by decide +kernel
theorem d_l_side_3 : decode cc_l_side 3 = .ok (.iload_n 1, 1) := by decide +kernel
theorem d_l_side_4 : decode cc_l_side 4 = .ok (.invokevirtual 59, 3) := by decide +kernel
theorem d_l_side_7 : decode cc_l_side 7 = .ok (.i2l, 1) := by decide +kernel
theorem d_l_side_8 : decode cc_l_side 8 = .ok (.lastore, 1) := by decide +kernel
theorem d_l_side_9 : decode cc_l_side 9 = .ok (.goto 6, 3) := by decide +kernel
theorem d_l_side_12 : decode cc_l_side 12 = .ok (.astore_n 3, 1) := by decide +kernel
theorem d_l_side_13 : decode cc_l_side 13 = .ok (.iconst 1, 1) := by decide +kernel
theorem d_l_side_14 : decode cc_l_side 14 = .ok (.ireturn, 1) := by decide +kernel
theorem d_l_side_15 : decode cc_l_side 15 = .ok (.iconst 0, 1) := by decide +kernel
theorem d_l_side_16 : decode cc_l_side 16 = .ok (.ireturn, 1) := by decide +kernel
theorem d_l_law_0 : decode code 0 = .ok (.new 8, 3) := by decide +kernel
theorem d_l_law_3 : decode code 3 = .ok (.dup, 1) := by decide +kernel
theorem d_l_law_4 : decode code 4 = .ok (.invokespecial 62, 3) := by decide +kernel
theorem d_l_law_7 : decode code 7 = .ok (.astore_n 1, 1) := by decide +kernel
theorem d_l_law_8 : decode code 8 = .ok (.new 63, 3) := by decide +kernel
theorem d_l_law_11 : decode code 11 = .ok (.dup, 1) := by decide +kernel
theorem d_l_law_12 : decode code 12 = .ok (.invokespecial 65, 3) := by decide +kernel
theorem d_l_law_15 : decode code 15 = .ok (.astore_n 2, 1) := by decide +kernel
theorem d_l_law_16 : decode code 16 = .ok (.iconst 1, 1) := by decide +kernel
theorem d_l_law_17 : decode code 17 = .ok (.newarray .long, 2) := by decide +kernel
theorem d_l_law_19 : decode code 19 = .ok (.astore_n 3, 1) := by decide +kernel
theorem d_l_law_20 : decode code 20 = .ok (.iconst 0, 1) := by decide +kernel
theorem d_l_law_21 : decode code 21 = .ok (.istore 4, 2) := by decide +kernel
theorem d_l_law_23 : decode code 23 = .ok (.iload 4, 2) := by decide +kernel
theorem d_l_law_25 : decode code 25 = .ok (.aload_n 0, 1) := by decide +kernel
theorem d_l_law_26 : decode code 26 = .ok (.arraylength, 1) := by decide +kernel
theorem d_l_law_27 : decode code 27 = .ok (.iconst 4, 1) := by decide +kernel
theorem d_l_law_28 : decode code 28 = .ok (.isub, 1) := by decide +kernel
theorem d_l_law_29 : decode code 29 = .ok (.if_icmp .gt 871, 3) := by decide +kernel
theorem d_l_law_32 : decode code 32 = .ok (.aload_n 0, 1) := by decide +kernel
theorem d_l_law_33 : decode code 33 = .ok (.iload 4, 2) := by decide +kernel
theorem d_l_law_35 : decode code 35 = .ok (.iaload, 1) := by decide +kernel
theorem d_l_law_36 : decode code 36 = .ok (.bipush 15, 2) := by decide +kernel
theorem d_l_law_38 : decode code 38 = .ok (.iand, 1) := by decide +kernel
theorem d_l_law_39 : decode code 39 = .ok (.tableswitch 855 0 14 #[73, 153, 201, 249, 285, 298, 366, 379, 423, 471, 527, 595, 663, 743, 799], 73) := by decide +kernel
theorem d_l_law_112 : decode code 112 = .ok (.aload_n 1, 1) := by decide +kernel
theorem d_l_law_113 : decode code 113 = .ok (.aload_n 0, 1) := by decide +kernel
theorem d_l_law_114 : decode code 114 = .ok (.iload 4, 2) := by decide +kernel
theorem d_l_law_116 : decode code 116 = .ok (.iconst 1, 1) := by decide +kernel
theorem d_l_law_117 : decode code 117 = .ok (.iadd, 1) := by decide +kernel
theorem d_l_law_118 : decode code 118 = .ok (.iaload, 1) := by decide +kernel
theorem d_l_law_119 : decode code 119 = .ok (.aload_n 0, 1) := by decide +kernel
theorem d_l_law_120 : decode code 120 = .ok (.iload 4, 2) := by decide +kernel
theorem d_l_law_122 : decode code 122 = .ok (.iconst 2, 1) := by decide +kernel
theorem d_l_law_123 : decode code 123 = .ok (.iadd, 1) := by decide +kernel
theorem d_l_law_124 : decode code 124 = .ok (.iaload, 1) := by decide +kernel
theorem d_l_law_125 : decode code 125 = .ok (.aload_n 0, 1) := by decide +kernel
theorem d_l_law_126 : decode code 126 = .ok (.iload 4, 2) := by decide +kernel
theorem d_l_law_128 : decode code 128 = .ok (.iconst 3, 1) := by decide +kernel
theorem d_l_law_129 : decode code 129 = .ok (.iadd, 1) := by decide +kernel
theorem d_l_law_130 : decode code 130 = .ok (.iaload, 1) := by decide +kernel
theorem d_l_law_131 : decode code 131 = .ok (.aload_n 3, 1) := by decide +kernel
theorem d_l_law_132 : decode code 132 = .ok (.invokestatic 66, 3) := by decide +kernel
theorem d_l_law_135 : decode code 135 = .ok (.istore 5, 2) := by decide +kernel
theorem d_l_law_137 : decode code 137 = .ok (.aload_n 2, 1) := by decide +kernel
theorem d_l_law_138 : decode code 138 = .ok (.aload_n 0, 1) := by decide +kernel
theorem d_l_law_139 : decode code 139 = .ok (.iload 4, 2) := by decide +kernel
theorem d_l_law_141 : decode code 141 = .ok (.iconst 1, 1) := by decide +kernel
theorem d_l_law_142 : decode code 142 = .ok (.iadd, 1) := by decide +kernel
theorem d_l_law_143 : decode code 143 = .ok (.iaload, 1) := by decide +kernel
theorem d_l_law_144 : decode code 144 = .ok (.aload_n 0, 1) := by decide +kernel
theorem d_l_law_145 : decode code 145 = .ok (.iload 4, 2) := by decide +kernel
theorem d_l_law_147 : decode code 147 = .ok (.iconst 2, 1) := by decide +kernel
theorem d_l_law_148 : decode code 148 = .ok (.iadd, 1) := by decide +kernel
theorem d_l_law_149 : decode code 149 = .ok (.iaload, 1) := by decide +kernel
theorem d_l_law_150 : decode code 150 = .ok (.aload_n 0, 1) := by decide +kernel
theorem d_l_law_151 : decode code 151 = .ok (.iload 4, 2) := by decide +kernel
theorem d_l_law_153 : decode code 153 = .ok (.iconst 3, 1) := by decide +kernel
theorem d_l_law_154 : decode code 154 = .ok (.iadd, 1) := by decide +kernel
theorem d_l_law_155 : decode code 155 = .ok (.iaload, 1) := by decide +kernel
theorem d_l_law_156 : decode code 156 = .ok (.invokevirtual 71, 3) := by decide +kernel
theorem d_l_law_159 : decode code 159 = .ok (.istore 6, 2) := by decide +kernel
theorem d_l_law_161 : decode code 161 = .ok (.aload_n 2, 1) := by decide +kernel
theorem d_l_law_162 : decode code 162 = .ok (.invokevirtual 72, 3) := by decide +kernel
theorem d_l_law_165 : decode code 165 = .ok (.iload 5, 2) := by decide +kernel
theorem d_l_law_167 : decode code 167 = .ok (.if_icmp .eq 5, 3) := by decide +kernel
theorem d_l_law_170 : decode code 170 = .ok (.iconst 0, 1) := by decide +kernel
theorem d_l_law_171 : decode code 171 = .ok (.ireturn, 1) := by decide +kernel
theorem d_l_law_172 : decode code 172 = .ok (.iload 5, 2) := by decide +kernel
theorem d_l_law_174 : decode code 174 = .ok (.ifCond .ne 15, 3) := by decide +kernel
theorem d_l_law_177 : decode code 177 = .ok (.aload_n 3, 1) := by decide +kernel
theorem d_l_law_178 : decode code 178 = .ok (.iconst 0, 1) := by decide +kernel
theorem d_l_law_179 : decode code 179 = .ok (.laload, 1) := by decide +kernel
theorem d_l_law_180 : decode code 180 = .ok (.iload 6, 2) := by decide +kernel
theorem d_l_law_182 : decode code 182 = .ok (.i2l, 1) := by decide +kernel
theorem d_l_law_183 : decode code 183 = .ok (.lcmp, 1) := by decide +kernel
theorem d_l_law_184 : decode code 184 = .ok (.ifCond .eq 5, 3) := by decide +kernel
theorem d_l_law_187 : decode code 187 = .ok (.iconst 0, 1) := by decide +kernel
theorem d_l_law_188 : decode code 188 = .ok (.ireturn, 1) := by decide +kernel
theorem d_l_law_189 : decode code 189 = .ok (.goto 705, 3) := by decide +kernel
theorem d_l_law_192 : decode code 192 = .ok (.aload_n 1, 1) := by decide +kernel
theorem d_l_law_193 : decode code 193 = .ok (.aload_n 0, 1) := by decide +kernel
theorem d_l_law_194 : decode code 194 = .ok (.iload 4, 2) := by decide +kernel
theorem d_l_law_196 : decode code 196 = .ok (.iconst 1, 1) := by decide +kernel
theorem d_l_law_197 : decode code 197 = .ok (.iadd, 1) := by decide +kernel
theorem d_l_law_198 : decode code 198 = .ok (.iaload, 1) := by decide +kernel
theorem d_l_law_199 : decode code 199 = .ok (.aload_n 0, 1) := by decide +kernel
theorem d_l_law_200 : decode code 200 = .ok (.iload 4, 2) := by decide +kernel
theorem d_l_law_202 : decode code 202 = .ok (.iconst 2, 1) := by decide +kernel
theorem d_l_law_203 : decode code 203 = .ok (.iadd, 1) := by decide +kernel
theorem d_l_law_204 : decode code 204 = .ok (.iaload, 1) := by decide +kernel
theorem d_l_law_205 : decode code 205 = .ok (.invokestatic 75, 3) := by decide +kernel
theorem d_l_law_208 : decode code 208 = .ok (.istore 5, 2) := by decide +kernel
theorem d_l_law_210 : decode code 210 = .ok (.aload_n 2, 1) := by decide +kernel
theorem d_l_law_211 : decode code 211 = .ok (.aload_n 0, 1) := by decide +kernel
theorem d_l_law_212 : decode code 212 = .ok (.iload 4, 2) := by decide +kernel
theorem d_l_law_214 : decode code 214 = .ok (.iconst 1, 1) := by decide +kernel
theorem d_l_law_215 : decode code 215 = .ok (.iadd, 1) := by decide +kernel
theorem d_l_law_216 : decode code 216 = .ok (.iaload, 1) := by decide +kernel
theorem d_l_law_217 : decode code 217 = .ok (.aload_n 0, 1) := by decide +kernel
theorem d_l_law_218 : decode code 218 = .ok (.iload 4, 2) := by decide +kernel
theorem d_l_law_220 : decode code 220 = .ok (.iconst 2, 1) := by decide +kernel
theorem d_l_law_221 : decode code 221 = .ok (.iadd, 1) := by decide +kernel
theorem d_l_law_222 : decode code 222 = .ok (.iaload, 1) := by decide +kernel
theorem d_l_law_223 : decode code 223 = .ok (.invokevirtual 78, 3) := by decide +kernel
theorem d_l_law_226 : decode code 226 = .ok (.aload_n 2, 1) := by decide +kernel
theorem d_l_law_227 : decode code 227 = .ok (.invokevirtual 72, 3) := by decide +kernel
theorem d_l_law_230 : decode code 230 = .ok (.iload 5, 2) := by decide +kernel
theorem d_l_law_232 : decode code 232 = .ok (.if_icmp .eq 5, 3) := by decide +kernel
theorem d_l_law_235 : decode code 235 = .ok (.iconst 0, 1) := by decide +kernel
theorem d_l_law_236 : decode code 236 = .ok (.ireturn, 1) := by decide +kernel
theorem d_l_law_237 : decode code 237 = .ok (.goto 657, 3) := by decide +kernel
theorem d_l_law_240 : decode code 240 = .ok (.aload_n 1, 1) := by decide +kernel
theorem d_l_law_241 : decode code 241 = .ok (.aload_n 0, 1) := by decide +kernel
theorem d_l_law_242 : decode code 242 = .ok (.iload 4, 2) := by decide +kernel
theorem d_l_law_244 : decode code 244 = .ok (.iconst 1, 1) := by decide +kernel
theorem d_l_law_245 : decode code 245 = .ok (.iadd, 1) := by decide +kernel
theorem d_l_law_246 : decode code 246 = .ok (.iaload, 1) := by decide +kernel
theorem d_l_law_247 : decode code 247 = .ok (.aload_n 0, 1) := by decide +kernel
theorem d_l_law_248 : decode code 248 = .ok (.iload 4, 2) := by decide +kernel
theorem d_l_law_250 : decode code 250 = .ok (.iconst 2, 1) := by decide +kernel
theorem d_l_law_251 : decode code 251 = .ok (.iadd, 1) := by decide +kernel
theorem d_l_law_252 : decode code 252 = .ok (.iaload, 1) := by decide +kernel
theorem d_l_law_253 : decode code 253 = .ok (.invokestatic 79, 3) := by decide +kernel
theorem d_l_law_256 : decode code 256 = .ok (.istore 5, 2) := by decide +kernel
theorem d_l_law_258 : decode code 258 = .ok (.aload_n 2, 1) := by decide +kernel
theorem d_l_law_259 : decode code 259 = .ok (.aload_n 0, 1) := by decide +kernel
theorem d_l_law_260 : decode code 260 = .ok (.iload 4, 2) := by decide +kernel
theorem d_l_law_262 : decode code 262 = .ok (.iconst 1, 1) := by decide +kernel
theorem d_l_law_263 : decode code 263 = .ok (.iadd, 1) := by decide +kernel
theorem d_l_law_264 : decode code 264 = .ok (.iaload, 1) := by decide +kernel
theorem d_l_law_265 : decode code 265 = .ok (.aload_n 0, 1) := by decide +kernel
theorem d_l_law_266 : decode code 266 = .ok (.iload 4, 2) := by decide +kernel
theorem d_l_law_268 : decode code 268 = .ok (.iconst 2, 1) := by decide +kernel
theorem d_l_law_269 : decode code 269 = .ok (.iadd, 1) := by decide +kernel
theorem d_l_law_270 : decode code 270 = .ok (.iaload, 1) := by decide +kernel
theorem d_l_law_271 : decode code 271 = .ok (.invokevirtual 81, 3) := by decide +kernel
theorem d_l_law_274 : decode code 274 = .ok (.aload_n 2, 1) := by decide +kernel
theorem d_l_law_275 : decode code 275 = .ok (.invokevirtual 72, 3) := by decide +kernel
theorem d_l_law_278 : decode code 278 = .ok (.iload 5, 2) := by decide +kernel
theorem d_l_law_280 : decode code 280 = .ok (.if_icmp .eq 5, 3) := by decide +kernel
theorem d_l_law_283 : decode code 283 = .ok (.iconst 0, 1) := by decide +kernel
theorem d_l_law_284 : decode code 284 = .ok (.ireturn, 1) := by decide +kernel
theorem d_l_law_285 : decode code 285 = .ok (.goto 609, 3) := by decide +kernel
theorem d_l_law_288 : decode code 288 = .ok (.aload_n 1, 1) := by decide +kernel
theorem d_l_law_289 : decode code 289 = .ok (.aload_n 0, 1) := by decide +kernel
theorem d_l_law_290 : decode code 290 = .ok (.iload 4, 2) := by decide +kernel
theorem d_l_law_292 : decode code 292 = .ok (.iconst 1, 1) := by decide +kernel
theorem d_l_law_293 : decode code 293 = .ok (.iadd, 1) := by decide +kernel
theorem d_l_law_294 : decode code 294 = .ok (.iaload, 1) := by decide +kernel
theorem d_l_law_295 : decode code 295 = .ok (.invokestatic 82, 3) := by decide +kernel
theorem d_l_law_298 : decode code 298 = .ok (.istore 5, 2) := by decide +kernel
theorem d_l_law_300 : decode code 300 = .ok (.aload_n 2, 1) := by decide +kernel
theorem d_l_law_301 : decode code 301 = .ok (.aload_n 0, 1) := by decide +kernel
theorem d_l_law_302 : decode code 302 = .ok (.iload 4, 2) := by decide +kernel
theorem d_l_law_304 : decode code 304 = .ok (.iconst 1, 1) := by decide +kernel
theorem d_l_law_305 : decode code 305 = .ok (.iadd, 1) := by decide +kernel
theorem d_l_law_306 : decode code 306 = .ok (.iaload, 1) := by decide +kernel
theorem d_l_law_307 : decode code 307 = .ok (.invokevirtual 85, 3) := by decide +kernel
theorem d_l_law_310 : decode code 310 = .ok (.aload_n 2, 1) := by decide +kernel
theorem d_l_law_311 : decode code 311 = .ok (.invokevirtual 72, 3) := by decide +kernel
theorem d_l_law_314 : decode code 314 = .ok (.iload 5, 2) := by decide +kernel
theorem d_l_law_316 : decode code 316 = .ok (.if_icmp .eq 5, 3) := by decide +kernel
theorem d_l_law_319 : decode code 319 = .ok (.iconst 0, 1) := by decide +kernel
theorem d_l_law_320 : decode code 320 = .ok (.ireturn, 1) := by decide +kernel
theorem d_l_law_321 : decode code 321 = .ok (.goto 573, 3) := by decide +kernel
theorem d_l_law_324 : decode code 324 = .ok (.aload_n 1, 1) := by decide +kernel
theorem d_l_law_325 : decode code 325 = .ok (.invokevirtual 86, 3) := by decide +kernel
theorem d_l_law_328 : decode code 328 = .ok (.aload_n 2, 1) := by decide +kernel
theorem d_l_law_329 : decode code 329 = .ok (.invokevirtual 89, 3) := by decide +kernel
theorem d_l_law_332 : decode code 332 = .ok (.if_icmp .eq 562, 3) := by decide +kernel
theorem d_l_law_335 : decode code 335 = .ok (.iconst 0, 1) := by decide +kernel
theorem d_l_law_336 : decode code 336 = .ok (.ireturn, 1) := by decide +kernel
theorem d_l_law_337 : decode code 337 = .ok (.aload_n 1, 1) := by decide +kernel
theorem d_l_law_338 : decode code 338 = .ok (.aload_n 0, 1) := by decide +kernel
theorem d_l_law_339 : decode code 339 = .ok (.iload 4, 2) := by decide +kernel
theorem d_l_law_341 : decode code 341 = .ok (.iconst 1, 1) := by decide +kernel
theorem d_l_law_342 : decode code 342 = .ok (.iadd, 1) := by decide +kernel
theorem d_l_law_343 : decode code 343 = .ok (.iaload, 1) := by decide +kernel
theorem d_l_law_344 : decode code 344 = .ok (.aload_n 0, 1) := by decide +kernel
theorem d_l_law_345 : decode code 345 = .ok (.iload 4, 2) := by decide +kernel
theorem d_l_law_347 : decode code 347 = .ok (.iconst 2, 1) := by decide +kernel
theorem d_l_law_348 : decode code 348 = .ok (.iadd, 1) := by decide +kernel
theorem d_l_law_349 : decode code 349 = .ok (.iaload, 1) := by decide +kernel
theorem d_l_law_350 : decode code 350 = .ok (.aload_n 3, 1) := by decide +kernel
theorem d_l_law_351 : decode code 351 = .ok (.invokestatic 90, 3) := by decide +kernel
theorem d_l_law_354 : decode code 354 = .ok (.istore 5, 2) := by decide +kernel
theorem d_l_law_356 : decode code 356 = .ok (.aload_n 2, 1) := by decide +kernel
theorem d_l_law_357 : decode code 357 = .ok (.aload_n 0, 1) := by decide +kernel
theorem d_l_law_358 : decode code 358 = .ok (.iload 4, 2) := by decide +kernel
theorem d_l_law_360 : decode code 360 = .ok (.iconst 1, 1) := by decide +kernel
theorem d_l_law_361 : decode code 361 = .ok (.iadd, 1) := by decide +kernel
theorem d_l_law_362 : decode code 362 = .ok (.iaload, 1) := by decide +kernel
theorem d_l_law_363 : decode code 363 = .ok (.aload_n 0, 1) := by decide +kernel
theorem d_l_law_364 : decode code 364 = .ok (.iload 4, 2) := by decide +kernel
theorem d_l_law_366 : decode code 366 = .ok (.iconst 2, 1) := by decide +kernel
theorem d_l_law_367 : decode code 367 = .ok (.iadd, 1) := by decide +kernel
theorem d_l_law_368 : decode code 368 = .ok (.iaload, 1) := by decide +kernel
theorem d_l_law_369 : decode code 369 = .ok (.invokevirtual 93, 3) := by decide +kernel
theorem d_l_law_372 : decode code 372 = .ok (.istore 6, 2) := by decide +kernel
theorem d_l_law_374 : decode code 374 = .ok (.aload_n 2, 1) := by decide +kernel
theorem d_l_law_375 : decode code 375 = .ok (.invokevirtual 72, 3) := by decide +kernel
theorem d_l_law_378 : decode code 378 = .ok (.iload 5, 2) := by decide +kernel
theorem d_l_law_380 : decode code 380 = .ok (.if_icmp .eq 5, 3) := by decide +kernel
theorem d_l_law_383 : decode code 383 = .ok (.iconst 0, 1) := by decide +kernel
theorem d_l_law_384 : decode code 384 = .ok (.ireturn, 1) := by decide +kernel
theorem d_l_law_385 : decode code 385 = .ok (.iload 5, 2) := by decide +kernel
theorem d_l_law_387 : decode code 387 = .ok (.ifCond .ne 15, 3) := by decide +kernel
theorem d_l_law_390 : decode code 390 = .ok (.aload_n 3, 1) := by decide +kernel
theorem d_l_law_391 : decode code 391 = .ok (.iconst 0, 1) := by decide +kernel
theorem d_l_law_392 : decode code 392 = .ok (.laload, 1) := by decide +kernel
theorem d_l_law_393 : decode code 393 = .ok (.iload 6, 2) := by decide +kernel
theorem d_l_law_395 : decode code 395 = .ok (.i2l, 1) := by decide +kernel
theorem d_l_law_396 : decode code 396 = .ok (.lcmp, 1) := by decide +kernel
theorem d_l_law_397 : decode code 397 = .ok (.ifCond .eq 5, 3) := by decide +kernel
theorem d_l_law_400 : decode code 400 = .ok (.iconst 0, 1) := by decide +kernel
theorem d_l_law_401 : decode code 401 = .ok (.ireturn, 1) := by decide +kernel
theorem d_l_law_402 : decode code 402 = .ok (.goto 492, 3) := by decide +kernel
theorem d_l_law_405 : decode code 405 = .ok (.aload_n 1, 1) := by decide +kernel
theorem d_l_law_406 : decode code 406 = .ok (.invokevirtual 94, 3) := by decide +kernel
theorem d_l_law_409 : decode code 409 = .ok (.aload_n 2, 1) := by decide +kernel
theorem d_l_law_410 : decode code 410 = .ok (.invokevirtual 97, 3) := by decide +kernel
theorem d_l_law_413 : decode code 413 = .ok (.if_icmp .eq 481, 3) := by decide +kernel
theorem d_l_law_416 : decode code 416 = .ok (.iconst 0, 1) := by decide +kernel
theorem d_l_law_417 : decode code 417 = .ok (.ireturn, 1) := by decide +kernel
theorem d_l_law_418 : decode code 418 = .ok (.aload_n 1, 1) := by decide +kernel
theorem d_l_law_419 : decode code 419 = .ok (.aload_n 3, 1) := by decide +kernel
theorem d_l_law_420 : decode code 420 = .ok (.invokestatic 98, 3) := by decide +kernel
theorem d_l_law_423 : decode code 423 = .ok (.istore 5, 2) := by decide +kernel
theorem d_l_law_425 : decode code 425 = .ok (.aload_n 2, 1) := by decide +kernel
theorem d_l_law_426 : decode code 426 = .ok (.invokevirtual 101, 3) := by decide +kernel
theorem d_l_law_429 : decode code 429 = .ok (.istore 6, 2) := by decide +kernel
theorem d_l_law_431 : decode code 431 = .ok (.aload_n 2, 1) := by decide +kernel
theorem d_l_law_432 : decode code 432 = .ok (.invokevirtual 72, 3) := by decide +kernel
theorem d_l_law_435 : decode code 435 = .ok (.iload 5, 2) := by decide +kernel
theorem d_l_law_437 : decode code 437 = .ok (.if_icmp .eq 5, 3) := by decide +kernel
theorem d_l_law_440 : decode code 440 = .ok (.iconst 0, 1) := by decide +kernel
theorem d_l_law_441 : decode code 441 = .ok (.ireturn, 1) := by decide +kernel
theorem d_l_law_442 : decode code 442 = .ok (.iload 5, 2) := by decide +kernel
theorem d_l_law_444 : decode code 444 = .ok (.ifCond .ne 15, 3) := by decide +kernel
theorem d_l_law_447 : decode code 447 = .ok (.aload_n 3, 1) := by decide +kernel
theorem d_l_law_448 : decode code 448 = .ok (.iconst 0, 1) := by decide +kernel
theorem d_l_law_449 : decode code 449 = .ok (.laload, 1) := by decide +kernel
theorem d_l_law_450 : decode code 450 = .ok (.iload 6, 2) := by decide +kernel
theorem d_l_law_452 : decode code 452 = .ok (.i2l, 1) := by decide +kernel
theorem d_l_law_453 : decode code 453 = .ok (.lcmp, 1) := by decide +kernel
theorem d_l_law_454 : decode code 454 = .ok (.ifCond .eq 5, 3) := by decide +kernel
theorem d_l_law_457 : decode code 457 = .ok (.iconst 0, 1) := by decide +kernel
theorem d_l_law_458 : decode code 458 = .ok (.ireturn, 1) := by decide +kernel
theorem d_l_law_459 : decode code 459 = .ok (.goto 435, 3) := by decide +kernel
theorem d_l_law_462 : decode code 462 = .ok (.aload_n 1, 1) := by decide +kernel
theorem d_l_law_463 : decode code 463 = .ok (.aload_n 0, 1) := by decide +kernel
theorem d_l_law_464 : decode code 464 = .ok (.iload 4, 2) := by decide +kernel
theorem d_l_law_466 : decode code 466 = .ok (.iconst 1, 1) := by decide +kernel
theorem d_l_law_467 : decode code 467 = .ok (.iadd, 1) := by decide +kernel
theorem d_l_law_468 : decode code 468 = .ok (.iaload, 1) := by decide +kernel
theorem d_l_law_469 : decode code 469 = .ok (.aload_n 0, 1) := by decide +kernel
theorem d_l_law_470 : decode code 470 = .ok (.iload 4, 2) := by decide +kernel
theorem d_l_law_472 : decode code 472 = .ok (.iconst 2, 1) := by decide +kernel
theorem d_l_law_473 : decode code 473 = .ok (.iadd, 1) := by decide +kernel
theorem d_l_law_474 : decode code 474 = .ok (.iaload, 1) := by decide +kernel
theorem d_l_law_475 : decode code 475 = .ok (.invokestatic 102, 3) := by decide +kernel
theorem d_l_law_478 : decode code 478 = .ok (.istore 5, 2) := by decide +kernel
theorem d_l_law_480 : decode code 480 = .ok (.aload_n 2, 1) := by decide +kernel
theorem d_l_law_481 : decode code 481 = .ok (.aload_n 0, 1) := by decide +kernel
theorem d_l_law_482 : decode code 482 = .ok (.iload 4, 2) := by decide +kernel
theorem d_l_law_484 : decode code 484 = .ok (.iconst 1, 1) := by decide +kernel
theorem d_l_law_485 : decode code 485 = .ok (.iadd, 1) := by decide +kernel
theorem d_l_law_486 : decode code 486 = .ok (.iaload, 1) := by decide +kernel
theorem d_l_law_487 : decode code 487 = .ok (.aload_n 0, 1) := by decide +kernel
theorem d_l_law_488 : decode code 488 = .ok (.iload 4, 2) := by decide +kernel
theorem d_l_law_490 : decode code 490 = .ok (.iconst 2, 1) := by decide +kernel
theorem d_l_law_491 : decode code 491 = .ok (.iadd, 1) := by decide +kernel
theorem d_l_law_492 : decode code 492 = .ok (.iaload, 1) := by decide +kernel
theorem d_l_law_493 : decode code 493 = .ok (.invokevirtual 104, 3) := by decide +kernel
theorem d_l_law_496 : decode code 496 = .ok (.aload_n 2, 1) := by decide +kernel
theorem d_l_law_497 : decode code 497 = .ok (.invokevirtual 72, 3) := by decide +kernel
theorem d_l_law_500 : decode code 500 = .ok (.iload 5, 2) := by decide +kernel
theorem d_l_law_502 : decode code 502 = .ok (.if_icmp .eq 5, 3) := by decide +kernel
theorem d_l_law_505 : decode code 505 = .ok (.iconst 0, 1) := by decide +kernel
theorem d_l_law_506 : decode code 506 = .ok (.ireturn, 1) := by decide +kernel
theorem d_l_law_507 : decode code 507 = .ok (.goto 387, 3) := by decide +kernel
theorem d_l_law_510 : decode code 510 = .ok (.aload_n 1, 1) := by decide +kernel
theorem d_l_law_511 : decode code 511 = .ok (.aload_n 0, 1) := by decide +kernel
theorem d_l_law_512 : decode code 512 = .ok (.iload 4, 2) := by decide +kernel
theorem d_l_law_514 : decode code 514 = .ok (.iconst 1, 1) := by decide +kernel
theorem d_l_law_515 : decode code 515 = .ok (.iadd, 1) := by decide +kernel
theorem d_l_law_516 : decode code 516 = .ok (.iaload, 1) := by decide +kernel
theorem d_l_law_517 : decode code 517 = .ok (.aload_n 3, 1) := by decide +kernel
theorem d_l_law_518 : decode code 518 = .ok (.invokestatic 105, 3) := by decide +kernel
theorem d_l_law_521 : decode code 521 = .ok (.istore 5, 2) := by decide +kernel
theorem d_l_law_523 : decode code 523 = .ok (.aload_n 2, 1) := by decide +kernel
theorem d_l_law_524 : decode code 524 = .ok (.aload_n 0, 1) := by decide +kernel
theorem d_l_law_525 : decode code 525 = .ok (.iload 4, 2) := by decide +kernel
theorem d_l_law_527 : decode code 527 = .ok (.iconst 1, 1) := by decide +kernel
theorem d_l_law_528 : decode code 528 = .ok (.iadd, 1) := by decide +kernel
theorem d_l_law_529 : decode code 529 = .ok (.iaload, 1) := by decide +kernel
theorem d_l_law_530 : decode code 530 = .ok (.invokevirtual 108, 3) := by decide +kernel
theorem d_l_law_533 : decode code 533 = .ok (.istore 6, 2) := by decide +kernel
theorem d_l_law_535 : decode code 535 = .ok (.aload_n 2, 1) := by decide +kernel
theorem d_l_law_536 : decode code 536 = .ok (.invokevirtual 72, 3) := by decide +kernel
theorem d_l_law_539 : decode code 539 = .ok (.iload 5, 2) := by decide +kernel
theorem d_l_law_541 : decode code 541 = .ok (.if_icmp .eq 5, 3) := by decide +kernel
theorem d_l_law_544 : decode code 544 = .ok (.iconst 0, 1) := by decide +kernel
theorem d_l_law_545 : decode code 545 = .ok (.ireturn, 1) := by decide +kernel
theorem d_l_law_546 : decode code 546 = .ok (.iload 5, 2) := by decide +kernel
theorem d_l_law_548 : decode code 548 = .ok (.ifCond .ne 15, 3) := by decide +kernel
theorem d_l_law_551 : decode code 551 = .ok (.aload_n 3, 1) := by decide +kernel
theorem d_l_law_552 : decode code 552 = .ok (.iconst 0, 1) := by decide +kernel
theorem d_l_law_553 : decode code 553 = .ok (.laload, 1) := by decide +kernel
theorem d_l_law_554 : decode code 554 = .ok (.iload 6, 2) := by decide +kernel
theorem d_l_law_556 : decode code 556 = .ok (.i2l, 1) := by decide +kernel
theorem d_l_law_557 : decode code 557 = .ok (.lcmp, 1) := by decide +kernel
theorem d_l_law_558 : decode code 558 = .ok (.ifCond .eq 5, 3) := by decide +kernel
theorem d_l_law_561 : decode code 561 = .ok (.iconst 0, 1) := by decide +kernel
theorem d_l_law_562 : decode code 562 = .ok (.ireturn, 1) := by decide +kernel
theorem d_l_law_563 : decode code 563 = .ok (.goto 331, 3) := by decide +kernel
theorem d_l_law_566 : decode code 566 = .ok (.aload_n 1, 1) := by decide +kernel
theorem d_l_law_567 : decode code 567 = .ok (.aload_n 0, 1) := by decide +kernel
theorem d_l_law_568 : decode code 568 = .ok (.iload 4, 2) := by decide +kernel
theorem d_l_law_570 : decode code 570 = .ok (.iconst 1, 1) := by decide +kernel
theorem d_l_law_571 : decode code 571 = .ok (.iadd, 1) := by decide +kernel
theorem d_l_law_572 : decode code 572 = .ok (.iaload, 1) := by decide +kernel
theorem d_l_law_573 : decode code 573 = .ok (.aload_n 0, 1) := by decide +kernel
theorem d_l_law_574 : decode code 574 = .ok (.iload 4, 2) := by decide +kernel
theorem d_l_law_576 : decode code 576 = .ok (.iconst 2, 1) := by decide +kernel
theorem d_l_law_577 : decode code 577 = .ok (.iadd, 1) := by decide +kernel
theorem d_l_law_578 : decode code 578 = .ok (.iaload, 1) := by decide +kernel
theorem d_l_law_579 : decode code 579 = .ok (.aload_n 3, 1) := by decide +kernel
theorem d_l_law_580 : decode code 580 = .ok (.invokestatic 109, 3) := by decide +kernel
theorem d_l_law_583 : decode code 583 = .ok (.istore 5, 2) := by decide +kernel
theorem d_l_law_585 : decode code 585 = .ok (.aload_n 2, 1) := by decide +kernel
theorem d_l_law_586 : decode code 586 = .ok (.aload_n 0, 1) := by decide +kernel
theorem d_l_law_587 : decode code 587 = .ok (.iload 4, 2) := by decide +kernel
theorem d_l_law_589 : decode code 589 = .ok (.iconst 1, 1) := by decide +kernel
theorem d_l_law_590 : decode code 590 = .ok (.iadd, 1) := by decide +kernel
theorem d_l_law_591 : decode code 591 = .ok (.iaload, 1) := by decide +kernel
theorem d_l_law_592 : decode code 592 = .ok (.aload_n 0, 1) := by decide +kernel
theorem d_l_law_593 : decode code 593 = .ok (.iload 4, 2) := by decide +kernel
theorem d_l_law_595 : decode code 595 = .ok (.iconst 2, 1) := by decide +kernel
theorem d_l_law_596 : decode code 596 = .ok (.iadd, 1) := by decide +kernel
theorem d_l_law_597 : decode code 597 = .ok (.iaload, 1) := by decide +kernel
theorem d_l_law_598 : decode code 598 = .ok (.invokevirtual 111, 3) := by decide +kernel
theorem d_l_law_601 : decode code 601 = .ok (.istore 6, 2) := by decide +kernel
theorem d_l_law_603 : decode code 603 = .ok (.aload_n 2, 1) := by decide +kernel
theorem d_l_law_604 : decode code 604 = .ok (.invokevirtual 72, 3) := by decide +kernel
theorem d_l_law_607 : decode code 607 = .ok (.iload 5, 2) := by decide +kernel
theorem d_l_law_609 : decode code 609 = .ok (.if_icmp .eq 5, 3) := by decide +kernel
theorem d_l_law_612 : decode code 612 = .ok (.iconst 0, 1) := by decide +kernel
theorem d_l_law_613 : decode code 613 = .ok (.ireturn, 1) := by decide +kernel
theorem d_l_law_614 : decode code 614 = .ok (.iload 5, 2) := by decide +kernel
theorem d_l_law_616 : decode code 616 = .ok (.ifCond .ne 15, 3) := by decide +kernel
theorem d_l_law_619 : decode code 619 = .ok (.aload_n 3, 1) := by decide +kernel
theorem d_l_law_620 : decode code 620 = .ok (.iconst 0, 1) := by decide +kernel
theorem d_l_law_621 : decode code 621 = .ok (.laload, 1) := by decide +kernel
theorem d_l_law_622 : decode code 622 = .ok (.iload 6, 2) := by decide +kernel
theorem d_l_law_624 : decode code 624 = .ok (.i2l, 1) := by decide +kernel
theorem d_l_law_625 : decode code 625 = .ok (.lcmp, 1) := by decide +kernel
theorem d_l_law_626 : decode code 626 = .ok (.ifCond .eq 5, 3) := by decide +kernel
theorem d_l_law_629 : decode code 629 = .ok (.iconst 0, 1) := by decide +kernel
theorem d_l_law_630 : decode code 630 = .ok (.ireturn, 1) := by decide +kernel
theorem d_l_law_631 : decode code 631 = .ok (.goto 263, 3) := by decide +kernel
theorem d_l_law_634 : decode code 634 = .ok (.aload_n 1, 1) := by decide +kernel
theorem d_l_law_635 : decode code 635 = .ok (.aload_n 0, 1) := by decide +kernel
theorem d_l_law_636 : decode code 636 = .ok (.iload 4, 2) := by decide +kernel
theorem d_l_law_638 : decode code 638 = .ok (.iconst 1, 1) := by decide +kernel
theorem d_l_law_639 : decode code 639 = .ok (.iadd, 1) := by decide +kernel
theorem d_l_law_640 : decode code 640 = .ok (.iaload, 1) := by decide +kernel
theorem d_l_law_641 : decode code 641 = .ok (.aload_n 0, 1) := by decide +kernel
theorem d_l_law_642 : decode code 642 = .ok (.iload 4, 2) := by decide +kernel
theorem d_l_law_644 : decode code 644 = .ok (.iconst 2, 1) := by decide +kernel
theorem d_l_law_645 : decode code 645 = .ok (.iadd, 1) := by decide +kernel
theorem d_l_law_646 : decode code 646 = .ok (.iaload, 1) := by decide +kernel
theorem d_l_law_647 : decode code 647 = .ok (.aload_n 3, 1) := by decide +kernel
theorem d_l_law_648 : decode code 648 = .ok (.invokestatic 112, 3) := by decide +kernel
theorem d_l_law_651 : decode code 651 = .ok (.istore 5, 2) := by decide +kernel
theorem d_l_law_653 : decode code 653 = .ok (.aload_n 2, 1) := by decide +kernel
theorem d_l_law_654 : decode code 654 = .ok (.aload_n 0, 1) := by decide +kernel
theorem d_l_law_655 : decode code 655 = .ok (.iload 4, 2) := by decide +kernel
theorem d_l_law_657 : decode code 657 = .ok (.iconst 1, 1) := by decide +kernel
theorem d_l_law_658 : decode code 658 = .ok (.iadd, 1) := by decide +kernel
theorem d_l_law_659 : decode code 659 = .ok (.iaload, 1) := by decide +kernel
theorem d_l_law_660 : decode code 660 = .ok (.aload_n 0, 1) := by decide +kernel
theorem d_l_law_661 : decode code 661 = .ok (.iload 4, 2) := by decide +kernel
theorem d_l_law_663 : decode code 663 = .ok (.iconst 2, 1) := by decide +kernel
theorem d_l_law_664 : decode code 664 = .ok (.iadd, 1) := by decide +kernel
theorem d_l_law_665 : decode code 665 = .ok (.iaload, 1) := by decide +kernel
theorem d_l_law_666 : decode code 666 = .ok (.invokevirtual 114, 3) := by decide +kernel
theorem d_l_law_669 : decode code 669 = .ok (.istore 6, 2) := by decide +kernel
theorem d_l_law_671 : decode code 671 = .ok (.aload_n 2, 1) := by decide +kernel
theorem d_l_law_672 : decode code 672 = .ok (.invokevirtual 72, 3) := by decide +kernel
theorem d_l_law_675 : decode code 675 = .ok (.iload 5, 2) := by decide +kernel
theorem d_l_law_677 : decode code 677 = .ok (.if_icmp .eq 5, 3) := by decide +kernel
theorem d_l_law_680 : decode code 680 = .ok (.iconst 0, 1) := by decide +kernel
theorem d_l_law_681 : decode code 681 = .ok (.ireturn, 1) := by decide +kernel
theorem d_l_law_682 : decode code 682 = .ok (.iload 5, 2) := by decide +kernel
theorem d_l_law_684 : decode code 684 = .ok (.ifCond .ne 15, 3) := by decide +kernel
theorem d_l_law_687 : decode code 687 = .ok (.aload_n 3, 1) := by decide +kernel
theorem d_l_law_688 : decode code 688 = .ok (.iconst 0, 1) := by decide +kernel
theorem d_l_law_689 : decode code 689 = .ok (.laload, 1) := by decide +kernel
theorem d_l_law_690 : decode code 690 = .ok (.iload 6, 2) := by decide +kernel
theorem d_l_law_692 : decode code 692 = .ok (.i2l, 1) := by decide +kernel
theorem d_l_law_693 : decode code 693 = .ok (.lcmp, 1) := by decide +kernel
theorem d_l_law_694 : decode code 694 = .ok (.ifCond .eq 5, 3) := by decide +kernel
theorem d_l_law_697 : decode code 697 = .ok (.iconst 0, 1) := by decide +kernel
theorem d_l_law_698 : decode code 698 = .ok (.ireturn, 1) := by decide +kernel
theorem d_l_law_699 : decode code 699 = .ok (.goto 195, 3) := by decide +kernel
theorem d_l_law_702 : decode code 702 = .ok (.aload_n 1, 1) := by decide +kernel
theorem d_l_law_703 : decode code 703 = .ok (.aload_n 0, 1) := by decide +kernel
theorem d_l_law_704 : decode code 704 = .ok (.iload 4, 2) := by decide +kernel
theorem d_l_law_706 : decode code 706 = .ok (.iconst 1, 1) := by decide +kernel
theorem d_l_law_707 : decode code 707 = .ok (.iadd, 1) := by decide +kernel
theorem d_l_law_708 : decode code 708 = .ok (.iaload, 1) := by decide +kernel
theorem d_l_law_709 : decode code 709 = .ok (.aload_n 0, 1) := by decide +kernel
theorem d_l_law_710 : decode code 710 = .ok (.iload 4, 2) := by decide +kernel
theorem d_l_law_712 : decode code 712 = .ok (.iconst 2, 1) := by decide +kernel
theorem d_l_law_713 : decode code 713 = .ok (.iadd, 1) := by decide +kernel
theorem d_l_law_714 : decode code 714 = .ok (.iaload, 1) := by decide +kernel
theorem d_l_law_715 : decode code 715 = .ok (.aload_n 0, 1) := by decide +kernel
theorem d_l_law_716 : decode code 716 = .ok (.iload 4, 2) := by decide +kernel
theorem d_l_law_718 : decode code 718 = .ok (.iconst 3, 1) := by decide +kernel
theorem d_l_law_719 : decode code 719 = .ok (.iadd, 1) := by decide +kernel
theorem d_l_law_720 : decode code 720 = .ok (.iaload, 1) := by decide +kernel
theorem d_l_law_721 : decode code 721 = .ok (.aload_n 3, 1) := by decide +kernel
theorem d_l_law_722 : decode code 722 = .ok (.invokestatic 115, 3) := by decide +kernel
theorem d_l_law_725 : decode code 725 = .ok (.istore 5, 2) := by decide +kernel
theorem d_l_law_727 : decode code 727 = .ok (.aload_n 2, 1) := by decide +kernel
theorem d_l_law_728 : decode code 728 = .ok (.aload_n 0, 1) := by decide +kernel
theorem d_l_law_729 : decode code 729 = .ok (.iload 4, 2) := by decide +kernel
theorem d_l_law_731 : decode code 731 = .ok (.iconst 1, 1) := by decide +kernel
theorem d_l_law_732 : decode code 732 = .ok (.iadd, 1) := by decide +kernel
theorem d_l_law_733 : decode code 733 = .ok (.iaload, 1) := by decide +kernel
theorem d_l_law_734 : decode code 734 = .ok (.aload_n 0, 1) := by decide +kernel
theorem d_l_law_735 : decode code 735 = .ok (.iload 4, 2) := by decide +kernel
theorem d_l_law_737 : decode code 737 = .ok (.iconst 2, 1) := by decide +kernel
theorem d_l_law_738 : decode code 738 = .ok (.iadd, 1) := by decide +kernel
theorem d_l_law_739 : decode code 739 = .ok (.iaload, 1) := by decide +kernel
theorem d_l_law_740 : decode code 740 = .ok (.aload_n 0, 1) := by decide +kernel
theorem d_l_law_741 : decode code 741 = .ok (.iload 4, 2) := by decide +kernel
theorem d_l_law_743 : decode code 743 = .ok (.iconst 3, 1) := by decide +kernel
theorem d_l_law_744 : decode code 744 = .ok (.iadd, 1) := by decide +kernel
theorem d_l_law_745 : decode code 745 = .ok (.iaload, 1) := by decide +kernel
theorem d_l_law_746 : decode code 746 = .ok (.invokevirtual 117, 3) := by decide +kernel
theorem d_l_law_749 : decode code 749 = .ok (.istore 6, 2) := by decide +kernel
theorem d_l_law_751 : decode code 751 = .ok (.aload_n 2, 1) := by decide +kernel
theorem d_l_law_752 : decode code 752 = .ok (.invokevirtual 72, 3) := by decide +kernel
theorem d_l_law_755 : decode code 755 = .ok (.iload 5, 2) := by decide +kernel
theorem d_l_law_757 : decode code 757 = .ok (.if_icmp .eq 5, 3) := by decide +kernel
theorem d_l_law_760 : decode code 760 = .ok (.iconst 0, 1) := by decide +kernel
theorem d_l_law_761 : decode code 761 = .ok (.ireturn, 1) := by decide +kernel
theorem d_l_law_762 : decode code 762 = .ok (.iload 5, 2) := by decide +kernel
theorem d_l_law_764 : decode code 764 = .ok (.ifCond .ne 15, 3) := by decide +kernel
theorem d_l_law_767 : decode code 767 = .ok (.aload_n 3, 1) := by decide +kernel
theorem d_l_law_768 : decode code 768 = .ok (.iconst 0, 1) := by decide +kernel
theorem d_l_law_769 : decode code 769 = .ok (.laload, 1) := by decide +kernel
theorem d_l_law_770 : decode code 770 = .ok (.iload 6, 2) := by decide +kernel
theorem d_l_law_772 : decode code 772 = .ok (.i2l, 1) := by decide +kernel
theorem d_l_law_773 : decode code 773 = .ok (.lcmp, 1) := by decide +kernel
theorem d_l_law_774 : decode code 774 = .ok (.ifCond .eq 5, 3) := by decide +kernel
theorem d_l_law_777 : decode code 777 = .ok (.iconst 0, 1) := by decide +kernel
theorem d_l_law_778 : decode code 778 = .ok (.ireturn, 1) := by decide +kernel
theorem d_l_law_779 : decode code 779 = .ok (.goto 115, 3) := by decide +kernel
theorem d_l_law_782 : decode code 782 = .ok (.aload_n 1, 1) := by decide +kernel
theorem d_l_law_783 : decode code 783 = .ok (.aload_n 0, 1) := by decide +kernel
theorem d_l_law_784 : decode code 784 = .ok (.iload 4, 2) := by decide +kernel
theorem d_l_law_786 : decode code 786 = .ok (.iconst 1, 1) := by decide +kernel
theorem d_l_law_787 : decode code 787 = .ok (.iadd, 1) := by decide +kernel
theorem d_l_law_788 : decode code 788 = .ok (.iaload, 1) := by decide +kernel
theorem d_l_law_789 : decode code 789 = .ok (.aload_n 3, 1) := by decide +kernel
theorem d_l_law_790 : decode code 790 = .ok (.invokestatic 118, 3) := by decide +kernel
theorem d_l_law_793 : decode code 793 = .ok (.istore 5, 2) := by decide +kernel
theorem d_l_law_795 : decode code 795 = .ok (.aload_n 2, 1) := by decide +kernel
theorem d_l_law_796 : decode code 796 = .ok (.aload_n 0, 1) := by decide +kernel
theorem d_l_law_797 : decode code 797 = .ok (.iload 4, 2) := by decide +kernel
theorem d_l_law_799 : decode code 799 = .ok (.iconst 1, 1) := by decide +kernel
theorem d_l_law_800 : decode code 800 = .ok (.iadd, 1) := by decide +kernel
theorem d_l_law_801 : decode code 801 = .ok (.iaload, 1) := by decide +kernel
theorem d_l_law_802 : decode code 802 = .ok (.invokevirtual 120, 3) := by decide +kernel
theorem d_l_law_805 : decode code 805 = .ok (.istore 6, 2) := by decide +kernel
theorem d_l_law_807 : decode code 807 = .ok (.aload_n 2, 1) := by decide +kernel
theorem d_l_law_808 : decode code 808 = .ok (.invokevirtual 72, 3) := by decide +kernel
theorem d_l_law_811 : decode code 811 = .ok (.iload 5, 2) := by decide +kernel
theorem d_l_law_813 : decode code 813 = .ok (.if_icmp .eq 5, 3) := by decide +kernel
theorem d_l_law_816 : decode code 816 = .ok (.iconst 0, 1) := by decide +kernel
theorem d_l_law_817 : decode code 817 = .ok (.ireturn, 1) := by decide +kernel
theorem d_l_law_818 : decode code 818 = .ok (.iload 5, 2) := by decide +kernel
theorem d_l_law_820 : decode code 820 = .ok (.ifCond .ne 15, 3) := by decide +kernel
theorem d_l_law_823 : decode code 823 = .ok (.aload_n 3, 1) := by decide +kernel
theorem d_l_law_824 : decode code 824 = .ok (.iconst 0, 1) := by decide +kernel
theorem d_l_law_825 : decode code 825 = .ok (.laload, 1) := by decide +kernel
theorem d_l_law_826 : decode code 826 = .ok (.iload 6, 2) := by decide +kernel
theorem d_l_law_828 : decode code 828 = .ok (.i2l, 1) := by decide +kernel
theorem d_l_law_829 : decode code 829 = .ok (.lcmp, 1) := by decide +kernel
theorem d_l_law_830 : decode code 830 = .ok (.ifCond .eq 5, 3) := by decide +kernel
theorem d_l_law_833 : decode code 833 = .ok (.iconst 0, 1) := by decide +kernel
theorem d_l_law_834 : decode code 834 = .ok (.ireturn, 1) := by decide +kernel
theorem d_l_law_835 : decode code 835 = .ok (.goto 59, 3) := by decide +kernel
theorem d_l_law_838 : decode code 838 = .ok (.aload_n 1, 1) := by decide +kernel
theorem d_l_law_839 : decode code 839 = .ok (.aload_n 0, 1) := by decide +kernel
theorem d_l_law_840 : decode code 840 = .ok (.iload 4, 2) := by decide +kernel
theorem d_l_law_842 : decode code 842 = .ok (.iconst 1, 1) := by decide +kernel
theorem d_l_law_843 : decode code 843 = .ok (.iadd, 1) := by decide +kernel
theorem d_l_law_844 : decode code 844 = .ok (.iaload, 1) := by decide +kernel
theorem d_l_law_845 : decode code 845 = .ok (.aload_n 3, 1) := by decide +kernel
theorem d_l_law_846 : decode code 846 = .ok (.invokestatic 121, 3) := by decide +kernel
theorem d_l_law_849 : decode code 849 = .ok (.istore 5, 2) := by decide +kernel
theorem d_l_law_851 : decode code 851 = .ok (.aload_n 2, 1) := by decide +kernel
theorem d_l_law_852 : decode code 852 = .ok (.aload_n 0, 1) := by decide +kernel
theorem d_l_law_853 : decode code 853 = .ok (.iload 4, 2) := by decide +kernel
theorem d_l_law_855 : decode code 855 = .ok (.iconst 1, 1) := by decide +kernel
theorem d_l_law_856 : decode code 856 = .ok (.iadd, 1) := by decide +kernel
theorem d_l_law_857 : decode code 857 = .ok (.iaload, 1) := by decide +kernel
theorem d_l_law_858 : decode code 858 = .ok (.invokevirtual 123, 3) := by decide +kernel
theorem d_l_law_861 : decode code 861 = .ok (.istore 6, 2) := by decide +kernel
theorem d_l_law_863 : decode code 863 = .ok (.aload_n 2, 1) := by decide +kernel
theorem d_l_law_864 : decode code 864 = .ok (.invokevirtual 72, 3) := by decide +kernel
theorem d_l_law_867 : decode code 867 = .ok (.iload 5, 2) := by decide +kernel
theorem d_l_law_869 : decode code 869 = .ok (.if_icmp .eq 5, 3) := by decide +kernel
theorem d_l_law_872 : decode code 872 = .ok (.iconst 0, 1) := by decide +kernel
theorem d_l_law_873 : decode code 873 = .ok (.ireturn, 1) := by decide +kernel
theorem d_l_law_874 : decode code 874 = .ok (.iload 5, 2) := by decide +kernel
theorem d_l_law_876 : decode code 876 = .ok (.ifCond .ne 15, 3) := by decide +kernel
theorem d_l_law_879 : decode code 879 = .ok (.aload_n 3, 1) := by decide +kernel
theorem d_l_law_880 : decode code 880 = .ok (.iconst 0, 1) := by decide +kernel
theorem d_l_law_881 : decode code 881 = .ok (.laload, 1) := by decide +kernel
theorem d_l_law_882 : decode code 882 = .ok (.iload 6, 2) := by decide +kernel
theorem d_l_law_884 : decode code 884 = .ok (.i2l, 1) := by decide +kernel
theorem d_l_law_885 : decode code 885 = .ok (.lcmp, 1) := by decide +kernel
theorem d_l_law_886 : decode code 886 = .ok (.ifCond .eq 5, 3) := by decide +kernel
theorem d_l_law_889 : decode code 889 = .ok (.iconst 0, 1) := by decide +kernel
theorem d_l_law_890 : decode code 890 = .ok (.ireturn, 1) := by decide +kernel
theorem d_l_law_891 : decode code 891 = .ok (.goto 3, 3) := by decide +kernel
theorem d_l_law_894 : decode code 894 = .ok (.iinc 4 4, 3) := by decide +kernel
theorem d_l_law_897 : decode code 897 = .ok (.goto (-874), 3) := by decide +kernel
theorem d_l_law_900 : decode code 900 = .ok (.iconst 1, 1) := by decide +kernel
theorem d_l_law_901 : decode code 901 = .ok (.ireturn, 1) := by decide +kernel
end
section
/-! by program: the verification conditions of the class -/
def vc_t_init (post : Prop) : Prop :=
  post
def vc_t_tryFirst_L33 (p1 : Int32) (p2 : Int32) (v_1 : Int32) (v_2 : Int32) (post : (Nat → Int32) → (Nat → Int32) → (Nat → Int32) → Prop) : Nat → Int32 → (Nat → Int32) → (Nat → Int32) → (Nat → Int32) → Prop
  | 0, _, _, _, _ => False
  | n33 + 1, v_4, t_costs_5, t_firstWanted_6, t_firstSteps_7 => (v_1 < v_4 → (post t_costs_5 t_firstWanted_6 t_firstSteps_7)) ∧ (¬ v_1 < v_4 → ((vp_in (p1 - v_4) 201) ∧ (∀ v_9 : Int32, v_9 = (t_costs_5 (p1 - v_4).toNatClampNeg) + v_2 → ((vp_in p1 201) ∧ (((t_costs_5 p1.toNatClampNeg) ≤ v_9 → (∀ v_11 : Int32, v_11 = v_4 + 1 → (vc_t_tryFirst_L33 p1 p2 v_1 v_2 post n33 v_11 t_costs_5 t_firstWanted_6 t_firstSteps_7))) ∧ (¬ (t_costs_5 p1.toNatClampNeg) ≤ v_9 → ((vp_in p1 201) ∧ ((vp_in p1 201) ∧ ((vp_in p1 201) ∧ (∀ v_12 : Int32, v_12 = v_4 + 1 → (vc_t_tryFirst_L33 p1 p2 v_1 v_2 post n33 v_12 (upd t_costs_5 p1.toNatClampNeg v_9) (upd t_firstWanted_6 p1.toNatClampNeg p2) (upd t_firstSteps_7 p1.toNatClampNeg v_4))))))))))))
def vc_t_tryFirst (t_lows : Nat → Int32) (t_highs : Nat → Int32) (t_ranks : Nat → Int32) (t_costs : Nat → Int32) (t_firstWanted : Nat → Int32) (t_firstSteps : Nat → Int32) (p1 : Int32) (p2 : Int32) (post : (Nat → Int32) → (Nat → Int32) → (Nat → Int32) → Prop) : Prop :=
  (vp_in p2 6) ∧ (∀ v_1 : Int32, v_1 = (if p1 < (t_highs p2.toNatClampNeg) then p1 else (t_highs p2.toNatClampNeg)) → ((vp_in p2 6) ∧ (∀ v_2 : Int32, v_2 = 1 - ((t_ranks p2.toNatClampNeg) * 256) → ((vp_in p2 6) ∧ (∀ v_3 : Int32, v_3 = t_lows p2.toNatClampNeg → (∃ n33, vc_t_tryFirst_L33 p1 p2 v_1 v_2 post n33 v_3 t_costs t_firstWanted t_firstSteps))))))
def vc_t_fill_L35 (t_lows : Nat → Int32) (t_highs : Nat → Int32) (t_ranks : Nat → Int32) (t_count : Int32) (v_1 : Int32) (K2 : Int32 → (Nat → Int32) → (Nat → Int32) → (Nat → Int32) → Prop) : Nat → Int32 → (Nat → Int32) → (Nat → Int32) → (Nat → Int32) → Prop
  | 0, _, _, _, _ => False
  | n35 + 1, v_7, t_costs_8, t_firstWanted_9, t_firstSteps_10 => (t_count ≤ v_7 → (∀ v_12 : Int32, v_12 = v_1 + 1 → (K2 v_12 t_costs_8 t_firstWanted_9 t_firstSteps_10))) ∧ (¬ t_count ≤ v_7 → (vc_t_tryFirst t_lows t_highs t_ranks t_costs_8 t_firstWanted_9 t_firstSteps_10 v_1 v_7 (fun (t_costs_13 : Nat → Int32) (t_firstWanted_14 : Nat → Int32) (t_firstSteps_15 : Nat → Int32) => ∀ v_16 : Int32, v_16 = v_7 + 1 → (vc_t_fill_L35 t_lows t_highs t_ranks t_count v_1 K2 n35 v_16 t_costs_13 t_firstWanted_14 t_firstSteps_15))))
def vc_t_fill_L2 (t_lows : Nat → Int32) (t_highs : Nat → Int32) (t_ranks : Nat → Int32) (t_count : Int32) (post : (Nat → Int32) → (Nat → Int32) → (Nat → Int32) → Prop) : Nat → Int32 → (Nat → Int32) → (Nat → Int32) → (Nat → Int32) → Prop
  | 0, _, _, _, _ => False
  | n2 + 1, v_1, t_costs_2, t_firstWanted_3, t_firstSteps_4 => (200 < v_1 → (post t_costs_2 t_firstWanted_3 t_firstSteps_4)) ∧ (¬ 200 < v_1 → (∀ v_6 : Int32, v_6 = v_1 * 1048576 → ((vp_in v_1 201) ∧ ((vp_in v_1 201) ∧ ((vp_in v_1 201) ∧ (∃ n35, vc_t_fill_L35 t_lows t_highs t_ranks t_count v_1 (fun (v_1k : Int32) (t_costs_2k : Nat → Int32) (t_firstWanted_3k : Nat → Int32) (t_firstSteps_4k : Nat → Int32) => vc_t_fill_L2 t_lows t_highs t_ranks t_count post n2 v_1k t_costs_2k t_firstWanted_3k t_firstSteps_4k) n35 0 (upd t_costs_2 v_1.toNatClampNeg v_6) (upd t_firstWanted_3 v_1.toNatClampNeg (-1)) (upd t_firstSteps_4 v_1.toNatClampNeg 0)))))))
def vc_t_fill (t_lows : Nat → Int32) (t_highs : Nat → Int32) (t_ranks : Nat → Int32) (t_costs : Nat → Int32) (t_firstWanted : Nat → Int32) (t_firstSteps : Nat → Int32) (t_count : Int32) (post : (Nat → Int32) → (Nat → Int32) → (Nat → Int32) → Prop) : Prop :=
  ∃ n2, vc_t_fill_L2 t_lows t_highs t_ranks t_count post n2 0 t_costs t_firstWanted t_firstSteps
def vc_t_add (t_lows : Nat → Int32) (t_highs : Nat → Int32) (t_ranks : Nat → Int32) (t_costs : Nat → Int32) (t_firstWanted : Nat → Int32) (t_firstSteps : Nat → Int32) (t_count : Int32) (p1 : Int32) (p2 : Int32) (p3 : Int32) (post : Int32 → Int32 → (Nat → Int32) → (Nat → Int32) → (Nat → Int32) → (Nat → Int32) → (Nat → Int32) → (Nat → Int32) → Prop) (postX : String → Prop) : Prop :=
  (t_count < 6 → ((vp_in t_count 6) ∧ ((vp_in t_count 6) ∧ ((vp_in t_count 6) ∧ (∀ v_2 : Int32, v_2 = t_count + 1 → (vc_t_fill (upd t_lows t_count.toNatClampNeg p1) (upd t_highs t_count.toNatClampNeg p2) (upd t_ranks t_count.toNatClampNeg p3) t_costs t_firstWanted t_firstSteps v_2 (fun (t_costs_3 : Nat → Int32) (t_firstWanted_4 : Nat → Int32) (t_firstSteps_5 : Nat → Int32) => post (v_2 - 1) v_2 (upd t_lows t_count.toNatClampNeg p1) (upd t_highs t_count.toNatClampNeg p2) (upd t_ranks t_count.toNatClampNeg p3) t_costs_3 t_firstWanted_4 t_firstSteps_5))))))) ∧ (¬ t_count < 6 → (postX "java/lang/UnsupportedOperationException"))
def vc_b_init (post : Int32 → Int32 → Prop) : Prop :=
  post 100 100
def vc_b_startBar (p1 : Int32) (p2 : Int32) (post : Int32 → Int32 → Int32 → Int32 → Prop) : Prop :=
  post p1 p2 0 0
def vc_b_roomOf (p0 : Int32) (p1 : Int32) (p2 : Int32) (p3 : Int32) (post : Int32 → Prop) : Prop :=
  post (if 0 < (((p0 - p1) - p2) - p3) then (((p0 - p1) - p2) - p3) else 0)
def vc_b_requireCutsFit (b_cutSteps : Int32) (p1 : Int32) (post : Prop) (postX : String → Prop) : Prop :=
  (b_cutSteps ≤ p1 → (post)) ∧ (¬ b_cutSteps ≤ p1 → (postX "java/lang/UnsupportedOperationException"))
def vc_b_changeCrops (b_length : Int32) (b_error : Int32) (b_head : Int32) (b_cutCount : Int32) (b_cutSteps : Int32) (p1 : Int32) (p2 : Int32) (post : Int32 → Int32 → Prop) (postX : String → Prop) : Prop :=
  (b_cutCount ≤ 0 → (vc_b_roomOf b_length b_error p1 p2 (fun (r_2 : Int32) => vc_b_requireCutsFit b_cutSteps r_2 (post p1 p2) postX))) ∧ (¬ b_cutCount ≤ 0 → ((p1 = b_head → (vc_b_roomOf b_length b_error p1 p2 (fun (r_4 : Int32) => vc_b_requireCutsFit b_cutSteps r_4 (post p1 p2) postX))) ∧ (¬ p1 = b_head → (postX "java/lang/UnsupportedOperationException"))))
def vc_b_learnLength (b_head : Int32) (b_tail : Int32) (b_cutSteps : Int32) (p1 : Int32) (post : Int32 → Int32 → Prop) (postX : String → Prop) : Prop :=
  vc_b_roomOf p1 0 b_head b_tail (fun (r_1 : Int32) => vc_b_requireCutsFit b_cutSteps r_1 (post p1 0) postX)
def vc_x_numberAt (n0 : Nat) (f0 : Nat → Int32) (p1 : Int32) (post : Int32 → Prop) : Prop :=
  (p1 < 0 → (post (-1))) ∧ (¬ p1 < 0 → ((p1 < (Int32.ofNat n0) → ((vp_in p1 n0) ∧ (post (f0 p1.toNatClampNeg)))) ∧ (¬ p1 < (Int32.ofNat n0) → (post (-1)))))
def vc_b_planRest_L49 (t_firstWanted : Nat → Int32) (t_firstSteps : Nat → Int32) (post : Int32 → Int32 → (Nat → Int32) → (Nat → Int32) → (Nat → Int32) → Prop) : Nat → Int32 → Int32 → Int32 → Int32 → (Nat → Int32) → (Nat → Int32) → (Nat → Int32) → Prop
  | 0, _, _, _, _, _, _, _ => False
  | n49 + 1, v_4, v_5, v_6, b_count_7, b_wanted_8, b_begins_9, b_steps_10 => (200 ≤ v_6 → (post b_count_7 v_4 b_wanted_8 b_begins_9 b_steps_10)) ∧ (¬ 200 ≤ v_6 → (vc_x_numberAt 201 t_firstSteps v_4 (fun (r_12 : Int32) => (1 ≤ r_12 → (vc_x_numberAt 201 t_firstWanted v_4 (fun (r_14 : Int32) => (vp_in v_6 200) ∧ ((vp_in v_6 200) ∧ ((vp_in v_6 200) ∧ (∀ v_15 : Int32, v_15 = v_5 + r_12 → (∀ v_16 : Int32, v_16 = v_4 - r_12 → (∀ v_17 : Int32, v_17 = v_6 + 1 → (∀ v_18 : Int32, v_18 = v_6 + 1 → (vc_b_planRest_L49 t_firstWanted t_firstSteps post n49 v_16 v_15 v_18 v_17 (upd b_wanted_8 v_6.toNatClampNeg r_14) (upd b_begins_9 v_6.toNatClampNeg v_5) (upd b_steps_10 v_6.toNatClampNeg r_12))))))))))) ∧ (¬ 1 ≤ r_12 → (post b_count_7 v_4 b_wanted_8 b_begins_9 b_steps_10)))))
def vc_b_planRest (b_wanted : Nat → Int32) (b_begins : Nat → Int32) (b_steps : Nat → Int32) (b_length : Int32) (b_error : Int32) (b_head : Int32) (b_tail : Int32) (b_cutCount : Int32) (b_cutSteps : Int32) (t_firstWanted : Nat → Int32) (t_firstSteps : Nat → Int32) (post : Int32 → Int32 → (Nat → Int32) → (Nat → Int32) → (Nat → Int32) → Prop) : Prop :=
  vc_b_roomOf b_length b_error b_head b_tail (fun (r_1 : Int32) => ∀ v_2 : Int32, v_2 = r_1 - b_cutSteps → (∀ v_3 : Int32, v_3 = b_head + b_cutSteps → (∃ n49, vc_b_planRest_L49 t_firstWanted t_firstSteps post n49 v_2 v_3 b_cutCount b_cutCount b_wanted b_begins b_steps)))
def vc_b_stepsOf (b_steps : Nat → Int32) (p1 : Int32) (post : Int32 → Prop) : Prop :=
  vc_x_numberAt 200 b_steps p1 (fun (r_1 : Int32) => post r_1)
def vc_b_markNextCut (b_steps : Nat → Int32) (b_count : Int32) (b_cutCount : Int32) (b_cutSteps : Int32) (post : Int32 → Int32 → Prop) : Prop :=
  (b_count ≤ b_cutCount → (post b_cutCount b_cutSteps)) ∧ (¬ b_count ≤ b_cutCount → (vc_b_stepsOf b_steps b_cutCount (fun (r_2 : Int32) => ∀ v_3 : Int32, v_3 = b_cutSteps + r_2 → (∀ v_4 : Int32, v_4 = b_cutCount + 1 → (post v_4 v_3)))))
def vc_b_wantedOf (b_wanted : Nat → Int32) (p1 : Int32) (post : Int32 → Prop) : Prop :=
  vc_x_numberAt 200 b_wanted p1 (fun (r_1 : Int32) => post r_1)
def vc_b_beginOf (b_begins : Nat → Int32) (p1 : Int32) (post : Int32 → Prop) : Prop :=
  vc_x_numberAt 200 b_begins p1 (fun (r_1 : Int32) => post r_1)
def vc_c_init_L32 (post : Int32 → Int32 → (Nat → Int32) → Prop) : Nat → Int32 → (Nat → Int32) → Prop
  | 0, _, _ => False
  | n32 + 1, v_2, c_cuts_3 => (20 ≤ v_2 → (post 10 200 c_cuts_3)) ∧ (¬ 20 ≤ v_2 → ((vp_in v_2 20) ∧ (∀ v_5 : Int32, v_5 = v_2 + 1 → (vc_c_init_L32 post n32 v_5 (upd c_cuts_3 v_2.toNatClampNeg (-1))))))
def vc_c_init (post : Int32 → Int32 → (Nat → Int32) → Prop) : Prop :=
  ∃ n32, vc_c_init_L32 post n32 0 (fun _ => 0)
def vc_c_lay_L12 (c_cuts : Nat → Int32) (c_places : Int32) (c_lying : Int32) (p1 : Int32) (post : Int32 → Int32 → (Nat → Int32) → Prop) : Nat → Int32 → Prop
  | 0, _ => False
  | n12 + 1, v_2 => (c_places ≤ v_2 → (post (-1) c_lying c_cuts)) ∧ (¬ c_places ≤ v_2 → ((vp_in v_2 20) ∧ (((c_cuts v_2.toNatClampNeg) = (-1) → ((vp_in v_2 20) ∧ (∀ v_6 : Int32, v_6 = c_lying + 1 → (post v_2 v_6 (upd c_cuts v_2.toNatClampNeg p1))))) ∧ (¬ (c_cuts v_2.toNatClampNeg) = (-1) → (∀ v_5 : Int32, v_5 = v_2 + 1 → (vc_c_lay_L12 c_cuts c_places c_lying p1 post n12 v_5))))))
def vc_c_lay (c_cuts : Nat → Int32) (c_places : Int32) (c_longest : Int32) (c_lying : Int32) (p1 : Int32) (p2 : Int32) (post : Int32 → Int32 → (Nat → Int32) → Prop) : Prop :=
  (p2 ≤ c_longest → (∃ n12, vc_c_lay_L12 c_cuts c_places c_lying p1 post n12 0)) ∧ (¬ p2 ≤ c_longest → (post (-1) c_lying c_cuts))
def vc_c_cutOn (c_cuts : Nat → Int32) (p1 : Int32) (post : Int32 → Prop) : Prop :=
  vc_x_numberAt 20 c_cuts p1 (fun (r_1 : Int32) => post r_1)
def vc_c_free (c_cuts : Nat → Int32) (c_lying : Int32) (p1 : Int32) (post : Int32 → (Nat → Int32) → Prop) : Prop :=
  (p1 < 0 → (post c_lying c_cuts)) ∧ (¬ p1 < 0 → ((20 ≤ p1 → (post c_lying c_cuts)) ∧ (¬ 20 ≤ p1 → ((vp_in p1 20) ∧ (((c_cuts p1.toNatClampNeg) = (-1) → (post c_lying c_cuts)) ∧ (¬ (c_cuts p1.toNatClampNeg) = (-1) → ((vp_in p1 20) ∧ (∀ v_4 : Int32, v_4 = c_lying - 1 → (post v_4 (upd c_cuts p1.toNatClampNeg (-1)))))))))))
def vc_k_init (post : Prop) : Prop :=
  post
def vc_k_enter (k_wanted : Nat → Int32) (k_steps : Nat → Int32) (k_places : Nat → Int32) (k_bundles : Nat → Int32) (k_sideCuts : Nat → Int32) (k_sums : Nat → Int32) (k_count : Int32) (k_sideCount : Int32) (p1 : Int32) (p2 : Int32) (p3 : Int32) (post : Int32 → Int32 → (Nat → Int32) → (Nat → Int32) → (Nat → Int32) → (Nat → Int32) → (Nat → Int32) → (Nat → Int32) → Prop) : Prop :=
  (300 ≤ k_count → (post k_count k_sideCount k_wanted k_steps k_places k_bundles k_sideCuts k_sums)) ∧ (¬ 300 ≤ k_count → ((p1 < 0 → (post k_count k_sideCount k_wanted k_steps k_places k_bundles k_sideCuts k_sums)) ∧ (¬ p1 < 0 → ((p1 < 6 → ((vp_in k_count 300) ∧ ((vp_in k_count 300) ∧ ((vp_in k_count 300) ∧ ((vp_in k_count 300) ∧ ((vp_in p1 6) ∧ (∀ v_4 : Int32, v_4 = (k_sums p1.toNatClampNeg) + p2 → ((vp_in p1 6) ∧ ((p3 = (-1) → ((300 ≤ k_sideCount → (∀ v_8 : Int32, v_8 = k_count + 1 → (post v_8 k_sideCount (upd k_wanted k_count.toNatClampNeg p1) (upd k_steps k_count.toNatClampNeg p2) (upd k_places k_count.toNatClampNeg p3) (upd k_bundles k_count.toNatClampNeg (-1)) k_sideCuts (upd k_sums p1.toNatClampNeg v_4)))) ∧ (¬ 300 ≤ k_sideCount → ((vp_in k_sideCount 300) ∧ (∀ v_9 : Int32, v_9 = k_sideCount + 1 → (∀ v_10 : Int32, v_10 = k_count + 1 → (post v_10 v_9 (upd k_wanted k_count.toNatClampNeg p1) (upd k_steps k_count.toNatClampNeg p2) (upd k_places k_count.toNatClampNeg p3) (upd k_bundles k_count.toNatClampNeg (-1)) (upd k_sideCuts k_sideCount.toNatClampNeg k_count) (upd k_sums p1.toNatClampNeg v_4)))))))) ∧ (¬ p3 = (-1) → (∀ v_6 : Int32, v_6 = k_count + 1 → (post v_6 k_sideCount (upd k_wanted k_count.toNatClampNeg p1) (upd k_steps k_count.toNatClampNeg p2) (upd k_places k_count.toNatClampNeg p3) (upd k_bundles k_count.toNatClampNeg (-1)) k_sideCuts (upd k_sums p1.toNatClampNeg v_4))))))))))))) ∧ (¬ p1 < 6 → (post k_count k_sideCount k_wanted k_steps k_places k_bundles k_sideCuts k_sums))))))
def vc_k_tell (k_wanted : Nat → Int32) (k_steps : Nat → Int32) (k_places : Nat → Int32) (k_bundles : Nat → Int32) (p1 : Int32) (p2 : Int32) (post : Int32 → Prop) : Prop :=
  (p2 = 0 → (vc_x_numberAt 300 k_wanted p1 (fun (r_2 : Int32) => post r_2))) ∧ (p2 = 1 → (vc_x_numberAt 300 k_steps p1 (fun (r_3 : Int32) => post r_3))) ∧ (p2 = 2 → (vc_x_numberAt 300 k_places p1 (fun (r_4 : Int32) => post r_4))) ∧ (¬ p2 = 0 → ¬ p2 = 1 → ¬ p2 = 2 → (vc_x_numberAt 300 k_bundles p1 (fun (r_5 : Int32) => post r_5)))
def vc_k_sumOf (k_sums : Nat → Int32) (p1 : Int32) (post : Int32 → Prop) : Prop :=
  vc_x_numberAt 6 k_sums p1 (fun (r_1 : Int32) => post r_1)
def vc_k_sideCut (k_sideCuts : Nat → Int32) (k_sideCount : Int32) (p1 : Int32) (post : Int32 → Prop) : Prop :=
  (k_sideCount ≤ p1 → (post (-1))) ∧ (¬ k_sideCount ≤ p1 → (vc_x_numberAt 300 k_sideCuts p1 (fun (r_2 : Int32) => post r_2)))
def vc_k_isOnBed (k_wanted : Nat → Int32) (k_places : Nat → Int32) (p1 : Int32) (p2 : Int32) (post : Int32 → Prop) : Prop :=
  (vp_in p1 300) ∧ (((k_wanted p1.toNatClampNeg) = p2 → ((vp_in p1 300) ∧ (((k_places p1.toNatClampNeg) < 0 → (post 0)) ∧ (¬ (k_places p1.toNatClampNeg) < 0 → (post 1))))) ∧ (¬ (k_wanted p1.toNatClampNeg) = p2 → (post 0)))
def vc_k_countOnBed_L4 (k_wanted : Nat → Int32) (k_places : Nat → Int32) (k_count : Int32) (p1 : Int32) (post : Int32 → Prop) : Nat → Int32 → Int32 → Prop
  | 0, _, _ => False
  | n4 + 1, v_1, v_2 => (k_count ≤ v_2 → (post v_1)) ∧ (¬ k_count ≤ v_2 → (vc_k_isOnBed k_wanted k_places v_2 p1 (fun (r_4 : Int32) => (r_4 = 0 → (∀ v_6 : Int32, v_6 = v_2 + 1 → (vc_k_countOnBed_L4 k_wanted k_places k_count p1 post n4 v_1 v_6))) ∧ (¬ r_4 = 0 → (∀ v_7 : Int32, v_7 = v_1 + 1 → (∀ v_8 : Int32, v_8 = v_2 + 1 → (vc_k_countOnBed_L4 k_wanted k_places k_count p1 post n4 v_7 v_8)))))))
def vc_k_countOnBed (k_wanted : Nat → Int32) (k_places : Nat → Int32) (k_count : Int32) (p1 : Int32) (post : Int32 → Prop) : Prop :=
  ∃ n4, vc_k_countOnBed_L4 k_wanted k_places k_count p1 post n4 0 0
def vc_k_takeBundle_L6 (k_wanted : Nat → Int32) (k_count : Int32) (k_bundleCount : Int32) (p1 : Int32) (p2 : Int32) (post : Int32 → Int32 → (Nat → Int32) → (Nat → Int32) → Int32 → (Nat → Int32) → Prop) : Nat → Int32 → Int32 → (Nat → Int32) → (Nat → Int32) → Int32 → (Nat → Int32) → Prop
  | 0, _, _, _, _, _, _ => False
  | n6 + 1, v_1, v_2, k_places_3, k_bundles_4, c_lying_5, c_cuts_6 => (k_count ≤ v_2 → (∀ v_8 : Int32, v_8 = k_bundleCount + 1 → (post v_8 v_8 k_places_3 k_bundles_4 c_lying_5 c_cuts_6))) ∧ (¬ k_count ≤ v_2 → ((p2 ≤ v_1 → (∀ v_10 : Int32, v_10 = k_bundleCount + 1 → (post v_10 v_10 k_places_3 k_bundles_4 c_lying_5 c_cuts_6))) ∧ (¬ p2 ≤ v_1 → (vc_k_isOnBed k_wanted k_places_3 v_2 p1 (fun (r_11 : Int32) => (r_11 = 0 → (∀ v_13 : Int32, v_13 = v_2 + 1 → (vc_k_takeBundle_L6 k_wanted k_count k_bundleCount p1 p2 post n6 v_1 v_13 k_places_3 k_bundles_4 c_lying_5 c_cuts_6))) ∧ (¬ r_11 = 0 → ((vp_in v_2 300) ∧ (vc_c_free c_cuts_6 c_lying_5 (k_places_3 v_2.toNatClampNeg) (fun (c_lying_15 : Int32) (c_cuts_16 : Nat → Int32) => (vp_in v_2 300) ∧ ((vp_in v_2 300) ∧ (∀ v_17 : Int32, v_17 = v_1 + 1 → (∀ v_18 : Int32, v_18 = v_2 + 1 → (vc_k_takeBundle_L6 k_wanted k_count k_bundleCount p1 p2 post n6 v_17 v_18 (upd k_places_3 v_2.toNatClampNeg (-2)) (upd k_bundles_4 v_2.toNatClampNeg k_bundleCount) c_lying_15 c_cuts_16)))))))))))))
def vc_k_takeBundle (k_wanted : Nat → Int32) (k_places : Nat → Int32) (k_bundles : Nat → Int32) (k_count : Int32) (k_bundleCount : Int32) (p1 : Int32) (p2 : Int32) (c_cuts : Nat → Int32) (c_lying : Int32) (post : Int32 → Int32 → (Nat → Int32) → (Nat → Int32) → Int32 → (Nat → Int32) → Prop) : Prop :=
  ∃ n6, vc_k_takeBundle_L6 k_wanted k_count k_bundleCount p1 p2 post n6 0 0 k_places k_bundles c_lying c_cuts
def vc_x_init (post : Int32 → Int32 → Int32 → Int32 → (Nat → Int32) → Prop) : Prop :=
  vc_t_init (vc_b_init (fun (b_length_9 : Int32) (b_rest_10 : Int32) => vc_k_init (vc_c_init (fun (c_places_22 : Int32) (c_longest_23 : Int32) (c_cuts_24 : Nat → Int32) => post b_length_9 b_rest_10 c_places_22 c_longest_23 c_cuts_24))))
def vc_x_requireRange (p0 : Int32) (p1 : Int32) (p2 : Int32) (post : Prop) (postX : String → Prop) : Prop :=
  (p0 < p1 → (postX "java/lang/IllegalArgumentException")) ∧ (¬ p0 < p1 → ((p0 ≤ p2 → (post)) ∧ (¬ p0 ≤ p2 → (postX "java/lang/IllegalArgumentException"))))
def vc_x_want (t_lows : Nat → Int32) (t_highs : Nat → Int32) (t_ranks : Nat → Int32) (t_costs : Nat → Int32) (t_firstWanted : Nat → Int32) (t_firstSteps : Nat → Int32) (t_count : Int32) (b_wanted : Nat → Int32) (b_begins : Nat → Int32) (b_steps : Nat → Int32) (b_length : Int32) (b_error : Int32) (b_head : Int32) (b_tail : Int32) (b_cutCount : Int32) (b_cutSteps : Int32) (p1 : Int32) (p2 : Int32) (p3 : Int32) (post : Int32 → Int32 → (Nat → Int32) → (Nat → Int32) → (Nat → Int32) → (Nat → Int32) → (Nat → Int32) → (Nat → Int32) → Int32 → Int32 → (Nat → Int32) → (Nat → Int32) → (Nat → Int32) → Prop) (postX : String → Prop) : Prop :=
  vc_x_requireRange p1 1 200 (vc_x_requireRange p2 p1 200 (vc_x_requireRange p3 0 9 (vc_t_add t_lows t_highs t_ranks t_costs t_firstWanted t_firstSteps t_count p1 p2 p3 (fun (r_1 : Int32) (t_count_2 : Int32) (t_lows_3 : Nat → Int32) (t_highs_4 : Nat → Int32) (t_ranks_5 : Nat → Int32) (t_costs_6 : Nat → Int32) (t_firstWanted_7 : Nat → Int32) (t_firstSteps_8 : Nat → Int32) => vc_b_planRest b_wanted b_begins b_steps b_length b_error b_head b_tail b_cutCount b_cutSteps t_firstWanted_7 t_firstSteps_8 (fun (b_count_9 : Int32) (b_rest_10 : Int32) (b_wanted_11 : Nat → Int32) (b_begins_12 : Nat → Int32) (b_steps_13 : Nat → Int32) => post r_1 t_count_2 t_lows_3 t_highs_4 t_ranks_5 t_costs_6 t_firstWanted_7 t_firstSteps_8 b_count_9 b_rest_10 b_wanted_11 b_begins_12 b_steps_13)) postX) postX) postX) postX
def vc_x_bar (t_firstWanted : Nat → Int32) (t_firstSteps : Nat → Int32) (b_wanted : Nat → Int32) (b_begins : Nat → Int32) (b_steps : Nat → Int32) (b_head : Int32) (b_tail : Int32) (p1 : Int32) (p2 : Int32) (post : Int32 → Int32 → Int32 → Int32 → Int32 → Int32 → (Nat → Int32) → (Nat → Int32) → (Nat → Int32) → Prop) (postX : String → Prop) : Prop :=
  vc_x_requireRange p1 1 200 (vc_x_requireRange p2 0 50 (vc_b_startBar p1 p2 (fun (b_length_1 : Int32) (b_error_2 : Int32) (b_cutCount_3 : Int32) (b_cutSteps_4 : Int32) => vc_b_planRest b_wanted b_begins b_steps b_length_1 b_error_2 b_head b_tail b_cutCount_3 b_cutSteps_4 t_firstWanted t_firstSteps (fun (b_count_5 : Int32) (b_rest_6 : Int32) (b_wanted_7 : Nat → Int32) (b_begins_8 : Nat → Int32) (b_steps_9 : Nat → Int32) => post b_length_1 b_error_2 b_count_5 b_cutCount_3 b_cutSteps_4 b_rest_6 b_wanted_7 b_begins_8 b_steps_9))) postX) postX
def vc_x_crop (t_firstWanted : Nat → Int32) (t_firstSteps : Nat → Int32) (b_wanted : Nat → Int32) (b_begins : Nat → Int32) (b_steps : Nat → Int32) (b_length : Int32) (b_error : Int32) (b_head : Int32) (b_cutCount : Int32) (b_cutSteps : Int32) (p1 : Int32) (p2 : Int32) (post : Int32 → Int32 → Int32 → Int32 → (Nat → Int32) → (Nat → Int32) → (Nat → Int32) → Prop) (postX : String → Prop) : Prop :=
  vc_x_requireRange p1 0 100 (vc_x_requireRange p2 0 100 (vc_b_changeCrops b_length b_error b_head b_cutCount b_cutSteps p1 p2 (fun (b_head_1 : Int32) (b_tail_2 : Int32) => vc_b_planRest b_wanted b_begins b_steps b_length b_error b_head_1 b_tail_2 b_cutCount b_cutSteps t_firstWanted t_firstSteps (fun (b_count_3 : Int32) (b_rest_4 : Int32) (b_wanted_5 : Nat → Int32) (b_begins_6 : Nat → Int32) (b_steps_7 : Nat → Int32) => post b_head_1 b_tail_2 b_count_3 b_rest_4 b_wanted_5 b_begins_6 b_steps_7)) postX) postX) postX
def vc_x_known (t_firstWanted : Nat → Int32) (t_firstSteps : Nat → Int32) (b_wanted : Nat → Int32) (b_begins : Nat → Int32) (b_steps : Nat → Int32) (b_head : Int32) (b_tail : Int32) (b_cutCount : Int32) (b_cutSteps : Int32) (p1 : Int32) (post : Int32 → Int32 → Int32 → Int32 → (Nat → Int32) → (Nat → Int32) → (Nat → Int32) → Prop) (postX : String → Prop) : Prop :=
  vc_x_requireRange p1 1 200 (vc_b_learnLength b_head b_tail b_cutSteps p1 (fun (b_length_1 : Int32) (b_error_2 : Int32) => vc_b_planRest b_wanted b_begins b_steps b_length_1 b_error_2 b_head b_tail b_cutCount b_cutSteps t_firstWanted t_firstSteps (fun (b_count_3 : Int32) (b_rest_4 : Int32) (b_wanted_5 : Nat → Int32) (b_begins_6 : Nat → Int32) (b_steps_7 : Nat → Int32) => post b_length_1 b_error_2 b_count_3 b_rest_4 b_wanted_5 b_begins_6 b_steps_7)) postX) postX
def vc_x_pieces (b_count : Int32) (post : Int32 → Prop) : Prop :=
  post b_count
def vc_x_requireIndex (p0 : Int32) (p1 : Int32) (post : Prop) (postX : String → Prop) : Prop :=
  (p0 < 0 → (postX "java/lang/IndexOutOfBoundsException")) ∧ (¬ p0 < 0 → ((p0 < p1 → (post)) ∧ (¬ p0 < p1 → (postX "java/lang/IndexOutOfBoundsException"))))
def vc_x_piece (b_wanted : Nat → Int32) (b_begins : Nat → Int32) (b_steps : Nat → Int32) (b_count : Int32) (b_cutCount : Int32) (p1 : Int32) (p2 : Int32) (post : Int32 → Prop) (postX : String → Prop) : Prop :=
  vc_x_requireIndex p1 b_count (vc_x_requireIndex p2 4 ((p2 = 0 → (vc_b_wantedOf b_wanted p1 (fun (r_2 : Int32) => post r_2))) ∧ (p2 = 1 → (vc_b_beginOf b_begins p1 (fun (r_3 : Int32) => post r_3))) ∧ (p2 = 2 → (vc_b_stepsOf b_steps p1 (fun (r_4 : Int32) => post r_4))) ∧ (¬ p2 = 0 → ¬ p2 = 1 → ¬ p2 = 2 → ((b_cutCount ≤ p1 → (post 0)) ∧ (¬ b_cutCount ≤ p1 → (post 1))))) postX) postX
def vc_x_loss (b_rest : Int32) (post : Int32 → Prop) : Prop :=
  post b_rest
def vc_x_cut (b_wanted : Nat → Int32) (b_steps : Nat → Int32) (b_count : Int32) (b_cutCount : Int32) (b_cutSteps : Int32) (k_wanted : Nat → Int32) (k_steps : Nat → Int32) (k_places : Nat → Int32) (k_bundles : Nat → Int32) (k_sideCuts : Nat → Int32) (k_sums : Nat → Int32) (k_count : Int32) (k_sideCount : Int32) (c_cuts : Nat → Int32) (c_places : Int32) (c_longest : Int32) (c_lying : Int32) (post : Int32 → Int32 → Int32 → Int32 → Int32 → (Nat → Int32) → (Nat → Int32) → (Nat → Int32) → (Nat → Int32) → (Nat → Int32) → (Nat → Int32) → Int32 → (Nat → Int32) → Prop) (postX : String → Prop) : Prop :=
  (b_cutCount < b_count → ((k_count < 300 → (vc_b_stepsOf b_steps b_cutCount (fun (r_3 : Int32) => vc_c_lay c_cuts c_places c_longest c_lying k_count r_3 (fun (r_4 : Int32) (c_lying_5 : Int32) (c_cuts_6 : Nat → Int32) => vc_b_wantedOf b_wanted b_cutCount (fun (r_7 : Int32) => vc_k_enter k_wanted k_steps k_places k_bundles k_sideCuts k_sums k_count k_sideCount r_7 r_3 r_4 (fun (k_count_8 : Int32) (k_sideCount_9 : Int32) (k_wanted_10 : Nat → Int32) (k_steps_11 : Nat → Int32) (k_places_12 : Nat → Int32) (k_bundles_13 : Nat → Int32) (k_sideCuts_14 : Nat → Int32) (k_sums_15 : Nat → Int32) => vc_b_markNextCut b_steps b_count b_cutCount b_cutSteps (fun (b_cutCount_16 : Int32) (b_cutSteps_17 : Int32) => post r_4 b_cutCount_16 b_cutSteps_17 k_count_8 k_sideCount_9 k_wanted_10 k_steps_11 k_places_12 k_bundles_13 k_sideCuts_14 k_sums_15 c_lying_5 c_cuts_6))))))) ∧ (¬ k_count < 300 → (postX "java/lang/UnsupportedOperationException")))) ∧ (¬ b_cutCount < b_count → (postX "java/lang/IllegalStateException"))
def vc_x_bed (c_lying : Int32) (p1 : Int32) (p2 : Int32) (post : Int32 → Int32 → Prop) (postX : String → Prop) : Prop :=
  (c_lying ≤ 0 → (vc_x_requireRange p1 1 20 (vc_x_requireRange p2 1 200 (post p1 p2) postX) postX)) ∧ (¬ c_lying ≤ 0 → (postX "java/lang/IllegalStateException"))
def vc_x_at (c_cuts : Nat → Int32) (c_places : Int32) (p1 : Int32) (post : Int32 → Prop) (postX : String → Prop) : Prop :=
  vc_x_requireIndex p1 c_places (vc_c_cutOn c_cuts p1 (fun (r_1 : Int32) => post r_1)) postX
def vc_x_bundle (t_count : Int32) (k_wanted : Nat → Int32) (k_places : Nat → Int32) (k_bundles : Nat → Int32) (k_count : Int32) (k_bundleCount : Int32) (c_cuts : Nat → Int32) (c_lying : Int32) (p1 : Int32) (p2 : Int32) (post : Int32 → Int32 → (Nat → Int32) → (Nat → Int32) → Int32 → (Nat → Int32) → Prop) (postX : String → Prop) : Prop :=
  vc_x_requireIndex p1 t_count (vc_x_requireRange p2 1 20 (vc_k_countOnBed k_wanted k_places k_count p1 (fun (r_1 : Int32) => (p2 ≤ r_1 → (vc_k_takeBundle k_wanted k_places k_bundles k_count k_bundleCount p1 p2 c_cuts c_lying (fun (r_3 : Int32) (k_bundleCount_4 : Int32) (k_places_5 : Nat → Int32) (k_bundles_6 : Nat → Int32) (c_lying_7 : Int32) (c_cuts_8 : Nat → Int32) => post r_3 k_bundleCount_4 k_places_5 k_bundles_6 c_lying_7 c_cuts_8))) ∧ (¬ p2 ≤ r_1 → (postX "java/lang/UnsupportedOperationException")))) postX) postX
def vc_x_cutAt (k_wanted : Nat → Int32) (k_steps : Nat → Int32) (k_places : Nat → Int32) (k_bundles : Nat → Int32) (k_count : Int32) (p1 : Int32) (p2 : Int32) (post : Int32 → Prop) (postX : String → Prop) : Prop :=
  vc_x_requireIndex p1 k_count (vc_x_requireIndex p2 4 (vc_k_tell k_wanted k_steps k_places k_bundles p1 p2 (fun (r_1 : Int32) => post r_1)) postX) postX
def vc_x_thousandthsOfTurns (p0 : Int32) (p1 : Int32) (post : Int32 → Prop) : Prop :=
  (1 ≤ p1 → ((¬ (2 * p1) = 0) ∧ (post (((2000 * p0) + p1) / (2 * p1))))) ∧ (¬ 1 ≤ p1 → (post 0))
def vc_x_blade (b_begins : Nat → Int32) (b_steps : Nat → Int32) (b_count : Int32) (p1 : Int32) (p2 : Int32) (p3 : Int32) (post : Int32 → Prop) (postX : String → Prop) : Prop :=
  vc_x_requireIndex p1 b_count (vc_x_requireIndex p3 2 (vc_x_requireRange p2 1 1000 (vc_b_beginOf b_begins p1 (fun (r_1 : Int32) => vc_b_stepsOf b_steps p1 (fun (r_2 : Int32) => vc_x_thousandthsOfTurns (r_1 + r_2) p2 (fun (r_4 : Int32) => (p3 = 0 → ((¬ 1000 = 0) ∧ (post (r_4 / 1000)))) ∧ (¬ p3 = 0 → ((¬ 1000 = 0) ∧ (post (r_4 - r_4 / 1000 * 1000)))))))) postX) postX) postX
def vc_x_sum (t_count : Int32) (k_sums : Nat → Int32) (p1 : Int32) (post : Int32 → Prop) (postX : String → Prop) : Prop :=
  vc_x_requireIndex p1 t_count (vc_k_sumOf k_sums p1 (fun (r_1 : Int32) => post r_1)) postX
def vc_x_side (k_sideCuts : Nat → Int32) (k_sideCount : Int32) (p1 : Int32) (post : Int32 → Prop) (postX : String → Prop) : Prop :=
  (0 ≤ p1 → (vc_k_sideCut k_sideCuts k_sideCount p1 (fun (r_2 : Int32) => post r_2))) ∧ (¬ 0 ≤ p1 → (postX "java/lang/IndexOutOfBoundsException"))
end
section
/-! by program: good words, the others, texts, rooms -/
/-- the good words, as a name that nothing unfolds -/
theorem kt_Gex : ∃ G : List Cond, G = lw_tbl.filter goodWord := ⟨_, rfl⟩
noncomputable def kt_G : List Cond := Classical.choose kt_Gex
theorem kt_G_eq : kt_G = lw_tbl.filter goodWord := Classical.choose_spec kt_Gex
theorem kt_m (i : Nat) {w : Cond} (h : lw_tbl[i]? = some w) (g : goodWord w = true) : w ∈ kt_G := by rw [kt_G_eq]; exact List.mem_filter.mpr ⟨List.mem_of_getElem? h, g⟩
theorem kt_G_good {w : Cond} (h : w ∈ kt_G) : goodWord w = true := by rw [kt_G_eq] at h; exact (List.mem_filter.mp h).2
theorem kt_G_in {w : Cond} (h : w ∈ kt_G) : w ∈ lw_tbl := by rw [kt_G_eq] at h; exact (List.mem_filter.mp h).1
set_option maxRecDepth 100000 in
theorem mw_1 : Cond.selects "CutShears$LossTable" ⟨"CutShears$LossTable", "add", "(III)I"⟩ ⟨"CutShears$LossTable", "add", "(III)I"⟩ ∈ kt_G := kt_m 1 (by decide +kernel) (by decide +kernel)
set_option maxRecDepth 100000 in
theorem mw_2 : Cond.selects "CutShears$LossTable" ⟨"CutShears$LossTable", "fill", "()V"⟩ ⟨"CutShears$LossTable", "fill", "()V"⟩ ∈ kt_G := kt_m 2 (by decide +kernel) (by decide +kernel)
set_option maxRecDepth 100000 in
theorem mw_3 : Cond.selects "CutShears$LossTable" ⟨"CutShears$LossTable", "tryFirst", "(II)V"⟩ ⟨"CutShears$LossTable", "tryFirst", "(II)V"⟩ ∈ kt_G := kt_m 3 (by decide +kernel) (by decide +kernel)
set_option maxRecDepth 100000 in
theorem mw_4 : Cond.selects "CutShears$BarPlan" ⟨"CutShears$BarPlan", "planRest", "(LCutShears$LossTable;)V"⟩ ⟨"CutShears$BarPlan", "planRest", "(LCutShears$LossTable;)V"⟩ ∈ kt_G := kt_m 4 (by decide +kernel) (by decide +kernel)
set_option maxRecDepth 100000 in
theorem mw_5 : Cond.selects "CutShears$BarPlan" ⟨"CutShears$BarPlan", "startBar", "(II)V"⟩ ⟨"CutShears$BarPlan", "startBar", "(II)V"⟩ ∈ kt_G := kt_m 5 (by decide +kernel) (by decide +kernel)
set_option maxRecDepth 100000 in
theorem mw_6 : Cond.selects "CutShears$BarPlan" ⟨"CutShears$BarPlan", "changeCrops", "(II)V"⟩ ⟨"CutShears$BarPlan", "changeCrops", "(II)V"⟩ ∈ kt_G := kt_m 6 (by decide +kernel) (by decide +kernel)
set_option maxRecDepth 100000 in
theorem mw_7 : Cond.selects "CutShears$BarPlan" ⟨"CutShears$BarPlan", "requireCutsFit", "(I)V"⟩ ⟨"CutShears$BarPlan", "requireCutsFit", "(I)V"⟩ ∈ kt_G := kt_m 7 (by decide +kernel) (by decide +kernel)
set_option maxRecDepth 100000 in
theorem mw_8 : Cond.selects "CutShears$BarPlan" ⟨"CutShears$BarPlan", "learnLength", "(I)V"⟩ ⟨"CutShears$BarPlan", "learnLength", "(I)V"⟩ ∈ kt_G := kt_m 8 (by decide +kernel) (by decide +kernel)
set_option maxRecDepth 100000 in
theorem mw_9 : Cond.selects "CutShears$BarPlan" ⟨"CutShears$BarPlan", "wantedOf", "(I)I"⟩ ⟨"CutShears$BarPlan", "wantedOf", "(I)I"⟩ ∈ kt_G := kt_m 9 (by decide +kernel) (by decide +kernel)
set_option maxRecDepth 100000 in
theorem mw_10 : Cond.selects "CutShears$BarPlan" ⟨"CutShears$BarPlan", "beginOf", "(I)I"⟩ ⟨"CutShears$BarPlan", "beginOf", "(I)I"⟩ ∈ kt_G := kt_m 10 (by decide +kernel) (by decide +kernel)
set_option maxRecDepth 100000 in
theorem mw_11 : Cond.selects "CutShears$BarPlan" ⟨"CutShears$BarPlan", "stepsOf", "(I)I"⟩ ⟨"CutShears$BarPlan", "stepsOf", "(I)I"⟩ ∈ kt_G := kt_m 11 (by decide +kernel) (by decide +kernel)
set_option maxRecDepth 100000 in
theorem mw_12 : Cond.selects "CutShears$CoolingBed" ⟨"CutShears$CoolingBed", "lay", "(II)I"⟩ ⟨"CutShears$CoolingBed", "lay", "(II)I"⟩ ∈ kt_G := kt_m 12 (by decide +kernel) (by decide +kernel)
set_option maxRecDepth 100000 in
theorem mw_13 : Cond.selects "CutShears$CutBook" ⟨"CutShears$CutBook", "enter", "(III)V"⟩ ⟨"CutShears$CutBook", "enter", "(III)V"⟩ ∈ kt_G := kt_m 13 (by decide +kernel) (by decide +kernel)
set_option maxRecDepth 100000 in
theorem mw_14 : Cond.selects "CutShears$BarPlan" ⟨"CutShears$BarPlan", "markNextCut", "()V"⟩ ⟨"CutShears$BarPlan", "markNextCut", "()V"⟩ ∈ kt_G := kt_m 14 (by decide +kernel) (by decide +kernel)
set_option maxRecDepth 100000 in
theorem mw_15 : Cond.selects "CutShears$CoolingBed" ⟨"CutShears$CoolingBed", "cutOn", "(I)I"⟩ ⟨"CutShears$CoolingBed", "cutOn", "(I)I"⟩ ∈ kt_G := kt_m 15 (by decide +kernel) (by decide +kernel)
set_option maxRecDepth 100000 in
theorem mw_16 : Cond.selects "CutShears$CutBook" ⟨"CutShears$CutBook", "countOnBed", "(I)I"⟩ ⟨"CutShears$CutBook", "countOnBed", "(I)I"⟩ ∈ kt_G := kt_m 16 (by decide +kernel) (by decide +kernel)
set_option maxRecDepth 100000 in
theorem mw_17 : Cond.selects "CutShears$CutBook" ⟨"CutShears$CutBook", "isOnBed", "(II)Z"⟩ ⟨"CutShears$CutBook", "isOnBed", "(II)Z"⟩ ∈ kt_G := kt_m 17 (by decide +kernel) (by decide +kernel)
set_option maxRecDepth 100000 in
theorem mw_18 : Cond.selects "CutShears$CutBook" ⟨"CutShears$CutBook", "takeBundle", "(IILCutShears$CoolingBed;)I"⟩ ⟨"CutShears$CutBook", "takeBundle", "(IILCutShears$CoolingBed;)I"⟩ ∈ kt_G := kt_m 18 (by decide +kernel) (by decide +kernel)
set_option maxRecDepth 100000 in
theorem mw_19 : Cond.selects "CutShears$CoolingBed" ⟨"CutShears$CoolingBed", "free", "(I)V"⟩ ⟨"CutShears$CoolingBed", "free", "(I)V"⟩ ∈ kt_G := kt_m 19 (by decide +kernel) (by decide +kernel)
set_option maxRecDepth 100000 in
theorem mw_20 : Cond.selects "CutShears$CutBook" ⟨"CutShears$CutBook", "tell", "(II)I"⟩ ⟨"CutShears$CutBook", "tell", "(II)I"⟩ ∈ kt_G := kt_m 20 (by decide +kernel) (by decide +kernel)
set_option maxRecDepth 100000 in
theorem mw_21 : Cond.selects "CutShears$CutBook" ⟨"CutShears$CutBook", "sumOf", "(I)I"⟩ ⟨"CutShears$CutBook", "sumOf", "(I)I"⟩ ∈ kt_G := kt_m 21 (by decide +kernel) (by decide +kernel)
set_option maxRecDepth 100000 in
theorem mw_22 : Cond.selects "CutShears$CutBook" ⟨"CutShears$CutBook", "sideCut", "(I)I"⟩ ⟨"CutShears$CutBook", "sideCut", "(I)I"⟩ ∈ kt_G := kt_m 22 (by decide +kernel) (by decide +kernel)
set_option maxRecDepth 100000 in
theorem mw_23 : Cond.selects "CutShearsModel" ⟨"CutShearsModel", "goes", "(ZZZ)Z"⟩ ⟨"CutShearsModel", "goes", "(ZZZ)Z"⟩ ∈ kt_G := kt_m 23 (by decide +kernel) (by decide +kernel)
set_option maxRecDepth 100000 in
theorem mw_24 : Cond.selects "CutShearsModel" ⟨"CutShearsModel", "taken", "()I"⟩ ⟨"CutShearsModel", "taken", "()I"⟩ ∈ kt_G := kt_m 24 (by decide +kernel) (by decide +kernel)
set_option maxRecDepth 100000 in
theorem mw_25 : Cond.selects "CutShearsModel" ⟨"CutShearsModel", "plan", "()V"⟩ ⟨"CutShearsModel", "plan", "()V"⟩ ∈ kt_G := kt_m 25 (by decide +kernel) (by decide +kernel)
set_option maxRecDepth 100000 in
theorem mw_26 : Cond.selects "CutShearsModel" ⟨"CutShearsModel", "left", "()I"⟩ ⟨"CutShearsModel", "left", "()I"⟩ ∈ kt_G := kt_m 26 (by decide +kernel) (by decide +kernel)
set_option maxRecDepth 100000 in
theorem mw_27 : Cond.selects "CutShearsModel" ⟨"CutShearsModel", "isBetter", "(IIII)Z"⟩ ⟨"CutShearsModel", "isBetter", "(IIII)Z"⟩ ∈ kt_G := kt_m 27 (by decide +kernel) (by decide +kernel)
set_option maxRecDepth 100000 in
theorem mw_28 : Cond.selects "CutShearsModel" ⟨"CutShearsModel", "finds", "(I)Z"⟩ ⟨"CutShearsModel", "finds", "(I)Z"⟩ ∈ kt_G := kt_m 28 (by decide +kernel) (by decide +kernel)
set_option maxRecDepth 100000 in
theorem mw_29 : Cond.selects "CutShearsModel" ⟨"CutShearsModel", "lying", "(I)I"⟩ ⟨"CutShearsModel", "lying", "(I)I"⟩ ∈ kt_G := kt_m 29 (by decide +kernel) (by decide +kernel)
set_option maxRecDepth 100000 in
theorem mw_30 : Cond.selects "CutShearsModel" ⟨"CutShearsModel", "isWanted", "(I)Z"⟩ ⟨"CutShearsModel", "isWanted", "(I)Z"⟩ ∈ kt_G := kt_m 30 (by decide +kernel) (by decide +kernel)
set_option maxRecDepth 100000 in
theorem mw_32 : Cond.initialized "CutShears" ∈ kt_G := kt_m 32 (by decide +kernel) (by decide +kernel)
set_option maxRecDepth 100000 in
theorem mw_33 : Cond.initialized "CutShears$LossTable" ∈ kt_G := kt_m 33 (by decide +kernel) (by decide +kernel)
set_option maxRecDepth 100000 in
theorem mw_34 : Cond.initialized "CutShears$BarPlan" ∈ kt_G := kt_m 34 (by decide +kernel) (by decide +kernel)
set_option maxRecDepth 100000 in
theorem mw_35 : Cond.initialized "CutShears$CutBook" ∈ kt_G := kt_m 35 (by decide +kernel) (by decide +kernel)
set_option maxRecDepth 100000 in
theorem mw_36 : Cond.initialized "CutShears$CoolingBed" ∈ kt_G := kt_m 36 (by decide +kernel) (by decide +kernel)
set_option maxRecDepth 100000 in
theorem mw_37 : Cond.initialized "CutShearsModel" ∈ kt_G := kt_m 37 (by decide +kernel) (by decide +kernel)
set_option maxRecDepth 100000 in
theorem mw_41 : Cond.initialized "java/lang/IllegalArgumentException" ∈ kt_G := kt_m 41 (by decide +kernel) (by decide +kernel)
set_option maxRecDepth 100000 in
theorem mw_42 : Cond.initialized "java/lang/UnsupportedOperationException" ∈ kt_G := kt_m 42 (by decide +kernel) (by decide +kernel)
set_option maxRecDepth 100000 in
theorem mw_43 : Cond.initialized "java/lang/Math" ∈ kt_G := kt_m 43 (by decide +kernel) (by decide +kernel)
set_option maxRecDepth 100000 in
theorem mw_44 : Cond.initialized "java/lang/IndexOutOfBoundsException" ∈ kt_G := kt_m 44 (by decide +kernel) (by decide +kernel)
set_option maxRecDepth 100000 in
theorem mw_45 : Cond.initialized "java/lang/IllegalStateException" ∈ kt_G := kt_m 45 (by decide +kernel) (by decide +kernel)
set_option maxRecDepth 100000 in
theorem mw_51 : Cond.methodLink "CutShears" 1 ⟨"java/lang/Object", "<init>", "()V"⟩ ∈ kt_G := kt_m 51 (by decide +kernel) (by decide +kernel)
set_option maxRecDepth 100000 in
theorem mw_52 : Cond.instanceMethod ⟨"java/lang/Object", "<init>", "()V"⟩ ∈ kt_G := kt_m 52 (by decide +kernel) (by decide +kernel)
set_option maxRecDepth 100000 in
theorem mw_53 : Cond.code ⟨"java/lang/Object", "<init>", "()V"⟩ object_method_1_code 1 none ∈ kt_G := kt_m 53 rfl rfl
set_option maxRecDepth 100000 in
theorem mw_54 : Cond.classLink "CutShears" 7 "CutShears$LossTable" ∈ kt_G := kt_m 54 (by decide +kernel) (by decide +kernel)
set_option maxRecDepth 100000 in
theorem mw_55 : Cond.instantiable "CutShears$LossTable" 7 ∈ kt_G := kt_m 55 (by decide +kernel) (by decide +kernel)
set_option maxRecDepth 100000 in
theorem mw_57 : Cond.instanceMethod ⟨"CutShears$LossTable", "<init>", "()V"⟩ ∈ kt_G := kt_m 57 (by decide +kernel) (by decide +kernel)
set_option maxRecDepth 100000 in
theorem mw_58 : Cond.code ⟨"CutShears$LossTable", "<init>", "()V"⟩ prog_5_method_1_code 1 none ∈ kt_G := kt_m 58 rfl rfl
set_option maxRecDepth 100000 in
theorem mw_59 : Cond.methodLink "CutShears$LossTable" 3 ⟨"java/lang/Object", "<init>", "()V"⟩ ∈ kt_G := kt_m 59 (by decide +kernel) (by decide +kernel)
set_option maxRecDepth 100000 in
theorem mw_60 : Cond.fieldLink "CutShears$LossTable" 9 "CutShears$LossTable" "lows" "[I" ∈ kt_G := kt_m 60 (by decide +kernel) (by decide +kernel)
set_option maxRecDepth 100000 in
theorem mw_61 : Cond.fieldLink "CutShears$LossTable" 15 "CutShears$LossTable" "highs" "[I" ∈ kt_G := kt_m 61 (by decide +kernel) (by decide +kernel)
set_option maxRecDepth 100000 in
theorem mw_62 : Cond.fieldLink "CutShears$LossTable" 18 "CutShears$LossTable" "ranks" "[I" ∈ kt_G := kt_m 62 (by decide +kernel) (by decide +kernel)
set_option maxRecDepth 100000 in
theorem mw_63 : Cond.fieldLink "CutShears$LossTable" 21 "CutShears$LossTable" "costs" "[I" ∈ kt_G := kt_m 63 (by decide +kernel) (by decide +kernel)
set_option maxRecDepth 100000 in
theorem mw_64 : Cond.fieldLink "CutShears$LossTable" 24 "CutShears$LossTable" "firstWanted" "[I" ∈ kt_G := kt_m 64 (by decide +kernel) (by decide +kernel)
set_option maxRecDepth 100000 in
theorem mw_66 : Cond.fieldLink "CutShears$LossTable" 27 "CutShears$LossTable" "firstSteps" "[I" ∈ kt_G := kt_m 66 (by decide +kernel) (by decide +kernel)
set_option maxRecDepth 100000 in
theorem mw_68 : Cond.fieldLink "CutShears$LossTable" 30 "CutShears$LossTable" "count" "I" ∈ kt_G := kt_m 68 (by decide +kernel) (by decide +kernel)
set_option maxRecDepth 100000 in
theorem mw_85 : Cond.arrayClass .int ∈ kt_G := kt_m 85 (by decide +kernel) (by decide +kernel)
set_option maxRecDepth 100000 in
theorem mw_86 : Cond.classLink "CutShears" 16 "CutShears$BarPlan" ∈ kt_G := kt_m 86 (by decide +kernel) (by decide +kernel)
set_option maxRecDepth 100000 in
theorem mw_87 : Cond.instantiable "CutShears$BarPlan" 11 ∈ kt_G := kt_m 87 (by decide +kernel) (by decide +kernel)
set_option maxRecDepth 100000 in
theorem mw_89 : Cond.instanceMethod ⟨"CutShears$BarPlan", "<init>", "()V"⟩ ∈ kt_G := kt_m 89 (by decide +kernel) (by decide +kernel)
set_option maxRecDepth 100000 in
theorem mw_90 : Cond.code ⟨"CutShears$BarPlan", "<init>", "()V"⟩ prog_2_method_1_code 1 none ∈ kt_G := kt_m 90 rfl rfl
set_option maxRecDepth 100000 in
theorem mw_91 : Cond.methodLink "CutShears$BarPlan" 3 ⟨"java/lang/Object", "<init>", "()V"⟩ ∈ kt_G := kt_m 91 (by decide +kernel) (by decide +kernel)
set_option maxRecDepth 100000 in
theorem mw_92 : Cond.fieldLink "CutShears$BarPlan" 9 "CutShears$BarPlan" "wanted" "[I" ∈ kt_G := kt_m 92 (by decide +kernel) (by decide +kernel)
set_option maxRecDepth 100000 in
theorem mw_93 : Cond.fieldLink "CutShears$BarPlan" 15 "CutShears$BarPlan" "begins" "[I" ∈ kt_G := kt_m 93 (by decide +kernel) (by decide +kernel)
set_option maxRecDepth 100000 in
theorem mw_94 : Cond.fieldLink "CutShears$BarPlan" 18 "CutShears$BarPlan" "steps" "[I" ∈ kt_G := kt_m 94 (by decide +kernel) (by decide +kernel)
set_option maxRecDepth 100000 in
theorem mw_95 : Cond.fieldLink "CutShears$BarPlan" 21 "CutShears$BarPlan" "length" "I" ∈ kt_G := kt_m 95 (by decide +kernel) (by decide +kernel)
set_option maxRecDepth 100000 in
theorem mw_96 : Cond.fieldLink "CutShears$BarPlan" 25 "CutShears$BarPlan" "error" "I" ∈ kt_G := kt_m 96 (by decide +kernel) (by decide +kernel)
set_option maxRecDepth 100000 in
theorem mw_97 : Cond.fieldLink "CutShears$BarPlan" 28 "CutShears$BarPlan" "head" "I" ∈ kt_G := kt_m 97 (by decide +kernel) (by decide +kernel)
set_option maxRecDepth 100000 in
theorem mw_98 : Cond.fieldLink "CutShears$BarPlan" 31 "CutShears$BarPlan" "tail" "I" ∈ kt_G := kt_m 98 (by decide +kernel) (by decide +kernel)
set_option maxRecDepth 100000 in
theorem mw_99 : Cond.fieldLink "CutShears$BarPlan" 34 "CutShears$BarPlan" "count" "I" ∈ kt_G := kt_m 99 (by decide +kernel) (by decide +kernel)
set_option maxRecDepth 100000 in
theorem mw_101 : Cond.fieldLink "CutShears$BarPlan" 37 "CutShears$BarPlan" "cutCount" "I" ∈ kt_G := kt_m 101 (by decide +kernel) (by decide +kernel)
set_option maxRecDepth 100000 in
theorem mw_103 : Cond.fieldLink "CutShears$BarPlan" 40 "CutShears$BarPlan" "cutSteps" "I" ∈ kt_G := kt_m 103 (by decide +kernel) (by decide +kernel)
set_option maxRecDepth 100000 in
theorem mw_104 : Cond.fieldLink "CutShears$BarPlan" 43 "CutShears$BarPlan" "rest" "I" ∈ kt_G := kt_m 104 (by decide +kernel) (by decide +kernel)
set_option maxRecDepth 100000 in
theorem mw_129 : Cond.classLink "CutShears" 23 "CutShears$CutBook" ∈ kt_G := kt_m 129 (by decide +kernel) (by decide +kernel)
set_option maxRecDepth 100000 in
theorem mw_130 : Cond.instantiable "CutShears$CutBook" 9 ∈ kt_G := kt_m 130 (by decide +kernel) (by decide +kernel)
set_option maxRecDepth 100000 in
theorem mw_132 : Cond.instanceMethod ⟨"CutShears$CutBook", "<init>", "()V"⟩ ∈ kt_G := kt_m 132 (by decide +kernel) (by decide +kernel)
set_option maxRecDepth 100000 in
theorem mw_133 : Cond.code ⟨"CutShears$CutBook", "<init>", "()V"⟩ prog_4_method_1_code 1 none ∈ kt_G := kt_m 133 rfl rfl
set_option maxRecDepth 100000 in
theorem mw_134 : Cond.methodLink "CutShears$CutBook" 3 ⟨"java/lang/Object", "<init>", "()V"⟩ ∈ kt_G := kt_m 134 (by decide +kernel) (by decide +kernel)
set_option maxRecDepth 100000 in
theorem mw_135 : Cond.fieldLink "CutShears$CutBook" 9 "CutShears$CutBook" "wanted" "[I" ∈ kt_G := kt_m 135 (by decide +kernel) (by decide +kernel)
set_option maxRecDepth 100000 in
theorem mw_136 : Cond.fieldLink "CutShears$CutBook" 15 "CutShears$CutBook" "steps" "[I" ∈ kt_G := kt_m 136 (by decide +kernel) (by decide +kernel)
set_option maxRecDepth 100000 in
theorem mw_137 : Cond.fieldLink "CutShears$CutBook" 18 "CutShears$CutBook" "places" "[I" ∈ kt_G := kt_m 137 (by decide +kernel) (by decide +kernel)
set_option maxRecDepth 100000 in
theorem mw_138 : Cond.fieldLink "CutShears$CutBook" 21 "CutShears$CutBook" "bundles" "[I" ∈ kt_G := kt_m 138 (by decide +kernel) (by decide +kernel)
set_option maxRecDepth 100000 in
theorem mw_139 : Cond.fieldLink "CutShears$CutBook" 24 "CutShears$CutBook" "sideCuts" "[I" ∈ kt_G := kt_m 139 (by decide +kernel) (by decide +kernel)
set_option maxRecDepth 100000 in
theorem mw_140 : Cond.fieldLink "CutShears$CutBook" 27 "CutShears$CutBook" "sums" "[I" ∈ kt_G := kt_m 140 (by decide +kernel) (by decide +kernel)
set_option maxRecDepth 100000 in
theorem mw_141 : Cond.fieldLink "CutShears$CutBook" 30 "CutShears$CutBook" "count" "I" ∈ kt_G := kt_m 141 (by decide +kernel) (by decide +kernel)
set_option maxRecDepth 100000 in
theorem mw_143 : Cond.fieldLink "CutShears$CutBook" 34 "CutShears$CutBook" "sideCount" "I" ∈ kt_G := kt_m 143 (by decide +kernel) (by decide +kernel)
set_option maxRecDepth 100000 in
theorem mw_144 : Cond.fieldLink "CutShears$CutBook" 37 "CutShears$CutBook" "bundleCount" "I" ∈ kt_G := kt_m 144 (by decide +kernel) (by decide +kernel)
set_option maxRecDepth 100000 in
theorem mw_164 : Cond.classLink "CutShears" 30 "CutShears$CoolingBed" ∈ kt_G := kt_m 164 (by decide +kernel) (by decide +kernel)
set_option maxRecDepth 100000 in
theorem mw_165 : Cond.instantiable "CutShears$CoolingBed" 4 ∈ kt_G := kt_m 165 (by decide +kernel) (by decide +kernel)
set_option maxRecDepth 100000 in
theorem mw_167 : Cond.instanceMethod ⟨"CutShears$CoolingBed", "<init>", "()V"⟩ ∈ kt_G := kt_m 167 (by decide +kernel) (by decide +kernel)
set_option maxRecDepth 100000 in
theorem mw_168 : Cond.code ⟨"CutShears$CoolingBed", "<init>", "()V"⟩ prog_3_method_1_code 2 none ∈ kt_G := kt_m 168 rfl rfl
set_option maxRecDepth 100000 in
theorem mw_169 : Cond.methodLink "CutShears$CoolingBed" 3 ⟨"java/lang/Object", "<init>", "()V"⟩ ∈ kt_G := kt_m 169 (by decide +kernel) (by decide +kernel)
set_option maxRecDepth 100000 in
theorem mw_170 : Cond.fieldLink "CutShears$CoolingBed" 9 "CutShears$CoolingBed" "cuts" "[I" ∈ kt_G := kt_m 170 (by decide +kernel) (by decide +kernel)
set_option maxRecDepth 100000 in
theorem mw_171 : Cond.fieldLink "CutShears$CoolingBed" 15 "CutShears$CoolingBed" "places" "I" ∈ kt_G := kt_m 171 (by decide +kernel) (by decide +kernel)
set_option maxRecDepth 100000 in
theorem mw_173 : Cond.fieldLink "CutShears$CoolingBed" 19 "CutShears$CoolingBed" "longest" "I" ∈ kt_G := kt_m 173 (by decide +kernel) (by decide +kernel)
set_option maxRecDepth 100000 in
theorem mw_175 : Cond.fieldLink "CutShears$CoolingBed" 22 "CutShears$CoolingBed" "lying" "I" ∈ kt_G := kt_m 175 (by decide +kernel) (by decide +kernel)
set_option maxRecDepth 100000 in
theorem mw_186 : Cond.fieldLink "CutShears" 10 "CutShears" "table" "LCutShears$LossTable;" ∈ kt_G := kt_m 186 (by decide +kernel) (by decide +kernel)
set_option maxRecDepth 100000 in
theorem mw_187 : Cond.fieldLink "CutShears" 19 "CutShears" "plan" "LCutShears$BarPlan;" ∈ kt_G := kt_m 187 (by decide +kernel) (by decide +kernel)
set_option maxRecDepth 100000 in
theorem mw_188 : Cond.fieldLink "CutShears" 26 "CutShears" "book" "LCutShears$CutBook;" ∈ kt_G := kt_m 188 (by decide +kernel) (by decide +kernel)
set_option maxRecDepth 100000 in
theorem mw_189 : Cond.fieldLink "CutShears" 33 "CutShears" "cooling" "LCutShears$CoolingBed;" ∈ kt_G := kt_m 189 (by decide +kernel) (by decide +kernel)
set_option maxRecDepth 100000 in
theorem mw_216 : Cond.methodLink "CutShears" 37 ⟨"CutShears", "requireRange", "(III)V"⟩ ∈ kt_G := kt_m 216 (by decide +kernel) (by decide +kernel)
set_option maxRecDepth 100000 in
theorem mw_217 : Cond.static ⟨"CutShears", "requireRange", "(III)V"⟩ ∈ kt_G := kt_m 217 (by decide +kernel) (by decide +kernel)
set_option maxRecDepth 100000 in
theorem mw_218 : Cond.code ⟨"CutShears", "requireRange", "(III)V"⟩ prog_1_method_19_code 3 none ∈ kt_G := kt_m 218 rfl rfl
set_option maxRecDepth 100000 in
theorem mw_219 : Cond.classLink "CutShears" 149 "java/lang/IllegalArgumentException" ∈ kt_G := kt_m 219 (by decide +kernel) (by decide +kernel)
set_option maxRecDepth 100000 in
theorem mw_290 : Cond.instanceMethod ⟨"CutShears$LossTable", "add", "(III)I"⟩ ∈ kt_G := kt_m 290 (by decide +kernel) (by decide +kernel)
set_option maxRecDepth 100000 in
theorem mw_291 : Cond.code ⟨"CutShears$LossTable", "add", "(III)I"⟩ prog_5_method_2_code 4 (some .int) ∈ kt_G := kt_m 291 rfl rfl
set_option maxRecDepth 100000 in
theorem mw_292 : Cond.classLink "CutShears$LossTable" 34 "java/lang/UnsupportedOperationException" ∈ kt_G := kt_m 292 (by decide +kernel) (by decide +kernel)
set_option maxRecDepth 100000 in
theorem mw_308 : Cond.methodLink "CutShears$LossTable" 41 ⟨"CutShears$LossTable", "fill", "()V"⟩ ∈ kt_G := kt_m 308 (by decide +kernel) (by decide +kernel)
set_option maxRecDepth 100000 in
theorem mw_310 : Cond.instanceMethod ⟨"CutShears$LossTable", "fill", "()V"⟩ ∈ kt_G := kt_m 310 (by decide +kernel) (by decide +kernel)
set_option maxRecDepth 100000 in
theorem mw_311 : Cond.code ⟨"CutShears$LossTable", "fill", "()V"⟩ prog_5_method_3_code 3 none ∈ kt_G := kt_m 311 rfl rfl
set_option maxRecDepth 100000 in
theorem mw_312 : Cond.constant "CutShears$LossTable" 44 1048576 ∈ kt_G := kt_m 312 (by decide +kernel) (by decide +kernel)
set_option maxRecDepth 100000 in
theorem mw_313 : Cond.methodLink "CutShears$LossTable" 45 ⟨"CutShears$LossTable", "tryFirst", "(II)V"⟩ ∈ kt_G := kt_m 313 (by decide +kernel) (by decide +kernel)
set_option maxRecDepth 100000 in
theorem mw_315 : Cond.instanceMethod ⟨"CutShears$LossTable", "tryFirst", "(II)V"⟩ ∈ kt_G := kt_m 315 (by decide +kernel) (by decide +kernel)
set_option maxRecDepth 100000 in
theorem mw_316 : Cond.code ⟨"CutShears$LossTable", "tryFirst", "(II)V"⟩ prog_5_method_4_code 7 none ∈ kt_G := kt_m 316 rfl rfl
set_option maxRecDepth 100000 in
theorem mw_317 : Cond.methodLink "CutShears$LossTable" 49 ⟨"java/lang/Math", "min", "(II)I"⟩ ∈ kt_G := kt_m 317 (by decide +kernel) (by decide +kernel)
set_option maxRecDepth 100000 in
theorem mw_318 : Cond.static ⟨"java/lang/Math", "min", "(II)I"⟩ ∈ kt_G := kt_m 318 (by decide +kernel) (by decide +kernel)
set_option maxRecDepth 100000 in
theorem mw_319 : Cond.code ⟨"java/lang/Math", "min", "(II)I"⟩ prog_12_method_69_code 2 (some .int) ∈ kt_G := kt_m 319 rfl rfl
set_option maxRecDepth 100000 in
theorem mw_322 : Cond.instanceMethod ⟨"CutShears$BarPlan", "planRest", "(LCutShears$LossTable;)V"⟩ ∈ kt_G := kt_m 322 (by decide +kernel) (by decide +kernel)
set_option maxRecDepth 100000 in
theorem mw_323 : Cond.code ⟨"CutShears$BarPlan", "planRest", "(LCutShears$LossTable;)V"⟩ prog_2_method_7_code 6 none ∈ kt_G := kt_m 323 rfl rfl
set_option maxRecDepth 100000 in
theorem mw_324 : Cond.methodLink "CutShears$BarPlan" 53 ⟨"CutShears$BarPlan", "roomOf", "(IIII)I"⟩ ∈ kt_G := kt_m 324 (by decide +kernel) (by decide +kernel)
set_option maxRecDepth 100000 in
theorem mw_325 : Cond.static ⟨"CutShears$BarPlan", "roomOf", "(IIII)I"⟩ ∈ kt_G := kt_m 325 (by decide +kernel) (by decide +kernel)
set_option maxRecDepth 100000 in
theorem mw_326 : Cond.code ⟨"CutShears$BarPlan", "roomOf", "(IIII)I"⟩ prog_2_method_6_code 4 (some .int) ∈ kt_G := kt_m 326 rfl rfl
set_option maxRecDepth 100000 in
theorem mw_327 : Cond.methodLink "CutShears$BarPlan" 63 ⟨"java/lang/Math", "max", "(II)I"⟩ ∈ kt_G := kt_m 327 (by decide +kernel) (by decide +kernel)
set_option maxRecDepth 100000 in
theorem mw_328 : Cond.static ⟨"java/lang/Math", "max", "(II)I"⟩ ∈ kt_G := kt_m 328 (by decide +kernel) (by decide +kernel)
set_option maxRecDepth 100000 in
theorem mw_329 : Cond.code ⟨"java/lang/Math", "max", "(II)I"⟩ prog_12_method_65_code 2 (some .int) ∈ kt_G := kt_m 329 rfl rfl
set_option maxRecDepth 100000 in
theorem mw_331 : Cond.static ⟨"CutShears", "numberAt", "([II)I"⟩ ∈ kt_G := kt_m 331 (by decide +kernel) (by decide +kernel)
set_option maxRecDepth 100000 in
theorem mw_332 : Cond.code ⟨"CutShears", "numberAt", "([II)I"⟩ prog_1_method_20_code 2 (some .int) ∈ kt_G := kt_m 332 rfl rfl
set_option maxRecDepth 100000 in
theorem mw_342 : Cond.instanceMethod ⟨"CutShears$BarPlan", "startBar", "(II)V"⟩ ∈ kt_G := kt_m 342 (by decide +kernel) (by decide +kernel)
set_option maxRecDepth 100000 in
theorem mw_343 : Cond.code ⟨"CutShears$BarPlan", "startBar", "(II)V"⟩ prog_2_method_2_code 3 none ∈ kt_G := kt_m 343 rfl rfl
set_option maxRecDepth 100000 in
theorem mw_353 : Cond.instanceMethod ⟨"CutShears$BarPlan", "changeCrops", "(II)V"⟩ ∈ kt_G := kt_m 353 (by decide +kernel) (by decide +kernel)
set_option maxRecDepth 100000 in
theorem mw_354 : Cond.code ⟨"CutShears$BarPlan", "changeCrops", "(II)V"⟩ prog_2_method_3_code 3 none ∈ kt_G := kt_m 354 rfl rfl
set_option maxRecDepth 100000 in
theorem mw_355 : Cond.classLink "CutShears$BarPlan" 46 "java/lang/UnsupportedOperationException" ∈ kt_G := kt_m 355 (by decide +kernel) (by decide +kernel)
set_option maxRecDepth 100000 in
theorem mw_358 : Cond.methodLink "CutShears$BarPlan" 57 ⟨"CutShears$BarPlan", "requireCutsFit", "(I)V"⟩ ∈ kt_G := kt_m 358 (by decide +kernel) (by decide +kernel)
set_option maxRecDepth 100000 in
theorem mw_360 : Cond.instanceMethod ⟨"CutShears$BarPlan", "requireCutsFit", "(I)V"⟩ ∈ kt_G := kt_m 360 (by decide +kernel) (by decide +kernel)
set_option maxRecDepth 100000 in
theorem mw_361 : Cond.code ⟨"CutShears$BarPlan", "requireCutsFit", "(I)V"⟩ prog_2_method_5_code 2 none ∈ kt_G := kt_m 361 rfl rfl
set_option maxRecDepth 100000 in
theorem mw_372 : Cond.instanceMethod ⟨"CutShears$BarPlan", "learnLength", "(I)V"⟩ ∈ kt_G := kt_m 372 (by decide +kernel) (by decide +kernel)
set_option maxRecDepth 100000 in
theorem mw_373 : Cond.code ⟨"CutShears$BarPlan", "learnLength", "(I)V"⟩ prog_2_method_4_code 2 none ∈ kt_G := kt_m 373 rfl rfl
set_option maxRecDepth 100000 in
theorem mw_382 : Cond.methodLink "CutShears" 64 ⟨"CutShears", "requireIndex", "(II)V"⟩ ∈ kt_G := kt_m 382 (by decide +kernel) (by decide +kernel)
set_option maxRecDepth 100000 in
theorem mw_383 : Cond.static ⟨"CutShears", "requireIndex", "(II)V"⟩ ∈ kt_G := kt_m 383 (by decide +kernel) (by decide +kernel)
set_option maxRecDepth 100000 in
theorem mw_384 : Cond.code ⟨"CutShears", "requireIndex", "(II)V"⟩ prog_1_method_18_code 2 none ∈ kt_G := kt_m 384 rfl rfl
set_option maxRecDepth 100000 in
theorem mw_385 : Cond.classLink "CutShears" 139 "java/lang/IndexOutOfBoundsException" ∈ kt_G := kt_m 385 (by decide +kernel) (by decide +kernel)
set_option maxRecDepth 100000 in
theorem mw_403 : Cond.instanceMethod ⟨"CutShears$BarPlan", "wantedOf", "(I)I"⟩ ∈ kt_G := kt_m 403 (by decide +kernel) (by decide +kernel)
set_option maxRecDepth 100000 in
theorem mw_404 : Cond.code ⟨"CutShears$BarPlan", "wantedOf", "(I)I"⟩ prog_2_method_9_code 2 (some .int) ∈ kt_G := kt_m 404 rfl rfl
set_option maxRecDepth 100000 in
theorem mw_407 : Cond.instanceMethod ⟨"CutShears$BarPlan", "beginOf", "(I)I"⟩ ∈ kt_G := kt_m 407 (by decide +kernel) (by decide +kernel)
set_option maxRecDepth 100000 in
theorem mw_408 : Cond.code ⟨"CutShears$BarPlan", "beginOf", "(I)I"⟩ prog_2_method_10_code 2 (some .int) ∈ kt_G := kt_m 408 rfl rfl
set_option maxRecDepth 100000 in
theorem mw_411 : Cond.instanceMethod ⟨"CutShears$BarPlan", "stepsOf", "(I)I"⟩ ∈ kt_G := kt_m 411 (by decide +kernel) (by decide +kernel)
set_option maxRecDepth 100000 in
theorem mw_412 : Cond.code ⟨"CutShears$BarPlan", "stepsOf", "(I)I"⟩ prog_2_method_11_code 2 (some .int) ∈ kt_G := kt_m 412 rfl rfl
set_option maxRecDepth 100000 in
theorem mw_421 : Cond.classLink "CutShears" 83 "java/lang/IllegalStateException" ∈ kt_G := kt_m 421 (by decide +kernel) (by decide +kernel)
set_option maxRecDepth 100000 in
theorem mw_437 : Cond.classLink "CutShears" 91 "java/lang/UnsupportedOperationException" ∈ kt_G := kt_m 437 (by decide +kernel) (by decide +kernel)
set_option maxRecDepth 100000 in
theorem mw_442 : Cond.instanceMethod ⟨"CutShears$CoolingBed", "lay", "(II)I"⟩ ∈ kt_G := kt_m 442 (by decide +kernel) (by decide +kernel)
set_option maxRecDepth 100000 in
theorem mw_443 : Cond.code ⟨"CutShears$CoolingBed", "lay", "(II)I"⟩ prog_3_method_2_code 4 (some .int) ∈ kt_G := kt_m 443 rfl rfl
set_option maxRecDepth 100000 in
theorem mw_446 : Cond.instanceMethod ⟨"CutShears$CutBook", "enter", "(III)V"⟩ ∈ kt_G := kt_m 446 (by decide +kernel) (by decide +kernel)
set_option maxRecDepth 100000 in
theorem mw_447 : Cond.code ⟨"CutShears$CutBook", "enter", "(III)V"⟩ prog_4_method_2_code 4 none ∈ kt_G := kt_m 447 rfl rfl
set_option maxRecDepth 100000 in
theorem mw_450 : Cond.instanceMethod ⟨"CutShears$BarPlan", "markNextCut", "()V"⟩ ∈ kt_G := kt_m 450 (by decide +kernel) (by decide +kernel)
set_option maxRecDepth 100000 in
theorem mw_451 : Cond.code ⟨"CutShears$BarPlan", "markNextCut", "()V"⟩ prog_2_method_8_code 1 none ∈ kt_G := kt_m 451 rfl rfl
set_option maxRecDepth 100000 in
theorem mw_452 : Cond.methodLink "CutShears$BarPlan" 81 ⟨"CutShears$BarPlan", "stepsOf", "(I)I"⟩ ∈ kt_G := kt_m 452 (by decide +kernel) (by decide +kernel)
set_option maxRecDepth 100000 in
theorem mw_470 : Cond.instanceMethod ⟨"CutShears$CoolingBed", "cutOn", "(I)I"⟩ ∈ kt_G := kt_m 470 (by decide +kernel) (by decide +kernel)
set_option maxRecDepth 100000 in
theorem mw_471 : Cond.code ⟨"CutShears$CoolingBed", "cutOn", "(I)I"⟩ prog_3_method_3_code 2 (some .int) ∈ kt_G := kt_m 471 rfl rfl
set_option maxRecDepth 100000 in
theorem mw_482 : Cond.instanceMethod ⟨"CutShears$CutBook", "countOnBed", "(I)I"⟩ ∈ kt_G := kt_m 482 (by decide +kernel) (by decide +kernel)
set_option maxRecDepth 100000 in
theorem mw_483 : Cond.code ⟨"CutShears$CutBook", "countOnBed", "(I)I"⟩ prog_4_method_7_code 4 (some .int) ∈ kt_G := kt_m 483 rfl rfl
set_option maxRecDepth 100000 in
theorem mw_484 : Cond.methodLink "CutShears$CutBook" 44 ⟨"CutShears$CutBook", "isOnBed", "(II)Z"⟩ ∈ kt_G := kt_m 484 (by decide +kernel) (by decide +kernel)
set_option maxRecDepth 100000 in
theorem mw_486 : Cond.instanceMethod ⟨"CutShears$CutBook", "isOnBed", "(II)Z"⟩ ∈ kt_G := kt_m 486 (by decide +kernel) (by decide +kernel)
set_option maxRecDepth 100000 in
theorem mw_487 : Cond.code ⟨"CutShears$CutBook", "isOnBed", "(II)Z"⟩ prog_4_method_6_code 3 (some .boolean) ∈ kt_G := kt_m 487 rfl rfl
set_option maxRecDepth 100000 in
theorem mw_491 : Cond.instanceMethod ⟨"CutShears$CutBook", "takeBundle", "(IILCutShears$CoolingBed;)I"⟩ ∈ kt_G := kt_m 491 (by decide +kernel) (by decide +kernel)
set_option maxRecDepth 100000 in
theorem mw_492 : Cond.code ⟨"CutShears$CutBook", "takeBundle", "(IILCutShears$CoolingBed;)I"⟩ prog_4_method_8_code 6 (some .int) ∈ kt_G := kt_m 492 rfl rfl
set_option maxRecDepth 100000 in
theorem mw_495 : Cond.instanceMethod ⟨"CutShears$CoolingBed", "free", "(I)V"⟩ ∈ kt_G := kt_m 495 (by decide +kernel) (by decide +kernel)
set_option maxRecDepth 100000 in
theorem mw_496 : Cond.code ⟨"CutShears$CoolingBed", "free", "(I)V"⟩ prog_3_method_4_code 2 none ∈ kt_G := kt_m 496 rfl rfl
set_option maxRecDepth 100000 in
theorem mw_506 : Cond.instanceMethod ⟨"CutShears$CutBook", "tell", "(II)I"⟩ ∈ kt_G := kt_m 506 (by decide +kernel) (by decide +kernel)
set_option maxRecDepth 100000 in
theorem mw_507 : Cond.code ⟨"CutShears$CutBook", "tell", "(II)I"⟩ prog_4_method_3_code 3 (some .int) ∈ kt_G := kt_m 507 rfl rfl
set_option maxRecDepth 100000 in
theorem mw_516 : Cond.methodLink "CutShears" 133 ⟨"CutShears", "thousandthsOfTurns", "(II)I"⟩ ∈ kt_G := kt_m 516 (by decide +kernel) (by decide +kernel)
set_option maxRecDepth 100000 in
theorem mw_517 : Cond.static ⟨"CutShears", "thousandthsOfTurns", "(II)I"⟩ ∈ kt_G := kt_m 517 (by decide +kernel) (by decide +kernel)
set_option maxRecDepth 100000 in
theorem mw_518 : Cond.code ⟨"CutShears", "thousandthsOfTurns", "(II)I"⟩ prog_1_method_17_code 2 (some .int) ∈ kt_G := kt_m 518 rfl rfl
set_option maxRecDepth 100000 in
theorem mw_528 : Cond.instanceMethod ⟨"CutShears$CutBook", "sumOf", "(I)I"⟩ ∈ kt_G := kt_m 528 (by decide +kernel) (by decide +kernel)
set_option maxRecDepth 100000 in
theorem mw_529 : Cond.code ⟨"CutShears$CutBook", "sumOf", "(I)I"⟩ prog_4_method_4_code 2 (some .int) ∈ kt_G := kt_m 529 rfl rfl
set_option maxRecDepth 100000 in
theorem mw_540 : Cond.instanceMethod ⟨"CutShears$CutBook", "sideCut", "(I)I"⟩ ∈ kt_G := kt_m 540 (by decide +kernel) (by decide +kernel)
set_option maxRecDepth 100000 in
theorem mw_541 : Cond.code ⟨"CutShears$CutBook", "sideCut", "(I)I"⟩ prog_4_method_5_code 2 (some .int) ∈ kt_G := kt_m 541 rfl rfl
set_option maxRecDepth 100000 in
theorem mw_547 : Cond.methodLink "CutShearsModel" 1 ⟨"java/lang/Object", "<init>", "()V"⟩ ∈ kt_G := kt_m 547 (by decide +kernel) (by decide +kernel)
set_option maxRecDepth 100000 in
theorem mw_548 : Cond.fieldLink "CutShearsModel" 60 "CutShearsModel" "thrown" "I" ∈ kt_G := kt_m 548 (by decide +kernel) (by decide +kernel)
set_option maxRecDepth 100000 in
theorem mw_549 : Cond.fieldLink "CutShearsModel" 63 "CutShearsModel" "wanted" "I" ∈ kt_G := kt_m 549 (by decide +kernel) (by decide +kernel)
set_option maxRecDepth 100000 in
theorem mw_550 : Cond.fieldLink "CutShearsModel" 7 "CutShearsModel" "low" "[I" ∈ kt_G := kt_m 550 (by decide +kernel) (by decide +kernel)
set_option maxRecDepth 100000 in
theorem mw_551 : Cond.fieldLink "CutShearsModel" 13 "CutShearsModel" "high" "[I" ∈ kt_G := kt_m 551 (by decide +kernel) (by decide +kernel)
set_option maxRecDepth 100000 in
theorem mw_552 : Cond.fieldLink "CutShearsModel" 16 "CutShearsModel" "rank" "[I" ∈ kt_G := kt_m 552 (by decide +kernel) (by decide +kernel)
set_option maxRecDepth 100000 in
theorem mw_553 : Cond.fieldLink "CutShearsModel" 19 "CutShearsModel" "length" "I" ∈ kt_G := kt_m 553 (by decide +kernel) (by decide +kernel)
set_option maxRecDepth 100000 in
theorem mw_554 : Cond.fieldLink "CutShearsModel" 76 "CutShearsModel" "error" "I" ∈ kt_G := kt_m 554 (by decide +kernel) (by decide +kernel)
set_option maxRecDepth 100000 in
theorem mw_555 : Cond.fieldLink "CutShearsModel" 79 "CutShearsModel" "head" "I" ∈ kt_G := kt_m 555 (by decide +kernel) (by decide +kernel)
set_option maxRecDepth 100000 in
theorem mw_556 : Cond.fieldLink "CutShearsModel" 82 "CutShearsModel" "tail" "I" ∈ kt_G := kt_m 556 (by decide +kernel) (by decide +kernel)
set_option maxRecDepth 100000 in
theorem mw_557 : Cond.fieldLink "CutShearsModel" 23 "CutShearsModel" "places" "I" ∈ kt_G := kt_m 557 (by decide +kernel) (by decide +kernel)
set_option maxRecDepth 100000 in
theorem mw_558 : Cond.fieldLink "CutShearsModel" 26 "CutShearsModel" "longest" "I" ∈ kt_G := kt_m 558 (by decide +kernel) (by decide +kernel)
set_option maxRecDepth 100000 in
theorem mw_559 : Cond.fieldLink "CutShearsModel" 73 "CutShearsModel" "cuts" "I" ∈ kt_G := kt_m 559 (by decide +kernel) (by decide +kernel)
set_option maxRecDepth 100000 in
theorem mw_560 : Cond.fieldLink "CutShearsModel" 70 "CutShearsModel" "first" "I" ∈ kt_G := kt_m 560 (by decide +kernel) (by decide +kernel)
set_option maxRecDepth 100000 in
theorem mw_561 : Cond.fieldLink "CutShearsModel" 29 "CutShearsModel" "cutWanted" "[I" ∈ kt_G := kt_m 561 (by decide +kernel) (by decide +kernel)
set_option maxRecDepth 100000 in
theorem mw_562 : Cond.fieldLink "CutShearsModel" 32 "CutShearsModel" "cutSteps" "[I" ∈ kt_G := kt_m 562 (by decide +kernel) (by decide +kernel)
set_option maxRecDepth 100000 in
theorem mw_563 : Cond.fieldLink "CutShearsModel" 35 "CutShearsModel" "cutPlace" "[I" ∈ kt_G := kt_m 563 (by decide +kernel) (by decide +kernel)
set_option maxRecDepth 100000 in
theorem mw_564 : Cond.fieldLink "CutShearsModel" 38 "CutShearsModel" "cutBundle" "[I" ∈ kt_G := kt_m 564 (by decide +kernel) (by decide +kernel)
set_option maxRecDepth 100000 in
theorem mw_565 : Cond.fieldLink "CutShearsModel" 41 "CutShearsModel" "aside" "[Z" ∈ kt_G := kt_m 565 (by decide +kernel) (by decide +kernel)
set_option maxRecDepth 100000 in
theorem mw_566 : Cond.fieldLink "CutShearsModel" 127 "CutShearsModel" "bundles" "I" ∈ kt_G := kt_m 566 (by decide +kernel) (by decide +kernel)
set_option maxRecDepth 100000 in
theorem mw_567 : Cond.fieldLink "CutShearsModel" 45 "CutShearsModel" "loss" "[I" ∈ kt_G := kt_m 567 (by decide +kernel) (by decide +kernel)
set_option maxRecDepth 100000 in
theorem mw_568 : Cond.fieldLink "CutShearsModel" 48 "CutShearsModel" "ranks" "[I" ∈ kt_G := kt_m 568 (by decide +kernel) (by decide +kernel)
set_option maxRecDepth 100000 in
theorem mw_569 : Cond.fieldLink "CutShearsModel" 51 "CutShearsModel" "many" "[I" ∈ kt_G := kt_m 569 (by decide +kernel) (by decide +kernel)
set_option maxRecDepth 100000 in
theorem mw_570 : Cond.fieldLink "CutShearsModel" 54 "CutShearsModel" "next" "[I" ∈ kt_G := kt_m 570 (by decide +kernel) (by decide +kernel)
set_option maxRecDepth 100000 in
theorem mw_571 : Cond.fieldLink "CutShearsModel" 57 "CutShearsModel" "steps" "[I" ∈ kt_G := kt_m 571 (by decide +kernel) (by decide +kernel)
set_option maxRecDepth 100000 in
theorem mw_572 : Cond.fieldLink "CutShearsModel" 110 "CutShearsModel" "foundWanted" "I" ∈ kt_G := kt_m 572 (by decide +kernel) (by decide +kernel)
set_option maxRecDepth 100000 in
theorem mw_573 : Cond.fieldLink "CutShearsModel" 107 "CutShearsModel" "foundBegin" "I" ∈ kt_G := kt_m 573 (by decide +kernel) (by decide +kernel)
set_option maxRecDepth 100000 in
theorem mw_574 : Cond.fieldLink "CutShearsModel" 113 "CutShearsModel" "foundSteps" "I" ∈ kt_G := kt_m 574 (by decide +kernel) (by decide +kernel)
set_option maxRecDepth 100000 in
theorem mw_630 : Cond.arrayClass .boolean ∈ kt_G := kt_m 630 (by decide +kernel) (by decide +kernel)
set_option maxRecDepth 100000 in
theorem mw_639 : Cond.methodLink "CutShearsModel" 66 ⟨"CutShearsModel", "in", "(III)Z"⟩ ∈ kt_G := kt_m 639 (by decide +kernel) (by decide +kernel)
set_option maxRecDepth 100000 in
theorem mw_640 : Cond.static ⟨"CutShearsModel", "in", "(III)Z"⟩ ∈ kt_G := kt_m 640 (by decide +kernel) (by decide +kernel)
set_option maxRecDepth 100000 in
theorem mw_641 : Cond.code ⟨"CutShearsModel", "in", "(III)Z"⟩ prog_7_method_3_code 3 (some .boolean) ∈ kt_G := kt_m 641 rfl rfl
set_option maxRecDepth 100000 in
theorem mw_642 : Cond.methodLink "CutShearsModel" 93 ⟨"CutShearsModel", "goes", "(ZZZ)Z"⟩ ∈ kt_G := kt_m 642 (by decide +kernel) (by decide +kernel)
set_option maxRecDepth 100000 in
theorem mw_644 : Cond.instanceMethod ⟨"CutShearsModel", "goes", "(ZZZ)Z"⟩ ∈ kt_G := kt_m 644 (by decide +kernel) (by decide +kernel)
set_option maxRecDepth 100000 in
theorem mw_645 : Cond.code ⟨"CutShearsModel", "goes", "(ZZZ)Z"⟩ prog_7_method_4_code 4 (some .boolean) ∈ kt_G := kt_m 645 rfl rfl
set_option maxRecDepth 100000 in
theorem mw_654 : Cond.methodLink "CutShearsModel" 89 ⟨"CutShearsModel", "taken", "()I"⟩ ∈ kt_G := kt_m 654 (by decide +kernel) (by decide +kernel)
set_option maxRecDepth 100000 in
theorem mw_656 : Cond.instanceMethod ⟨"CutShearsModel", "taken", "()I"⟩ ∈ kt_G := kt_m 656 (by decide +kernel) (by decide +kernel)
set_option maxRecDepth 100000 in
theorem mw_657 : Cond.code ⟨"CutShearsModel", "taken", "()I"⟩ prog_7_method_7_code 3 (some .int) ∈ kt_G := kt_m 657 rfl rfl
set_option maxRecDepth 100000 in
theorem mw_658 : Cond.methodLink "CutShearsModel" 85 ⟨"CutShearsModel", "room", "(IIII)I"⟩ ∈ kt_G := kt_m 658 (by decide +kernel) (by decide +kernel)
set_option maxRecDepth 100000 in
theorem mw_659 : Cond.static ⟨"CutShearsModel", "room", "(IIII)I"⟩ ∈ kt_G := kt_m 659 (by decide +kernel) (by decide +kernel)
set_option maxRecDepth 100000 in
theorem mw_660 : Cond.code ⟨"CutShearsModel", "room", "(IIII)I"⟩ prog_7_method_6_code 5 (some .int) ∈ kt_G := kt_m 660 rfl rfl
set_option maxRecDepth 100000 in
theorem mw_669 : Cond.methodLink "CutShearsModel" 104 ⟨"CutShearsModel", "plan", "()V"⟩ ∈ kt_G := kt_m 669 (by decide +kernel) (by decide +kernel)
set_option maxRecDepth 100000 in
theorem mw_671 : Cond.instanceMethod ⟨"CutShearsModel", "plan", "()V"⟩ ∈ kt_G := kt_m 671 (by decide +kernel) (by decide +kernel)
set_option maxRecDepth 100000 in
theorem mw_672 : Cond.code ⟨"CutShearsModel", "plan", "()V"⟩ prog_7_method_14_code 5 none ∈ kt_G := kt_m 672 rfl rfl
set_option maxRecDepth 100000 in
theorem mw_673 : Cond.methodLink "CutShearsModel" 97 ⟨"CutShearsModel", "left", "()I"⟩ ∈ kt_G := kt_m 673 (by decide +kernel) (by decide +kernel)
set_option maxRecDepth 100000 in
theorem mw_675 : Cond.instanceMethod ⟨"CutShearsModel", "left", "()I"⟩ ∈ kt_G := kt_m 675 (by decide +kernel) (by decide +kernel)
set_option maxRecDepth 100000 in
theorem mw_676 : Cond.code ⟨"CutShearsModel", "left", "()I"⟩ prog_7_method_8_code 1 (some .int) ∈ kt_G := kt_m 676 rfl rfl
set_option maxRecDepth 100000 in
theorem mw_677 : Cond.methodLink "CutShearsModel" 100 ⟨"CutShearsModel", "isBetter", "(IIII)Z"⟩ ∈ kt_G := kt_m 677 (by decide +kernel) (by decide +kernel)
set_option maxRecDepth 100000 in
theorem mw_679 : Cond.instanceMethod ⟨"CutShearsModel", "isBetter", "(IIII)Z"⟩ ∈ kt_G := kt_m 679 (by decide +kernel) (by decide +kernel)
set_option maxRecDepth 100000 in
theorem mw_680 : Cond.code ⟨"CutShearsModel", "isBetter", "(IIII)Z"⟩ prog_7_method_13_code 5 (some .boolean) ∈ kt_G := kt_m 680 rfl rfl
set_option maxRecDepth 100000 in
theorem mw_685 : Cond.methodLink "CutShearsModel" 116 ⟨"CutShearsModel", "finds", "(I)Z"⟩ ∈ kt_G := kt_m 685 (by decide +kernel) (by decide +kernel)
set_option maxRecDepth 100000 in
theorem mw_687 : Cond.instanceMethod ⟨"CutShearsModel", "finds", "(I)Z"⟩ ∈ kt_G := kt_m 687 (by decide +kernel) (by decide +kernel)
set_option maxRecDepth 100000 in
theorem mw_688 : Cond.code ⟨"CutShearsModel", "finds", "(I)Z"⟩ prog_7_method_16_code 4 (some .boolean) ∈ kt_G := kt_m 688 rfl rfl
set_option maxRecDepth 100000 in
theorem mw_697 : Cond.methodLink "CutShearsModel" 120 ⟨"CutShearsModel", "lying", "(I)I"⟩ ∈ kt_G := kt_m 697 (by decide +kernel) (by decide +kernel)
set_option maxRecDepth 100000 in
theorem mw_699 : Cond.instanceMethod ⟨"CutShearsModel", "lying", "(I)I"⟩ ∈ kt_G := kt_m 699 (by decide +kernel) (by decide +kernel)
set_option maxRecDepth 100000 in
theorem mw_700 : Cond.code ⟨"CutShearsModel", "lying", "(I)I"⟩ prog_7_method_19_code 3 (some .int) ∈ kt_G := kt_m 700 rfl rfl
set_option maxRecDepth 100000 in
theorem mw_713 : Cond.methodLink "CutShearsModel" 124 ⟨"CutShearsModel", "isWanted", "(I)Z"⟩ ∈ kt_G := kt_m 713 (by decide +kernel) (by decide +kernel)
set_option maxRecDepth 100000 in
theorem mw_715 : Cond.instanceMethod ⟨"CutShearsModel", "isWanted", "(I)Z"⟩ ∈ kt_G := kt_m 715 (by decide +kernel) (by decide +kernel)
set_option maxRecDepth 100000 in
theorem mw_716 : Cond.code ⟨"CutShearsModel", "isWanted", "(I)Z"⟩ prog_7_method_5_code 2 (some .boolean) ∈ kt_G := kt_m 716 rfl rfl
set_option maxRecDepth 100000 in
theorem hi_b : ∀ w ∈ u_ws "CutShears$BarPlan" T_b 11, w ∈ kt_G := by rw [kt_G_eq]; decide +kernel
set_option maxRecDepth 100000 in
theorem hi_c : ∀ w ∈ u_ws "CutShears$CoolingBed" T_c 4, w ∈ kt_G := by rw [kt_G_eq]; decide +kernel
set_option maxRecDepth 100000 in
theorem hi_k : ∀ w ∈ u_ws "CutShears$CutBook" T_k 9, w ∈ kt_G := by rw [kt_G_eq]; decide +kernel
set_option maxRecDepth 100000 in
theorem hi_t : ∀ w ∈ u_ws "CutShears$LossTable" T_t 7, w ∈ kt_G := by rw [kt_G_eq]; decide +kernel
set_option maxRecDepth 100000 in
theorem hi_x : ∀ w ∈ u_ws "CutShears" T_x 4, w ∈ kt_G := by rw [kt_G_eq]; decide +kernel
set_option maxRecDepth 100000 in
theorem hi_m : ∀ w ∈ u_ws "CutShearsModel" T_m 27, w ∈ kt_G := by rw [kt_G_eq]; decide +kernel
def kt_N : List Cond := [.fieldLinkNest "CutShears$BarPlan" 69 "CutShears$LossTable" "firstSteps" "[I" "CutShears",
  .fieldLinkNest "CutShears$BarPlan" 78 "CutShears$LossTable" "firstWanted" "[I" "CutShears",
  .methodLinkNest "CutShears$BarPlan" 74 ⟨"CutShears", "numberAt", "([II)I"⟩ "CutShears",
  .methodLinkNest "CutShears$CoolingBed" 25 ⟨"CutShears", "numberAt", "([II)I"⟩ "CutShears",
  .methodLinkNest "CutShears$CutBook" 40 ⟨"CutShears", "numberAt", "([II)I"⟩ "CutShears",
  .methodLinkNest "CutShears$CutBook" 48 ⟨"CutShears$CoolingBed", "free", "(I)V"⟩ "CutShears",
  .methodLinkNest "CutShears" 32 ⟨"CutShears$CoolingBed", "<init>", "()V"⟩ "CutShears",
  .methodLinkNest "CutShears" 25 ⟨"CutShears$CutBook", "<init>", "()V"⟩ "CutShears",
  .methodLinkNest "CutShears" 18 ⟨"CutShears$BarPlan", "<init>", "()V"⟩ "CutShears",
  .methodLinkNest "CutShears" 9 ⟨"CutShears$LossTable", "<init>", "()V"⟩ "CutShears",
  .methodLinkNest "CutShears" 45 ⟨"CutShears$BarPlan", "planRest", "(LCutShears$LossTable;)V"⟩ "CutShears",
  .methodLinkNest "CutShears" 41 ⟨"CutShears$LossTable", "add", "(III)I"⟩ "CutShears",
  .methodLinkNest "CutShears" 49 ⟨"CutShears$BarPlan", "startBar", "(II)V"⟩ "CutShears",
  .methodLinkNest "CutShears" 53 ⟨"CutShears$BarPlan", "changeCrops", "(II)V"⟩ "CutShears",
  .methodLinkNest "CutShears" 56 ⟨"CutShears$BarPlan", "learnLength", "(I)V"⟩ "CutShears",
  .fieldLinkNest "CutShears" 60 "CutShears$BarPlan" "count" "I" "CutShears",
  .methodLinkNest "CutShears" 67 ⟨"CutShears$BarPlan", "wantedOf", "(I)I"⟩ "CutShears",
  .methodLinkNest "CutShears" 71 ⟨"CutShears$BarPlan", "beginOf", "(I)I"⟩ "CutShears",
  .methodLinkNest "CutShears" 74 ⟨"CutShears$BarPlan", "stepsOf", "(I)I"⟩ "CutShears",
  .fieldLinkNest "CutShears" 77 "CutShears$BarPlan" "cutCount" "I" "CutShears",
  .fieldLinkNest "CutShears" 80 "CutShears$BarPlan" "rest" "I" "CutShears",
  .fieldLinkNest "CutShears" 90 "CutShears$CutBook" "count" "I" "CutShears",
  .methodLinkNest "CutShears" 103 ⟨"CutShears$BarPlan", "markNextCut", "()V"⟩ "CutShears",
  .methodLinkNest "CutShears" 100 ⟨"CutShears$CutBook", "enter", "(III)V"⟩ "CutShears",
  .methodLinkNest "CutShears" 96 ⟨"CutShears$CoolingBed", "lay", "(II)I"⟩ "CutShears",
  .fieldLinkNest "CutShears" 106 "CutShears$CoolingBed" "lying" "I" "CutShears",
  .fieldLinkNest "CutShears" 111 "CutShears$CoolingBed" "places" "I" "CutShears",
  .fieldLinkNest "CutShears" 114 "CutShears$CoolingBed" "longest" "I" "CutShears",
  .methodLinkNest "CutShears" 117 ⟨"CutShears$CoolingBed", "cutOn", "(I)I"⟩ "CutShears",
  .fieldLinkNest "CutShears" 120 "CutShears$LossTable" "count" "I" "CutShears",
  .methodLinkNest "CutShears" 126 ⟨"CutShears$CutBook", "takeBundle", "(IILCutShears$CoolingBed;)I"⟩ "CutShears",
  .methodLinkNest "CutShears" 121 ⟨"CutShears$CutBook", "countOnBed", "(I)I"⟩ "CutShears",
  .methodLinkNest "CutShears" 130 ⟨"CutShears$CutBook", "tell", "(II)I"⟩ "CutShears",
  .methodLinkNest "CutShears" 136 ⟨"CutShears$CutBook", "sumOf", "(I)I"⟩ "CutShears",
  .methodLinkNest "CutShears" 144 ⟨"CutShears$CutBook", "sideCut", "(I)I"⟩ "CutShears",
  .castable "java/lang/IllegalArgumentException" "java/lang/IllegalArgumentException",
  .declares ⟨"java/lang/RuntimeException", "<init>", "()V"⟩,
  .declares ⟨"java/lang/RuntimeException", "<init>", "(Ljava/lang/String;)V"⟩,
  .declares ⟨"java/lang/Exception", "<init>", "()V"⟩,
  .declares ⟨"java/lang/Exception", "<init>", "(Ljava/lang/String;)V"⟩,
  .declares ⟨"java/lang/Throwable", "<init>", "()V"⟩,
  .declares ⟨"java/lang/Throwable", "<init>", "(Ljava/lang/String;)V"⟩,
  .castable "java/lang/UnsupportedOperationException" "java/lang/UnsupportedOperationException",
  .castable "java/lang/IndexOutOfBoundsException" "java/lang/IndexOutOfBoundsException",
  .castable "java/lang/IllegalStateException" "java/lang/IllegalStateException"]
def kt_T : List (String × Nat × String) := [("CutShears$LossTable", 36, "there are 6 wanted lengths"), ("CutShears$BarPlan", 61, "the cuts would not fit any more"), ("CutShears$BarPlan", 48, "the head can not change behind a cut"), ("CutShears", 151, "a number is out of its range"), ("CutShears", 147, "no such number"), ("CutShears", 93, "300 pieces were cut"), ("CutShears", 85, "no piece is left to cut"), ("CutShears", 109, "the bed is not empty"), ("CutShears", 124, "there are not so many on the bed"), ("CutShears", 141, "no such cut at the side")]
set_option maxRecDepth 100000 in
theorem ha_0 : ∀ w ∈ vx_atS "CutShears$LossTable" 38 "java/lang/UnsupportedOperationException" ["java/lang/RuntimeException", "java/lang/Exception"], w ∈ kt_G ∨ w ∈ kt_N := by rw [kt_G_eq]; decide +kernel
set_option maxRecDepth 100000 in
theorem ha_1 : ∀ w ∈ vx_atS "CutShears$BarPlan" 50 "java/lang/UnsupportedOperationException" ["java/lang/RuntimeException", "java/lang/Exception"], w ∈ kt_G ∨ w ∈ kt_N := by rw [kt_G_eq]; decide +kernel
set_option maxRecDepth 100000 in
theorem ha_2 : ∀ w ∈ vx_atS "CutShears" 153 "java/lang/IllegalArgumentException" ["java/lang/RuntimeException", "java/lang/Exception"], w ∈ kt_G ∨ w ∈ kt_N := by rw [kt_G_eq]; decide +kernel
set_option maxRecDepth 100000 in
theorem ha_3 : ∀ w ∈ vx_atS "CutShears" 143 "java/lang/IndexOutOfBoundsException" ["java/lang/RuntimeException", "java/lang/Exception"], w ∈ kt_G ∨ w ∈ kt_N := by rw [kt_G_eq]; decide +kernel
set_option maxRecDepth 100000 in
theorem ha_4 : ∀ w ∈ vx_atS "CutShears" 95 "java/lang/UnsupportedOperationException" ["java/lang/RuntimeException", "java/lang/Exception"], w ∈ kt_G ∨ w ∈ kt_N := by rw [kt_G_eq]; decide +kernel
set_option maxRecDepth 100000 in
theorem ha_5 : ∀ w ∈ vx_atS "CutShears" 87 "java/lang/IllegalStateException" ["java/lang/RuntimeException", "java/lang/Exception"], w ∈ kt_G ∨ w ∈ kt_N := by rw [kt_G_eq]; decide +kernel
abbrev rm_t_init : Room := { frames := 1, cells := 6, slots := 621, locals := 20 }
abbrev rm_t_tryFirst : Room := { frames := 1, cells := 0, slots := 0, locals := 21 }
abbrev rm_t_fill : Room := { frames := 2, cells := 0, slots := 0, locals := 47 }
abbrev rm_t_add : Room := { frames := 6, cells := 1, slots := 6, locals := 90 }
abbrev rm_t_addn : Room := { frames := 6, cells := 0, slots := 0, locals := 90 }
abbrev rm_b_init : Room := { frames := 1, cells := 3, slots := 600, locals := 20 }
abbrev rm_b_startBar : Room := { frames := 0, cells := 0, slots := 0, locals := 0 }
abbrev rm_b_roomOf : Room := { frames := 1, cells := 0, slots := 0, locals := 21 }
abbrev rm_b_requireCutsFit : Room := { frames := 6, cells := 1, slots := 6, locals := 90 }
abbrev rm_b_requireCutsFitn : Room := { frames := 6, cells := 0, slots := 0, locals := 90 }
abbrev rm_b_changeCrops : Room := { frames := 7, cells := 1, slots := 6, locals := 111 }
abbrev rm_b_changeCropsn : Room := { frames := 7, cells := 0, slots := 0, locals := 111 }
abbrev rm_b_learnLength : Room := { frames := 7, cells := 1, slots := 6, locals := 111 }
abbrev rm_b_learnLengthn : Room := { frames := 7, cells := 0, slots := 0, locals := 111 }
abbrev rm_x_numberAt : Room := { frames := 0, cells := 0, slots := 0, locals := 0 }
abbrev rm_b_planRest : Room := { frames := 2, cells := 0, slots := 0, locals := 44 }
abbrev rm_b_stepsOf : Room := { frames := 1, cells := 0, slots := 0, locals := 21 }
abbrev rm_b_markNextCut : Room := { frames := 2, cells := 0, slots := 0, locals := 42 }
abbrev rm_b_wantedOf : Room := { frames := 1, cells := 0, slots := 0, locals := 21 }
abbrev rm_b_beginOf : Room := { frames := 1, cells := 0, slots := 0, locals := 21 }
abbrev rm_c_init : Room := { frames := 1, cells := 1, slots := 20, locals := 20 }
abbrev rm_c_lay : Room := { frames := 0, cells := 0, slots := 0, locals := 0 }
abbrev rm_c_cutOn : Room := { frames := 1, cells := 0, slots := 0, locals := 21 }
abbrev rm_c_free : Room := { frames := 0, cells := 0, slots := 0, locals := 0 }
abbrev rm_k_init : Room := { frames := 1, cells := 6, slots := 1506, locals := 20 }
abbrev rm_k_enter : Room := { frames := 0, cells := 0, slots := 0, locals := 0 }
abbrev rm_k_tell : Room := { frames := 1, cells := 0, slots := 0, locals := 21 }
abbrev rm_k_sumOf : Room := { frames := 1, cells := 0, slots := 0, locals := 21 }
abbrev rm_k_sideCut : Room := { frames := 1, cells := 0, slots := 0, locals := 21 }
abbrev rm_k_isOnBed : Room := { frames := 0, cells := 0, slots := 0, locals := 0 }
abbrev rm_k_countOnBed : Room := { frames := 1, cells := 0, slots := 0, locals := 22 }
abbrev rm_k_takeBundle : Room := { frames := 1, cells := 0, slots := 0, locals := 22 }
abbrev rm_x_init : Room := { frames := 2, cells := 20, slots := 2778, locals := 41 }
abbrev rm_x_requireRange : Room := { frames := 6, cells := 1, slots := 6, locals := 90 }
abbrev rm_x_requireRangen : Room := { frames := 6, cells := 0, slots := 0, locals := 90 }
abbrev rm_x_want : Room := { frames := 7, cells := 1, slots := 6, locals := 113 }
abbrev rm_x_bar : Room := { frames := 7, cells := 1, slots := 6, locals := 112 }
abbrev rm_x_crop : Room := { frames := 8, cells := 1, slots := 6, locals := 133 }
abbrev rm_x_known : Room := { frames := 8, cells := 1, slots := 6, locals := 132 }
abbrev rm_x_pieces : Room := { frames := 0, cells := 0, slots := 0, locals := 0 }
abbrev rm_x_requireIndex : Room := { frames := 6, cells := 1, slots := 6, locals := 90 }
abbrev rm_x_requireIndexn : Room := { frames := 6, cells := 0, slots := 0, locals := 90 }
abbrev rm_x_piece : Room := { frames := 7, cells := 1, slots := 6, locals := 111 }
abbrev rm_x_loss : Room := { frames := 0, cells := 0, slots := 0, locals := 0 }
abbrev rm_x_cut : Room := { frames := 6, cells := 1, slots := 6, locals := 90 }
abbrev rm_x_bed : Room := { frames := 7, cells := 1, slots := 6, locals := 112 }
abbrev rm_x_at : Room := { frames := 7, cells := 1, slots := 6, locals := 111 }
abbrev rm_x_bundle : Room := { frames := 7, cells := 1, slots := 6, locals := 112 }
abbrev rm_x_cutAt : Room := { frames := 7, cells := 1, slots := 6, locals := 111 }
abbrev rm_x_thousandthsOfTurns : Room := { frames := 0, cells := 0, slots := 0, locals := 0 }
abbrev rm_x_blade : Room := { frames := 7, cells := 1, slots := 6, locals := 112 }
abbrev rm_x_sum : Room := { frames := 7, cells := 1, slots := 6, locals := 111 }
abbrev rm_x_side : Room := { frames := 6, cells := 1, slots := 6, locals := 90 }
abbrev rm_m_init : Room := { frames := 1, cells := 13, slots := 2523, locals := 20 }
abbrev rm_m_thrown : Room := { frames := 0, cells := 0, slots := 0, locals := 0 }
abbrev rm_m_in : Room := { frames := 0, cells := 0, slots := 0, locals := 0 }
abbrev rm_m_goes : Room := { frames := 0, cells := 0, slots := 0, locals := 0 }
abbrev rm_m_isWanted : Room := { frames := 1, cells := 0, slots := 0, locals := 22 }
abbrev rm_m_room : Room := { frames := 0, cells := 0, slots := 0, locals := 0 }
abbrev rm_m_taken : Room := { frames := 0, cells := 0, slots := 0, locals := 0 }
abbrev rm_m_left : Room := { frames := 1, cells := 0, slots := 0, locals := 24 }
abbrev rm_m_want : Room := { frames := 1, cells := 0, slots := 0, locals := 23 }
abbrev rm_m_bar : Room := { frames := 1, cells := 0, slots := 0, locals := 23 }
abbrev rm_m_crop : Room := { frames := 1, cells := 0, slots := 0, locals := 24 }
abbrev rm_m_known : Room := { frames := 1, cells := 0, slots := 0, locals := 24 }
abbrev rm_m_isBetter : Room := { frames := 0, cells := 0, slots := 0, locals := 0 }
abbrev rm_m_plan : Room := { frames := 2, cells := 0, slots := 0, locals := 44 }
abbrev rm_m_pieces : Room := { frames := 3, cells := 0, slots := 0, locals := 68 }
abbrev rm_m_finds : Room := { frames := 3, cells := 0, slots := 0, locals := 68 }
abbrev rm_m_piece : Room := { frames := 4, cells := 0, slots := 0, locals := 91 }
abbrev rm_m_loss : Room := { frames := 3, cells := 0, slots := 0, locals := 68 }
abbrev rm_m_lying : Room := { frames := 0, cells := 0, slots := 0, locals := 0 }
abbrev rm_m_cut : Room := { frames := 4, cells := 0, slots := 0, locals := 91 }
abbrev rm_m_bed : Room := { frames := 1, cells := 0, slots := 0, locals := 23 }
abbrev rm_m_at : Room := { frames := 1, cells := 0, slots := 0, locals := 23 }
abbrev rm_m_bundle : Room := { frames := 2, cells := 0, slots := 0, locals := 43 }
abbrev rm_m_cutAt : Room := { frames := 1, cells := 0, slots := 0, locals := 23 }
abbrev rm_m_blade : Room := { frames := 4, cells := 0, slots := 0, locals := 91 }
abbrev rm_m_sum : Room := { frames := 2, cells := 0, slots := 0, locals := 43 }
abbrev rm_m_side : Room := { frames := 1, cells := 0, slots := 0, locals := 23 }
end
section
/-! Frame rows of this claim: what every contract takes and gives; entry, end and call of a method in these words. -/
section KT0
/-- a word that no warming takes away, among those that are no good words -/
def kt_isN (w : Cond) : Bool := match w with
  | .fieldLinkNest _ _ _ _ _ _ => true
  | .methodLinkNest _ _ _ _ => true
  | .castable _ _ => true
  | .declares _ => true
  | _ => false
theorem kt_warm {w : Cond} (h : kt_isN w = true) {s U : State} (hW : s.WarmedH U.vm) (hZ : va_Nw w s) : va_Nw w U := by
  cases w <;> first | exact va_Nw.warmF hW hZ | exact va_Nw.warmM hW hZ | exact va_Nw.warmC hW hZ | exact va_Nw.warmD hW hZ | cases h
theorem kt_N_ok : ∀ w ∈ kt_N, kt_isN w = true := by decide +kernel
theorem kt_N_on : ∀ w ∈ kt_N, w.onTables = true := by decide +kernel
theorem kt_Nm {w : Cond} (i : Nat) (h : kt_N[i]? = some w) : w ∈ kt_N := List.mem_of_getElem? h
theorem kt_Tm {x : String × Nat × String} (i : Nat) (h : kt_T[i]? = some x) : x ∈ kt_T := List.mem_of_getElem? h
/-- the tables' facts -/
def kt_C (D : va_G) (cI cJ cZ : ClassId) (s : State) : Prop := va_K D vwCl [(cI, .int), (cJ, .long), (cZ, .boolean)] s ∧ ∀ w ∈ kt_N, va_Nw w s
theorem kt_C.moved {D : va_G} {cI cJ cZ : ClassId} {s U : State} (h : kt_C D cI cJ cZ s) (hW : s.WarmedH U.vm) : kt_C D cI cJ cZ U :=
  ⟨va_K.moved hW.alike h.1, fun w hw => kt_warm (kt_N_ok w hw) hW (h.2 w hw)⟩
theorem kt_C.calling {D : va_G} {cI cJ cZ : ClassId} {U : State} {g : JFrame} {mk : MethodId} {a : Array Value} (h : kt_C D cI cJ cZ U) : kt_C D cI cJ cZ (U.calling g mk a) :=
  ⟨va_K.moved (u := U) (U := U.calling g mk a) (Vm.Alike.refl U.vm) h.1, fun w hw => va_Nw.same (u := U) (U := U.calling g mk a) (kt_N_on w hw) rfl (h.2 w hw)⟩
/-- the words of a throw are good ones or among the others -/
theorem kt_at {D : va_G} {cI cJ cZ : ClassId} {args : Array Value} {s : State} {L : List Cond} (hG : ∀ w ∈ kt_G, w.before args s = true) (hC : kt_C D cI cJ cZ s) (h : ∀ w ∈ L, w ∈ kt_G ∨ w ∈ kt_N) : ∀ w ∈ L, w.before args s = true :=
  fun w hw => (h w hw).elim (hG w) (fun h9 => va_Nw.use (kt_N_on w h9) (hC.2 w h9))
theorem kt_og {L : List Cond} {a b : Cond} (h1 : a ∈ kt_G) (h2 : b ∈ kt_G) (h : ∀ w ∈ L, w ∈ kt_G ∨ w ∈ kt_N) : ∀ w ∈ a :: b :: L, vx_ot w = true := by
  have hg : ∀ w ∈ kt_G, vx_ot w = true := fun w hw => by simp [vx_ot, kt_G_good hw]
  intro w hw
  rcases List.mem_cons.mp hw with rfl | hw
  · exact hg _ h1
  · rcases List.mem_cons.mp hw with rfl | hw
    · exact hg _ h2
    · rcases h w hw with h9 | h9
      · exact hg _ h9
      · simp [vx_ot, kt_N_on w h9]
theorem kt_g0 {w : Cond} (h : w ∈ kt_G) : GoodIn kt_G (w :: kt_G) := fun z hz => by
  have h1 : z ∈ kt_G := (List.mem_cons.mp hz).elim (fun e => e ▸ h) id
  exact ⟨h1, good_of_word (kt_G_good h1)⟩
theorem kt_gS {own : String} {idx : Nat} {y : MethodName} {w : Cond} (h1 : Cond.methodLink own idx y ∈ kt_G) (h2 : Cond.static y ∈ kt_G) (h3 : Cond.initialized y.cls ∈ kt_G) (h : w ∈ kt_G) : GoodIn kt_G (va_wsS own idx y (w :: kt_G)) := fun z hz => by
  have h1 : z ∈ kt_G := by
    unfold va_wsS at hz
    rcases List.mem_append.mp hz with hz | hz
    · simp only [List.mem_cons, List.not_mem_nil, or_false] at hz
      rcases hz with rfl | rfl | rfl
      · exact h1
      · exact h2
      · exact h3
    · exact (List.mem_cons.mp hz).elim (fun e => e ▸ h) id
  exact ⟨h1, good_of_word (kt_G_good h1)⟩
/-- what a throw needs of the start: two statics, the texts -/
def kt_Z (A : Nat → Prop) (s : State) (H : Heap) : Prop := vx_Zq Bundle.tN "UNASSIGNED_STACK" Bundle.steD A s H ∧ vx_Zq Bundle.tN "SUPPRESSED_SENTINEL" Bundle.listD A s H ∧ ∀ x ∈ kt_T, ∃ sa, vk_R x.1 x.2.1 x.2.2 sa s
theorem kt_Z.moved {A B : Nat → Prop} {s U : State} {H : Heap} {locs : List Loc} (h : kt_Z A s s.heap) (hS : va_S A s.heap H locs) (hU : U.heap = H) (hW : s.WarmedH U.vm) (hB : ∀ q, B q → A q) : kt_Z B U U.heap := by
  rw [hU]
  exact ⟨(vx_Zq.moved hW.alike (h.1.kept hS.2.1)).narrow hB, (vx_Zq.moved hW.alike (h.2.1.kept hS.2.1)).narrow hB, fun x hx => by
    obtain ⟨sa, hr⟩ := h.2.2 x hx
    exact ⟨sa, vk_R.warm hW hr⟩⟩
theorem kt_Z.calling {A : Nat → Prop} {U : State} {g : JFrame} {mk : MethodId} {a : Array Value} (h : kt_Z A U U.heap) : kt_Z A (U.calling g mk a) (U.calling g mk a).heap :=
  ⟨vx_Zq.moved (u := U) (U := U.calling g mk a) (Vm.Alike.refl U.vm) h.1, vx_Zq.moved (u := U) (U := U.calling g mk a) (Vm.Alike.refl U.vm) h.2.1, fun x hx => by
    obtain ⟨sa, hr⟩ := h.2.2 x hx
    exact ⟨sa, vk_R.same rfl hr⟩⟩
/-- a world ahead of a method -/
def kt_W (D : va_G) (cI cJ cZ : ClassId) (A : Nat → Prop) (ws : va_W) (U : State) : Prop := kt_C D cI cJ cZ U ∧ kt_Z A U U.heap ∧ va_P D vwCl ws U.heap ∧ va_D A ws
/-- a world behind it -/
def kt_V (D : va_G) (A : Nat → Prop) (ws : va_W) (t : State) : Prop := va_P D vwCl ws t.heap ∧ va_D A ws
def kt_P (D : va_G) (cI cJ cZ : ClassId) (W0 : va_W) (sz : Nat) (av : List Value) : Array Value → State → Prop := va_Pc av (fun U => U.heap.size = sz ∧ kt_W D cI cJ cZ (va_A W0 sz) W0 U)
theorem kt_blind {D : va_G} {cI cJ cZ : ClassId} {W0 : va_W} {sz : Nat} {av : List Value} : FrameBlind (kt_P D cI cJ cZ W0 sz av) := by
  intro a U g mk h
  obtain ⟨h1, h2, h3, h4, h5, h6⟩ := h
  exact ⟨h1, h2, h3.calling, h4.calling, h5, h6⟩
def kt_Qi (D : va_G) (A : Nat → Prop) {S : Type} (post : Int32 → S → Prop) (W1 : S → va_W) : Array Value → State → Outcome → State → Prop := va_Qi post (fun u t => kt_V D A (W1 u) t) A
def kt_Qv (D : va_G) (A : Nat → Prop) {S : Type} (post : S → Prop) (W1 : S → va_W) : Array Value → State → Outcome → State → Prop := va_Qv post (fun u t => kt_V D A (W1 u) t) A
def kt_X (D : va_G) (A : Nat → Prop) (W0 : va_W) (postX : String → Prop) : String → State → State → Prop := vx_X (fun _ : Unit => True) (fun E _ t => postX E ∧ kt_V D A W0 t) A
/-- contracts: answer an int, answer nothing; the same that may throw -/
abbrev kt_Mi (l : Launch) (y : MethodName) (w0 : Cond) (rm : Room) (D : va_G) (cI cJ cZ : ClassId) (W0 : va_W) (sz : Nat) (av : List Value) {S : Type} (post : Int32 → S → Prop) (W1 : S → va_W) (mc ms : Nat) : Prop :=
  Met l y (w0 :: kt_G) rm (kt_P D cI cJ cZ W0 sz av) (kt_Qi D (va_A W0 sz) post W1) mc ms (va_A W0 sz)
abbrev kt_Mv (l : Launch) (y : MethodName) (w0 : Cond) (rm : Room) (D : va_G) (cI cJ cZ : ClassId) (W0 : va_W) (sz : Nat) (av : List Value) {S : Type} (post : S → Prop) (W1 : S → va_W) (mc ms : Nat) : Prop :=
  Met l y (w0 :: kt_G) rm (kt_P D cI cJ cZ W0 sz av) (kt_Qv D (va_A W0 sz) post W1) mc ms (va_A W0 sz)
abbrev kt_Xi (l : Launch) (y : MethodName) (w0 : Cond) (rm : Room) (D : va_G) (cI cJ cZ : ClassId) (W0 : va_W) (sz : Nat) (av : List Value) {S : Type} (post : Int32 → S → Prop) (W1 : S → va_W) (postX : String → Prop) (mc ms : Nat) : Prop :=
  vx_Met l y (w0 :: kt_G) rm (kt_P D cI cJ cZ W0 sz av) (kt_Qi D (va_A W0 sz) post W1) (kt_X D (va_A W0 sz) W0 postX) mc ms (va_A W0 sz)
abbrev kt_Xv (l : Launch) (y : MethodName) (w0 : Cond) (rm : Room) (D : va_G) (cI cJ cZ : ClassId) (W0 : va_W) (sz : Nat) (av : List Value) {S : Type} (post : S → Prop) (W1 : S → va_W) (postX : String → Prop) (mc ms : Nat) : Prop :=
  vx_Met l y (w0 :: kt_G) rm (kt_P D cI cJ cZ W0 sz av) (kt_Qv D (va_A W0 sz) post W1) (kt_X D (va_A W0 sz) W0 postX) mc ms (va_A W0 sz)
/-- what a body begins with -/
def kt_In (p : Program) (s : State) (m : MethodId) (args : Array Value) (meth : Method) (c : Code) (cc : ByteArray) (maxL : Nat) (ret : Option FieldType) (y : MethodName) (D : va_G) (cI cJ cZ : ClassId) (A : Nat → Prop) : Prop :=
  p.tables.exec = Jvm.exec ∧ c.code = cc ∧ meth.sig.returnType = ret ∧ (∀ w ∈ kt_G, w.before args s = true) ∧ s.vm.findClass y.cls = some m.cls ∧ meth.locks = false ∧ meth.name = y.name ∧ c.maxLocals = maxL ∧ kt_C D cI cJ cZ s ∧ kt_Z A s s.heap ∧ ∀ q : Nat, s.heap.size ≤ q → A q
end KT0
end
section
section KT1
variable {l : Launch} {y : MethodName} {rm : Room} {D : va_G} {cI cJ cZ : ClassId} {W0 : va_W} {sz mc ms maxL : Nat} {av : List Value} {cc : ByteArray} {ret : Option FieldType}
theorem kt_ofM {Qc : (Nat → Prop) → Array Value → State → Outcome → State → Prop} (hy : plainName y.cls = true) (hm : (lg_sl av).length ≤ maxL)
    (body : ∀ p e s m args below meth c A Q, kt_In p s m args meth c cc maxL ret y D cI cJ cZ A → va_P D vwCl W0 s.heap → va_D A W0 → va_S A s.heap s.heap [] → MQ below (Qc A) args s mc ms A = Q →
      ∀ ls, lv_has ls maxL (lv_args 0 av) → W p l e rm s m args below meth c s.heap [] 0 0 Q (F0 m 0 ls [])) : Met l y (Cond.code y cc maxL ret :: kt_G) rm (kt_P D cI cJ cZ W0 sz av) (Qc (va_A W0 sz)) mc ms (va_A W0 sz) := by
  refine Met.ofW (cc := cc) (maxL := maxL) (ret := ret) hy rfl ?_
  intro p e s m args below meth c s₁ B hml hv
  obtain ⟨rfl, hsz, hC, hZ, hP, hD⟩ := hv
  rw [lg_entry_eq]
  exact body p e s m _ below meth c (va_A W0 sz) _ ⟨B.exec, B.bytes, B.returns, fun w hw => atoms_spec (ws := Cond.code y cc maxL ret :: kt_G) B.pre w (List.mem_cons_of_mem _ hw), findClass_of_methodNamed B.named, B.notSynchronized, (name_of_methodNamed B.named B.method).1, hml, hC, hZ, fun q h => Or.inr (by rw [← hsz]; exact h)⟩ hP hD va_S.rf rfl _ (lv_entry av hm)
theorem kt_ofX {Qc : (Nat → Prop) → Array Value → State → Outcome → State → Prop} {XC : (Nat → Prop) → String → State → State → Prop} (hy : plainName y.cls = true) (hm : (lg_sl av).length ≤ maxL)
    (body : ∀ p e s m args below meth c A Q, kt_In p s m args meth c cc maxL ret y D cI cJ cZ A → (∀ x ∈ c.exceptionTable.toList, False) → va_P D vwCl W0 s.heap → va_D A W0 → va_S A s.heap s.heap [] → vx_MQ below (Qc A) (XC A) args s mc ms A = Q →
      ∀ ls, lv_has ls maxL (lv_args 0 av) → W p l e rm s m args below meth c s.heap [] 0 0 Q (F0 m 0 ls [])) : vx_Met l y (Cond.code y cc maxL ret :: kt_G) rm (kt_P D cI cJ cZ W0 sz av) (Qc (va_A W0 sz)) (XC (va_A W0 sz)) mc ms (va_A W0 sz) := by
  refine vx_ofW (cc := cc) (maxL := maxL) (ret := ret) hy rfl ?_
  intro p e s m args below meth c s₁ B hml htab hv
  obtain ⟨rfl, hsz, hC, hZ, hP, hD⟩ := hv
  rw [lg_entry_eq]
  exact body p e s m _ below meth c (va_A W0 sz) _ ⟨B.exec, B.bytes, B.returns, fun w hw => atoms_spec (ws := Cond.code y cc maxL ret :: kt_G) B.pre w (List.mem_cons_of_mem _ hw), findClass_of_methodNamed B.named, B.notSynchronized, (name_of_methodNamed B.named B.method).1, hml, hC, hZ, fun q h => Or.inr (by rw [← hsz]; exact h)⟩ htab hP hD va_S.rf rfl _ (lv_entry av hm)
theorem kt_ofH {hh : List (Nat × Nat × Nat × Nat)} {Qc : (Nat → Prop) → Array Value → State → Outcome → State → Prop} (hy : plainName y.cls = true) (hm : (lg_sl av).length ≤ maxL)
    (body : ∀ p e s m args below meth c A Q, kt_In p s m args meth c cc maxL ret y D cI cJ cZ A → c.exceptionTable.toList = tableOf hh → va_P D vwCl W0 s.heap → va_D A W0 → va_S A s.heap s.heap [] → MQ below (Qc A) args s mc ms A = Q →
      ∀ ls, lv_has ls maxL (lv_args 0 av) → W p l e rm s m args below meth c s.heap [] 0 0 Q (F0 m 0 ls [])) : Met l y (Cond.codeWith y cc maxL ret hh :: kt_G) rm (kt_P D cI cJ cZ W0 sz av) (Qc (va_A W0 sz)) mc ms (va_A W0 sz) := by
  refine va_MetW (cc := cc) (maxL := maxL) (ret := ret) (hh := hh) hy rfl ?_
  intro p e s m args below meth c s₁ B hml hv
  obtain ⟨rfl, hsz, hC, hZ, hP, hD⟩ := hv
  rw [lg_entry_eq]
  exact body p e s m _ below meth c (va_A W0 sz) _ ⟨B.exec, B.bytes, B.returns, fun w hw => atoms_spec (ws := Cond.codeWith y cc maxL ret hh :: kt_G) B.pre w (List.mem_cons_of_mem _ hw), findClass_of_methodNamed B.named, B.notSynchronized, (name_of_methodNamed B.named B.method).1, hml, hC, hZ, fun q h => Or.inr (by rw [← hsz]; exact h)⟩ (vx_table (x := y) (hh := hh) (bytes := cc) (maxL' := maxL) (ret' := ret) B (atoms_spec (ws := Cond.codeWith y cc maxL ret hh :: kt_G) B.pre _ List.mem_cons_self)) hP hD va_S.rf rfl _ (lv_entry av hm)
end KT1
end
section
section KT2
variable {p : Program} {l : Launch} {e : Env} {R : Room} {s : State} {m : MethodId} {args : Array Value} {below : List Frame} {meth : Method} {c : Code} {H : Heap} {locs : List Loc} {cells slots : Nat} {Q : State → Prop}
variable {cc : ByteArray} {pc : Nat} {ls : Array Slot} {rest : List Value} {D : va_G} {cI cJ cZ : ClassId} {W0 : va_W} {mc ms : Nat} {S : Type} {A : Nat → Prop}
-- ends
theorem kt_iret {post : Int32 → S → Prop} {W1 : S → va_W} {v : Int32} (hQ : MQ below (kt_Qi D A post W1) args s mc ms A = Q) (hx : p.tables.exec = Jvm.exec) (hb : c.code = cc) (hr : meth.sig.returnType = some .int) (hlocks : meth.locks = false) (u : S) (hv : post v u) (hP : va_P D vwCl (W1 u) H) (hD : va_D A (W1 u)) (hS : va_S A s.heap H locs) (hc : cells ≤ mc) (hs : slots ≤ ms) (hd : decode cc pc = .ok (.ireturn, 1)) :
    W p l e R s m args below meth c H locs cells slots Q (F0 m pc ls [.int v]) := by
  subst hQ
  refine W.widen hc hs ?_
  exact W.iret hx hb hr (fun t ht hW => ⟨⟨v, u, rfl, hv, by rw [ht]; exact hP, hD⟩, hS.F ht⟩) hS.2.2 hd hlocks
theorem kt_zret {post : Int32 → S → Prop} {W1 : S → va_W} {v : Int32} (hn : narrow .boolean (.int v) = .int v) (hQ : MQ below (kt_Qi D A post W1) args s mc ms A = Q) (hx : p.tables.exec = Jvm.exec) (hb : c.code = cc) (hr : meth.sig.returnType = some .boolean) (hlocks : meth.locks = false) (u : S) (hv : post v u) (hP : va_P D vwCl (W1 u) H) (hD : va_D A (W1 u)) (hS : va_S A s.heap H locs) (hc : cells ≤ mc) (hs : slots ≤ ms) (hd : decode cc pc = .ok (.ireturn, 1)) :
    W p l e R s m args below meth c H locs cells slots Q (F0 m pc ls [.int v]) := by
  subst hQ
  refine W.widen hc hs ?_
  exact W.zret hx hb hr hn (fun t ht hW => ⟨⟨v, u, rfl, hv, by rw [ht]; exact hP, hD⟩, hS.F ht⟩) hS.2.2 hd hlocks
theorem kt_vret {post : S → Prop} {W1 : S → va_W} (hQ : MQ below (kt_Qv D A post W1) args s mc ms A = Q) (hx : p.tables.exec = Jvm.exec) (hb : c.code = cc) (hr : meth.sig.returnType = none) (hlocks : meth.locks = false) (u : S) (hv : post u) (hP : va_P D vwCl (W1 u) H) (hD : va_D A (W1 u)) (hS : va_S A s.heap H locs) (hc : cells ≤ mc) (hs : slots ≤ ms) (hd : decode cc pc = .ok (.return_, 1)) :
    W p l e R s m args below meth c H locs cells slots Q (F0 m pc ls []) := by
  subst hQ
  refine W.widen hc hs ?_
  exact W.vret hx hb hr (fun t ht hW => ⟨⟨u, rfl, hv, by rw [ht]; exact hP, hD⟩, hS.F ht⟩) hS.2.2 hd hlocks
theorem kt_iretX {post : Int32 → S → Prop} {W1 : S → va_W} {XC : String → State → State → Prop} {v : Int32} (hQ : vx_MQ below (kt_Qi D A post W1) XC args s mc ms A = Q) (hx : p.tables.exec = Jvm.exec) (hb : c.code = cc) (hr : meth.sig.returnType = some .int) (hlocks : meth.locks = false) (u : S) (hv : post v u) (hP : va_P D vwCl (W1 u) H) (hD : va_D A (W1 u)) (hS : va_S A s.heap H locs) (hc : cells ≤ mc) (hs : slots ≤ ms) (hd : decode cc pc = .ok (.ireturn, 1)) :
    W p l e R s m args below meth c H locs cells slots Q (F0 m pc ls [.int v]) := by
  subst hQ
  exact vx_ret (kt_iret rfl hx hb hr hlocks u hv hP hD hS hc hs hd)
theorem kt_vretX {post : S → Prop} {W1 : S → va_W} {XC : String → State → State → Prop} (hQ : vx_MQ below (kt_Qv D A post W1) XC args s mc ms A = Q) (hx : p.tables.exec = Jvm.exec) (hb : c.code = cc) (hr : meth.sig.returnType = none) (hlocks : meth.locks = false) (u : S) (hv : post u) (hP : va_P D vwCl (W1 u) H) (hD : va_D A (W1 u)) (hS : va_S A s.heap H locs) (hc : cells ≤ mc) (hs : slots ≤ ms) (hd : decode cc pc = .ok (.return_, 1)) :
    W p l e R s m args below meth c H locs cells slots Q (F0 m pc ls []) := by
  subst hQ
  exact vx_ret (kt_vret rfl hx hb hr hlocks u hv hP hD hS hc hs hd)
theorem kt_out {Qc : Array Value → State → Outcome → State → Prop} {postX : String → Prop} {E : String} {ce : Cell} {q : Addr} (hQ : vx_MQ below Qc (kt_X D A W0 postX) args s mc ms A = Q) (htab : ∀ x ∈ c.exceptionTable.toList, False) (hlocks : meth.locks = false) (hp : postX E) (hP : va_P D vwCl W0 H) (hD : va_D A W0) (hS : va_S A s.heap H locs) (hcell : H[q]? = some ce) (hv : ce.vm = .none) (hcl : s.vm.findClass E = some ce.cls) (hc : cells ≤ mc) (hs : slots ≤ ms) :
    vx_W p l e R s m args below meth c H locs cells slots Q (F0 m pc ls rest) q := by
  subst hQ
  exact vx_out (fun x hx => (htab x hx).elim) hlocks hcell hv hcl (fun t ht hW => ⟨(), trivial, ⟨hp, by rw [ht]; exact hP, hD⟩, hS.F ht⟩) hS.2.2 hc hs
-- a throw
theorem kt_throw {own cls text : String} {names : List String} {ik is ic : Nat} {Qc : Array Value → State → Outcome → State → Prop} {postX : String → Prop} (hQ : vx_MQ below Qc (kt_X D A W0 postX) args s mc ms A = Q) (hx : p.tables.exec = Jvm.exec) (hb : c.code = cc) (hlt : l.stackTraces = false) (hown : s.vm.findClass own = some m.cls) (hcls : Bundle.fit cls = true) (hnames : ∀ n ∈ names, Bundle.fit n = true)
    (hk : (Cond.classLink own ik cls).before args s = true) (hini : (Cond.initialized cls).before args s = true) (hstr : ∃ sa, vk_R own is text sa s) (hat : ∀ w ∈ vx_atS own ic cls names, w.before args s = true) (hgood : ∀ w ∈ Cond.classLink own ik cls :: Cond.initialized cls :: vx_atS own ic cls names, vx_ot w = true)
    (hZ : kt_Z A s s.heap) (htab : ∀ x ∈ c.exceptionTable.toList, False) (hlocks : meth.locks = false) (hsize : ls.size = c.maxLocals) (hv : postX cls) (hP : va_P D vwCl W0 H) (hD : va_D A W0) (hS : va_S A s.heap H locs)
    (d0 : decode cc pc = .ok (.new ik, 3)) (d3 : decode cc (pc + 3) = .ok (.dup, 1)) (d4 : decode cc (pc + 4) = .ok (.ldc is, 2)) (d6 : decode cc (pc + 6) = .ok (.invokespecial ic, 3)) (d9 : decode cc (pc + 9) = .ok (.athrow, 1))
    (hf : names.length + 3 < R.frames) (hlo : (rest.map fun v => v.category).sum + (13 * (names.length + 1) + 43) ≤ R.locals) (hce : cells + 1 ≤ R.cells) (hsl : slots + 6 ≤ R.slots) (hc : cells + 1 ≤ mc) (hs : slots + 6 ≤ ms) :
    W p l e R s m args below meth c H locs cells slots Q (F0 m pc ls rest) := by
  subst hQ
  obtain ⟨sa, hsr⟩ := hstr
  exact vx_throwS hx hb hlt hown hcls hnames hk hini hsr hat hgood hZ.1 hZ.2.1 hS hsize d0 d3 d4 d6 d9 (fun x h => (htab x h).elim) hf hlo hce hsl hlocks
    (fun t _ hz hq => ⟨(), trivial, ⟨hv, hP.kept (fun k x hx => hq x.1 (hP k x hx).lt), hD⟩, Nat.le_trans hS.1 hz, fun q h1 h2 => (hq q (Nat.lt_of_lt_of_le h1 hS.1)).trans (hS.2.1 q h1 h2)⟩) hS.2.2 hc hs
-- ahead of a call
variable {wl wc wr : va_W}
theorem kt_pre (hC : kt_C D cI cJ cZ s) (hZ : kt_Z A s s.heap) (hA : ∀ q : Nat, s.heap.size ≤ q → A q) (hP : va_P D vwCl wl H) (hD : va_D A wl) (hS : va_S A s.heap H locs) (isC : List Nat) (hn : va_nd isC = true) (h1 : isC.map (fun i => wl[i]?) = wc.map some) {av : List Value} : PreS s H (kt_P D cI cJ cZ wc H.size av) av := by
  refine ⟨kt_blind, fun U hU hW => ⟨rfl, by rw [hU], hC.moved hW, hZ.moved hS hU hW (va_free hD hS hA isC h1), ?_, (hD.sub isC hn h1).self⟩⟩
  rw [hU]
  refine hP.sub isC ?_
  have h2 := congrArg (fun z => z.filterMap id) h1
  simpa [List.filterMap_map] using h2
theorem kt_preV (hC : kt_C D cI cJ cZ s) (hZ : kt_Z A s s.heap) (hA : ∀ q : Nat, s.heap.size ≤ q → A q) (hP : va_P D vwCl wl H) (hD : va_D A wl) (hS : va_S A s.heap H locs) (isC : List Nat) (hn : va_nd isC = true) (h1 : isC.map (fun i => wl[i]?) = wc.map some) {b ci k0 : Nat} {C : String} {T : u_T} {N : Nat} {fs : List Value} (hc : vwCl[ci]? = some (C, T, N)) (hk : wl[k0]? = some (b, .inr (ci, fs))) {As : List Value} : PreV s H C b (kt_P D cI cJ cZ wc H.size (.ref b :: As)) As :=
  ⟨kt_blind, va_recv hC.1 hP (ci := ci) (q0 := k0) hc hk, (kt_pre hC hZ hA hP hD hS isC hn h1).2⟩
variable {st0 : List Value} {a : Array Value}
theorem kt_calli {post : Int32 → S → Prop} {W1 : S → va_W} (hA : ∀ q : Nat, s.heap.size ≤ q → A q) (hP : va_P D vwCl wl H) (hD : va_D A wl) (hS : va_S A s.heap H locs) (isC isR : List Nat) (h1 : isC.map (fun i => wl[i]?) = wc.map some) (h2 : isR.map (fun i => wl[i]?) = wr.map some) (h3 : va_nd isR = true) (h4 : ∀ i ∈ isR, i ∉ isC)
    (hr : va_Run p l e R s m args below meth c H locs cells slots mc ms (F0 m pc ls st0) rest (kt_Qi D (va_A wc H.size) post W1 a) (va_A wc H.size))
    (kk : ∀ (r : Int32) (u : S) (H : Heap) (locs : List Loc), post r u → va_P D vwCl (wr ++ W1 u) H → va_D A (wr ++ W1 u) → va_S A s.heap H locs → W p l e R s m args below meth c H locs (cells + mc) (slots + ms) Q (F0 m (pc + 3) ls (.int r :: rest))) : W p l e R s m args below meth c H locs cells slots Q (F0 m pc ls st0) := by
  have hF := va_free hD hS hA isC h1
  refine va_calli hr hS (fun q _ h => hF q h) hF (fun r u t H1 locs1 ht hvm hw hB hz1 hk1 hS1 => ?_)
  obtain ⟨hP1, hD1⟩ := hB
  rw [ht] at hP1
  obtain ⟨hP2, hD2⟩ := va_join hP hD isC isR h1 h2 h3 h4 hk1 hF hP1 hD1
  exact kk r u H1 locs1 hw hP2 hD2 hS1
theorem kt_callv {post : S → Prop} {W1 : S → va_W} (hA : ∀ q : Nat, s.heap.size ≤ q → A q) (hP : va_P D vwCl wl H) (hD : va_D A wl) (hS : va_S A s.heap H locs) (isC isR : List Nat) (h1 : isC.map (fun i => wl[i]?) = wc.map some) (h2 : isR.map (fun i => wl[i]?) = wr.map some) (h3 : va_nd isR = true) (h4 : ∀ i ∈ isR, i ∉ isC)
    (hr : va_Run p l e R s m args below meth c H locs cells slots mc ms (F0 m pc ls st0) rest (kt_Qv D (va_A wc H.size) post W1 a) (va_A wc H.size))
    (kk : ∀ (u : S) (H : Heap) (locs : List Loc), post u → va_P D vwCl (wr ++ W1 u) H → va_D A (wr ++ W1 u) → va_S A s.heap H locs → W p l e R s m args below meth c H locs (cells + mc) (slots + ms) Q (F0 m (pc + 3) ls rest)) : W p l e R s m args below meth c H locs cells slots Q (F0 m pc ls st0) := by
  have hF := va_free hD hS hA isC h1
  refine va_callv hr hS (fun q _ h => hF q h) hF (fun u t H1 locs1 ht hvm hw hB hz1 hk1 hS1 => ?_)
  obtain ⟨hP1, hD1⟩ := hB
  rw [ht] at hP1
  obtain ⟨hP2, hD2⟩ := va_join hP hD isC isR h1 h2 h3 h4 hk1 hF hP1 hD1
  exact kk u H1 locs1 hw hP2 hD2 hS1
theorem kt_calliX {post : Int32 → S → Prop} {W1 : S → va_W} {postX : String → Prop} (hA : ∀ q : Nat, s.heap.size ≤ q → A q) (hP : va_P D vwCl wl H) (hD : va_D A wl) (hS : va_S A s.heap H locs) (isC isR : List Nat) (h1 : isC.map (fun i => wl[i]?) = wc.map some) (h2 : isR.map (fun i => wl[i]?) = wr.map some) (h3 : va_nd isR = true) (h4 : ∀ i ∈ isR, i ∉ isC)
    (hr : vx_Run p l e R s m args below meth c H locs cells slots mc ms (F0 m pc ls st0) rest (kt_Qi D (va_A wc H.size) post W1 a) (kt_X D (va_A wc H.size) wc postX) (va_A wc H.size))
    (kx : ∀ (E : String) (ce : Cell) (q9 : Addr) (H : Heap) (locs : List Loc), postX E → va_P D vwCl (wr ++ wc) H → va_D A (wr ++ wc) → va_S A s.heap H locs → H[q9]? = some ce → ce.vm = .none → s.vm.findClass E = some ce.cls → vx_W p l e R s m args below meth c H locs (cells + mc) (slots + ms) Q (F0 m pc ls rest) q9)
    (kk : ∀ (r : Int32) (u : S) (H : Heap) (locs : List Loc), post r u → va_P D vwCl (wr ++ W1 u) H → va_D A (wr ++ W1 u) → va_S A s.heap H locs → W p l e R s m args below meth c H locs (cells + mc) (slots + ms) Q (F0 m (pc + 3) ls (.int r :: rest))) : W p l e R s m args below meth c H locs cells slots Q (F0 m pc ls st0) := by
  have hF := va_free hD hS hA isC h1
  refine vx_calli hr hS (fun q _ h => hF q h) hF (fun q _ h => hF q h) (fun E ce q9 u t H1 locs1 ht hvm hpx hB hz1 hk1 hS1 hce hcv hcl => ?_) (fun r u t H1 locs1 ht hvm hw hB hz1 hk1 hS1 => ?_)
  · obtain ⟨hpx, hP1, hD1⟩ := hB
    rw [ht] at hP1
    obtain ⟨hP2, hD2⟩ := va_join hP hD isC isR h1 h2 h3 h4 hk1 hF hP1 hD1
    exact kx E ce q9 H1 locs1 hpx hP2 hD2 hS1 hce hcv hcl
  · obtain ⟨hP1, hD1⟩ := hB
    rw [ht] at hP1
    obtain ⟨hP2, hD2⟩ := va_join hP hD isC isR h1 h2 h3 h4 hk1 hF hP1 hD1
    exact kk r u H1 locs1 hw hP2 hD2 hS1
theorem kt_callvX {post : S → Prop} {W1 : S → va_W} {postX : String → Prop} (hA : ∀ q : Nat, s.heap.size ≤ q → A q) (hP : va_P D vwCl wl H) (hD : va_D A wl) (hS : va_S A s.heap H locs) (isC isR : List Nat) (h1 : isC.map (fun i => wl[i]?) = wc.map some) (h2 : isR.map (fun i => wl[i]?) = wr.map some) (h3 : va_nd isR = true) (h4 : ∀ i ∈ isR, i ∉ isC)
    (hr : vx_Run p l e R s m args below meth c H locs cells slots mc ms (F0 m pc ls st0) rest (kt_Qv D (va_A wc H.size) post W1 a) (kt_X D (va_A wc H.size) wc postX) (va_A wc H.size))
    (kx : ∀ (E : String) (ce : Cell) (q9 : Addr) (H : Heap) (locs : List Loc), postX E → va_P D vwCl (wr ++ wc) H → va_D A (wr ++ wc) → va_S A s.heap H locs → H[q9]? = some ce → ce.vm = .none → s.vm.findClass E = some ce.cls → vx_W p l e R s m args below meth c H locs (cells + mc) (slots + ms) Q (F0 m pc ls rest) q9)
    (kk : ∀ (u : S) (H : Heap) (locs : List Loc), post u → va_P D vwCl (wr ++ W1 u) H → va_D A (wr ++ W1 u) → va_S A s.heap H locs → W p l e R s m args below meth c H locs (cells + mc) (slots + ms) Q (F0 m (pc + 3) ls rest)) : W p l e R s m args below meth c H locs cells slots Q (F0 m pc ls st0) := by
  have hF := va_free hD hS hA isC h1
  refine vx_callv hr hS (fun q _ h => hF q h) hF (fun q _ h => hF q h) (fun E ce q9 u t H1 locs1 ht hvm hpx hB hz1 hk1 hS1 hce hcv hcl => ?_) (fun u t H1 locs1 ht hvm hw hB hz1 hk1 hS1 => ?_)
  · obtain ⟨hpx, hP1, hD1⟩ := hB
    rw [ht] at hP1
    obtain ⟨hP2, hD2⟩ := va_join hP hD isC isR h1 h2 h3 h4 hk1 hF hP1 hD1
    exact kx E ce q9 H1 locs1 hpx hP2 hD2 hS1 hce hcv hcl
  · obtain ⟨hP1, hD1⟩ := hB
    rw [ht] at hP1
    obtain ⟨hP2, hD2⟩ := va_join hP hD isC isR h1 h2 h3 h4 hk1 hF hP1 hD1
    exact kk u H1 locs1 hw hP2 hD2 hS1
theorem kt_newi (hx : p.tables.exec = Jvm.exec) (hb : c.code = cc) (harr : (Cond.arrayClass .int).before args s = true) (hK : va_K D vwCl [(cI, .int), (cJ, .long), (cZ, .boolean)] s) (hP : va_P D vwCl wl H) (hD : va_D A wl) (hS : va_S A s.heap H locs) (hA : ∀ q : Nat, s.heap.size ≤ q → A q) {n : Int32} {N' : Nat} (hn : ¬ n < 0) (hN : n.toNatClampNeg = N') (hbytes : N' * componentBytes .int ≤ 536870912) (hcells : cells + 1 ≤ R.cells) (hslots : slots + N' ≤ R.slots) (hd : decode cc pc = .ok (.newarray .int, 2))
    (kk : ∀ (q : Nat) (H1 : Heap), va_P D vwCl (wl ++ [(q, .inl (cI, N', .inl (fun _ => 0)))]) H1 → va_D A (wl ++ [(q, .inl (cI, N', .inl (fun _ => 0)))]) → va_S A s.heap H1 locs → W p l e R s m args below meth c H1 locs (cells + 1) (slots + N') Q (F0 m (pc + 2) ls (.ref q :: rest))) : W p l e R s m args below meth c H locs cells slots Q (F0 m pc ls (.int n :: rest)) := by
  refine va_newa (atype := .int) (ty := .int) (a0 := (N', .inl (fun _ => 0))) hx hb harr rfl hK hP hD hS hA (fun _ => rfl) hn hN hbytes hcells hslots hd (fun q cA H1 hK1 hP1 hD1 hS1 => ?_)
  have e1 : s.vm.findClass ("[" ++ FieldType.int.toString) = some cA := (hK1.2 3 (cA, .int) rfl).2
  have e2 : s.vm.findClass ("[" ++ FieldType.int.toString) = some cI := (hK.2 0 (cI, .int) rfl).2
  cases Option.some.inj (e1.symm.trans e2)
  exact kk q H1 hP1 hD1 hS1
theorem kt_newl (hx : p.tables.exec = Jvm.exec) (hb : c.code = cc) (harr : (Cond.arrayClass .long).before args s = true) (hK : va_K D vwCl [(cI, .int), (cJ, .long), (cZ, .boolean)] s) (hP : va_P D vwCl wl H) (hD : va_D A wl) (hS : va_S A s.heap H locs) (hA : ∀ q : Nat, s.heap.size ≤ q → A q) {n : Int32} {N' : Nat} (hn : ¬ n < 0) (hN : n.toNatClampNeg = N') (hbytes : N' * componentBytes .long ≤ 536870912) (hcells : cells + 1 ≤ R.cells) (hslots : slots + N' ≤ R.slots) (hd : decode cc pc = .ok (.newarray .long, 2))
    (kk : ∀ (q : Nat) (H1 : Heap), va_P D vwCl (wl ++ [(q, .inl (cJ, N', .inr (.inl (fun _ => 0))))]) H1 → va_D A (wl ++ [(q, .inl (cJ, N', .inr (.inl (fun _ => 0))))]) → va_S A s.heap H1 locs → W p l e R s m args below meth c H1 locs (cells + 1) (slots + N') Q (F0 m (pc + 2) ls (.ref q :: rest))) : W p l e R s m args below meth c H locs cells slots Q (F0 m pc ls (.int n :: rest)) := by
  refine va_newa (atype := .long) (ty := .long) (a0 := (N', .inr (.inl (fun _ => 0)))) hx hb harr rfl hK hP hD hS hA (fun _ => rfl) hn hN hbytes hcells hslots hd (fun q cA H1 hK1 hP1 hD1 hS1 => ?_)
  have e1 : s.vm.findClass ("[" ++ FieldType.long.toString) = some cA := (hK1.2 3 (cA, .long) rfl).2
  have e2 : s.vm.findClass ("[" ++ FieldType.long.toString) = some cJ := (hK.2 1 (cJ, .long) rfl).2
  cases Option.some.inj (e1.symm.trans e2)
  exact kk q H1 hP1 hD1 hS1
theorem kt_newz (hx : p.tables.exec = Jvm.exec) (hb : c.code = cc) (harr : (Cond.arrayClass .boolean).before args s = true) (hK : va_K D vwCl [(cI, .int), (cJ, .long), (cZ, .boolean)] s) (hP : va_P D vwCl wl H) (hD : va_D A wl) (hS : va_S A s.heap H locs) (hA : ∀ q : Nat, s.heap.size ≤ q → A q) {n : Int32} {N' : Nat} (hn : ¬ n < 0) (hN : n.toNatClampNeg = N') (hbytes : N' * componentBytes .boolean ≤ 536870912) (hcells : cells + 1 ≤ R.cells) (hslots : slots + N' ≤ R.slots) (hd : decode cc pc = .ok (.newarray .boolean, 2))
    (kk : ∀ (q : Nat) (H1 : Heap), va_P D vwCl (wl ++ [(q, .inl (cZ, N', .inl (fun _ => 0)))]) H1 → va_D A (wl ++ [(q, .inl (cZ, N', .inl (fun _ => 0)))]) → va_S A s.heap H1 locs → W p l e R s m args below meth c H1 locs (cells + 1) (slots + N') Q (F0 m (pc + 2) ls (.ref q :: rest))) : W p l e R s m args below meth c H locs cells slots Q (F0 m pc ls (.int n :: rest)) := by
  refine va_newa (atype := .boolean) (ty := .boolean) (a0 := (N', .inl (fun _ => 0))) hx hb harr rfl hK hP hD hS hA (fun _ => rfl) hn hN hbytes hcells hslots hd (fun q cA H1 hK1 hP1 hD1 hS1 => ?_)
  have e1 : s.vm.findClass ("[" ++ FieldType.boolean.toString) = some cA := (hK1.2 3 (cA, .boolean) rfl).2
  have e2 : s.vm.findClass ("[" ++ FieldType.boolean.toString) = some cZ := (hK.2 2 (cZ, .boolean) rfl).2
  cases Option.some.inj (e1.symm.trans e2)
  exact kk q H1 hP1 hD1 hS1
end KT2
end
section
section KT3
variable {p : Program} {l : Launch} {e : Env} {R : Room} {s : State} {m : MethodId} {args : Array Value} {below : List Frame} {meth : Method} {c : Code} {H : Heap} {locs : List Loc} {cells slots : Nat}
variable {y : MethodName} {bytes cc : ByteArray} {maxL nL mc ms n index : Nat} {ret : Option FieldType} {ws : List Cond} {rm : Room} {Pc : Array Value → State → Prop} {Qc : Array Value → State → Outcome → State → Prop} {XC : String → State → State → Prop} {free : Addr → Prop} {Ts : List Cond} {own C host : String} {b : Addr} {As rest : List Value} {g : JFrame}
/-- a private method of a nest mate that may throw -/
theorem kt_runVN (S : CallFix p m c cc nL s args Ts own) (hM : vx_Met l y ws rm Pc Qc XC mc ms free) (cw : va_CN R s args own index y host bytes maxL ret ws rm mc ms n ∧ (Cond.instanceMethod y).before args s = true ∧ (Cond.selects C y y).before args s = true) (hp : PreV s H C b Pc As)
    (hg : g.method = m) (hn : As.length = n) (hsize : g.locals.size = nL) (hstack : g.stack = As.reverse ++ .ref b :: rest) (hW : 2 * g.monitorRoom + (rest.map fun v => v.category).sum ≤ 8) (hdg : decode cc g.pc = .ok (.invokevirtual index, 3)) (hf : cells + mc ≤ R.cells ∧ slots + ms ≤ R.slots) :
    vx_Run p l e R s m args below meth c H locs cells slots mc ms g rest (Qc (Value.ref b :: As).toArray) XC free := by
  obtain ⟨⟨⟨hrc, hrs, hfr, hlo, hws, hcw⟩, hcode, hini, hy, hlen, hlink⟩, hinst, hsel⟩ := cw
  have hK : vx_Back l R p e below s args y 3 8 (PreOf R mc ms Pc) (PostOf Qc mc ms free) (vx_Post XC mc ms free) := vx_back (bytes := bytes) (maxL := maxL) (ret := ret) hM hp.1 hrc hrs hfr hlo hws hcw (fun a' U hW => word_at hW (Or.inl (by first | rfl | simp [Cond.onTables, Cond.keeps, Cond.steady])) hini)
  obtain ⟨hx, hb, hml, ho, -⟩ := S
  obtain ⟨-, ⟨cellB, hcB, hoB, hclB⟩, hPc⟩ := hp
  obtain ⟨mk, methM, hnamed, hmethM, hstM, habM⟩ := Cond.instanceMethod_spec hinst
  obtain ⟨methM', cM, hmethM', -, -, -, -, -, -, hsigM⟩ := Cond.code_spec hnamed hcode
  cases hmethM.symm.trans hmethM'
  obtain ⟨c2, r2, m2, q1, q2, q3, q4, kP, hkP, hkPi⟩ := Cond.selects_spec hsel
  cases hclB.symm.trans q1
  cases (State.methodFound?_of_named hnamed hy).symm.trans q2
  cases hnamed.symm.trans q3
  intro T hT X
  have hselP : selectMethod e.platform s.vm cellB.cls mk = .method mk := by rw [Launch.admits_selectMethod X.admits]; exact q4
  obtain ⟨vm₁, X₁, st1⟩ := X.invokevirtualNest hx ho hlink hnamed hmethM hstM hkP hkPi hy (a := b) (cell := cellB) (by rw [hT]; exact hcB)
    (fun z h => by rw [h] at hoB; cases hoB) hselP hmethM habM hkP hkPi (g := g) hg (argsL := As) (rest := rest) (hn.trans (hlen _ hsigM)) hstack (by rw [hb]; exact hdg)
  rcases hK m meth c ⟨T.setVm vm₁, locs, cells, slots⟩ { g with stack := rest } (.invokevirtual index) mk (Value.ref b :: As).toArray X₁ hg (hsize.trans hml.symm) (by rw [hb]; exact hdg) hW (X₁.named hnamed) ⟨hf.1, hf.2, hPc (T.setVm vm₁) hT X₁.warmed⟩ with ⟨v, ⟨U', l2, c2, s2⟩, X', ⟨g', mk', t, L, e1, e2, hq, h1, hL, h2, h3⟩, st⟩ | ⟨q, ⟨U', l2, c2, s2⟩, X', ⟨g', mk', t, L, E, ce, e1, e2, hq, hce, hcv, hcl, h1, hL, h2, h3⟩, st⟩
  · dsimp only [Pt.U, Pt.locs, Pt.cells, Pt.slots] at X' e1 e2 h1 h2 h3 st
    subst h1; subst h2; subst h3
    exact Or.inl ⟨v, (T.setVm vm₁).calling g' mk' (Value.ref b :: As).toArray, t, U', L, hT, X', hL, e1, e2, hq, fun target h => st1 _ fun acts => by rw [doInvoke_state]; exact st.trans h⟩
  · dsimp only [Pt.U, Pt.locs, Pt.cells, Pt.slots] at X' e1 e2 h1 h2 h3 st hcl
    subst h1; subst h2; subst h3
    exact Or.inr ⟨q, (T.setVm vm₁).calling g' mk' (Value.ref b :: As).toArray, t, U', L, E, ce, hT, X', hL, e1, e2, hq, hce, hcv, vx_cls X₁.warmed hcl, st1 _ fun acts => by rw [doInvoke_state]; exact st⟩
end KT3
end
section
/-! A private method returns or throws: which one is known ahead of the call. -/
theorem sp_x_requireRange {a b c : Int32} {post : Prop} {postX : String → Prop} (h : vc_x_requireRange a b c post postX) : vc_x_requireRange a b c post (fun _ => False) ∨ vc_x_requireRange a b c False postX := by
  unfold vc_x_requireRange at h ⊢
  by_cases h1 : a < b
  · exact Or.inr ⟨fun _ => h.1 h1, fun n => absurd h1 n⟩
  · by_cases h2 : a ≤ c
    · exact Or.inl ⟨fun n => absurd n h1, fun _ => ⟨fun _ => (h.2 h1).1 h2, fun n => absurd h2 n⟩⟩
    · exact Or.inr ⟨fun n => absurd n h1, fun _ => ⟨fun n => absurd n h2, fun _ => (h.2 h1).2 h2⟩⟩
theorem sp_x_requireIndex {a b : Int32} {post : Prop} {postX : String → Prop} (h : vc_x_requireIndex a b post postX) : vc_x_requireIndex a b post (fun _ => False) ∨ vc_x_requireIndex a b False postX := by
  unfold vc_x_requireIndex at h ⊢
  by_cases h1 : a < 0
  · exact Or.inr ⟨fun _ => h.1 h1, fun n => absurd h1 n⟩
  · by_cases h2 : a < b
    · exact Or.inl ⟨fun n => absurd n h1, fun _ => ⟨fun _ => (h.2 h1).1 h2, fun n => absurd h2 n⟩⟩
    · exact Or.inr ⟨fun n => absurd n h1, fun _ => ⟨fun n => absurd n h2, fun _ => (h.2 h1).2 h2⟩⟩
theorem sp_b_requireCutsFit {a b : Int32} {post : Prop} {postX : String → Prop} (h : vc_b_requireCutsFit a b post postX) : vc_b_requireCutsFit a b post (fun _ => False) ∨ vc_b_requireCutsFit a b False postX := by
  unfold vc_b_requireCutsFit at h ⊢
  by_cases h1 : a ≤ b
  · exact Or.inl ⟨fun _ => h.1 h1, fun n => absurd h1 n⟩
  · exact Or.inr ⟨fun n => absurd n h1, fun _ => h.2 h1⟩
theorem sp_b_changeCrops {a b c d e p1 p2 : Int32} {post : Int32 → Int32 → Prop} {postX : String → Prop} (h : vc_b_changeCrops a b c d e p1 p2 post postX) : vc_b_changeCrops a b c d e p1 p2 post (fun _ => False) ∨ vc_b_changeCrops a b c d e p1 p2 (fun _ _ => False) postX := by
  unfold vc_b_changeCrops vc_b_roomOf at h ⊢
  by_cases h1 : d ≤ 0
  · rcases sp_b_requireCutsFit (h.1 h1) with k | k
    · exact Or.inl ⟨fun _ => k, fun n => absurd h1 n⟩
    · exact Or.inr ⟨fun _ => k, fun n => absurd h1 n⟩
  · by_cases h2 : p1 = c
    · rcases sp_b_requireCutsFit ((h.2 h1).1 h2) with k | k
      · exact Or.inl ⟨fun n => absurd n h1, fun _ => ⟨fun _ => k, fun n => absurd h2 n⟩⟩
      · exact Or.inr ⟨fun n => absurd n h1, fun _ => ⟨fun _ => k, fun n => absurd h2 n⟩⟩
    · exact Or.inr ⟨fun n => absurd n h1, fun _ => ⟨fun n => absurd n h2, fun _ => (h.2 h1).2 h2⟩⟩
theorem sp_b_learnLength {a b c p1 : Int32} {post : Int32 → Int32 → Prop} {postX : String → Prop} (h : vc_b_learnLength a b c p1 post postX) : vc_b_learnLength a b c p1 post (fun _ => False) ∨ vc_b_learnLength a b c p1 (fun _ _ => False) postX := by
  unfold vc_b_learnLength vc_b_roomOf at h ⊢
  exact sp_b_requireCutsFit h
theorem sp_t_add {f1 f2 f3 f4 f5 f6 : Nat → Int32} {n p1 p2 p3 : Int32} {post : Int32 → Int32 → (Nat → Int32) → (Nat → Int32) → (Nat → Int32) → (Nat → Int32) → (Nat → Int32) → (Nat → Int32) → Prop} {postX : String → Prop} (h : vc_t_add f1 f2 f3 f4 f5 f6 n p1 p2 p3 post postX) : vc_t_add f1 f2 f3 f4 f5 f6 n p1 p2 p3 post (fun _ => False) ∨ vc_t_add f1 f2 f3 f4 f5 f6 n p1 p2 p3 (fun _ _ _ _ _ _ _ _ => False) postX := by
  unfold vc_t_add at h ⊢
  by_cases h1 : n < 6
  · exact Or.inl ⟨fun _ => h.1 h1, fun n => absurd h1 n⟩
  · exact Or.inr ⟨fun n => absurd n h1, fun _ => h.2 h1⟩
end
section
/-! by program: contracts -/
set_option maxHeartbeats 4000000 in
set_option maxRecDepth 100000 in
theorem c_t_init (l : Launch) (D : va_G) (cI cJ cZ : ClassId) (t_a : Nat) (sz : Nat) {post : Prop} (hlt : l.stackTraces = false) (hv : vc_t_init post) :
    kt_Mv l y_t_init (.code y_t_init cc_t_init 1 none) rm_t_init D cI cJ cZ [(t_a, .inr (3, [.null, .null, .null, .null, .null, .null, .int 0]))] sz [.ref t_a] (fun (u : Nat × Nat × Nat × Nat × Nat × Nat) => post) (fun (u : Nat × Nat × Nat × Nat × Nat × Nat) => [(t_a, .inr (3, [.ref u.1, .ref u.2.1, .ref u.2.2.1, .ref u.2.2.2.1, .ref u.2.2.2.2.1, .ref u.2.2.2.2.2, .int 0])), (u.1, .inl (cI, 6, .inl (fun _ => 0))), (u.2.1, .inl (cI, 6, .inl (fun _ => 0))), (u.2.2.1, .inl (cI, 6, .inl (fun _ => 0))), (u.2.2.2.1, .inl (cI, 201, .inl (fun _ => 0))), (u.2.2.2.2.1, .inl (cI, 201, .inl (fun _ => 0))), (u.2.2.2.2.2, .inl (cI, 201, .inl (fun _ => 0)))]) 6 621 := by
  refine kt_ofM (cc := cc_t_init) (maxL := 1) (ret := none) (Qc := fun A => kt_Qv D A (fun (u : Nat × Nat × Nat × Nat × Nat × Nat) => post) (fun (u : Nat × Nat × Nat × Nat × Nat × Nat) => [(t_a, .inr (3, [.ref u.1, .ref u.2.1, .ref u.2.2.1, .ref u.2.2.2.1, .ref u.2.2.2.2.1, .ref u.2.2.2.2.2, .int 0])), (u.1, .inl (cI, 6, .inl (fun _ => 0))), (u.2.1, .inl (cI, 6, .inl (fun _ => 0))), (u.2.2.1, .inl (cI, 6, .inl (fun _ => 0))), (u.2.2.2.1, .inl (cI, 201, .inl (fun _ => 0))), (u.2.2.2.2.1, .inl (cI, 201, .inl (fun _ => 0))), (u.2.2.2.2.2, .inl (cI, 201, .inl (fun _ => 0)))])) (by decide) (by decide) ?_
  intro p e s m args below meth c A Q hI hP hD hS hQ ls hl
  obtain ⟨hx, hb, hr, hG, hown, hlocks, hname, hml, hC, hZ, hA⟩ := hI
  have hown : s.vm.findClass "CutShears$LossTable" = some m.cls := hown
  have hname : meth.name = "<init>" := hname
  have hK := hC.1
  have hl : lv_has ls 1 [(0, .ref t_a)] := hl
  unfold vc_t_init at hv
  refine lv_aload_n hx hb d_t_init_0 rfl (lv_at hl 0 rfl) ?_
  refine W.objInit hx hb hown (hG _ mw_59) (hG _ mw_52) (hG _ mw_53) rfl (by rw [hml]; exact hl.1) rfl d_t_init_1 (Nat.le_of_ble_eq_true rfl) (Nat.le_of_ble_eq_true rfl) ?_
  refine W.eq (g2 := F0 m 4 ls []) rfl ?_
  refine lv_aload_n hx hb d_t_init_4 rfl (lv_at hl 0 rfl) ?_
  refine lv_bipush (v := 6) hx hb d_t_init_5 (by decide) ?_
  refine kt_newi (N' := 6) hx hb (hG _ mw_85) hK hP hD hS hA (by decide) (by decide) (by decide) (Nat.le_of_ble_eq_true rfl) (Nat.le_of_ble_eq_true rfl) d_t_init_7 (fun t_lows_a_1 H hP hD hS => ?_)
  have hP : va_P D vwCl [(t_a, .inr (3, [.null, .null, .null, .null, .null, .null, .int 0])), (t_lows_a_1, .inl (cI, 6, .inl (fun _ => 0)))] H := hP
  have hD : va_D A [(t_a, .inr (3, [.null, .null, .null, .null, .null, .null, .int 0])), (t_lows_a_1, .inl (cI, 6, .inl (fun _ => 0)))] := hD
  refine va_putF (D := D) (ci := 3) (v := .ref t_lows_a_1) (ty := .array .int) (C := "CutShears$LossTable") (T := T_t) (N := 7) hx hb hG hi_t ty_t ty_t_ok nm_t hown hK hP hD hS 0 rfl rfl 0 (by decide) (hG _ mw_60) (fun _ h9 => h9) rfl hname rfl (by decide +kernel) rfl rfl (Nat.le_of_ble_eq_true rfl) d_t_init_9 (fun H locs hP hD hS => ?_)
  have hP : va_P D vwCl [(t_a, .inr (3, [.ref t_lows_a_1, .null, .null, .null, .null, .null, .int 0])), (t_lows_a_1, .inl (cI, 6, .inl (fun _ => 0)))] H := hP
  have hD : va_D A [(t_a, .inr (3, [.ref t_lows_a_1, .null, .null, .null, .null, .null, .int 0])), (t_lows_a_1, .inl (cI, 6, .inl (fun _ => 0)))] := hD
  refine lv_aload_n hx hb d_t_init_12 rfl (lv_at hl 0 rfl) ?_
  refine lv_bipush (v := 6) hx hb d_t_init_13 (by decide) ?_
  refine kt_newi (N' := 6) hx hb (hG _ mw_85) hK hP hD hS hA (by decide) (by decide) (by decide) (Nat.le_of_ble_eq_true rfl) (Nat.le_of_ble_eq_true rfl) d_t_init_15 (fun t_highs_a_2 H hP hD hS => ?_)
  have hP : va_P D vwCl [(t_a, .inr (3, [.ref t_lows_a_1, .null, .null, .null, .null, .null, .int 0])), (t_lows_a_1, .inl (cI, 6, .inl (fun _ => 0))), (t_highs_a_2, .inl (cI, 6, .inl (fun _ => 0)))] H := hP
  have hD : va_D A [(t_a, .inr (3, [.ref t_lows_a_1, .null, .null, .null, .null, .null, .int 0])), (t_lows_a_1, .inl (cI, 6, .inl (fun _ => 0))), (t_highs_a_2, .inl (cI, 6, .inl (fun _ => 0)))] := hD
  refine va_putF (D := D) (ci := 3) (v := .ref t_highs_a_2) (ty := .array .int) (C := "CutShears$LossTable") (T := T_t) (N := 7) hx hb hG hi_t ty_t ty_t_ok nm_t hown hK hP hD hS 0 rfl rfl 1 (by decide) (hG _ mw_61) (fun _ h9 => h9) rfl hname rfl (by decide +kernel) rfl rfl (Nat.le_of_ble_eq_true rfl) d_t_init_17 (fun H locs hP hD hS => ?_)
  have hP : va_P D vwCl [(t_a, .inr (3, [.ref t_lows_a_1, .ref t_highs_a_2, .null, .null, .null, .null, .int 0])), (t_lows_a_1, .inl (cI, 6, .inl (fun _ => 0))), (t_highs_a_2, .inl (cI, 6, .inl (fun _ => 0)))] H := hP
  have hD : va_D A [(t_a, .inr (3, [.ref t_lows_a_1, .ref t_highs_a_2, .null, .null, .null, .null, .int 0])), (t_lows_a_1, .inl (cI, 6, .inl (fun _ => 0))), (t_highs_a_2, .inl (cI, 6, .inl (fun _ => 0)))] := hD
  refine lv_aload_n hx hb d_t_init_20 rfl (lv_at hl 0 rfl) ?_
  refine lv_bipush (v := 6) hx hb d_t_init_21 (by decide) ?_
  refine kt_newi (N' := 6) hx hb (hG _ mw_85) hK hP hD hS hA (by decide) (by decide) (by decide) (Nat.le_of_ble_eq_true rfl) (Nat.le_of_ble_eq_true rfl) d_t_init_23 (fun t_ranks_a_3 H hP hD hS => ?_)
  have hP : va_P D vwCl [(t_a, .inr (3, [.ref t_lows_a_1, .ref t_highs_a_2, .null, .null, .null, .null, .int 0])), (t_lows_a_1, .inl (cI, 6, .inl (fun _ => 0))), (t_highs_a_2, .inl (cI, 6, .inl (fun _ => 0))), (t_ranks_a_3, .inl (cI, 6, .inl (fun _ => 0)))] H := hP
  have hD : va_D A [(t_a, .inr (3, [.ref t_lows_a_1, .ref t_highs_a_2, .null, .null, .null, .null, .int 0])), (t_lows_a_1, .inl (cI, 6, .inl (fun _ => 0))), (t_highs_a_2, .inl (cI, 6, .inl (fun _ => 0))), (t_ranks_a_3, .inl (cI, 6, .inl (fun _ => 0)))] := hD
  refine va_putF (D := D) (ci := 3) (v := .ref t_ranks_a_3) (ty := .array .int) (C := "CutShears$LossTable") (T := T_t) (N := 7) hx hb hG hi_t ty_t ty_t_ok nm_t hown hK hP hD hS 0 rfl rfl 2 (by decide) (hG _ mw_62) (fun _ h9 => h9) rfl hname rfl (by decide +kernel) rfl rfl (Nat.le_of_ble_eq_true rfl) d_t_init_25 (fun H locs hP hD hS => ?_)
  have hP : va_P D vwCl [(t_a, .inr (3, [.ref t_lows_a_1, .ref t_highs_a_2, .ref t_ranks_a_3, .null, .null, .null, .int 0])), (t_lows_a_1, .inl (cI, 6, .inl (fun _ => 0))), (t_highs_a_2, .inl (cI, 6, .inl (fun _ => 0))), (t_ranks_a_3, .inl (cI, 6, .inl (fun _ => 0)))] H := hP
  have hD : va_D A [(t_a, .inr (3, [.ref t_lows_a_1, .ref t_highs_a_2, .ref t_ranks_a_3, .null, .null, .null, .int 0])), (t_lows_a_1, .inl (cI, 6, .inl (fun _ => 0))), (t_highs_a_2, .inl (cI, 6, .inl (fun _ => 0))), (t_ranks_a_3, .inl (cI, 6, .inl (fun _ => 0)))] := hD
  refine lv_aload_n hx hb d_t_init_28 rfl (lv_at hl 0 rfl) ?_
  refine lv_sipush (v := 201) hx hb d_t_init_29 (by decide) ?_
  refine kt_newi (N' := 201) hx hb (hG _ mw_85) hK hP hD hS hA (by decide) (by decide) (by decide) (Nat.le_of_ble_eq_true rfl) (Nat.le_of_ble_eq_true rfl) d_t_init_32 (fun t_costs_a_4 H hP hD hS => ?_)
  have hP : va_P D vwCl [(t_a, .inr (3, [.ref t_lows_a_1, .ref t_highs_a_2, .ref t_ranks_a_3, .null, .null, .null, .int 0])), (t_lows_a_1, .inl (cI, 6, .inl (fun _ => 0))), (t_highs_a_2, .inl (cI, 6, .inl (fun _ => 0))), (t_ranks_a_3, .inl (cI, 6, .inl (fun _ => 0))), (t_costs_a_4, .inl (cI, 201, .inl (fun _ => 0)))] H := hP
  have hD : va_D A [(t_a, .inr (3, [.ref t_lows_a_1, .ref t_highs_a_2, .ref t_ranks_a_3, .null, .null, .null, .int 0])), (t_lows_a_1, .inl (cI, 6, .inl (fun _ => 0))), (t_highs_a_2, .inl (cI, 6, .inl (fun _ => 0))), (t_ranks_a_3, .inl (cI, 6, .inl (fun _ => 0))), (t_costs_a_4, .inl (cI, 201, .inl (fun _ => 0)))] := hD
  refine va_putF (D := D) (ci := 3) (v := .ref t_costs_a_4) (ty := .array .int) (C := "CutShears$LossTable") (T := T_t) (N := 7) hx hb hG hi_t ty_t ty_t_ok nm_t hown hK hP hD hS 0 rfl rfl 3 (by decide) (hG _ mw_63) (fun _ h9 => h9) rfl hname rfl (by decide +kernel) rfl rfl (Nat.le_of_ble_eq_true rfl) d_t_init_34 (fun H locs hP hD hS => ?_)
  have hP : va_P D vwCl [(t_a, .inr (3, [.ref t_lows_a_1, .ref t_highs_a_2, .ref t_ranks_a_3, .ref t_costs_a_4, .null, .null, .int 0])), (t_lows_a_1, .inl (cI, 6, .inl (fun _ => 0))), (t_highs_a_2, .inl (cI, 6, .inl (fun _ => 0))), (t_ranks_a_3, .inl (cI, 6, .inl (fun _ => 0))), (t_costs_a_4, .inl (cI, 201, .inl (fun _ => 0)))] H := hP
  have hD : va_D A [(t_a, .inr (3, [.ref t_lows_a_1, .ref t_highs_a_2, .ref t_ranks_a_3, .ref t_costs_a_4, .null, .null, .int 0])), (t_lows_a_1, .inl (cI, 6, .inl (fun _ => 0))), (t_highs_a_2, .inl (cI, 6, .inl (fun _ => 0))), (t_ranks_a_3, .inl (cI, 6, .inl (fun _ => 0))), (t_costs_a_4, .inl (cI, 201, .inl (fun _ => 0)))] := hD
  refine lv_aload_n hx hb d_t_init_37 rfl (lv_at hl 0 rfl) ?_
  refine lv_sipush (v := 201) hx hb d_t_init_38 (by decide) ?_
  refine kt_newi (N' := 201) hx hb (hG _ mw_85) hK hP hD hS hA (by decide) (by decide) (by decide) (Nat.le_of_ble_eq_true rfl) (Nat.le_of_ble_eq_true rfl) d_t_init_41 (fun t_firstWanted_a_5 H hP hD hS => ?_)
  have hP : va_P D vwCl [(t_a, .inr (3, [.ref t_lows_a_1, .ref t_highs_a_2, .ref t_ranks_a_3, .ref t_costs_a_4, .null, .null, .int 0])), (t_lows_a_1, .inl (cI, 6, .inl (fun _ => 0))), (t_highs_a_2, .inl (cI, 6, .inl (fun _ => 0))), (t_ranks_a_3, .inl (cI, 6, .inl (fun _ => 0))), (t_costs_a_4, .inl (cI, 201, .inl (fun _ => 0))), (t_firstWanted_a_5, .inl (cI, 201, .inl (fun _ => 0)))] H := hP
  have hD : va_D A [(t_a, .inr (3, [.ref t_lows_a_1, .ref t_highs_a_2, .ref t_ranks_a_3, .ref t_costs_a_4, .null, .null, .int 0])), (t_lows_a_1, .inl (cI, 6, .inl (fun _ => 0))), (t_highs_a_2, .inl (cI, 6, .inl (fun _ => 0))), (t_ranks_a_3, .inl (cI, 6, .inl (fun _ => 0))), (t_costs_a_4, .inl (cI, 201, .inl (fun _ => 0))), (t_firstWanted_a_5, .inl (cI, 201, .inl (fun _ => 0)))] := hD
  refine va_putF (D := D) (ci := 3) (v := .ref t_firstWanted_a_5) (ty := .array .int) (C := "CutShears$LossTable") (T := T_t) (N := 7) hx hb hG hi_t ty_t ty_t_ok nm_t hown hK hP hD hS 0 rfl rfl 4 (by decide) (hG _ mw_64) (fun _ h9 => h9) rfl hname rfl (by decide +kernel) rfl rfl (Nat.le_of_ble_eq_true rfl) d_t_init_43 (fun H locs hP hD hS => ?_)
  have hP : va_P D vwCl [(t_a, .inr (3, [.ref t_lows_a_1, .ref t_highs_a_2, .ref t_ranks_a_3, .ref t_costs_a_4, .ref t_firstWanted_a_5, .null, .int 0])), (t_lows_a_1, .inl (cI, 6, .inl (fun _ => 0))), (t_highs_a_2, .inl (cI, 6, .inl (fun _ => 0))), (t_ranks_a_3, .inl (cI, 6, .inl (fun _ => 0))), (t_costs_a_4, .inl (cI, 201, .inl (fun _ => 0))), (t_firstWanted_a_5, .inl (cI, 201, .inl (fun _ => 0)))] H := hP
  have hD : va_D A [(t_a, .inr (3, [.ref t_lows_a_1, .ref t_highs_a_2, .ref t_ranks_a_3, .ref t_costs_a_4, .ref t_firstWanted_a_5, .null, .int 0])), (t_lows_a_1, .inl (cI, 6, .inl (fun _ => 0))), (t_highs_a_2, .inl (cI, 6, .inl (fun _ => 0))), (t_ranks_a_3, .inl (cI, 6, .inl (fun _ => 0))), (t_costs_a_4, .inl (cI, 201, .inl (fun _ => 0))), (t_firstWanted_a_5, .inl (cI, 201, .inl (fun _ => 0)))] := hD
  refine lv_aload_n hx hb d_t_init_46 rfl (lv_at hl 0 rfl) ?_
  refine lv_sipush (v := 201) hx hb d_t_init_47 (by decide) ?_
  refine kt_newi (N' := 201) hx hb (hG _ mw_85) hK hP hD hS hA (by decide) (by decide) (by decide) (Nat.le_of_ble_eq_true rfl) (Nat.le_of_ble_eq_true rfl) d_t_init_50 (fun t_firstSteps_a_6 H hP hD hS => ?_)
  have hP : va_P D vwCl [(t_a, .inr (3, [.ref t_lows_a_1, .ref t_highs_a_2, .ref t_ranks_a_3, .ref t_costs_a_4, .ref t_firstWanted_a_5, .null, .int 0])), (t_lows_a_1, .inl (cI, 6, .inl (fun _ => 0))), (t_highs_a_2, .inl (cI, 6, .inl (fun _ => 0))), (t_ranks_a_3, .inl (cI, 6, .inl (fun _ => 0))), (t_costs_a_4, .inl (cI, 201, .inl (fun _ => 0))), (t_firstWanted_a_5, .inl (cI, 201, .inl (fun _ => 0))), (t_firstSteps_a_6, .inl (cI, 201, .inl (fun _ => 0)))] H := hP
  have hD : va_D A [(t_a, .inr (3, [.ref t_lows_a_1, .ref t_highs_a_2, .ref t_ranks_a_3, .ref t_costs_a_4, .ref t_firstWanted_a_5, .null, .int 0])), (t_lows_a_1, .inl (cI, 6, .inl (fun _ => 0))), (t_highs_a_2, .inl (cI, 6, .inl (fun _ => 0))), (t_ranks_a_3, .inl (cI, 6, .inl (fun _ => 0))), (t_costs_a_4, .inl (cI, 201, .inl (fun _ => 0))), (t_firstWanted_a_5, .inl (cI, 201, .inl (fun _ => 0))), (t_firstSteps_a_6, .inl (cI, 201, .inl (fun _ => 0)))] := hD
  refine va_putF (D := D) (ci := 3) (v := .ref t_firstSteps_a_6) (ty := .array .int) (C := "CutShears$LossTable") (T := T_t) (N := 7) hx hb hG hi_t ty_t ty_t_ok nm_t hown hK hP hD hS 0 rfl rfl 5 (by decide) (hG _ mw_66) (fun _ h9 => h9) rfl hname rfl (by decide +kernel) rfl rfl (Nat.le_of_ble_eq_true rfl) d_t_init_52 (fun H locs hP hD hS => ?_)
  have hP : va_P D vwCl [(t_a, .inr (3, [.ref t_lows_a_1, .ref t_highs_a_2, .ref t_ranks_a_3, .ref t_costs_a_4, .ref t_firstWanted_a_5, .ref t_firstSteps_a_6, .int 0])), (t_lows_a_1, .inl (cI, 6, .inl (fun _ => 0))), (t_highs_a_2, .inl (cI, 6, .inl (fun _ => 0))), (t_ranks_a_3, .inl (cI, 6, .inl (fun _ => 0))), (t_costs_a_4, .inl (cI, 201, .inl (fun _ => 0))), (t_firstWanted_a_5, .inl (cI, 201, .inl (fun _ => 0))), (t_firstSteps_a_6, .inl (cI, 201, .inl (fun _ => 0)))] H := hP
  have hD : va_D A [(t_a, .inr (3, [.ref t_lows_a_1, .ref t_highs_a_2, .ref t_ranks_a_3, .ref t_costs_a_4, .ref t_firstWanted_a_5, .ref t_firstSteps_a_6, .int 0])), (t_lows_a_1, .inl (cI, 6, .inl (fun _ => 0))), (t_highs_a_2, .inl (cI, 6, .inl (fun _ => 0))), (t_ranks_a_3, .inl (cI, 6, .inl (fun _ => 0))), (t_costs_a_4, .inl (cI, 201, .inl (fun _ => 0))), (t_firstWanted_a_5, .inl (cI, 201, .inl (fun _ => 0))), (t_firstSteps_a_6, .inl (cI, 201, .inl (fun _ => 0)))] := hD
  refine lv_aload_n hx hb d_t_init_55 rfl (lv_at hl 0 rfl) ?_
  refine lv_iconst (v := 0) hx hb d_t_init_56 (by decide) ?_
  refine va_put (D := D) (ci := 3) (v := .int 0) (ty := .int) (C := "CutShears$LossTable") (T := T_t) (N := 7) hx hb hG hi_t ty_t ty_t_ok nm_t hown hK hP hD hS 0 rfl rfl 6 (by decide) (hG _ mw_68) (fun _ h9 => h9) rfl (by decide +kernel) rfl rfl (Nat.le_of_ble_eq_true rfl) d_t_init_57 (fun H locs hP hD hS => ?_)
  have hP : va_P D vwCl [(t_a, .inr (3, [.ref t_lows_a_1, .ref t_highs_a_2, .ref t_ranks_a_3, .ref t_costs_a_4, .ref t_firstWanted_a_5, .ref t_firstSteps_a_6, .int 0])), (t_lows_a_1, .inl (cI, 6, .inl (fun _ => 0))), (t_highs_a_2, .inl (cI, 6, .inl (fun _ => 0))), (t_ranks_a_3, .inl (cI, 6, .inl (fun _ => 0))), (t_costs_a_4, .inl (cI, 201, .inl (fun _ => 0))), (t_firstWanted_a_5, .inl (cI, 201, .inl (fun _ => 0))), (t_firstSteps_a_6, .inl (cI, 201, .inl (fun _ => 0)))] H := hP
  have hD : va_D A [(t_a, .inr (3, [.ref t_lows_a_1, .ref t_highs_a_2, .ref t_ranks_a_3, .ref t_costs_a_4, .ref t_firstWanted_a_5, .ref t_firstSteps_a_6, .int 0])), (t_lows_a_1, .inl (cI, 6, .inl (fun _ => 0))), (t_highs_a_2, .inl (cI, 6, .inl (fun _ => 0))), (t_ranks_a_3, .inl (cI, 6, .inl (fun _ => 0))), (t_costs_a_4, .inl (cI, 201, .inl (fun _ => 0))), (t_firstWanted_a_5, .inl (cI, 201, .inl (fun _ => 0))), (t_firstSteps_a_6, .inl (cI, 201, .inl (fun _ => 0)))] := hD
  exact kt_vret hQ hx hb hr hlocks (t_lows_a_1, t_highs_a_2, t_ranks_a_3, t_costs_a_4, t_firstWanted_a_5, t_firstSteps_a_6) hv (hP.sub [0, 1, 2, 3, 4, 5, 6] rfl) (hD.sub [0, 1, 2, 3, 4, 5, 6] (by decide) rfl) hS (Nat.le_of_ble_eq_true rfl) (Nat.le_of_ble_eq_true rfl) d_t_init_60
set_option maxHeartbeats 4000000 in
set_option maxRecDepth 100000 in
theorem c_t_tryFirst (l : Launch) (D : va_G) (cI cJ cZ : ClassId) (t_a t_lows_a t_highs_a t_ranks_a t_costs_a t_firstWanted_a t_firstSteps_a : Nat) (sz : Nat) (t_lows : Nat → Int32) (t_highs : Nat → Int32) (t_ranks : Nat → Int32) (t_costs : Nat → Int32) (t_firstWanted : Nat → Int32) (t_firstSteps : Nat → Int32) (t_count : Int32) (p1 : Int32) (p2 : Int32) {post : (Nat → Int32) → (Nat → Int32) → (Nat → Int32) → Prop} (hlt : l.stackTraces = false) (hv : vc_t_tryFirst t_lows t_highs t_ranks t_costs t_firstWanted t_firstSteps p1 p2 post) :
    kt_Mv l y_t_tryFirst (.code y_t_tryFirst cc_t_tryFirst 7 none) rm_t_tryFirst D cI cJ cZ [(t_a, .inr (3, [.ref t_lows_a, .ref t_highs_a, .ref t_ranks_a, .ref t_costs_a, .ref t_firstWanted_a, .ref t_firstSteps_a, .int t_count])), (t_lows_a, .inl (cI, 6, .inl t_lows)), (t_highs_a, .inl (cI, 6, .inl t_highs)), (t_ranks_a, .inl (cI, 6, .inl t_ranks)), (t_costs_a, .inl (cI, 201, .inl t_costs)), (t_firstWanted_a, .inl (cI, 201, .inl t_firstWanted)), (t_firstSteps_a, .inl (cI, 201, .inl t_firstSteps))] sz [.ref t_a, .int p1, .int p2] (fun (u : (Nat → Int32) × (Nat → Int32) × (Nat → Int32)) => post (u.1) (u.2.1) (u.2.2)) (fun (u : (Nat → Int32) × (Nat → Int32) × (Nat → Int32)) => [(t_a, .inr (3, [.ref t_lows_a, .ref t_highs_a, .ref t_ranks_a, .ref t_costs_a, .ref t_firstWanted_a, .ref t_firstSteps_a, .int t_count])), (t_lows_a, .inl (cI, 6, .inl t_lows)), (t_highs_a, .inl (cI, 6, .inl t_highs)), (t_ranks_a, .inl (cI, 6, .inl t_ranks)), (t_costs_a, .inl (cI, 201, .inl (u.1))), (t_firstWanted_a, .inl (cI, 201, .inl (u.2.1))), (t_firstSteps_a, .inl (cI, 201, .inl (u.2.2)))]) 0 0 := by
  refine kt_ofM (cc := cc_t_tryFirst) (maxL := 7) (ret := none) (Qc := fun A => kt_Qv D A (fun (u : (Nat → Int32) × (Nat → Int32) × (Nat → Int32)) => post (u.1) (u.2.1) (u.2.2)) (fun (u : (Nat → Int32) × (Nat → Int32) × (Nat → Int32)) => [(t_a, .inr (3, [.ref t_lows_a, .ref t_highs_a, .ref t_ranks_a, .ref t_costs_a, .ref t_firstWanted_a, .ref t_firstSteps_a, .int t_count])), (t_lows_a, .inl (cI, 6, .inl t_lows)), (t_highs_a, .inl (cI, 6, .inl t_highs)), (t_ranks_a, .inl (cI, 6, .inl t_ranks)), (t_costs_a, .inl (cI, 201, .inl (u.1))), (t_firstWanted_a, .inl (cI, 201, .inl (u.2.1))), (t_firstSteps_a, .inl (cI, 201, .inl (u.2.2)))])) (by decide) (by decide) ?_
  intro p e s m args below meth c A Q hI hP hD hS hQ ls hl
  obtain ⟨hx, hb, hr, hG, hown, hlocks, hname, hml, hC, hZ, hA⟩ := hI
  have hown : s.vm.findClass "CutShears$LossTable" = some m.cls := hown
  have hK := hC.1
  have hl : lv_has ls 7 [(0, .ref t_a), (1, .int p1), (2, .int p2)] := hl
  unfold vc_t_tryFirst at hv
  refine lv_aload_n hx hb d_t_tryFirst_0 rfl (lv_at hl 0 rfl) ?_
  refine va_get (D := D) (ci := 3) (v := .ref t_highs_a) (C := "CutShears$LossTable") (T := T_t) (N := 7) hx hb hG hi_t hown hK hP 0 rfl rfl 1 (by decide) (hG _ mw_61) (fun _ h9 => h9) rfl d_t_tryFirst_1 ?_
  refine lv_iload_n hx hb d_t_tryFirst_4 rfl (lv_at hl 2 rfl) ?_
  obtain ⟨hin, hv⟩ := hv
  refine va_iald hx hb hK hP 2 0 rfl rfl hin d_t_tryFirst_5 ?_
  refine lv_iload_n hx hb d_t_tryFirst_6 rfl (lv_at hl 1 rfl) ?_
  refine va_mmin hx hb (by rw [hml]; exact hl.1.symm) hown (hG _ mw_317) (hG _ mw_318) (hG _ mw_43) (hG _ mw_319) (Nat.le_of_ble_eq_true rfl) (Nat.le_of_ble_eq_true rfl) (Nat.zero_le _) (Nat.zero_le _) d_t_tryFirst_7 ?_
  refine lv_topi (fun v_1 ev_1 => ?_)
  replace hv := hv v_1 ev_1
  refine lv_istore_n (lv' := [(3, .int v_1), (0, .ref t_a), (1, .int p1), (2, .int p2)]) hx hb d_t_tryFirst_10 rfl hl (by decide) rfl (fun ls hl => ?_)
  refine lv_iconst (v := 1) hx hb d_t_tryFirst_11 (by decide) ?_
  refine lv_aload_n hx hb d_t_tryFirst_12 rfl (lv_at hl 1 rfl) ?_
  refine va_get (D := D) (ci := 3) (v := .ref t_ranks_a) (C := "CutShears$LossTable") (T := T_t) (N := 7) hx hb hG hi_t hown hK hP 0 rfl rfl 2 (by decide) (hG _ mw_62) (fun _ h9 => h9) rfl d_t_tryFirst_13 ?_
  refine lv_iload_n hx hb d_t_tryFirst_16 rfl (lv_at hl 3 rfl) ?_
  obtain ⟨hin, hv⟩ := hv
  refine va_iald hx hb hK hP 3 0 rfl rfl hin d_t_tryFirst_17 ?_
  refine lv_sipush (v := 256) hx hb d_t_tryFirst_18 (by decide) ?_
  refine lv_imul hx hb d_t_tryFirst_21 ?_
  refine lv_isub hx hb d_t_tryFirst_22 ?_
  refine lv_topi (fun v_2 ev_2 => ?_)
  replace hv := hv v_2 ev_2
  refine lv_istore (lv' := [(4, .int v_2), (3, .int v_1), (0, .ref t_a), (1, .int p1), (2, .int p2)]) hx hb d_t_tryFirst_23 hl (by decide) rfl (fun ls hl => ?_)
  refine lv_aload_n hx hb d_t_tryFirst_25 rfl (lv_at hl 2 rfl) ?_
  refine va_get (D := D) (ci := 3) (v := .ref t_lows_a) (C := "CutShears$LossTable") (T := T_t) (N := 7) hx hb hG hi_t hown hK hP 0 rfl rfl 0 (by decide) (hG _ mw_60) (fun _ h9 => h9) rfl d_t_tryFirst_26 ?_
  refine lv_iload_n hx hb d_t_tryFirst_29 rfl (lv_at hl 4 rfl) ?_
  obtain ⟨hin, hv⟩ := hv
  refine va_iald hx hb hK hP 1 0 rfl rfl hin d_t_tryFirst_30 ?_
  refine lv_topi (fun v_3 ev_3 => ?_)
  replace hv := hv v_3 ev_3
  refine lv_istore (lv' := [(5, .int v_3), (4, .int v_2), (3, .int v_1), (0, .ref t_a), (1, .int p1), (2, .int p2)]) hx hb d_t_tryFirst_31 hl (by decide) rfl (fun ls hl => ?_)
  obtain ⟨n33, hv⟩ := hv
  have loop33 : ∀ (n33 : Nat) (v_4 : Int32) (t_costs_5 : Nat → Int32) (t_firstWanted_6 : Nat → Int32) (t_firstSteps_7 : Nat → Int32), vc_t_tryFirst_L33 p1 p2 v_1 v_2 post n33 v_4 t_costs_5 t_firstWanted_6 t_firstSteps_7 → ∀ (H : Heap) (locs : List Loc), va_P D vwCl [(t_a, .inr (3, [.ref t_lows_a, .ref t_highs_a, .ref t_ranks_a, .ref t_costs_a, .ref t_firstWanted_a, .ref t_firstSteps_a, .int t_count])), (t_lows_a, .inl (cI, 6, .inl t_lows)), (t_highs_a, .inl (cI, 6, .inl t_highs)), (t_ranks_a, .inl (cI, 6, .inl t_ranks)), (t_costs_a, .inl (cI, 201, .inl t_costs_5)), (t_firstWanted_a, .inl (cI, 201, .inl t_firstWanted_6)), (t_firstSteps_a, .inl (cI, 201, .inl t_firstSteps_7))] H → va_D A [(t_a, .inr (3, [.ref t_lows_a, .ref t_highs_a, .ref t_ranks_a, .ref t_costs_a, .ref t_firstWanted_a, .ref t_firstSteps_a, .int t_count])), (t_lows_a, .inl (cI, 6, .inl t_lows)), (t_highs_a, .inl (cI, 6, .inl t_highs)), (t_ranks_a, .inl (cI, 6, .inl t_ranks)), (t_costs_a, .inl (cI, 201, .inl t_costs_5)), (t_firstWanted_a, .inl (cI, 201, .inl t_firstWanted_6)), (t_firstSteps_a, .inl (cI, 201, .inl t_firstSteps_7))] → va_S A s.heap H locs → ∀ ls, lv_has ls 7 [(5, .int v_4), (4, .int v_2), (3, .int v_1), (0, .ref t_a), (1, .int p1), (2, .int p2)] → W p l e rm_t_tryFirst s m args below meth c H locs 0 0 Q (F0 m 33 ls []) := by
    intro n33
    induction n33 with
    | zero =>
      intro v_4 t_costs_5 t_firstWanted_6 t_firstSteps_7 hv
      unfold vc_t_tryFirst_L33 at hv
      exact hv.elim
    | succ n33 ih33 =>
      intro v_4 t_costs_5 t_firstWanted_6 t_firstSteps_7 hv H locs hP hD hS ls hl
      unfold vc_t_tryFirst_L33 at hv
      refine lv_iload hx hb d_t_tryFirst_33 (lv_at hl 0 rfl) ?_
      refine lv_iload_n hx hb d_t_tryFirst_35 rfl (lv_at hl 2 rfl) ?_
      refine lv_icmp_gt (tgt := 93) hx hb d_t_tryFirst_36 (by decide) (fun c_8 => ?_) (fun c_8 => ?_)
      · replace hv := hv.1 c_8
        exact kt_vret hQ hx hb hr hlocks (t_costs_5, t_firstWanted_6, t_firstSteps_7) hv (hP.sub [0, 1, 2, 3, 4, 5, 6] rfl) (hD.sub [0, 1, 2, 3, 4, 5, 6] (by decide) rfl) hS (Nat.le_of_ble_eq_true rfl) (Nat.le_of_ble_eq_true rfl) d_t_tryFirst_93
      · replace hv := hv.2 c_8
        refine lv_aload_n hx hb d_t_tryFirst_39 rfl (lv_at hl 3 rfl) ?_
        refine va_get (D := D) (ci := 3) (v := .ref t_costs_a) (C := "CutShears$LossTable") (T := T_t) (N := 7) hx hb hG hi_t hown hK hP 0 rfl rfl 3 (by decide) (hG _ mw_63) (fun _ h9 => h9) rfl d_t_tryFirst_40 ?_
        refine lv_iload_n hx hb d_t_tryFirst_43 rfl (lv_at hl 4 rfl) ?_
        refine lv_iload hx hb d_t_tryFirst_44 (lv_at hl 0 rfl) ?_
        refine lv_isub hx hb d_t_tryFirst_46 ?_
        obtain ⟨hin, hv⟩ := hv
        refine va_iald hx hb hK hP 4 0 rfl rfl hin d_t_tryFirst_47 ?_
        refine lv_iload hx hb d_t_tryFirst_48 (lv_at hl 1 rfl) ?_
        refine lv_iadd hx hb d_t_tryFirst_50 ?_
        refine lv_topi (fun v_9 ev_9 => ?_)
        replace hv := hv v_9 ev_9
        refine lv_istore (lv' := [(6, .int v_9), (5, .int v_4), (4, .int v_2), (3, .int v_1), (0, .ref t_a), (1, .int p1), (2, .int p2)]) hx hb d_t_tryFirst_51 hl (by decide) rfl (fun ls hl => ?_)
        refine lv_iload hx hb d_t_tryFirst_53 (lv_at hl 0 rfl) ?_
        refine lv_aload_n hx hb d_t_tryFirst_55 rfl (lv_at hl 4 rfl) ?_
        refine va_get (D := D) (ci := 3) (v := .ref t_costs_a) (C := "CutShears$LossTable") (T := T_t) (N := 7) hx hb hG hi_t hown hK hP 0 rfl rfl 3 (by decide) (hG _ mw_63) (fun _ h9 => h9) rfl d_t_tryFirst_56 ?_
        refine lv_iload_n hx hb d_t_tryFirst_59 rfl (lv_at hl 5 rfl) ?_
        obtain ⟨hin, hv⟩ := hv
        refine va_iald hx hb hK hP 4 0 rfl rfl hin d_t_tryFirst_60 ?_
        refine lv_icmp_ge (tgt := 87) hx hb d_t_tryFirst_61 (by decide) (fun c_10 => ?_) (fun c_10 => ?_)
        · replace hv := hv.1 c_10
          obtain ⟨v_11, ev_11⟩ : ∃ y : Int32, y = v_4 + 1 := ⟨_, rfl⟩
          replace hv := hv v_11 ev_11
          refine lv_iinc (v := v_11) (lv' := [(5, .int v_11), (6, .int v_9), (4, .int v_2), (3, .int v_1), (0, .ref t_a), (1, .int p1), (2, .int p2)]) hx hb d_t_tryFirst_87 hl (k := 1) rfl (by rw [ev_11]; rfl) (by decide) rfl (fun ls hl => ?_)
          refine lv_goto (tgt := 33) hx hb d_t_tryFirst_90 (by decide) ?_
          exact ih33 v_11 t_costs_5 t_firstWanted_6 t_firstSteps_7 hv _ _ (hP.sub [0, 1, 2, 3, 4, 5, 6] rfl) (hD.sub [0, 1, 2, 3, 4, 5, 6] (by decide) rfl) hS ls (lv_sub hl [0, 2, 3, 4, 5, 6] rfl)
        · replace hv := hv.2 c_10
          refine lv_aload_n hx hb d_t_tryFirst_64 rfl (lv_at hl 4 rfl) ?_
          refine va_get (D := D) (ci := 3) (v := .ref t_costs_a) (C := "CutShears$LossTable") (T := T_t) (N := 7) hx hb hG hi_t hown hK hP 0 rfl rfl 3 (by decide) (hG _ mw_63) (fun _ h9 => h9) rfl d_t_tryFirst_65 ?_
          refine lv_iload_n hx hb d_t_tryFirst_68 rfl (lv_at hl 5 rfl) ?_
          refine lv_iload hx hb d_t_tryFirst_69 (lv_at hl 0 rfl) ?_
          obtain ⟨hin, hv⟩ := hv
          refine va_iast hx hb hK hP hD hS 4 0 rfl rfl hin d_t_tryFirst_71 (fun H locs hP hD hS => ?_)
          have hP : va_P D vwCl [(t_a, .inr (3, [.ref t_lows_a, .ref t_highs_a, .ref t_ranks_a, .ref t_costs_a, .ref t_firstWanted_a, .ref t_firstSteps_a, .int t_count])), (t_lows_a, .inl (cI, 6, .inl t_lows)), (t_highs_a, .inl (cI, 6, .inl t_highs)), (t_ranks_a, .inl (cI, 6, .inl t_ranks)), (t_costs_a, .inl (cI, 201, .inl (upd t_costs_5 p1.toNatClampNeg v_9))), (t_firstWanted_a, .inl (cI, 201, .inl t_firstWanted_6)), (t_firstSteps_a, .inl (cI, 201, .inl t_firstSteps_7))] H := hP
          have hD : va_D A [(t_a, .inr (3, [.ref t_lows_a, .ref t_highs_a, .ref t_ranks_a, .ref t_costs_a, .ref t_firstWanted_a, .ref t_firstSteps_a, .int t_count])), (t_lows_a, .inl (cI, 6, .inl t_lows)), (t_highs_a, .inl (cI, 6, .inl t_highs)), (t_ranks_a, .inl (cI, 6, .inl t_ranks)), (t_costs_a, .inl (cI, 201, .inl (upd t_costs_5 p1.toNatClampNeg v_9))), (t_firstWanted_a, .inl (cI, 201, .inl t_firstWanted_6)), (t_firstSteps_a, .inl (cI, 201, .inl t_firstSteps_7))] := hD
          refine lv_aload_n hx hb d_t_tryFirst_72 rfl (lv_at hl 4 rfl) ?_
          refine va_get (D := D) (ci := 3) (v := .ref t_firstWanted_a) (C := "CutShears$LossTable") (T := T_t) (N := 7) hx hb hG hi_t hown hK hP 0 rfl rfl 4 (by decide) (hG _ mw_64) (fun _ h9 => h9) rfl d_t_tryFirst_73 ?_
          refine lv_iload_n hx hb d_t_tryFirst_76 rfl (lv_at hl 5 rfl) ?_
          refine lv_iload_n hx hb d_t_tryFirst_77 rfl (lv_at hl 6 rfl) ?_
          obtain ⟨hin, hv⟩ := hv
          refine va_iast hx hb hK hP hD hS 5 0 rfl rfl hin d_t_tryFirst_78 (fun H locs hP hD hS => ?_)
          have hP : va_P D vwCl [(t_a, .inr (3, [.ref t_lows_a, .ref t_highs_a, .ref t_ranks_a, .ref t_costs_a, .ref t_firstWanted_a, .ref t_firstSteps_a, .int t_count])), (t_lows_a, .inl (cI, 6, .inl t_lows)), (t_highs_a, .inl (cI, 6, .inl t_highs)), (t_ranks_a, .inl (cI, 6, .inl t_ranks)), (t_costs_a, .inl (cI, 201, .inl (upd t_costs_5 p1.toNatClampNeg v_9))), (t_firstWanted_a, .inl (cI, 201, .inl (upd t_firstWanted_6 p1.toNatClampNeg p2))), (t_firstSteps_a, .inl (cI, 201, .inl t_firstSteps_7))] H := hP
          have hD : va_D A [(t_a, .inr (3, [.ref t_lows_a, .ref t_highs_a, .ref t_ranks_a, .ref t_costs_a, .ref t_firstWanted_a, .ref t_firstSteps_a, .int t_count])), (t_lows_a, .inl (cI, 6, .inl t_lows)), (t_highs_a, .inl (cI, 6, .inl t_highs)), (t_ranks_a, .inl (cI, 6, .inl t_ranks)), (t_costs_a, .inl (cI, 201, .inl (upd t_costs_5 p1.toNatClampNeg v_9))), (t_firstWanted_a, .inl (cI, 201, .inl (upd t_firstWanted_6 p1.toNatClampNeg p2))), (t_firstSteps_a, .inl (cI, 201, .inl t_firstSteps_7))] := hD
          refine lv_aload_n hx hb d_t_tryFirst_79 rfl (lv_at hl 4 rfl) ?_
          refine va_get (D := D) (ci := 3) (v := .ref t_firstSteps_a) (C := "CutShears$LossTable") (T := T_t) (N := 7) hx hb hG hi_t hown hK hP 0 rfl rfl 5 (by decide) (hG _ mw_66) (fun _ h9 => h9) rfl d_t_tryFirst_80 ?_
          refine lv_iload_n hx hb d_t_tryFirst_83 rfl (lv_at hl 5 rfl) ?_
          refine lv_iload hx hb d_t_tryFirst_84 (lv_at hl 1 rfl) ?_
          obtain ⟨hin, hv⟩ := hv
          refine va_iast hx hb hK hP hD hS 6 0 rfl rfl hin d_t_tryFirst_86 (fun H locs hP hD hS => ?_)
          have hP : va_P D vwCl [(t_a, .inr (3, [.ref t_lows_a, .ref t_highs_a, .ref t_ranks_a, .ref t_costs_a, .ref t_firstWanted_a, .ref t_firstSteps_a, .int t_count])), (t_lows_a, .inl (cI, 6, .inl t_lows)), (t_highs_a, .inl (cI, 6, .inl t_highs)), (t_ranks_a, .inl (cI, 6, .inl t_ranks)), (t_costs_a, .inl (cI, 201, .inl (upd t_costs_5 p1.toNatClampNeg v_9))), (t_firstWanted_a, .inl (cI, 201, .inl (upd t_firstWanted_6 p1.toNatClampNeg p2))), (t_firstSteps_a, .inl (cI, 201, .inl (upd t_firstSteps_7 p1.toNatClampNeg v_4)))] H := hP
          have hD : va_D A [(t_a, .inr (3, [.ref t_lows_a, .ref t_highs_a, .ref t_ranks_a, .ref t_costs_a, .ref t_firstWanted_a, .ref t_firstSteps_a, .int t_count])), (t_lows_a, .inl (cI, 6, .inl t_lows)), (t_highs_a, .inl (cI, 6, .inl t_highs)), (t_ranks_a, .inl (cI, 6, .inl t_ranks)), (t_costs_a, .inl (cI, 201, .inl (upd t_costs_5 p1.toNatClampNeg v_9))), (t_firstWanted_a, .inl (cI, 201, .inl (upd t_firstWanted_6 p1.toNatClampNeg p2))), (t_firstSteps_a, .inl (cI, 201, .inl (upd t_firstSteps_7 p1.toNatClampNeg v_4)))] := hD
          obtain ⟨v_12, ev_12⟩ : ∃ y : Int32, y = v_4 + 1 := ⟨_, rfl⟩
          replace hv := hv v_12 ev_12
          refine lv_iinc (v := v_12) (lv' := [(5, .int v_12), (6, .int v_9), (4, .int v_2), (3, .int v_1), (0, .ref t_a), (1, .int p1), (2, .int p2)]) hx hb d_t_tryFirst_87 hl (k := 1) rfl (by rw [ev_12]; rfl) (by decide) rfl (fun ls hl => ?_)
          refine lv_goto (tgt := 33) hx hb d_t_tryFirst_90 (by decide) ?_
          exact ih33 v_12 (upd t_costs_5 p1.toNatClampNeg v_9) (upd t_firstWanted_6 p1.toNatClampNeg p2) (upd t_firstSteps_7 p1.toNatClampNeg v_4) hv _ _ (hP.sub [0, 1, 2, 3, 4, 5, 6] rfl) (hD.sub [0, 1, 2, 3, 4, 5, 6] (by decide) rfl) hS ls (lv_sub hl [0, 2, 3, 4, 5, 6] rfl)
  exact loop33 n33 v_3 t_costs t_firstWanted t_firstSteps hv _ _ hP hD hS ls hl
set_option maxHeartbeats 4000000 in
set_option maxRecDepth 100000 in
theorem c_t_fill (l : Launch) (D : va_G) (cI cJ cZ : ClassId) (t_a t_lows_a t_highs_a t_ranks_a t_costs_a t_firstWanted_a t_firstSteps_a : Nat) (sz : Nat) (t_lows : Nat → Int32) (t_highs : Nat → Int32) (t_ranks : Nat → Int32) (t_costs : Nat → Int32) (t_firstWanted : Nat → Int32) (t_firstSteps : Nat → Int32) (t_count : Int32) {post : (Nat → Int32) → (Nat → Int32) → (Nat → Int32) → Prop} (hlt : l.stackTraces = false) (hv : vc_t_fill t_lows t_highs t_ranks t_costs t_firstWanted t_firstSteps t_count post) :
    kt_Mv l y_t_fill (.code y_t_fill cc_t_fill 3 none) rm_t_fill D cI cJ cZ [(t_a, .inr (3, [.ref t_lows_a, .ref t_highs_a, .ref t_ranks_a, .ref t_costs_a, .ref t_firstWanted_a, .ref t_firstSteps_a, .int t_count])), (t_lows_a, .inl (cI, 6, .inl t_lows)), (t_highs_a, .inl (cI, 6, .inl t_highs)), (t_ranks_a, .inl (cI, 6, .inl t_ranks)), (t_costs_a, .inl (cI, 201, .inl t_costs)), (t_firstWanted_a, .inl (cI, 201, .inl t_firstWanted)), (t_firstSteps_a, .inl (cI, 201, .inl t_firstSteps))] sz [.ref t_a] (fun (u : (Nat → Int32) × (Nat → Int32) × (Nat → Int32)) => post (u.1) (u.2.1) (u.2.2)) (fun (u : (Nat → Int32) × (Nat → Int32) × (Nat → Int32)) => [(t_a, .inr (3, [.ref t_lows_a, .ref t_highs_a, .ref t_ranks_a, .ref t_costs_a, .ref t_firstWanted_a, .ref t_firstSteps_a, .int t_count])), (t_lows_a, .inl (cI, 6, .inl t_lows)), (t_highs_a, .inl (cI, 6, .inl t_highs)), (t_ranks_a, .inl (cI, 6, .inl t_ranks)), (t_costs_a, .inl (cI, 201, .inl (u.1))), (t_firstWanted_a, .inl (cI, 201, .inl (u.2.1))), (t_firstSteps_a, .inl (cI, 201, .inl (u.2.2)))]) 0 0 := by
  refine kt_ofM (cc := cc_t_fill) (maxL := 3) (ret := none) (Qc := fun A => kt_Qv D A (fun (u : (Nat → Int32) × (Nat → Int32) × (Nat → Int32)) => post (u.1) (u.2.1) (u.2.2)) (fun (u : (Nat → Int32) × (Nat → Int32) × (Nat → Int32)) => [(t_a, .inr (3, [.ref t_lows_a, .ref t_highs_a, .ref t_ranks_a, .ref t_costs_a, .ref t_firstWanted_a, .ref t_firstSteps_a, .int t_count])), (t_lows_a, .inl (cI, 6, .inl t_lows)), (t_highs_a, .inl (cI, 6, .inl t_highs)), (t_ranks_a, .inl (cI, 6, .inl t_ranks)), (t_costs_a, .inl (cI, 201, .inl (u.1))), (t_firstWanted_a, .inl (cI, 201, .inl (u.2.1))), (t_firstSteps_a, .inl (cI, 201, .inl (u.2.2)))])) (by decide) (by decide) ?_
  intro p e s m args below meth c A Q hI hP hD hS hQ ls hl
  obtain ⟨hx, hb, hr, hG, hown, hlocks, hname, hml, hC, hZ, hA⟩ := hI
  have hown : s.vm.findClass "CutShears$LossTable" = some m.cls := hown
  have hK := hC.1
  have hl : lv_has ls 3 [(0, .ref t_a)] := hl
  unfold vc_t_fill at hv
  refine lv_iconst (v := 0) hx hb d_t_fill_0 (by decide) ?_
  refine lv_istore_n (lv' := [(1, .int 0), (0, .ref t_a)]) hx hb d_t_fill_1 rfl hl (by decide) rfl (fun ls hl => ?_)
  obtain ⟨n2, hv⟩ := hv
  have loop2 : ∀ (n2 : Nat) (v_1 : Int32) (t_costs_2 : Nat → Int32) (t_firstWanted_3 : Nat → Int32) (t_firstSteps_4 : Nat → Int32), vc_t_fill_L2 t_lows t_highs t_ranks t_count post n2 v_1 t_costs_2 t_firstWanted_3 t_firstSteps_4 → ∀ (H : Heap) (locs : List Loc), va_P D vwCl [(t_a, .inr (3, [.ref t_lows_a, .ref t_highs_a, .ref t_ranks_a, .ref t_costs_a, .ref t_firstWanted_a, .ref t_firstSteps_a, .int t_count])), (t_lows_a, .inl (cI, 6, .inl t_lows)), (t_highs_a, .inl (cI, 6, .inl t_highs)), (t_ranks_a, .inl (cI, 6, .inl t_ranks)), (t_costs_a, .inl (cI, 201, .inl t_costs_2)), (t_firstWanted_a, .inl (cI, 201, .inl t_firstWanted_3)), (t_firstSteps_a, .inl (cI, 201, .inl t_firstSteps_4))] H → va_D A [(t_a, .inr (3, [.ref t_lows_a, .ref t_highs_a, .ref t_ranks_a, .ref t_costs_a, .ref t_firstWanted_a, .ref t_firstSteps_a, .int t_count])), (t_lows_a, .inl (cI, 6, .inl t_lows)), (t_highs_a, .inl (cI, 6, .inl t_highs)), (t_ranks_a, .inl (cI, 6, .inl t_ranks)), (t_costs_a, .inl (cI, 201, .inl t_costs_2)), (t_firstWanted_a, .inl (cI, 201, .inl t_firstWanted_3)), (t_firstSteps_a, .inl (cI, 201, .inl t_firstSteps_4))] → va_S A s.heap H locs → ∀ ls, lv_has ls 3 [(1, .int v_1), (0, .ref t_a)] → W p l e rm_t_fill s m args below meth c H locs 0 0 Q (F0 m 2 ls []) := by
    intro n2
    induction n2 with
    | zero =>
      intro v_1 t_costs_2 t_firstWanted_3 t_firstSteps_4 hv
      unfold vc_t_fill_L2 at hv
      exact hv.elim
    | succ n2 ih2 =>
      intro v_1 t_costs_2 t_firstWanted_3 t_firstSteps_4 hv H locs hP hD hS ls hl
      unfold vc_t_fill_L2 at hv
      refine lv_iload_n hx hb d_t_fill_2 rfl (lv_at hl 0 rfl) ?_
      refine lv_sipush (v := 200) hx hb d_t_fill_3 (by decide) ?_
      refine lv_icmp_gt (tgt := 61) hx hb d_t_fill_6 (by decide) (fun c_5 => ?_) (fun c_5 => ?_)
      · replace hv := hv.1 c_5
        exact kt_vret hQ hx hb hr hlocks (t_costs_2, t_firstWanted_3, t_firstSteps_4) hv (hP.sub [0, 1, 2, 3, 4, 5, 6] rfl) (hD.sub [0, 1, 2, 3, 4, 5, 6] (by decide) rfl) hS (Nat.le_of_ble_eq_true rfl) (Nat.le_of_ble_eq_true rfl) d_t_fill_61
      · replace hv := hv.2 c_5
        refine lv_aload_n hx hb d_t_fill_9 rfl (lv_at hl 1 rfl) ?_
        refine va_get (D := D) (ci := 3) (v := .ref t_costs_a) (C := "CutShears$LossTable") (T := T_t) (N := 7) hx hb hG hi_t hown hK hP 0 rfl rfl 3 (by decide) (hG _ mw_63) (fun _ h9 => h9) rfl d_t_fill_10 ?_
        refine lv_iload_n hx hb d_t_fill_13 rfl (lv_at hl 0 rfl) ?_
        refine lv_iload_n hx hb d_t_fill_14 rfl (lv_at hl 0 rfl) ?_
        refine lv_ldc (v := 1048576) hx hb hown (hG _ mw_312) d_t_fill_15 ?_
        refine lv_imul hx hb d_t_fill_17 ?_
        refine lv_topi (fun v_6 ev_6 => ?_)
        replace hv := hv v_6 ev_6
        obtain ⟨hin, hv⟩ := hv
        refine va_iast hx hb hK hP hD hS 4 0 rfl rfl hin d_t_fill_18 (fun H locs hP hD hS => ?_)
        have hP : va_P D vwCl [(t_a, .inr (3, [.ref t_lows_a, .ref t_highs_a, .ref t_ranks_a, .ref t_costs_a, .ref t_firstWanted_a, .ref t_firstSteps_a, .int t_count])), (t_lows_a, .inl (cI, 6, .inl t_lows)), (t_highs_a, .inl (cI, 6, .inl t_highs)), (t_ranks_a, .inl (cI, 6, .inl t_ranks)), (t_costs_a, .inl (cI, 201, .inl (upd t_costs_2 v_1.toNatClampNeg v_6))), (t_firstWanted_a, .inl (cI, 201, .inl t_firstWanted_3)), (t_firstSteps_a, .inl (cI, 201, .inl t_firstSteps_4))] H := hP
        have hD : va_D A [(t_a, .inr (3, [.ref t_lows_a, .ref t_highs_a, .ref t_ranks_a, .ref t_costs_a, .ref t_firstWanted_a, .ref t_firstSteps_a, .int t_count])), (t_lows_a, .inl (cI, 6, .inl t_lows)), (t_highs_a, .inl (cI, 6, .inl t_highs)), (t_ranks_a, .inl (cI, 6, .inl t_ranks)), (t_costs_a, .inl (cI, 201, .inl (upd t_costs_2 v_1.toNatClampNeg v_6))), (t_firstWanted_a, .inl (cI, 201, .inl t_firstWanted_3)), (t_firstSteps_a, .inl (cI, 201, .inl t_firstSteps_4))] := hD
        refine lv_aload_n hx hb d_t_fill_19 rfl (lv_at hl 1 rfl) ?_
        refine va_get (D := D) (ci := 3) (v := .ref t_firstWanted_a) (C := "CutShears$LossTable") (T := T_t) (N := 7) hx hb hG hi_t hown hK hP 0 rfl rfl 4 (by decide) (hG _ mw_64) (fun _ h9 => h9) rfl d_t_fill_20 ?_
        refine lv_iload_n hx hb d_t_fill_23 rfl (lv_at hl 0 rfl) ?_
        refine lv_iconst (v := (-1)) hx hb d_t_fill_24 (by decide) ?_
        obtain ⟨hin, hv⟩ := hv
        refine va_iast hx hb hK hP hD hS 5 0 rfl rfl hin d_t_fill_25 (fun H locs hP hD hS => ?_)
        have hP : va_P D vwCl [(t_a, .inr (3, [.ref t_lows_a, .ref t_highs_a, .ref t_ranks_a, .ref t_costs_a, .ref t_firstWanted_a, .ref t_firstSteps_a, .int t_count])), (t_lows_a, .inl (cI, 6, .inl t_lows)), (t_highs_a, .inl (cI, 6, .inl t_highs)), (t_ranks_a, .inl (cI, 6, .inl t_ranks)), (t_costs_a, .inl (cI, 201, .inl (upd t_costs_2 v_1.toNatClampNeg v_6))), (t_firstWanted_a, .inl (cI, 201, .inl (upd t_firstWanted_3 v_1.toNatClampNeg (-1)))), (t_firstSteps_a, .inl (cI, 201, .inl t_firstSteps_4))] H := hP
        have hD : va_D A [(t_a, .inr (3, [.ref t_lows_a, .ref t_highs_a, .ref t_ranks_a, .ref t_costs_a, .ref t_firstWanted_a, .ref t_firstSteps_a, .int t_count])), (t_lows_a, .inl (cI, 6, .inl t_lows)), (t_highs_a, .inl (cI, 6, .inl t_highs)), (t_ranks_a, .inl (cI, 6, .inl t_ranks)), (t_costs_a, .inl (cI, 201, .inl (upd t_costs_2 v_1.toNatClampNeg v_6))), (t_firstWanted_a, .inl (cI, 201, .inl (upd t_firstWanted_3 v_1.toNatClampNeg (-1)))), (t_firstSteps_a, .inl (cI, 201, .inl t_firstSteps_4))] := hD
        refine lv_aload_n hx hb d_t_fill_26 rfl (lv_at hl 1 rfl) ?_
        refine va_get (D := D) (ci := 3) (v := .ref t_firstSteps_a) (C := "CutShears$LossTable") (T := T_t) (N := 7) hx hb hG hi_t hown hK hP 0 rfl rfl 5 (by decide) (hG _ mw_66) (fun _ h9 => h9) rfl d_t_fill_27 ?_
        refine lv_iload_n hx hb d_t_fill_30 rfl (lv_at hl 0 rfl) ?_
        refine lv_iconst (v := 0) hx hb d_t_fill_31 (by decide) ?_
        obtain ⟨hin, hv⟩ := hv
        refine va_iast hx hb hK hP hD hS 6 0 rfl rfl hin d_t_fill_32 (fun H locs hP hD hS => ?_)
        have hP : va_P D vwCl [(t_a, .inr (3, [.ref t_lows_a, .ref t_highs_a, .ref t_ranks_a, .ref t_costs_a, .ref t_firstWanted_a, .ref t_firstSteps_a, .int t_count])), (t_lows_a, .inl (cI, 6, .inl t_lows)), (t_highs_a, .inl (cI, 6, .inl t_highs)), (t_ranks_a, .inl (cI, 6, .inl t_ranks)), (t_costs_a, .inl (cI, 201, .inl (upd t_costs_2 v_1.toNatClampNeg v_6))), (t_firstWanted_a, .inl (cI, 201, .inl (upd t_firstWanted_3 v_1.toNatClampNeg (-1)))), (t_firstSteps_a, .inl (cI, 201, .inl (upd t_firstSteps_4 v_1.toNatClampNeg 0)))] H := hP
        have hD : va_D A [(t_a, .inr (3, [.ref t_lows_a, .ref t_highs_a, .ref t_ranks_a, .ref t_costs_a, .ref t_firstWanted_a, .ref t_firstSteps_a, .int t_count])), (t_lows_a, .inl (cI, 6, .inl t_lows)), (t_highs_a, .inl (cI, 6, .inl t_highs)), (t_ranks_a, .inl (cI, 6, .inl t_ranks)), (t_costs_a, .inl (cI, 201, .inl (upd t_costs_2 v_1.toNatClampNeg v_6))), (t_firstWanted_a, .inl (cI, 201, .inl (upd t_firstWanted_3 v_1.toNatClampNeg (-1)))), (t_firstSteps_a, .inl (cI, 201, .inl (upd t_firstSteps_4 v_1.toNatClampNeg 0)))] := hD
        refine lv_iconst (v := 0) hx hb d_t_fill_33 (by decide) ?_
        refine lv_istore_n (lv' := [(2, .int 0), (1, .int v_1), (0, .ref t_a)]) hx hb d_t_fill_34 rfl hl (by decide) rfl (fun ls hl => ?_)
        obtain ⟨n35, hv⟩ := hv
        have loop35 : ∀ (n35 : Nat) (v_7 : Int32) (t_costs_8 : Nat → Int32) (t_firstWanted_9 : Nat → Int32) (t_firstSteps_10 : Nat → Int32), vc_t_fill_L35 t_lows t_highs t_ranks t_count v_1 (fun (v_1k : Int32) (t_costs_2k : Nat → Int32) (t_firstWanted_3k : Nat → Int32) (t_firstSteps_4k : Nat → Int32) => vc_t_fill_L2 t_lows t_highs t_ranks t_count post n2 v_1k t_costs_2k t_firstWanted_3k t_firstSteps_4k) n35 v_7 t_costs_8 t_firstWanted_9 t_firstSteps_10 → ∀ (H : Heap) (locs : List Loc), va_P D vwCl [(t_a, .inr (3, [.ref t_lows_a, .ref t_highs_a, .ref t_ranks_a, .ref t_costs_a, .ref t_firstWanted_a, .ref t_firstSteps_a, .int t_count])), (t_lows_a, .inl (cI, 6, .inl t_lows)), (t_highs_a, .inl (cI, 6, .inl t_highs)), (t_ranks_a, .inl (cI, 6, .inl t_ranks)), (t_costs_a, .inl (cI, 201, .inl t_costs_8)), (t_firstWanted_a, .inl (cI, 201, .inl t_firstWanted_9)), (t_firstSteps_a, .inl (cI, 201, .inl t_firstSteps_10))] H → va_D A [(t_a, .inr (3, [.ref t_lows_a, .ref t_highs_a, .ref t_ranks_a, .ref t_costs_a, .ref t_firstWanted_a, .ref t_firstSteps_a, .int t_count])), (t_lows_a, .inl (cI, 6, .inl t_lows)), (t_highs_a, .inl (cI, 6, .inl t_highs)), (t_ranks_a, .inl (cI, 6, .inl t_ranks)), (t_costs_a, .inl (cI, 201, .inl t_costs_8)), (t_firstWanted_a, .inl (cI, 201, .inl t_firstWanted_9)), (t_firstSteps_a, .inl (cI, 201, .inl t_firstSteps_10))] → va_S A s.heap H locs → ∀ ls, lv_has ls 3 [(2, .int v_7), (1, .int v_1), (0, .ref t_a)] → W p l e rm_t_fill s m args below meth c H locs 0 0 Q (F0 m 35 ls []) := by
          intro n35
          induction n35 with
          | zero =>
            intro v_7 t_costs_8 t_firstWanted_9 t_firstSteps_10 hv
            unfold vc_t_fill_L35 at hv
            exact hv.elim
          | succ n35 ih35 =>
            intro v_7 t_costs_8 t_firstWanted_9 t_firstSteps_10 hv H locs hP hD hS ls hl
            unfold vc_t_fill_L35 at hv
            refine lv_iload_n hx hb d_t_fill_35 rfl (lv_at hl 0 rfl) ?_
            refine lv_aload_n hx hb d_t_fill_36 rfl (lv_at hl 2 rfl) ?_
            refine va_get (D := D) (ci := 3) (v := .int t_count) (C := "CutShears$LossTable") (T := T_t) (N := 7) hx hb hG hi_t hown hK hP 0 rfl rfl 6 (by decide) (hG _ mw_68) (fun _ h9 => h9) rfl d_t_fill_37 ?_
            refine lv_icmp_ge (tgt := 55) hx hb d_t_fill_40 (by decide) (fun c_11 => ?_) (fun c_11 => ?_)
            · replace hv := hv.1 c_11
              obtain ⟨v_12, ev_12⟩ : ∃ y : Int32, y = v_1 + 1 := ⟨_, rfl⟩
              replace hv := hv v_12 ev_12
              refine lv_iinc (v := v_12) (lv' := [(1, .int v_12), (2, .int v_7), (0, .ref t_a)]) hx hb d_t_fill_55 hl (k := 1) rfl (by rw [ev_12]; rfl) (by decide) rfl (fun ls hl => ?_)
              refine lv_goto (tgt := 2) hx hb d_t_fill_58 (by decide) ?_
              exact ih2 v_12 t_costs_8 t_firstWanted_9 t_firstSteps_10 hv _ _ (hP.sub [0, 1, 2, 3, 4, 5, 6] rfl) (hD.sub [0, 1, 2, 3, 4, 5, 6] (by decide) rfl) hS ls (lv_sub hl [0, 2] rfl)
            · replace hv := hv.2 c_11
              refine lv_aload_n hx hb d_t_fill_43 rfl (lv_at hl 2 rfl) ?_
              refine lv_iload_n hx hb d_t_fill_44 rfl (lv_at hl 1 rfl) ?_
              refine lv_iload_n hx hb d_t_fill_45 rfl (lv_at hl 0 rfl) ?_
              refine kt_callv (wc := [(t_a, .inr (3, [.ref t_lows_a, .ref t_highs_a, .ref t_ranks_a, .ref t_costs_a, .ref t_firstWanted_a, .ref t_firstSteps_a, .int t_count])), (t_lows_a, .inl (cI, 6, .inl t_lows)), (t_highs_a, .inl (cI, 6, .inl t_highs)), (t_ranks_a, .inl (cI, 6, .inl t_ranks)), (t_costs_a, .inl (cI, 201, .inl t_costs_8)), (t_firstWanted_a, .inl (cI, 201, .inl t_firstWanted_9)), (t_firstSteps_a, .inl (cI, 201, .inl t_firstSteps_10))]) (wr := []) hA hP hD hS [0, 1, 2, 3, 4, 5, 6] [] rfl rfl (by decide) (by decide) (va_runV (As := [.int v_1, .int v_7]) (rest := []) ⟨hx, hb, hml, hown, hG⟩ (c_t_tryFirst l D cI cJ cZ t_a t_lows_a t_highs_a t_ranks_a t_costs_a t_firstWanted_a t_firstSteps_a H.size t_lows t_highs t_ranks t_costs_8 t_firstWanted_9 t_firstSteps_10 t_count v_1 v_7 hlt hv) ⟨callB_of 2 hG (kt_g0 mw_316) rfl rfl rfl (hG _ mw_33) (hG _ mw_313) (by decide +kernel) ⟨Nat.le_of_ble_eq_true rfl, Nat.le_of_ble_eq_true rfl⟩, (hG _ mw_315), (hG _ mw_3)⟩ (kt_preV hC hZ hA hP hD hS [0, 1, 2, 3, 4, 5, 6] (by decide) rfl (ci := 3) (k0 := 0) rfl rfl) rfl rfl hl.1 rfl (lv_room (Nat.le_of_ble_eq_true rfl)) d_t_fill_46 ⟨Nat.le_of_ble_eq_true rfl, Nat.le_of_ble_eq_true rfl⟩) (fun u H locs hv hP hD hS => ?_)
              obtain ⟨t_costs_13, t_firstWanted_14, t_firstSteps_15⟩ := u
              try dsimp only at hv
              have hP : va_P D vwCl [(t_a, .inr (3, [.ref t_lows_a, .ref t_highs_a, .ref t_ranks_a, .ref t_costs_a, .ref t_firstWanted_a, .ref t_firstSteps_a, .int t_count])), (t_lows_a, .inl (cI, 6, .inl t_lows)), (t_highs_a, .inl (cI, 6, .inl t_highs)), (t_ranks_a, .inl (cI, 6, .inl t_ranks)), (t_costs_a, .inl (cI, 201, .inl t_costs_13)), (t_firstWanted_a, .inl (cI, 201, .inl t_firstWanted_14)), (t_firstSteps_a, .inl (cI, 201, .inl t_firstSteps_15))] H := hP
              have hD : va_D A [(t_a, .inr (3, [.ref t_lows_a, .ref t_highs_a, .ref t_ranks_a, .ref t_costs_a, .ref t_firstWanted_a, .ref t_firstSteps_a, .int t_count])), (t_lows_a, .inl (cI, 6, .inl t_lows)), (t_highs_a, .inl (cI, 6, .inl t_highs)), (t_ranks_a, .inl (cI, 6, .inl t_ranks)), (t_costs_a, .inl (cI, 201, .inl t_costs_13)), (t_firstWanted_a, .inl (cI, 201, .inl t_firstWanted_14)), (t_firstSteps_a, .inl (cI, 201, .inl t_firstSteps_15))] := hD
              obtain ⟨v_16, ev_16⟩ : ∃ y : Int32, y = v_7 + 1 := ⟨_, rfl⟩
              replace hv := hv v_16 ev_16
              refine lv_iinc (v := v_16) (lv' := [(2, .int v_16), (1, .int v_1), (0, .ref t_a)]) hx hb d_t_fill_49 hl (k := 0) rfl (by rw [ev_16]; rfl) (by decide) rfl (fun ls hl => ?_)
              refine lv_goto (tgt := 35) hx hb d_t_fill_52 (by decide) ?_
              exact ih35 v_16 t_costs_13 t_firstWanted_14 t_firstSteps_15 hv _ _ (hP.sub [0, 1, 2, 3, 4, 5, 6] rfl) (hD.sub [0, 1, 2, 3, 4, 5, 6] (by decide) rfl) hS ls (lv_sub hl [0, 1, 2] rfl)
        exact loop35 n35 0 (upd t_costs_2 v_1.toNatClampNeg v_6) (upd t_firstWanted_3 v_1.toNatClampNeg (-1)) (upd t_firstSteps_4 v_1.toNatClampNeg 0) hv _ _ hP hD hS ls hl
  exact loop2 n2 0 t_costs t_firstWanted t_firstSteps hv _ _ hP hD hS ls hl
set_option maxHeartbeats 4000000 in
set_option maxRecDepth 100000 in
theorem c_t_add (l : Launch) (D : va_G) (cI cJ cZ : ClassId) (t_a t_lows_a t_highs_a t_ranks_a t_costs_a t_firstWanted_a t_firstSteps_a : Nat) (sz : Nat) (t_lows : Nat → Int32) (t_highs : Nat → Int32) (t_ranks : Nat → Int32) (t_costs : Nat → Int32) (t_firstWanted : Nat → Int32) (t_firstSteps : Nat → Int32) (t_count : Int32) (p1 : Int32) (p2 : Int32) (p3 : Int32) {post : Int32 → Int32 → (Nat → Int32) → (Nat → Int32) → (Nat → Int32) → (Nat → Int32) → (Nat → Int32) → (Nat → Int32) → Prop} {postX : String → Prop} (hlt : l.stackTraces = false) (hv : vc_t_add t_lows t_highs t_ranks t_costs t_firstWanted t_firstSteps t_count p1 p2 p3 post postX) :
    kt_Xi l y_t_add (.code y_t_add cc_t_add 4 (some .int)) rm_t_add D cI cJ cZ [(t_a, .inr (3, [.ref t_lows_a, .ref t_highs_a, .ref t_ranks_a, .ref t_costs_a, .ref t_firstWanted_a, .ref t_firstSteps_a, .int t_count])), (t_lows_a, .inl (cI, 6, .inl t_lows)), (t_highs_a, .inl (cI, 6, .inl t_highs)), (t_ranks_a, .inl (cI, 6, .inl t_ranks)), (t_costs_a, .inl (cI, 201, .inl t_costs)), (t_firstWanted_a, .inl (cI, 201, .inl t_firstWanted)), (t_firstSteps_a, .inl (cI, 201, .inl t_firstSteps))] sz [.ref t_a, .int p1, .int p2, .int p3] (fun (r : Int32) (u : Int32 × (Nat → Int32) × (Nat → Int32) × (Nat → Int32) × (Nat → Int32) × (Nat → Int32) × (Nat → Int32)) => post r (u.1) (u.2.1) (u.2.2.1) (u.2.2.2.1) (u.2.2.2.2.1) (u.2.2.2.2.2.1) (u.2.2.2.2.2.2)) (fun (u : Int32 × (Nat → Int32) × (Nat → Int32) × (Nat → Int32) × (Nat → Int32) × (Nat → Int32) × (Nat → Int32)) => [(t_a, .inr (3, [.ref t_lows_a, .ref t_highs_a, .ref t_ranks_a, .ref t_costs_a, .ref t_firstWanted_a, .ref t_firstSteps_a, .int (u.1)])), (t_lows_a, .inl (cI, 6, .inl (u.2.1))), (t_highs_a, .inl (cI, 6, .inl (u.2.2.1))), (t_ranks_a, .inl (cI, 6, .inl (u.2.2.2.1))), (t_costs_a, .inl (cI, 201, .inl (u.2.2.2.2.1))), (t_firstWanted_a, .inl (cI, 201, .inl (u.2.2.2.2.2.1))), (t_firstSteps_a, .inl (cI, 201, .inl (u.2.2.2.2.2.2)))]) postX 1 6 := by
  refine kt_ofX (cc := cc_t_add) (maxL := 4) (ret := (some .int)) (Qc := fun A => kt_Qi D A (fun (r : Int32) (u : Int32 × (Nat → Int32) × (Nat → Int32) × (Nat → Int32) × (Nat → Int32) × (Nat → Int32) × (Nat → Int32)) => post r (u.1) (u.2.1) (u.2.2.1) (u.2.2.2.1) (u.2.2.2.2.1) (u.2.2.2.2.2.1) (u.2.2.2.2.2.2)) (fun (u : Int32 × (Nat → Int32) × (Nat → Int32) × (Nat → Int32) × (Nat → Int32) × (Nat → Int32) × (Nat → Int32)) => [(t_a, .inr (3, [.ref t_lows_a, .ref t_highs_a, .ref t_ranks_a, .ref t_costs_a, .ref t_firstWanted_a, .ref t_firstSteps_a, .int (u.1)])), (t_lows_a, .inl (cI, 6, .inl (u.2.1))), (t_highs_a, .inl (cI, 6, .inl (u.2.2.1))), (t_ranks_a, .inl (cI, 6, .inl (u.2.2.2.1))), (t_costs_a, .inl (cI, 201, .inl (u.2.2.2.2.1))), (t_firstWanted_a, .inl (cI, 201, .inl (u.2.2.2.2.2.1))), (t_firstSteps_a, .inl (cI, 201, .inl (u.2.2.2.2.2.2)))])) (XC := fun A => kt_X D A [(t_a, .inr (3, [.ref t_lows_a, .ref t_highs_a, .ref t_ranks_a, .ref t_costs_a, .ref t_firstWanted_a, .ref t_firstSteps_a, .int t_count])), (t_lows_a, .inl (cI, 6, .inl t_lows)), (t_highs_a, .inl (cI, 6, .inl t_highs)), (t_ranks_a, .inl (cI, 6, .inl t_ranks)), (t_costs_a, .inl (cI, 201, .inl t_costs)), (t_firstWanted_a, .inl (cI, 201, .inl t_firstWanted)), (t_firstSteps_a, .inl (cI, 201, .inl t_firstSteps))] postX) (by decide) (by decide) ?_
  intro p e s m args below meth c A Q hI htab hP hD hS hQ ls hl
  obtain ⟨hx, hb, hr, hG, hown, hlocks, hname, hml, hC, hZ, hA⟩ := hI
  have hown : s.vm.findClass "CutShears$LossTable" = some m.cls := hown
  have hK := hC.1
  have hl : lv_has ls 4 [(0, .ref t_a), (1, .int p1), (2, .int p2), (3, .int p3)] := hl
  unfold vc_t_add at hv
  refine lv_aload_n hx hb d_t_add_0 rfl (lv_at hl 0 rfl) ?_
  refine va_get (D := D) (ci := 3) (v := .int t_count) (C := "CutShears$LossTable") (T := T_t) (N := 7) hx hb hG hi_t hown hK hP 0 rfl rfl 6 (by decide) (hG _ mw_68) (fun _ h9 => h9) rfl d_t_add_1 ?_
  refine lv_bipush (v := 6) hx hb d_t_add_4 (by decide) ?_
  refine lv_icmp_lt (tgt := 19) hx hb d_t_add_6 (by decide) (fun c_1 => ?_) (fun c_1 => ?_)
  · replace hv := hv.1 c_1
    refine lv_aload_n hx hb d_t_add_19 rfl (lv_at hl 0 rfl) ?_
    refine va_get (D := D) (ci := 3) (v := .ref t_lows_a) (C := "CutShears$LossTable") (T := T_t) (N := 7) hx hb hG hi_t hown hK hP 0 rfl rfl 0 (by decide) (hG _ mw_60) (fun _ h9 => h9) rfl d_t_add_20 ?_
    refine lv_aload_n hx hb d_t_add_23 rfl (lv_at hl 0 rfl) ?_
    refine va_get (D := D) (ci := 3) (v := .int t_count) (C := "CutShears$LossTable") (T := T_t) (N := 7) hx hb hG hi_t hown hK hP 0 rfl rfl 6 (by decide) (hG _ mw_68) (fun _ h9 => h9) rfl d_t_add_24 ?_
    refine lv_iload_n hx hb d_t_add_27 rfl (lv_at hl 1 rfl) ?_
    obtain ⟨hin, hv⟩ := hv
    refine va_iast hx hb hK hP hD hS 1 0 rfl rfl hin d_t_add_28 (fun H locs hP hD hS => ?_)
    have hP : va_P D vwCl [(t_a, .inr (3, [.ref t_lows_a, .ref t_highs_a, .ref t_ranks_a, .ref t_costs_a, .ref t_firstWanted_a, .ref t_firstSteps_a, .int t_count])), (t_lows_a, .inl (cI, 6, .inl (upd t_lows t_count.toNatClampNeg p1))), (t_highs_a, .inl (cI, 6, .inl t_highs)), (t_ranks_a, .inl (cI, 6, .inl t_ranks)), (t_costs_a, .inl (cI, 201, .inl t_costs)), (t_firstWanted_a, .inl (cI, 201, .inl t_firstWanted)), (t_firstSteps_a, .inl (cI, 201, .inl t_firstSteps))] H := hP
    have hD : va_D A [(t_a, .inr (3, [.ref t_lows_a, .ref t_highs_a, .ref t_ranks_a, .ref t_costs_a, .ref t_firstWanted_a, .ref t_firstSteps_a, .int t_count])), (t_lows_a, .inl (cI, 6, .inl (upd t_lows t_count.toNatClampNeg p1))), (t_highs_a, .inl (cI, 6, .inl t_highs)), (t_ranks_a, .inl (cI, 6, .inl t_ranks)), (t_costs_a, .inl (cI, 201, .inl t_costs)), (t_firstWanted_a, .inl (cI, 201, .inl t_firstWanted)), (t_firstSteps_a, .inl (cI, 201, .inl t_firstSteps))] := hD
    refine lv_aload_n hx hb d_t_add_29 rfl (lv_at hl 0 rfl) ?_
    refine va_get (D := D) (ci := 3) (v := .ref t_highs_a) (C := "CutShears$LossTable") (T := T_t) (N := 7) hx hb hG hi_t hown hK hP 0 rfl rfl 1 (by decide) (hG _ mw_61) (fun _ h9 => h9) rfl d_t_add_30 ?_
    refine lv_aload_n hx hb d_t_add_33 rfl (lv_at hl 0 rfl) ?_
    refine va_get (D := D) (ci := 3) (v := .int t_count) (C := "CutShears$LossTable") (T := T_t) (N := 7) hx hb hG hi_t hown hK hP 0 rfl rfl 6 (by decide) (hG _ mw_68) (fun _ h9 => h9) rfl d_t_add_34 ?_
    refine lv_iload_n hx hb d_t_add_37 rfl (lv_at hl 2 rfl) ?_
    obtain ⟨hin, hv⟩ := hv
    refine va_iast hx hb hK hP hD hS 2 0 rfl rfl hin d_t_add_38 (fun H locs hP hD hS => ?_)
    have hP : va_P D vwCl [(t_a, .inr (3, [.ref t_lows_a, .ref t_highs_a, .ref t_ranks_a, .ref t_costs_a, .ref t_firstWanted_a, .ref t_firstSteps_a, .int t_count])), (t_lows_a, .inl (cI, 6, .inl (upd t_lows t_count.toNatClampNeg p1))), (t_highs_a, .inl (cI, 6, .inl (upd t_highs t_count.toNatClampNeg p2))), (t_ranks_a, .inl (cI, 6, .inl t_ranks)), (t_costs_a, .inl (cI, 201, .inl t_costs)), (t_firstWanted_a, .inl (cI, 201, .inl t_firstWanted)), (t_firstSteps_a, .inl (cI, 201, .inl t_firstSteps))] H := hP
    have hD : va_D A [(t_a, .inr (3, [.ref t_lows_a, .ref t_highs_a, .ref t_ranks_a, .ref t_costs_a, .ref t_firstWanted_a, .ref t_firstSteps_a, .int t_count])), (t_lows_a, .inl (cI, 6, .inl (upd t_lows t_count.toNatClampNeg p1))), (t_highs_a, .inl (cI, 6, .inl (upd t_highs t_count.toNatClampNeg p2))), (t_ranks_a, .inl (cI, 6, .inl t_ranks)), (t_costs_a, .inl (cI, 201, .inl t_costs)), (t_firstWanted_a, .inl (cI, 201, .inl t_firstWanted)), (t_firstSteps_a, .inl (cI, 201, .inl t_firstSteps))] := hD
    refine lv_aload_n hx hb d_t_add_39 rfl (lv_at hl 0 rfl) ?_
    refine va_get (D := D) (ci := 3) (v := .ref t_ranks_a) (C := "CutShears$LossTable") (T := T_t) (N := 7) hx hb hG hi_t hown hK hP 0 rfl rfl 2 (by decide) (hG _ mw_62) (fun _ h9 => h9) rfl d_t_add_40 ?_
    refine lv_aload_n hx hb d_t_add_43 rfl (lv_at hl 0 rfl) ?_
    refine va_get (D := D) (ci := 3) (v := .int t_count) (C := "CutShears$LossTable") (T := T_t) (N := 7) hx hb hG hi_t hown hK hP 0 rfl rfl 6 (by decide) (hG _ mw_68) (fun _ h9 => h9) rfl d_t_add_44 ?_
    refine lv_iload_n hx hb d_t_add_47 rfl (lv_at hl 3 rfl) ?_
    obtain ⟨hin, hv⟩ := hv
    refine va_iast hx hb hK hP hD hS 3 0 rfl rfl hin d_t_add_48 (fun H locs hP hD hS => ?_)
    have hP : va_P D vwCl [(t_a, .inr (3, [.ref t_lows_a, .ref t_highs_a, .ref t_ranks_a, .ref t_costs_a, .ref t_firstWanted_a, .ref t_firstSteps_a, .int t_count])), (t_lows_a, .inl (cI, 6, .inl (upd t_lows t_count.toNatClampNeg p1))), (t_highs_a, .inl (cI, 6, .inl (upd t_highs t_count.toNatClampNeg p2))), (t_ranks_a, .inl (cI, 6, .inl (upd t_ranks t_count.toNatClampNeg p3))), (t_costs_a, .inl (cI, 201, .inl t_costs)), (t_firstWanted_a, .inl (cI, 201, .inl t_firstWanted)), (t_firstSteps_a, .inl (cI, 201, .inl t_firstSteps))] H := hP
    have hD : va_D A [(t_a, .inr (3, [.ref t_lows_a, .ref t_highs_a, .ref t_ranks_a, .ref t_costs_a, .ref t_firstWanted_a, .ref t_firstSteps_a, .int t_count])), (t_lows_a, .inl (cI, 6, .inl (upd t_lows t_count.toNatClampNeg p1))), (t_highs_a, .inl (cI, 6, .inl (upd t_highs t_count.toNatClampNeg p2))), (t_ranks_a, .inl (cI, 6, .inl (upd t_ranks t_count.toNatClampNeg p3))), (t_costs_a, .inl (cI, 201, .inl t_costs)), (t_firstWanted_a, .inl (cI, 201, .inl t_firstWanted)), (t_firstSteps_a, .inl (cI, 201, .inl t_firstSteps))] := hD
    refine lv_aload_n hx hb d_t_add_49 rfl (lv_at hl 0 rfl) ?_
    refine lv_dup hx hb d_t_add_50 rfl ?_
    refine va_get (D := D) (ci := 3) (v := .int t_count) (C := "CutShears$LossTable") (T := T_t) (N := 7) hx hb hG hi_t hown hK hP 0 rfl rfl 6 (by decide) (hG _ mw_68) (fun _ h9 => h9) rfl d_t_add_51 ?_
    refine lv_iconst (v := 1) hx hb d_t_add_54 (by decide) ?_
    refine lv_iadd hx hb d_t_add_55 ?_
    refine lv_topi (fun v_2 ev_2 => ?_)
    replace hv := hv v_2 ev_2
    refine va_put (D := D) (ci := 3) (v := .int v_2) (ty := .int) (C := "CutShears$LossTable") (T := T_t) (N := 7) hx hb hG hi_t ty_t ty_t_ok nm_t hown hK hP hD hS 0 rfl rfl 6 (by decide) (hG _ mw_68) (fun _ h9 => h9) rfl (by decide +kernel) rfl rfl (Nat.le_of_ble_eq_true rfl) d_t_add_56 (fun H locs hP hD hS => ?_)
    have hP : va_P D vwCl [(t_a, .inr (3, [.ref t_lows_a, .ref t_highs_a, .ref t_ranks_a, .ref t_costs_a, .ref t_firstWanted_a, .ref t_firstSteps_a, .int v_2])), (t_lows_a, .inl (cI, 6, .inl (upd t_lows t_count.toNatClampNeg p1))), (t_highs_a, .inl (cI, 6, .inl (upd t_highs t_count.toNatClampNeg p2))), (t_ranks_a, .inl (cI, 6, .inl (upd t_ranks t_count.toNatClampNeg p3))), (t_costs_a, .inl (cI, 201, .inl t_costs)), (t_firstWanted_a, .inl (cI, 201, .inl t_firstWanted)), (t_firstSteps_a, .inl (cI, 201, .inl t_firstSteps))] H := hP
    have hD : va_D A [(t_a, .inr (3, [.ref t_lows_a, .ref t_highs_a, .ref t_ranks_a, .ref t_costs_a, .ref t_firstWanted_a, .ref t_firstSteps_a, .int v_2])), (t_lows_a, .inl (cI, 6, .inl (upd t_lows t_count.toNatClampNeg p1))), (t_highs_a, .inl (cI, 6, .inl (upd t_highs t_count.toNatClampNeg p2))), (t_ranks_a, .inl (cI, 6, .inl (upd t_ranks t_count.toNatClampNeg p3))), (t_costs_a, .inl (cI, 201, .inl t_costs)), (t_firstWanted_a, .inl (cI, 201, .inl t_firstWanted)), (t_firstSteps_a, .inl (cI, 201, .inl t_firstSteps))] := hD
    refine lv_aload_n hx hb d_t_add_59 rfl (lv_at hl 0 rfl) ?_
    refine kt_callv (wc := [(t_a, .inr (3, [.ref t_lows_a, .ref t_highs_a, .ref t_ranks_a, .ref t_costs_a, .ref t_firstWanted_a, .ref t_firstSteps_a, .int v_2])), (t_lows_a, .inl (cI, 6, .inl (upd t_lows t_count.toNatClampNeg p1))), (t_highs_a, .inl (cI, 6, .inl (upd t_highs t_count.toNatClampNeg p2))), (t_ranks_a, .inl (cI, 6, .inl (upd t_ranks t_count.toNatClampNeg p3))), (t_costs_a, .inl (cI, 201, .inl t_costs)), (t_firstWanted_a, .inl (cI, 201, .inl t_firstWanted)), (t_firstSteps_a, .inl (cI, 201, .inl t_firstSteps))]) (wr := []) hA hP hD hS [0, 1, 2, 3, 4, 5, 6] [] rfl rfl (by decide) (by decide) (va_runV (As := []) (rest := []) ⟨hx, hb, hml, hown, hG⟩ (c_t_fill l D cI cJ cZ t_a t_lows_a t_highs_a t_ranks_a t_costs_a t_firstWanted_a t_firstSteps_a H.size (upd t_lows t_count.toNatClampNeg p1) (upd t_highs t_count.toNatClampNeg p2) (upd t_ranks t_count.toNatClampNeg p3) t_costs t_firstWanted t_firstSteps v_2 hlt hv) ⟨callB_of 0 hG (kt_g0 mw_311) rfl rfl rfl (hG _ mw_33) (hG _ mw_308) (by decide +kernel) ⟨Nat.le_of_ble_eq_true rfl, Nat.le_of_ble_eq_true rfl⟩, (hG _ mw_310), (hG _ mw_2)⟩ (kt_preV hC hZ hA hP hD hS [0, 1, 2, 3, 4, 5, 6] (by decide) rfl (ci := 3) (k0 := 0) rfl rfl) rfl rfl hl.1 rfl (lv_room (Nat.le_of_ble_eq_true rfl)) d_t_add_60 ⟨Nat.le_of_ble_eq_true rfl, Nat.le_of_ble_eq_true rfl⟩) (fun u H locs hv hP hD hS => ?_)
    obtain ⟨t_costs_3, t_firstWanted_4, t_firstSteps_5⟩ := u
    try dsimp only at hv
    have hP : va_P D vwCl [(t_a, .inr (3, [.ref t_lows_a, .ref t_highs_a, .ref t_ranks_a, .ref t_costs_a, .ref t_firstWanted_a, .ref t_firstSteps_a, .int v_2])), (t_lows_a, .inl (cI, 6, .inl (upd t_lows t_count.toNatClampNeg p1))), (t_highs_a, .inl (cI, 6, .inl (upd t_highs t_count.toNatClampNeg p2))), (t_ranks_a, .inl (cI, 6, .inl (upd t_ranks t_count.toNatClampNeg p3))), (t_costs_a, .inl (cI, 201, .inl t_costs_3)), (t_firstWanted_a, .inl (cI, 201, .inl t_firstWanted_4)), (t_firstSteps_a, .inl (cI, 201, .inl t_firstSteps_5))] H := hP
    have hD : va_D A [(t_a, .inr (3, [.ref t_lows_a, .ref t_highs_a, .ref t_ranks_a, .ref t_costs_a, .ref t_firstWanted_a, .ref t_firstSteps_a, .int v_2])), (t_lows_a, .inl (cI, 6, .inl (upd t_lows t_count.toNatClampNeg p1))), (t_highs_a, .inl (cI, 6, .inl (upd t_highs t_count.toNatClampNeg p2))), (t_ranks_a, .inl (cI, 6, .inl (upd t_ranks t_count.toNatClampNeg p3))), (t_costs_a, .inl (cI, 201, .inl t_costs_3)), (t_firstWanted_a, .inl (cI, 201, .inl t_firstWanted_4)), (t_firstSteps_a, .inl (cI, 201, .inl t_firstSteps_5))] := hD
    refine lv_aload_n hx hb d_t_add_63 rfl (lv_at hl 0 rfl) ?_
    refine va_get (D := D) (ci := 3) (v := .int v_2) (C := "CutShears$LossTable") (T := T_t) (N := 7) hx hb hG hi_t hown hK hP 0 rfl rfl 6 (by decide) (hG _ mw_68) (fun _ h9 => h9) rfl d_t_add_64 ?_
    refine lv_iconst (v := 1) hx hb d_t_add_67 (by decide) ?_
    refine lv_isub hx hb d_t_add_68 ?_
    exact kt_iretX hQ hx hb hr hlocks (v_2, (upd t_lows t_count.toNatClampNeg p1), (upd t_highs t_count.toNatClampNeg p2), (upd t_ranks t_count.toNatClampNeg p3), t_costs_3, t_firstWanted_4, t_firstSteps_5) hv (hP.sub [0, 1, 2, 3, 4, 5, 6] rfl) (hD.sub [0, 1, 2, 3, 4, 5, 6] (by decide) rfl) hS (Nat.le_of_ble_eq_true rfl) (Nat.le_of_ble_eq_true rfl) d_t_add_69
  · replace hv := hv.2 c_1
    exact kt_throw (own := "CutShears$LossTable") (cls := "java/lang/UnsupportedOperationException") (text := "there are 6 wanted lengths") (names := ["java/lang/RuntimeException", "java/lang/Exception"]) hQ hx hb hlt hown (by decide +kernel) (by decide +kernel) (hG _ mw_292) (hG _ mw_42) (hZ.2.2 _ (kt_Tm 0 rfl)) (kt_at hG hC ha_0) (kt_og mw_292 mw_42 ha_0) hZ htab hlocks (by rw [hml]; exact hl.1) hv (hP.sub [0, 1, 2, 3, 4, 5, 6] rfl) (hD.sub [0, 1, 2, 3, 4, 5, 6] (by decide) rfl) hS d_t_add_9 d_t_add_12 d_t_add_13 d_t_add_15 d_t_add_18 (Nat.le_of_ble_eq_true rfl) (Nat.le_of_ble_eq_true rfl) (Nat.le_of_ble_eq_true rfl) (Nat.le_of_ble_eq_true rfl) (Nat.le_of_ble_eq_true rfl) (Nat.le_of_ble_eq_true rfl)
end
