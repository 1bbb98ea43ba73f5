/-! by program: what holds at the start -/
theorem kt_ti {w : Cond} (i : Nat) (h : lw_tbl[i]? = some w) : w ∈ lw_tbl := List.mem_of_getElem? h
theorem kt_arr {args : Array Value} {s : State} {ty : FieldType} (hty : ∀ C, ty ≠ .object C) (h : (Cond.arrayClass ty).before args s = true) : ∃ cA, ArrOfT s cA ty ∧ va_RA s cA ty := by
  obtain ⟨c, k, comp, h1, h2, h3⟩ := Cond.arrayClass_spec h
  refine ⟨c, fun n z => ⟨fun k h => (by cases h), k, h2, comp, h3⟩, ?_⟩
  cases ty with
  | object C => exact absurd rfl (hty C)
  | _ => exact h1
set_option maxHeartbeats 4000000 in
set_option maxRecDepth 100000 in
theorem kt_Nall {b : Nat} {s : State} (hts : ∀ w ∈ lw_tbl, w.before #[Value.ref b] s = true) : ∀ w ∈ kt_N, va_Nw w s := by
  have h : ∀ w ∈ kt_N, w ∈ lw_tbl := by decide +kernel
  exact fun w hw => va_Nw.of (kt_N_on w hw) (hts w (h w hw))
theorem kt_txt {args : Array Value} {s : State} {own tx : String} {k : Nat} (h1 : (Cond.stringRef own k tx).before args s = true) (h2 : (Cond.exactly (.string own k) "java/lang/String").before args s = true) : ∃ sa, vk_R own k tx sa s := by
  obtain ⟨a, c, cA, kA, q1, q2, q3, q4, q5, q6, -⟩ := Cond.exactly_spec (args := args) (first := s) (o := none) (s := s) (idx := []) (t := .string own k) (cls := "java/lang/String") h2
  exact ⟨a, vk_R.of h1 q1⟩
set_option maxHeartbeats 4000000 in
set_option maxRecDepth 100000 in
theorem kt_Zall {b : Nat} {s : State} (hts : ∀ w ∈ lw_tbl, w.before #[Value.ref b] s = true) (hgv : (Jvm.Cond.and given_1 narrow_1).before #[Value.ref b] s = true) : kt_Z (fun q => s.heap.size ≤ q) s s.heap := by
  have hs := flat_of_before _ hgv
  have hA : ∀ a : Nat, a < s.heap.size → ¬ s.heap.size ≤ a := fun a h => Nat.not_le.mpr h
  have hini : (Cond.initialized Bundle.tN).before #[Value.ref b] s = true := (hts (Cond.initialized "java/lang/Throwable") (kt_ti 38 (by decide +kernel)))
  refine ⟨⟨vx_Zqof (hts (Cond.laysStatic "java/lang/Throwable" "UNASSIGNED_STACK" "[Ljava/lang/StackTraceElement;") (kt_ti 246 (by decide +kernel))) hini (hs _ (by decide +kernel)) hA, ?_⟩, vx_Zqof (hts (Cond.laysStatic "java/lang/Throwable" "SUPPRESSED_SENTINEL" "Ljava/util/List;") (kt_ti 248 (by decide +kernel))) hini (hs _ (by decide +kernel)) hA, ?_⟩
  · exact List.forall_mem_cons.mpr ⟨va_Nc.of (C := "java/lang/IllegalArgumentException") (T := "java/lang/UnsupportedOperationException") (hs _ (by decide +kernel)), List.forall_mem_cons.mpr ⟨va_Nc.of (C := "java/lang/IllegalArgumentException") (T := "java/lang/IndexOutOfBoundsException") (hs _ (by decide +kernel)), List.forall_mem_cons.mpr ⟨va_Nc.of (C := "java/lang/IllegalArgumentException") (T := "java/lang/IllegalStateException") (hs _ (by decide +kernel)), List.forall_mem_cons.mpr ⟨va_Nc.of (C := "java/lang/UnsupportedOperationException") (T := "java/lang/IllegalArgumentException") (hs _ (by decide +kernel)), List.forall_mem_cons.mpr ⟨va_Nc.of (C := "java/lang/UnsupportedOperationException") (T := "java/lang/IndexOutOfBoundsException") (hs _ (by decide +kernel)), List.forall_mem_cons.mpr ⟨va_Nc.of (C := "java/lang/UnsupportedOperationException") (T := "java/lang/IllegalStateException") (hs _ (by decide +kernel)), List.forall_mem_cons.mpr ⟨va_Nc.of (C := "java/lang/IndexOutOfBoundsException") (T := "java/lang/IllegalArgumentException") (hs _ (by decide +kernel)), List.forall_mem_cons.mpr ⟨va_Nc.of (C := "java/lang/IndexOutOfBoundsException") (T := "java/lang/UnsupportedOperationException") (hs _ (by decide +kernel)), List.forall_mem_cons.mpr ⟨va_Nc.of (C := "java/lang/IndexOutOfBoundsException") (T := "java/lang/IllegalStateException") (hs _ (by decide +kernel)), List.forall_mem_cons.mpr ⟨va_Nc.of (C := "java/lang/IllegalStateException") (T := "java/lang/IllegalArgumentException") (hs _ (by decide +kernel)), List.forall_mem_cons.mpr ⟨va_Nc.of (C := "java/lang/IllegalStateException") (T := "java/lang/UnsupportedOperationException") (hs _ (by decide +kernel)), List.forall_mem_cons.mpr ⟨va_Nc.of (C := "java/lang/IllegalStateException") (T := "java/lang/IndexOutOfBoundsException") (hs _ (by decide +kernel)), fun _ h => absurd h List.not_mem_nil⟩⟩⟩⟩⟩⟩⟩⟩⟩⟩⟩⟩
  · exact List.forall_mem_cons.mpr ⟨kt_txt (hts (Cond.stringRef "CutShears$LossTable" 36 "there are 6 wanted lengths") (kt_ti 301 (by decide +kernel))) (hs (Cond.exactly (.string "CutShears$LossTable" 36) "java/lang/String") (by decide +kernel)), List.forall_mem_cons.mpr ⟨kt_txt (hts (Cond.stringRef "CutShears$BarPlan" 61 "the cuts would not fit any more") (kt_ti 362 (by decide +kernel))) (hs (Cond.exactly (.string "CutShears$BarPlan" 61) "java/lang/String") (by decide +kernel)), List.forall_mem_cons.mpr ⟨kt_txt (hts (Cond.stringRef "CutShears$BarPlan" 48 "the head can not change behind a cut") (kt_ti 356 (by decide +kernel))) (hs (Cond.exactly (.string "CutShears$BarPlan" 48) "java/lang/String") (by decide +kernel)), List.forall_mem_cons.mpr ⟨kt_txt (hts (Cond.stringRef "CutShears" 151 "a number is out of its range") (kt_ti 261 (by decide +kernel))) (hs (Cond.exactly (.string "CutShears" 151) "java/lang/String") (by decide +kernel)), List.forall_mem_cons.mpr ⟨kt_txt (hts (Cond.stringRef "CutShears" 147 "no such number") (kt_ti 394 (by decide +kernel))) (hs (Cond.exactly (.string "CutShears" 147) "java/lang/String") (by decide +kernel)), List.forall_mem_cons.mpr ⟨kt_txt (hts (Cond.stringRef "CutShears" 93 "300 pieces were cut") (kt_ti 438 (by decide +kernel))) (hs (Cond.exactly (.string "CutShears" 93) "java/lang/String") (by decide +kernel)), List.forall_mem_cons.mpr ⟨kt_txt (hts (Cond.stringRef "CutShears" 85 "no piece is left to cut") (kt_ti 430 (by decide +kernel))) (hs (Cond.exactly (.string "CutShears" 85) "java/lang/String") (by decide +kernel)), List.forall_mem_cons.mpr ⟨kt_txt (hts (Cond.stringRef "CutShears" 109 "the bed is not empty") (kt_ti 460 (by decide +kernel))) (hs (Cond.exactly (.string "CutShears" 109) "java/lang/String") (by decide +kernel)), List.forall_mem_cons.mpr ⟨kt_txt (hts (Cond.stringRef "CutShears" 124 "there are not so many on the bed") (kt_ti 488 (by decide +kernel))) (hs (Cond.exactly (.string "CutShears" 124) "java/lang/String") (by decide +kernel)), List.forall_mem_cons.mpr ⟨kt_txt (hts (Cond.stringRef "CutShears" 141 "no such cut at the side") (kt_ti 537 (by decide +kernel))) (hs (Cond.exactly (.string "CutShears" 141) "java/lang/String") (by decide +kernel)), fun _ h => absurd h List.not_mem_nil⟩⟩⟩⟩⟩⟩⟩⟩⟩⟩
set_option maxHeartbeats 4000000 in
set_option maxRecDepth 100000 in
theorem kt_start {b : Nat} {s : State} (hts : ∀ w ∈ lw_tbl, w.before #[Value.ref b] s = true) : ∃ (D : va_G) (cI cJ cZ : ClassId), kt_C D cI cJ cZ s := by
  have hG : ∀ w ∈ kt_G, w.before #[Value.ref b] s = true := fun w h => hts w (kt_G_in h)
  obtain ⟨c0, i0, hK0⟩ := u_known (C := "CutShears$BarPlan") (T := T_b) (N := 11) (n := 11) hG hi_b (hts (Cond.instantiable "CutShears$BarPlan" 11) (kt_ti 87 (by decide +kernel)))
  obtain ⟨c1, i1, hK1⟩ := u_known (C := "CutShears$CoolingBed") (T := T_c) (N := 4) (n := 4) hG hi_c (hts (Cond.instantiable "CutShears$CoolingBed" 4) (kt_ti 165 (by decide +kernel)))
  obtain ⟨c2, i2, hK2⟩ := u_known (C := "CutShears$CutBook") (T := T_k) (N := 9) (n := 9) hG hi_k (hts (Cond.instantiable "CutShears$CutBook" 9) (kt_ti 130 (by decide +kernel)))
  obtain ⟨c3, i3, hK3⟩ := u_known (C := "CutShears$LossTable") (T := T_t) (N := 7) (n := 7) hG hi_t (hts (Cond.instantiable "CutShears$LossTable" 7) (kt_ti 55 (by decide +kernel)))
  obtain ⟨c4, i4, hK4⟩ := u_known (C := "CutShears") (T := T_x) (N := 4) (n := 4) hG hi_x (hts (Cond.instantiable "CutShears" 4) (kt_ti 47 (by decide +kernel)))
  obtain ⟨c5, i5, hK5⟩ := u_known (C := "CutShearsModel") (T := T_m) (N := 27) (n := 27) hG hi_m (hts (Cond.instantiable "CutShearsModel" 27) (kt_ti 543 (by decide +kernel)))
  obtain ⟨cI, hcI⟩ := kt_arr (ty := .int) (fun _ h => by cases h) (hts (Cond.arrayClass .int) (kt_ti 85 (by decide +kernel)))
  obtain ⟨cJ, hcJ⟩ := kt_arr (ty := .long) (fun _ h => by cases h) (hts (Cond.arrayClass .long) (kt_ti 733 (by decide +kernel)))
  obtain ⟨cZ, hcZ⟩ := kt_arr (ty := .boolean) (fun _ h => by cases h) (hts (Cond.arrayClass .boolean) (kt_ti 630 (by decide +kernel)))
  refine ⟨(fun k => if k = 0 then c0 else if k = 1 then c1 else if k = 2 then c2 else if k = 3 then c3 else if k = 4 then c4 else c5, fun k => if k = 0 then i0 else if k = 1 then i1 else if k = 2 then i2 else if k = 3 then i3 else if k = 4 then i4 else i5), cI, cJ, cZ, ⟨?_, ?_⟩, kt_Nall hts⟩
  · intro k q hq
    match k, hq with
    | 0, hq => cases hq; exact hK0
    | 1, hq => cases hq; exact hK1
    | 2, hq => cases hq; exact hK2
    | 3, hq => cases hq; exact hK3
    | 4, hq => cases hq; exact hK4
    | 5, hq => cases hq; exact hK5
    | k + 6, hq => simp [vwCl] at hq
  · intro k q hq
    match k, hq with
    | 0, hq => cases hq; exact hcI
    | 1, hq => cases hq; exact hcJ
    | 2, hq => cases hq; exact hcZ
    | k + 3, hq => simp at hq
