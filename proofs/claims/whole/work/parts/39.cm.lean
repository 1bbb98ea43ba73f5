/-! by program: contracts -/
set_option maxHeartbeats 4000000 in
set_option maxRecDepth 100000 in
theorem c_m_lying (l : Launch) (D : va_G) (cI cJ cZ : ClassId) (m_a m_low_a m_high_a m_rank_a m_cutWanted_a m_cutSteps_a m_cutPlace_a m_cutBundle_a m_aside_a m_loss_a m_ranks_a m_many_a m_next_a m_steps_a : Nat) (sz : Nat) (m_thrown : Int32) (m_wanted : Int32) (m_low : Nat → Int32) (m_high : Nat → Int32) (m_rank : Nat → Int32) (m_length : Int32) (m_error : Int32) (m_head : Int32) (m_tail : Int32) (m_places : Int32) (m_longest : Int32) (m_cuts : Int32) (m_first : Int32) (m_cutWanted : Nat → Int32) (m_cutSteps : Nat → Int32) (m_cutPlace : Nat → Int32) (m_cutBundle : Nat → Int32) (m_aside : Nat → Int32) (m_bundles : Int32) (m_loss : Nat → Int32) (m_ranks : Nat → Int32) (m_many : Nat → Int32) (m_next : Nat → Int32) (m_steps : Nat → Int32) (m_foundWanted : Int32) (m_foundBegin : Int32) (m_foundSteps : Int32) (p1 : Int32) {post : Int32 → Prop} (hlt : l.stackTraces = false) (hv : vc_m_lying m_cuts m_cutPlace p1 post) :
    kt_Mi l y_m_lying (.code y_m_lying cc_m_lying 3 (some .int)) rm_m_lying D cI cJ cZ [(m_a, .inr (5, [.int m_thrown, .int m_wanted, .ref m_low_a, .ref m_high_a, .ref m_rank_a, .int m_length, .int m_error, .int m_head, .int m_tail, .int m_places, .int m_longest, .int m_cuts, .int m_first, .ref m_cutWanted_a, .ref m_cutSteps_a, .ref m_cutPlace_a, .ref m_cutBundle_a, .ref m_aside_a, .int m_bundles, .ref m_loss_a, .ref m_ranks_a, .ref m_many_a, .ref m_next_a, .ref m_steps_a, .int m_foundWanted, .int m_foundBegin, .int m_foundSteps])), (m_low_a, .inl (cI, 6, .inl m_low)), (m_high_a, .inl (cI, 6, .inl m_high)), (m_rank_a, .inl (cI, 6, .inl m_rank)), (m_cutWanted_a, .inl (cI, 300, .inl m_cutWanted)), (m_cutSteps_a, .inl (cI, 300, .inl m_cutSteps)), (m_cutPlace_a, .inl (cI, 300, .inl m_cutPlace)), (m_cutBundle_a, .inl (cI, 300, .inl m_cutBundle)), (m_aside_a, .inl (cZ, 300, .inl m_aside)), (m_loss_a, .inl (cI, 201, .inl m_loss)), (m_ranks_a, .inl (cI, 201, .inl m_ranks)), (m_many_a, .inl (cI, 201, .inl m_many)), (m_next_a, .inl (cI, 201, .inl m_next)), (m_steps_a, .inl (cI, 201, .inl m_steps))] sz [.ref m_a, .int p1] (fun (r : Int32) (_ : Unit) => post r) (fun _ : Unit => [(m_a, .inr (5, [.int m_thrown, .int m_wanted, .ref m_low_a, .ref m_high_a, .ref m_rank_a, .int m_length, .int m_error, .int m_head, .int m_tail, .int m_places, .int m_longest, .int m_cuts, .int m_first, .ref m_cutWanted_a, .ref m_cutSteps_a, .ref m_cutPlace_a, .ref m_cutBundle_a, .ref m_aside_a, .int m_bundles, .ref m_loss_a, .ref m_ranks_a, .ref m_many_a, .ref m_next_a, .ref m_steps_a, .int m_foundWanted, .int m_foundBegin, .int m_foundSteps])), (m_low_a, .inl (cI, 6, .inl m_low)), (m_high_a, .inl (cI, 6, .inl m_high)), (m_rank_a, .inl (cI, 6, .inl m_rank)), (m_cutWanted_a, .inl (cI, 300, .inl m_cutWanted)), (m_cutSteps_a, .inl (cI, 300, .inl m_cutSteps)), (m_cutPlace_a, .inl (cI, 300, .inl m_cutPlace)), (m_cutBundle_a, .inl (cI, 300, .inl m_cutBundle)), (m_aside_a, .inl (cZ, 300, .inl m_aside)), (m_loss_a, .inl (cI, 201, .inl m_loss)), (m_ranks_a, .inl (cI, 201, .inl m_ranks)), (m_many_a, .inl (cI, 201, .inl m_many)), (m_next_a, .inl (cI, 201, .inl m_next)), (m_steps_a, .inl (cI, 201, .inl m_steps))]) 0 0 := by
  refine kt_ofM (cc := cc_m_lying) (maxL := 3) (ret := (some .int)) (Qc := fun A => kt_Qi D A (fun (r : Int32) (_ : Unit) => post r) (fun _ : Unit => [(m_a, .inr (5, [.int m_thrown, .int m_wanted, .ref m_low_a, .ref m_high_a, .ref m_rank_a, .int m_length, .int m_error, .int m_head, .int m_tail, .int m_places, .int m_longest, .int m_cuts, .int m_first, .ref m_cutWanted_a, .ref m_cutSteps_a, .ref m_cutPlace_a, .ref m_cutBundle_a, .ref m_aside_a, .int m_bundles, .ref m_loss_a, .ref m_ranks_a, .ref m_many_a, .ref m_next_a, .ref m_steps_a, .int m_foundWanted, .int m_foundBegin, .int m_foundSteps])), (m_low_a, .inl (cI, 6, .inl m_low)), (m_high_a, .inl (cI, 6, .inl m_high)), (m_rank_a, .inl (cI, 6, .inl m_rank)), (m_cutWanted_a, .inl (cI, 300, .inl m_cutWanted)), (m_cutSteps_a, .inl (cI, 300, .inl m_cutSteps)), (m_cutPlace_a, .inl (cI, 300, .inl m_cutPlace)), (m_cutBundle_a, .inl (cI, 300, .inl m_cutBundle)), (m_aside_a, .inl (cZ, 300, .inl m_aside)), (m_loss_a, .inl (cI, 201, .inl m_loss)), (m_ranks_a, .inl (cI, 201, .inl m_ranks)), (m_many_a, .inl (cI, 201, .inl m_many)), (m_next_a, .inl (cI, 201, .inl m_next)), (m_steps_a, .inl (cI, 201, .inl m_steps))])) (by decide) (Nat.le_of_ble_eq_true rfl) ?_
  intro p e s m args below meth c A Q hI hP hD hS hQ ls hl
  obtain ⟨hx, hb, hr, hG, hown, hlocks, hname, hml, hC, hZ, hA⟩ := hI
  have hown : s.vm.findClass "CutShearsModel" = some m.cls := hown
  have hK := hC.1
  have hl : lv_has ls 3 [(0, .ref m_a), (1, .int p1)] := hl
  unfold vc_m_lying at hv
  refine lv_iconst (v := 0) hx hb d_m_lying_0 (by decide) ?_
  refine lv_istore_n (lv' := [(2, .int 0), (0, .ref m_a), (1, .int p1)]) hx hb d_m_lying_1 rfl hl (by decide) rfl (fun ls hl => ?_)
  obtain ⟨n2, hv⟩ := hv
  have loop2 : ∀ (n2 : Nat) (v_1 : Int32), vc_m_lying_L2 m_cuts m_cutPlace p1 post n2 v_1 → ∀ (H : Heap) (locs : List Loc), va_P D vwCl [(m_a, .inr (5, [.int m_thrown, .int m_wanted, .ref m_low_a, .ref m_high_a, .ref m_rank_a, .int m_length, .int m_error, .int m_head, .int m_tail, .int m_places, .int m_longest, .int m_cuts, .int m_first, .ref m_cutWanted_a, .ref m_cutSteps_a, .ref m_cutPlace_a, .ref m_cutBundle_a, .ref m_aside_a, .int m_bundles, .ref m_loss_a, .ref m_ranks_a, .ref m_many_a, .ref m_next_a, .ref m_steps_a, .int m_foundWanted, .int m_foundBegin, .int m_foundSteps])), (m_low_a, .inl (cI, 6, .inl m_low)), (m_high_a, .inl (cI, 6, .inl m_high)), (m_rank_a, .inl (cI, 6, .inl m_rank)), (m_cutWanted_a, .inl (cI, 300, .inl m_cutWanted)), (m_cutSteps_a, .inl (cI, 300, .inl m_cutSteps)), (m_cutPlace_a, .inl (cI, 300, .inl m_cutPlace)), (m_cutBundle_a, .inl (cI, 300, .inl m_cutBundle)), (m_aside_a, .inl (cZ, 300, .inl m_aside)), (m_loss_a, .inl (cI, 201, .inl m_loss)), (m_ranks_a, .inl (cI, 201, .inl m_ranks)), (m_many_a, .inl (cI, 201, .inl m_many)), (m_next_a, .inl (cI, 201, .inl m_next)), (m_steps_a, .inl (cI, 201, .inl m_steps))] H → va_D A [(m_a, .inr (5, [.int m_thrown, .int m_wanted, .ref m_low_a, .ref m_high_a, .ref m_rank_a, .int m_length, .int m_error, .int m_head, .int m_tail, .int m_places, .int m_longest, .int m_cuts, .int m_first, .ref m_cutWanted_a, .ref m_cutSteps_a, .ref m_cutPlace_a, .ref m_cutBundle_a, .ref m_aside_a, .int m_bundles, .ref m_loss_a, .ref m_ranks_a, .ref m_many_a, .ref m_next_a, .ref m_steps_a, .int m_foundWanted, .int m_foundBegin, .int m_foundSteps])), (m_low_a, .inl (cI, 6, .inl m_low)), (m_high_a, .inl (cI, 6, .inl m_high)), (m_rank_a, .inl (cI, 6, .inl m_rank)), (m_cutWanted_a, .inl (cI, 300, .inl m_cutWanted)), (m_cutSteps_a, .inl (cI, 300, .inl m_cutSteps)), (m_cutPlace_a, .inl (cI, 300, .inl m_cutPlace)), (m_cutBundle_a, .inl (cI, 300, .inl m_cutBundle)), (m_aside_a, .inl (cZ, 300, .inl m_aside)), (m_loss_a, .inl (cI, 201, .inl m_loss)), (m_ranks_a, .inl (cI, 201, .inl m_ranks)), (m_many_a, .inl (cI, 201, .inl m_many)), (m_next_a, .inl (cI, 201, .inl m_next)), (m_steps_a, .inl (cI, 201, .inl m_steps))] → va_S A s.heap H locs → ∀ ls, lv_has ls 3 [(2, .int v_1), (0, .ref m_a), (1, .int p1)] → W p l e rm_m_lying s m args below meth c H locs 0 0 Q (F0 m 2 ls []) := by
    intro n2
    induction n2 with
    | zero =>
      intro v_1 hv
      unfold vc_m_lying_L2 at hv
      exact hv.elim
    | succ n2 ih2 =>
      intro v_1 hv H locs hP hD hS ls hl
      unfold vc_m_lying_L2 at hv
      refine lv_iload_n hx hb d_m_lying_2 rfl (lv_at hl 0 rfl) ?_
      refine lv_aload_n hx hb d_m_lying_3 rfl (lv_at hl 1 rfl) ?_
      refine va_get (D := D) (ci := 5) (v := .int m_cuts) (C := "CutShearsModel") (T := T_m) (N := 27) hx hb hG hi_m hown hK hP 0 rfl rfl 11 (by decide) (hG _ mw_559) (fun _ h9 => h9) rfl d_m_lying_4 ?_
      refine lv_icmp_ge (tgt := 28) hx hb d_m_lying_7 (by decide) (fun c_2 => ?_) (fun c_2 => ?_)
      · replace hv := hv.1 c_2
        refine lv_iconst (v := (-1)) hx hb d_m_lying_28 (by decide) ?_
        exact kt_iret hQ hx hb hr hlocks () hv (hP.sub [0, 1, 2, 3, 4, 5, 6, 7, 8, 9, 10, 11, 12, 13] rfl) (hD.sub [0, 1, 2, 3, 4, 5, 6, 7, 8, 9, 10, 11, 12, 13] (by decide) rfl) hS (Nat.le_of_ble_eq_true rfl) (Nat.le_of_ble_eq_true rfl) d_m_lying_29
      · replace hv := hv.2 c_2
        refine lv_aload_n hx hb d_m_lying_10 rfl (lv_at hl 1 rfl) ?_
        refine va_get (D := D) (ci := 5) (v := .ref m_cutPlace_a) (C := "CutShearsModel") (T := T_m) (N := 27) hx hb hG hi_m hown hK hP 0 rfl rfl 15 (by decide) (hG _ mw_563) (fun _ h9 => h9) rfl d_m_lying_11 ?_
        refine lv_iload_n hx hb d_m_lying_14 rfl (lv_at hl 0 rfl) ?_
        obtain ⟨hin, hv⟩ := hv
        refine va_iald hx hb hK hP 6 0 rfl rfl hin d_m_lying_15 ?_
        refine lv_iload_n hx hb d_m_lying_16 rfl (lv_at hl 2 rfl) ?_
        refine lv_icmp_ne (tgt := 22) hx hb d_m_lying_17 (by decide) (fun c_3 => ?_) (fun c_3 => ?_)
        · replace hv := hv.2 c_3
          obtain ⟨v_4, ev_4⟩ : ∃ y : Int32, y = v_1 + 1 := ⟨_, rfl⟩
          replace hv := hv v_4 ev_4
          refine lv_iinc (v := v_4) (lv' := [(2, .int v_4), (0, .ref m_a), (1, .int p1)]) hx hb d_m_lying_22 hl (k := 0) rfl (by rw [ev_4]; rfl) (by decide) rfl (fun ls hl => ?_)
          refine lv_goto (tgt := 2) hx hb d_m_lying_25 (by decide) ?_
          exact ih2 v_4 hv _ _ (hP.sub [0, 1, 2, 3, 4, 5, 6, 7, 8, 9, 10, 11, 12, 13] rfl) (hD.sub [0, 1, 2, 3, 4, 5, 6, 7, 8, 9, 10, 11, 12, 13] (by decide) rfl) hS ls (lv_sub hl [0, 1, 2] rfl)
        · replace hv := hv.1 c_3
          refine lv_iload_n hx hb d_m_lying_20 rfl (lv_at hl 0 rfl) ?_
          exact kt_iret hQ hx hb hr hlocks () hv (hP.sub [0, 1, 2, 3, 4, 5, 6, 7, 8, 9, 10, 11, 12, 13] rfl) (hD.sub [0, 1, 2, 3, 4, 5, 6, 7, 8, 9, 10, 11, 12, 13] (by decide) rfl) hS (Nat.le_of_ble_eq_true rfl) (Nat.le_of_ble_eq_true rfl) d_m_lying_21
  exact loop2 n2 0 hv _ _ hP hD hS ls hl
