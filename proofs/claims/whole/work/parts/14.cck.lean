/-! by program: contracts -/
set_option maxHeartbeats 4000000 in
set_option maxRecDepth 100000 in
theorem c_c_init (l : Launch) (D : va_G) (cI cJ cZ : ClassId) (c_a : Nat) (sz : Nat) {post : Int32 → Int32 → (Nat → Int32) → Prop} (hlt : l.stackTraces = false) (hv : vc_c_init post) :
    kt_Mv l y_c_init (.code y_c_init cc_c_init 2 none) rm_c_init D cI cJ cZ [(c_a, .inr (1, [.null, .int 0, .int 0, .int 0]))] sz [.ref c_a] (fun (u : Nat × Int32 × Int32 × (Nat → Int32)) => post (u.2.1) (u.2.2.1) (u.2.2.2)) (fun (u : Nat × Int32 × Int32 × (Nat → Int32)) => [(c_a, .inr (1, [.ref u.1, .int (u.2.1), .int (u.2.2.1), .int 0])), (u.1, .inl (cI, 20, .inl (u.2.2.2)))]) 1 20 := by
  refine kt_ofM (cc := cc_c_init) (maxL := 2) (ret := none) (Qc := fun A => kt_Qv D A (fun (u : Nat × Int32 × Int32 × (Nat → Int32)) => post (u.2.1) (u.2.2.1) (u.2.2.2)) (fun (u : Nat × Int32 × Int32 × (Nat → Int32)) => [(c_a, .inr (1, [.ref u.1, .int (u.2.1), .int (u.2.2.1), .int 0])), (u.1, .inl (cI, 20, .inl (u.2.2.2)))])) (by decide) (Nat.le_of_ble_eq_true rfl) ?_
  intro p e s m args below meth c A Q hI hP hD hS hQ ls hl
  obtain ⟨hx, hb, hr, hG, hown, hlocks, hname, hml, hC, hZ, hA⟩ := hI
  have hown : s.vm.findClass "CutShears$CoolingBed" = some m.cls := hown
  have hname : meth.name = "<init>" := hname
  have hK := hC.1
  have hl : lv_has ls 2 [(0, .ref c_a)] := hl
  unfold vc_c_init at hv
  refine lv_aload_n hx hb d_c_init_0 rfl (lv_at hl 0 rfl) ?_
  refine W.objInit hx hb hown (hG _ mw_169) (hG _ mw_52) (hG _ mw_53) rfl (by rw [hml]; exact hl.1) rfl d_c_init_1 (Nat.le_of_ble_eq_true rfl) (Nat.le_of_ble_eq_true rfl) ?_
  refine W.eq (g2 := F0 m 4 ls []) rfl ?_
  refine lv_aload_n hx hb d_c_init_4 rfl (lv_at hl 0 rfl) ?_
  refine lv_bipush (v := 20) hx hb d_c_init_5 (by decide) ?_
  refine kt_newi (N' := 20) hx hb (hG _ mw_85) hK hP hD hS hA (by decide) (by decide) (by decide) (Nat.le_of_ble_eq_true rfl) (Nat.le_of_ble_eq_true rfl) d_c_init_7 (fun c_cuts_a_1 H hP hD hS => ?_)
  have hP : va_P D vwCl [(c_a, .inr (1, [.null, .int 0, .int 0, .int 0])), (c_cuts_a_1, .inl (cI, 20, .inl (fun _ => 0)))] H := hP
  have hD : va_D A [(c_a, .inr (1, [.null, .int 0, .int 0, .int 0])), (c_cuts_a_1, .inl (cI, 20, .inl (fun _ => 0)))] := hD
  refine va_putF (D := D) (ci := 1) (v := .ref c_cuts_a_1) (ty := .array .int) (C := "CutShears$CoolingBed") (T := T_c) (N := 4) hx hb hG hi_c ty_c ty_c_ok nm_c hown hK hP hD hS 0 rfl rfl 0 (by decide) (hG _ mw_170) (fun _ h9 => h9) rfl hname rfl (by decide +kernel) rfl rfl (Nat.le_of_ble_eq_true rfl) d_c_init_9 (fun H locs hP hD hS => ?_)
  have hP : va_P D vwCl [(c_a, .inr (1, [.ref c_cuts_a_1, .int 0, .int 0, .int 0])), (c_cuts_a_1, .inl (cI, 20, .inl (fun _ => 0)))] H := hP
  have hD : va_D A [(c_a, .inr (1, [.ref c_cuts_a_1, .int 0, .int 0, .int 0])), (c_cuts_a_1, .inl (cI, 20, .inl (fun _ => 0)))] := hD
  refine lv_aload_n hx hb d_c_init_12 rfl (lv_at hl 0 rfl) ?_
  refine lv_bipush (v := 10) hx hb d_c_init_13 (by decide) ?_
  refine va_put (D := D) (ci := 1) (v := .int 10) (ty := .int) (C := "CutShears$CoolingBed") (T := T_c) (N := 4) hx hb hG hi_c ty_c ty_c_ok nm_c hown hK hP hD hS 0 rfl rfl 1 (by decide) (hG _ mw_171) (fun _ h9 => h9) rfl (by decide +kernel) rfl rfl (Nat.le_of_ble_eq_true rfl) d_c_init_15 (fun H locs hP hD hS => ?_)
  have hP : va_P D vwCl [(c_a, .inr (1, [.ref c_cuts_a_1, .int 10, .int 0, .int 0])), (c_cuts_a_1, .inl (cI, 20, .inl (fun _ => 0)))] H := hP
  have hD : va_D A [(c_a, .inr (1, [.ref c_cuts_a_1, .int 10, .int 0, .int 0])), (c_cuts_a_1, .inl (cI, 20, .inl (fun _ => 0)))] := hD
  refine lv_aload_n hx hb d_c_init_18 rfl (lv_at hl 0 rfl) ?_
  refine lv_sipush (v := 200) hx hb d_c_init_19 (by decide) ?_
  refine va_put (D := D) (ci := 1) (v := .int 200) (ty := .int) (C := "CutShears$CoolingBed") (T := T_c) (N := 4) hx hb hG hi_c ty_c ty_c_ok nm_c hown hK hP hD hS 0 rfl rfl 2 (by decide) (hG _ mw_173) (fun _ h9 => h9) rfl (by decide +kernel) rfl rfl (Nat.le_of_ble_eq_true rfl) d_c_init_22 (fun H locs hP hD hS => ?_)
  have hP : va_P D vwCl [(c_a, .inr (1, [.ref c_cuts_a_1, .int 10, .int 200, .int 0])), (c_cuts_a_1, .inl (cI, 20, .inl (fun _ => 0)))] H := hP
  have hD : va_D A [(c_a, .inr (1, [.ref c_cuts_a_1, .int 10, .int 200, .int 0])), (c_cuts_a_1, .inl (cI, 20, .inl (fun _ => 0)))] := hD
  refine lv_aload_n hx hb d_c_init_25 rfl (lv_at hl 0 rfl) ?_
  refine lv_iconst (v := 0) hx hb d_c_init_26 (by decide) ?_
  refine va_put (D := D) (ci := 1) (v := .int 0) (ty := .int) (C := "CutShears$CoolingBed") (T := T_c) (N := 4) hx hb hG hi_c ty_c ty_c_ok nm_c hown hK hP hD hS 0 rfl rfl 3 (by decide) (hG _ mw_175) (fun _ h9 => h9) rfl (by decide +kernel) rfl rfl (Nat.le_of_ble_eq_true rfl) d_c_init_27 (fun H locs hP hD hS => ?_)
  have hP : va_P D vwCl [(c_a, .inr (1, [.ref c_cuts_a_1, .int 10, .int 200, .int 0])), (c_cuts_a_1, .inl (cI, 20, .inl (fun _ => 0)))] H := hP
  have hD : va_D A [(c_a, .inr (1, [.ref c_cuts_a_1, .int 10, .int 200, .int 0])), (c_cuts_a_1, .inl (cI, 20, .inl (fun _ => 0)))] := hD
  refine lv_iconst (v := 0) hx hb d_c_init_30 (by decide) ?_
  refine lv_istore_n (lv' := [(1, .int 0), (0, .ref c_a)]) hx hb d_c_init_31 rfl hl (by decide) rfl (fun ls hl => ?_)
  obtain ⟨n32, hv⟩ := hv
  have loop32 : ∀ (n32 : Nat) (v_2 : Int32) (c_cuts_3 : Nat → Int32), vc_c_init_L32 post n32 v_2 c_cuts_3 → ∀ (H : Heap) (locs : List Loc), va_P D vwCl [(c_a, .inr (1, [.ref c_cuts_a_1, .int 10, .int 200, .int 0])), (c_cuts_a_1, .inl (cI, 20, .inl c_cuts_3))] H → va_D A [(c_a, .inr (1, [.ref c_cuts_a_1, .int 10, .int 200, .int 0])), (c_cuts_a_1, .inl (cI, 20, .inl c_cuts_3))] → va_S A s.heap H locs → ∀ ls, lv_has ls 2 [(1, .int v_2), (0, .ref c_a)] → W p l e rm_c_init s m args below meth c H locs 1 20 Q (F0 m 32 ls []) := by
    intro n32
    induction n32 with
    | zero =>
      intro v_2 c_cuts_3 hv
      unfold vc_c_init_L32 at hv
      exact hv.elim
    | succ n32 ih32 =>
      intro v_2 c_cuts_3 hv H locs hP hD hS ls hl
      unfold vc_c_init_L32 at hv
      refine lv_iload_n hx hb d_c_init_32 rfl (lv_at hl 0 rfl) ?_
      refine lv_bipush (v := 20) hx hb d_c_init_33 (by decide) ?_
      refine lv_icmp_ge (tgt := 51) hx hb d_c_init_35 (by decide) (fun c_4 => ?_) (fun c_4 => ?_)
      · replace hv := hv.1 c_4
        exact kt_vret hQ hx hb hr hlocks (c_cuts_a_1, 10, 200, c_cuts_3) hv (hP.sub [0, 1] rfl) (hD.sub [0, 1] (by decide) rfl) hS (Nat.le_of_ble_eq_true rfl) (Nat.le_of_ble_eq_true rfl) d_c_init_51
      · replace hv := hv.2 c_4
        refine lv_aload_n hx hb d_c_init_38 rfl (lv_at hl 1 rfl) ?_
        refine va_get (D := D) (ci := 1) (v := .ref c_cuts_a_1) (C := "CutShears$CoolingBed") (T := T_c) (N := 4) hx hb hG hi_c hown hK hP 0 rfl rfl 0 (by decide) (hG _ mw_170) (fun _ h9 => h9) rfl d_c_init_39 ?_
        refine lv_iload_n hx hb d_c_init_42 rfl (lv_at hl 0 rfl) ?_
        refine lv_iconst (v := (-1)) hx hb d_c_init_43 (by decide) ?_
        obtain ⟨hin, hv⟩ := hv
        refine va_iast hx hb hK hP hD hS 1 0 rfl rfl hin d_c_init_44 (fun H locs hP hD hS => ?_)
        have hP : va_P D vwCl [(c_a, .inr (1, [.ref c_cuts_a_1, .int 10, .int 200, .int 0])), (c_cuts_a_1, .inl (cI, 20, .inl (upd c_cuts_3 v_2.toNatClampNeg (-1))))] H := hP
        have hD : va_D A [(c_a, .inr (1, [.ref c_cuts_a_1, .int 10, .int 200, .int 0])), (c_cuts_a_1, .inl (cI, 20, .inl (upd c_cuts_3 v_2.toNatClampNeg (-1))))] := hD
        obtain ⟨v_5, ev_5⟩ : ∃ y : Int32, y = v_2 + 1 := ⟨_, rfl⟩
        replace hv := hv v_5 ev_5
        refine lv_iinc (v := v_5) (lv' := [(1, .int v_5), (0, .ref c_a)]) hx hb d_c_init_45 hl (k := 0) rfl (by rw [ev_5]; rfl) (by decide) rfl (fun ls hl => ?_)
        refine lv_goto (tgt := 32) hx hb d_c_init_48 (by decide) ?_
        exact ih32 v_5 (upd c_cuts_3 v_2.toNatClampNeg (-1)) hv _ _ (hP.sub [0, 1] rfl) (hD.sub [0, 1] (by decide) rfl) hS ls (lv_sub hl [0, 1] rfl)
  exact loop32 n32 0 (fun _ => 0) hv _ _ hP hD hS ls hl
set_option maxHeartbeats 4000000 in
set_option maxRecDepth 100000 in
theorem c_c_lay (l : Launch) (D : va_G) (cI cJ cZ : ClassId) (c_a c_cuts_a : Nat) (sz : Nat) (c_cuts : Nat → Int32) (c_places : Int32) (c_longest : Int32) (c_lying : Int32) (p1 : Int32) (p2 : Int32) {post : Int32 → Int32 → (Nat → Int32) → Prop} (hlt : l.stackTraces = false) (hv : vc_c_lay c_cuts c_places c_longest c_lying p1 p2 post) :
    kt_Mi l y_c_lay (.code y_c_lay cc_c_lay 4 (some .int)) rm_c_lay D cI cJ cZ [(c_a, .inr (1, [.ref c_cuts_a, .int c_places, .int c_longest, .int c_lying])), (c_cuts_a, .inl (cI, 20, .inl c_cuts))] sz [.ref c_a, .int p1, .int p2] (fun (r : Int32) (u : Int32 × (Nat → Int32)) => post r (u.1) (u.2)) (fun (u : Int32 × (Nat → Int32)) => [(c_a, .inr (1, [.ref c_cuts_a, .int c_places, .int c_longest, .int (u.1)])), (c_cuts_a, .inl (cI, 20, .inl (u.2)))]) 0 0 := by
  refine kt_ofM (cc := cc_c_lay) (maxL := 4) (ret := (some .int)) (Qc := fun A => kt_Qi D A (fun (r : Int32) (u : Int32 × (Nat → Int32)) => post r (u.1) (u.2)) (fun (u : Int32 × (Nat → Int32)) => [(c_a, .inr (1, [.ref c_cuts_a, .int c_places, .int c_longest, .int (u.1)])), (c_cuts_a, .inl (cI, 20, .inl (u.2)))])) (by decide) (Nat.le_of_ble_eq_true rfl) ?_
  intro p e s m args below meth c A Q hI hP hD hS hQ ls hl
  obtain ⟨hx, hb, hr, hG, hown, hlocks, hname, hml, hC, hZ, hA⟩ := hI
  have hown : s.vm.findClass "CutShears$CoolingBed" = some m.cls := hown
  have hK := hC.1
  have hl : lv_has ls 4 [(0, .ref c_a), (1, .int p1), (2, .int p2)] := hl
  unfold vc_c_lay at hv
  refine lv_iload_n hx hb d_c_lay_0 rfl (lv_at hl 2 rfl) ?_
  refine lv_aload_n hx hb d_c_lay_1 rfl (lv_at hl 0 rfl) ?_
  refine va_get (D := D) (ci := 1) (v := .int c_longest) (C := "CutShears$CoolingBed") (T := T_c) (N := 4) hx hb hG hi_c hown hK hP 0 rfl rfl 2 (by decide) (hG _ mw_173) (fun _ h9 => h9) rfl d_c_lay_2 ?_
  refine lv_icmp_le (tgt := 10) hx hb d_c_lay_5 (by decide) (fun c_1 => ?_) (fun c_1 => ?_)
  · replace hv := hv.1 c_1
    refine lv_iconst (v := 0) hx hb d_c_lay_10 (by decide) ?_
    refine lv_istore_n (lv' := [(3, .int 0), (0, .ref c_a), (1, .int p1), (2, .int p2)]) hx hb d_c_lay_11 rfl hl (by decide) rfl (fun ls hl => ?_)
    obtain ⟨n12, hv⟩ := hv
    have loop12 : ∀ (n12 : Nat) (v_2 : Int32), vc_c_lay_L12 c_cuts c_places c_lying p1 post n12 v_2 → ∀ (H : Heap) (locs : List Loc), va_P D vwCl [(c_a, .inr (1, [.ref c_cuts_a, .int c_places, .int c_longest, .int c_lying])), (c_cuts_a, .inl (cI, 20, .inl c_cuts))] H → va_D A [(c_a, .inr (1, [.ref c_cuts_a, .int c_places, .int c_longest, .int c_lying])), (c_cuts_a, .inl (cI, 20, .inl c_cuts))] → va_S A s.heap H locs → ∀ ls, lv_has ls 4 [(3, .int v_2), (0, .ref c_a), (1, .int p1), (2, .int p2)] → W p l e rm_c_lay s m args below meth c H locs 0 0 Q (F0 m 12 ls []) := by
      intro n12
      induction n12 with
      | zero =>
        intro v_2 hv
        unfold vc_c_lay_L12 at hv
        exact hv.elim
      | succ n12 ih12 =>
        intro v_2 hv H locs hP hD hS ls hl
        unfold vc_c_lay_L12 at hv
        refine lv_iload_n hx hb d_c_lay_12 rfl (lv_at hl 0 rfl) ?_
        refine lv_aload_n hx hb d_c_lay_13 rfl (lv_at hl 1 rfl) ?_
        refine va_get (D := D) (ci := 1) (v := .int c_places) (C := "CutShears$CoolingBed") (T := T_c) (N := 4) hx hb hG hi_c hown hK hP 0 rfl rfl 1 (by decide) (hG _ mw_171) (fun _ h9 => h9) rfl d_c_lay_14 ?_
        refine lv_icmp_ge (tgt := 55) hx hb d_c_lay_17 (by decide) (fun c_3 => ?_) (fun c_3 => ?_)
        · replace hv := hv.1 c_3
          refine lv_iconst (v := (-1)) hx hb d_c_lay_55 (by decide) ?_
          exact kt_iret hQ hx hb hr hlocks (c_lying, c_cuts) hv (hP.sub [0, 1] rfl) (hD.sub [0, 1] (by decide) rfl) hS (Nat.le_of_ble_eq_true rfl) (Nat.le_of_ble_eq_true rfl) d_c_lay_56
        · replace hv := hv.2 c_3
          refine lv_aload_n hx hb d_c_lay_20 rfl (lv_at hl 1 rfl) ?_
          refine va_get (D := D) (ci := 1) (v := .ref c_cuts_a) (C := "CutShears$CoolingBed") (T := T_c) (N := 4) hx hb hG hi_c hown hK hP 0 rfl rfl 0 (by decide) (hG _ mw_170) (fun _ h9 => h9) rfl d_c_lay_21 ?_
          refine lv_iload_n hx hb d_c_lay_24 rfl (lv_at hl 0 rfl) ?_
          obtain ⟨hin, hv⟩ := hv
          refine va_iald hx hb hK hP 1 0 rfl rfl hin d_c_lay_25 ?_
          refine lv_iconst (v := (-1)) hx hb d_c_lay_26 (by decide) ?_
          refine lv_icmp_ne (tgt := 49) hx hb d_c_lay_27 (by decide) (fun c_4 => ?_) (fun c_4 => ?_)
          · replace hv := hv.2 c_4
            obtain ⟨v_5, ev_5⟩ : ∃ y : Int32, y = v_2 + 1 := ⟨_, rfl⟩
            replace hv := hv v_5 ev_5
            refine lv_iinc (v := v_5) (lv' := [(3, .int v_5), (0, .ref c_a), (1, .int p1), (2, .int p2)]) hx hb d_c_lay_49 hl (k := 0) rfl (by rw [ev_5]; rfl) (by decide) rfl (fun ls hl => ?_)
            refine lv_goto (tgt := 12) hx hb d_c_lay_52 (by decide) ?_
            exact ih12 v_5 hv _ _ (hP.sub [0, 1] rfl) (hD.sub [0, 1] (by decide) rfl) hS ls (lv_sub hl [0, 1, 2, 3] rfl)
          · replace hv := hv.1 c_4
            refine lv_aload_n hx hb d_c_lay_30 rfl (lv_at hl 1 rfl) ?_
            refine va_get (D := D) (ci := 1) (v := .ref c_cuts_a) (C := "CutShears$CoolingBed") (T := T_c) (N := 4) hx hb hG hi_c hown hK hP 0 rfl rfl 0 (by decide) (hG _ mw_170) (fun _ h9 => h9) rfl d_c_lay_31 ?_
            refine lv_iload_n hx hb d_c_lay_34 rfl (lv_at hl 0 rfl) ?_
            refine lv_iload_n hx hb d_c_lay_35 rfl (lv_at hl 2 rfl) ?_
            obtain ⟨hin, hv⟩ := hv
            refine va_iast hx hb hK hP hD hS 1 0 rfl rfl hin d_c_lay_36 (fun H locs hP hD hS => ?_)
            have hP : va_P D vwCl [(c_a, .inr (1, [.ref c_cuts_a, .int c_places, .int c_longest, .int c_lying])), (c_cuts_a, .inl (cI, 20, .inl (upd c_cuts v_2.toNatClampNeg p1)))] H := hP
            have hD : va_D A [(c_a, .inr (1, [.ref c_cuts_a, .int c_places, .int c_longest, .int c_lying])), (c_cuts_a, .inl (cI, 20, .inl (upd c_cuts v_2.toNatClampNeg p1)))] := hD
            refine lv_aload_n hx hb d_c_lay_37 rfl (lv_at hl 1 rfl) ?_
            refine lv_dup hx hb d_c_lay_38 rfl ?_
            refine va_get (D := D) (ci := 1) (v := .int c_lying) (C := "CutShears$CoolingBed") (T := T_c) (N := 4) hx hb hG hi_c hown hK hP 0 rfl rfl 3 (by decide) (hG _ mw_175) (fun _ h9 => h9) rfl d_c_lay_39 ?_
            refine lv_iconst (v := 1) hx hb d_c_lay_42 (by decide) ?_
            refine lv_iadd hx hb d_c_lay_43 ?_
            refine lv_topi (fun v_6 ev_6 => ?_)
            replace hv := hv v_6 ev_6
            refine va_put (D := D) (ci := 1) (v := .int v_6) (ty := .int) (C := "CutShears$CoolingBed") (T := T_c) (N := 4) hx hb hG hi_c ty_c ty_c_ok nm_c hown hK hP hD hS 0 rfl rfl 3 (by decide) (hG _ mw_175) (fun _ h9 => h9) rfl (by decide +kernel) rfl rfl (Nat.le_of_ble_eq_true rfl) d_c_lay_44 (fun H locs hP hD hS => ?_)
            have hP : va_P D vwCl [(c_a, .inr (1, [.ref c_cuts_a, .int c_places, .int c_longest, .int v_6])), (c_cuts_a, .inl (cI, 20, .inl (upd c_cuts v_2.toNatClampNeg p1)))] H := hP
            have hD : va_D A [(c_a, .inr (1, [.ref c_cuts_a, .int c_places, .int c_longest, .int v_6])), (c_cuts_a, .inl (cI, 20, .inl (upd c_cuts v_2.toNatClampNeg p1)))] := hD
            refine lv_iload_n hx hb d_c_lay_47 rfl (lv_at hl 0 rfl) ?_
            exact kt_iret hQ hx hb hr hlocks (v_6, (upd c_cuts v_2.toNatClampNeg p1)) hv (hP.sub [0, 1] rfl) (hD.sub [0, 1] (by decide) rfl) hS (Nat.le_of_ble_eq_true rfl) (Nat.le_of_ble_eq_true rfl) d_c_lay_48
    exact loop12 n12 0 hv _ _ hP hD hS ls hl
  · replace hv := hv.2 c_1
    refine lv_iconst (v := (-1)) hx hb d_c_lay_8 (by decide) ?_
    exact kt_iret hQ hx hb hr hlocks (c_lying, c_cuts) hv (hP.sub [0, 1] rfl) (hD.sub [0, 1] (by decide) rfl) hS (Nat.le_of_ble_eq_true rfl) (Nat.le_of_ble_eq_true rfl) d_c_lay_9
set_option maxHeartbeats 4000000 in
set_option maxRecDepth 100000 in
theorem c_c_cutOn (l : Launch) (D : va_G) (cI cJ cZ : ClassId) (c_a c_cuts_a : Nat) (sz : Nat) (c_cuts : Nat → Int32) (c_places : Int32) (c_longest : Int32) (c_lying : Int32) (p1 : Int32) {post : Int32 → Prop} (hlt : l.stackTraces = false) (hv : vc_c_cutOn c_cuts p1 post) :
    kt_Mi l y_c_cutOn (.code y_c_cutOn cc_c_cutOn 2 (some .int)) rm_c_cutOn D cI cJ cZ [(c_a, .inr (1, [.ref c_cuts_a, .int c_places, .int c_longest, .int c_lying])), (c_cuts_a, .inl (cI, 20, .inl c_cuts))] sz [.ref c_a, .int p1] (fun (r : Int32) (_ : Unit) => post r) (fun _ : Unit => [(c_a, .inr (1, [.ref c_cuts_a, .int c_places, .int c_longest, .int c_lying])), (c_cuts_a, .inl (cI, 20, .inl c_cuts))]) 0 0 := by
  refine kt_ofM (cc := cc_c_cutOn) (maxL := 2) (ret := (some .int)) (Qc := fun A => kt_Qi D A (fun (r : Int32) (_ : Unit) => post r) (fun _ : Unit => [(c_a, .inr (1, [.ref c_cuts_a, .int c_places, .int c_longest, .int c_lying])), (c_cuts_a, .inl (cI, 20, .inl c_cuts))])) (by decide) (Nat.le_of_ble_eq_true rfl) ?_
  intro p e s m args below meth c A Q hI hP hD hS hQ ls hl
  obtain ⟨hx, hb, hr, hG, hown, hlocks, hname, hml, hC, hZ, hA⟩ := hI
  have hown : s.vm.findClass "CutShears$CoolingBed" = some m.cls := hown
  have hK := hC.1
  have hl : lv_has ls 2 [(0, .ref c_a), (1, .int p1)] := hl
  unfold vc_c_cutOn at hv
  refine lv_aload_n hx hb d_c_cutOn_0 rfl (lv_at hl 0 rfl) ?_
  refine va_get (D := D) (ci := 1) (v := .ref c_cuts_a) (C := "CutShears$CoolingBed") (T := T_c) (N := 4) hx hb hG hi_c hown hK hP 0 rfl rfl 0 (by decide) (hG _ mw_170) (fun _ h9 => h9) rfl d_c_cutOn_1 ?_
  refine lv_iload_n hx hb d_c_cutOn_4 rfl (lv_at hl 1 rfl) ?_
  refine kt_calli (wc := [(c_cuts_a, .inl (cI, 20, .inl c_cuts))]) (wr := [(c_a, .inr (1, [.ref c_cuts_a, .int c_places, .int c_longest, .int c_lying]))]) hA hP hD hS [1] [0] rfl rfl (by decide) (by decide) (va_runSN (As := [.ref c_cuts_a, .int p1]) (rest := []) ⟨hx, hb, hml, hown, hG⟩ (c_x_numberAt l D cI cJ cZ c_cuts_a _ 20 c_cuts p1 hlt hv) ⟨va_cnB 2 hG (kt_g0 mw_332) rfl rfl rfl (hC.2 _ (kt_Nm 3 rfl)) (hG _ mw_32) (by decide +kernel) ⟨Nat.le_of_ble_eq_true rfl, Nat.le_of_ble_eq_true rfl⟩, (hG _ mw_331), trivial⟩ (kt_pre hC hZ hA hP hD hS [1] (by decide) rfl) rfl rfl hl.1 rfl (lv_room (Nat.le_of_ble_eq_true rfl)) d_c_cutOn_5 ⟨Nat.le_of_ble_eq_true rfl, Nat.le_of_ble_eq_true rfl⟩) (fun r_1 _ H locs hv hP hD hS => ?_)
  try dsimp only at hv
  have hP : va_P D vwCl [(c_a, .inr (1, [.ref c_cuts_a, .int c_places, .int c_longest, .int c_lying])), (c_cuts_a, .inl (cI, 20, .inl c_cuts))] H := hP
  have hD : va_D A [(c_a, .inr (1, [.ref c_cuts_a, .int c_places, .int c_longest, .int c_lying])), (c_cuts_a, .inl (cI, 20, .inl c_cuts))] := hD
  exact kt_iret hQ hx hb hr hlocks () hv (hP.sub [0, 1] rfl) (hD.sub [0, 1] (by decide) rfl) hS (Nat.le_of_ble_eq_true rfl) (Nat.le_of_ble_eq_true rfl) d_c_cutOn_8
set_option maxHeartbeats 4000000 in
set_option maxRecDepth 100000 in
theorem c_c_free (l : Launch) (D : va_G) (cI cJ cZ : ClassId) (c_a c_cuts_a : Nat) (sz : Nat) (c_cuts : Nat → Int32) (c_places : Int32) (c_longest : Int32) (c_lying : Int32) (p1 : Int32) {post : Int32 → (Nat → Int32) → Prop} (hlt : l.stackTraces = false) (hv : vc_c_free c_cuts c_lying p1 post) :
    kt_Mv l y_c_free (.code y_c_free cc_c_free 2 none) rm_c_free D cI cJ cZ [(c_a, .inr (1, [.ref c_cuts_a, .int c_places, .int c_longest, .int c_lying])), (c_cuts_a, .inl (cI, 20, .inl c_cuts))] sz [.ref c_a, .int p1] (fun (u : Int32 × (Nat → Int32)) => post (u.1) (u.2)) (fun (u : Int32 × (Nat → Int32)) => [(c_a, .inr (1, [.ref c_cuts_a, .int c_places, .int c_longest, .int (u.1)])), (c_cuts_a, .inl (cI, 20, .inl (u.2)))]) 0 0 := by
  refine kt_ofM (cc := cc_c_free) (maxL := 2) (ret := none) (Qc := fun A => kt_Qv D A (fun (u : Int32 × (Nat → Int32)) => post (u.1) (u.2)) (fun (u : Int32 × (Nat → Int32)) => [(c_a, .inr (1, [.ref c_cuts_a, .int c_places, .int c_longest, .int (u.1)])), (c_cuts_a, .inl (cI, 20, .inl (u.2)))])) (by decide) (Nat.le_of_ble_eq_true rfl) ?_
  intro p e s m args below meth c A Q hI hP hD hS hQ ls hl
  obtain ⟨hx, hb, hr, hG, hown, hlocks, hname, hml, hC, hZ, hA⟩ := hI
  have hown : s.vm.findClass "CutShears$CoolingBed" = some m.cls := hown
  have hK := hC.1
  have hl : lv_has ls 2 [(0, .ref c_a), (1, .int p1)] := hl
  unfold vc_c_free at hv
  refine lv_iload_n hx hb d_c_free_0 rfl (lv_at hl 1 rfl) ?_
  refine lv_if_lt (tgt := 20) hx hb d_c_free_1 (by decide) (fun c_1 => ?_) (fun c_1 => ?_)
  · replace hv := hv.1 c_1
    exact kt_vret hQ hx hb hr hlocks (c_lying, c_cuts) hv (hP.sub [0, 1] rfl) (hD.sub [0, 1] (by decide) rfl) hS (Nat.le_of_ble_eq_true rfl) (Nat.le_of_ble_eq_true rfl) d_c_free_20
  · replace hv := hv.2 c_1
    refine lv_iload_n hx hb d_c_free_4 rfl (lv_at hl 1 rfl) ?_
    refine lv_bipush (v := 20) hx hb d_c_free_5 (by decide) ?_
    refine lv_icmp_ge (tgt := 20) hx hb d_c_free_7 (by decide) (fun c_2 => ?_) (fun c_2 => ?_)
    · replace hv := hv.1 c_2
      exact kt_vret hQ hx hb hr hlocks (c_lying, c_cuts) hv (hP.sub [0, 1] rfl) (hD.sub [0, 1] (by decide) rfl) hS (Nat.le_of_ble_eq_true rfl) (Nat.le_of_ble_eq_true rfl) d_c_free_20
    · replace hv := hv.2 c_2
      refine lv_aload_n hx hb d_c_free_10 rfl (lv_at hl 0 rfl) ?_
      refine va_get (D := D) (ci := 1) (v := .ref c_cuts_a) (C := "CutShears$CoolingBed") (T := T_c) (N := 4) hx hb hG hi_c hown hK hP 0 rfl rfl 0 (by decide) (hG _ mw_170) (fun _ h9 => h9) rfl d_c_free_11 ?_
      refine lv_iload_n hx hb d_c_free_14 rfl (lv_at hl 1 rfl) ?_
      obtain ⟨hin, hv⟩ := hv
      refine va_iald hx hb hK hP 1 0 rfl rfl hin d_c_free_15 ?_
      refine lv_iconst (v := (-1)) hx hb d_c_free_16 (by decide) ?_
      refine lv_icmp_ne (tgt := 21) hx hb d_c_free_17 (by decide) (fun c_3 => ?_) (fun c_3 => ?_)
      · replace hv := hv.2 c_3
        refine lv_aload_n hx hb d_c_free_21 rfl (lv_at hl 0 rfl) ?_
        refine va_get (D := D) (ci := 1) (v := .ref c_cuts_a) (C := "CutShears$CoolingBed") (T := T_c) (N := 4) hx hb hG hi_c hown hK hP 0 rfl rfl 0 (by decide) (hG _ mw_170) (fun _ h9 => h9) rfl d_c_free_22 ?_
        refine lv_iload_n hx hb d_c_free_25 rfl (lv_at hl 1 rfl) ?_
        refine lv_iconst (v := (-1)) hx hb d_c_free_26 (by decide) ?_
        obtain ⟨hin, hv⟩ := hv
        refine va_iast hx hb hK hP hD hS 1 0 rfl rfl hin d_c_free_27 (fun H locs hP hD hS => ?_)
        have hP : va_P D vwCl [(c_a, .inr (1, [.ref c_cuts_a, .int c_places, .int c_longest, .int c_lying])), (c_cuts_a, .inl (cI, 20, .inl (upd c_cuts p1.toNatClampNeg (-1))))] H := hP
        have hD : va_D A [(c_a, .inr (1, [.ref c_cuts_a, .int c_places, .int c_longest, .int c_lying])), (c_cuts_a, .inl (cI, 20, .inl (upd c_cuts p1.toNatClampNeg (-1))))] := hD
        refine lv_aload_n hx hb d_c_free_28 rfl (lv_at hl 0 rfl) ?_
        refine lv_dup hx hb d_c_free_29 rfl ?_
        refine va_get (D := D) (ci := 1) (v := .int c_lying) (C := "CutShears$CoolingBed") (T := T_c) (N := 4) hx hb hG hi_c hown hK hP 0 rfl rfl 3 (by decide) (hG _ mw_175) (fun _ h9 => h9) rfl d_c_free_30 ?_
        refine lv_iconst (v := 1) hx hb d_c_free_33 (by decide) ?_
        refine lv_isub hx hb d_c_free_34 ?_
        refine lv_topi (fun v_4 ev_4 => ?_)
        replace hv := hv v_4 ev_4
        refine va_put (D := D) (ci := 1) (v := .int v_4) (ty := .int) (C := "CutShears$CoolingBed") (T := T_c) (N := 4) hx hb hG hi_c ty_c ty_c_ok nm_c hown hK hP hD hS 0 rfl rfl 3 (by decide) (hG _ mw_175) (fun _ h9 => h9) rfl (by decide +kernel) rfl rfl (Nat.le_of_ble_eq_true rfl) d_c_free_35 (fun H locs hP hD hS => ?_)
        have hP : va_P D vwCl [(c_a, .inr (1, [.ref c_cuts_a, .int c_places, .int c_longest, .int v_4])), (c_cuts_a, .inl (cI, 20, .inl (upd c_cuts p1.toNatClampNeg (-1))))] H := hP
        have hD : va_D A [(c_a, .inr (1, [.ref c_cuts_a, .int c_places, .int c_longest, .int v_4])), (c_cuts_a, .inl (cI, 20, .inl (upd c_cuts p1.toNatClampNeg (-1))))] := hD
        exact kt_vret hQ hx hb hr hlocks (v_4, (upd c_cuts p1.toNatClampNeg (-1))) hv (hP.sub [0, 1] rfl) (hD.sub [0, 1] (by decide) rfl) hS (Nat.le_of_ble_eq_true rfl) (Nat.le_of_ble_eq_true rfl) d_c_free_38
      · replace hv := hv.1 c_3
        exact kt_vret hQ hx hb hr hlocks (c_lying, c_cuts) hv (hP.sub [0, 1] rfl) (hD.sub [0, 1] (by decide) rfl) hS (Nat.le_of_ble_eq_true rfl) (Nat.le_of_ble_eq_true rfl) d_c_free_20
set_option maxHeartbeats 4000000 in
set_option maxRecDepth 100000 in
theorem c_k_init (l : Launch) (D : va_G) (cI cJ cZ : ClassId) (k_a : Nat) (sz : Nat) {post : Prop} (hlt : l.stackTraces = false) (hv : vc_k_init post) :
    kt_Mv l y_k_init (.code y_k_init cc_k_init 1 none) rm_k_init D cI cJ cZ [(k_a, .inr (2, [.null, .null, .null, .null, .null, .null, .int 0, .int 0, .int 0]))] sz [.ref k_a] (fun (u : Nat × Nat × Nat × Nat × Nat × Nat) => post) (fun (u : Nat × Nat × Nat × Nat × Nat × Nat) => [(k_a, .inr (2, [.ref u.1, .ref u.2.1, .ref u.2.2.1, .ref u.2.2.2.1, .ref u.2.2.2.2.1, .ref u.2.2.2.2.2, .int 0, .int 0, .int 0])), (u.1, .inl (cI, 300, .inl (fun _ => 0))), (u.2.1, .inl (cI, 300, .inl (fun _ => 0))), (u.2.2.1, .inl (cI, 300, .inl (fun _ => 0))), (u.2.2.2.1, .inl (cI, 300, .inl (fun _ => 0))), (u.2.2.2.2.1, .inl (cI, 300, .inl (fun _ => 0))), (u.2.2.2.2.2, .inl (cI, 6, .inl (fun _ => 0)))]) 6 1506 := by
  refine kt_ofM (cc := cc_k_init) (maxL := 1) (ret := none) (Qc := fun A => kt_Qv D A (fun (u : Nat × Nat × Nat × Nat × Nat × Nat) => post) (fun (u : Nat × Nat × Nat × Nat × Nat × Nat) => [(k_a, .inr (2, [.ref u.1, .ref u.2.1, .ref u.2.2.1, .ref u.2.2.2.1, .ref u.2.2.2.2.1, .ref u.2.2.2.2.2, .int 0, .int 0, .int 0])), (u.1, .inl (cI, 300, .inl (fun _ => 0))), (u.2.1, .inl (cI, 300, .inl (fun _ => 0))), (u.2.2.1, .inl (cI, 300, .inl (fun _ => 0))), (u.2.2.2.1, .inl (cI, 300, .inl (fun _ => 0))), (u.2.2.2.2.1, .inl (cI, 300, .inl (fun _ => 0))), (u.2.2.2.2.2, .inl (cI, 6, .inl (fun _ => 0)))])) (by decide) (Nat.le_of_ble_eq_true rfl) ?_
  intro p e s m args below meth c A Q hI hP hD hS hQ ls hl
  obtain ⟨hx, hb, hr, hG, hown, hlocks, hname, hml, hC, hZ, hA⟩ := hI
  have hown : s.vm.findClass "CutShears$CutBook" = some m.cls := hown
  have hname : meth.name = "<init>" := hname
  have hK := hC.1
  have hl : lv_has ls 1 [(0, .ref k_a)] := hl
  unfold vc_k_init at hv
  refine lv_aload_n hx hb d_k_init_0 rfl (lv_at hl 0 rfl) ?_
  refine W.objInit hx hb hown (hG _ mw_134) (hG _ mw_52) (hG _ mw_53) rfl (by rw [hml]; exact hl.1) rfl d_k_init_1 (Nat.le_of_ble_eq_true rfl) (Nat.le_of_ble_eq_true rfl) ?_
  refine W.eq (g2 := F0 m 4 ls []) rfl ?_
  refine lv_aload_n hx hb d_k_init_4 rfl (lv_at hl 0 rfl) ?_
  refine lv_sipush (v := 300) hx hb d_k_init_5 (by decide) ?_
  refine kt_newi (N' := 300) hx hb (hG _ mw_85) hK hP hD hS hA (by decide) (by decide) (by decide) (Nat.le_of_ble_eq_true rfl) (Nat.le_of_ble_eq_true rfl) d_k_init_8 (fun k_wanted_a_1 H hP hD hS => ?_)
  have hP : va_P D vwCl [(k_a, .inr (2, [.null, .null, .null, .null, .null, .null, .int 0, .int 0, .int 0])), (k_wanted_a_1, .inl (cI, 300, .inl (fun _ => 0)))] H := hP
  have hD : va_D A [(k_a, .inr (2, [.null, .null, .null, .null, .null, .null, .int 0, .int 0, .int 0])), (k_wanted_a_1, .inl (cI, 300, .inl (fun _ => 0)))] := hD
  refine va_putF (D := D) (ci := 2) (v := .ref k_wanted_a_1) (ty := .array .int) (C := "CutShears$CutBook") (T := T_k) (N := 9) hx hb hG hi_k ty_k ty_k_ok nm_k hown hK hP hD hS 0 rfl rfl 0 (by decide) (hG _ mw_135) (fun _ h9 => h9) rfl hname rfl (by decide +kernel) rfl rfl (Nat.le_of_ble_eq_true rfl) d_k_init_10 (fun H locs hP hD hS => ?_)
  have hP : va_P D vwCl [(k_a, .inr (2, [.ref k_wanted_a_1, .null, .null, .null, .null, .null, .int 0, .int 0, .int 0])), (k_wanted_a_1, .inl (cI, 300, .inl (fun _ => 0)))] H := hP
  have hD : va_D A [(k_a, .inr (2, [.ref k_wanted_a_1, .null, .null, .null, .null, .null, .int 0, .int 0, .int 0])), (k_wanted_a_1, .inl (cI, 300, .inl (fun _ => 0)))] := hD
  refine lv_aload_n hx hb d_k_init_13 rfl (lv_at hl 0 rfl) ?_
  refine lv_sipush (v := 300) hx hb d_k_init_14 (by decide) ?_
  refine kt_newi (N' := 300) hx hb (hG _ mw_85) hK hP hD hS hA (by decide) (by decide) (by decide) (Nat.le_of_ble_eq_true rfl) (Nat.le_of_ble_eq_true rfl) d_k_init_17 (fun k_steps_a_2 H hP hD hS => ?_)
  have hP : va_P D vwCl [(k_a, .inr (2, [.ref k_wanted_a_1, .null, .null, .null, .null, .null, .int 0, .int 0, .int 0])), (k_wanted_a_1, .inl (cI, 300, .inl (fun _ => 0))), (k_steps_a_2, .inl (cI, 300, .inl (fun _ => 0)))] H := hP
  have hD : va_D A [(k_a, .inr (2, [.ref k_wanted_a_1, .null, .null, .null, .null, .null, .int 0, .int 0, .int 0])), (k_wanted_a_1, .inl (cI, 300, .inl (fun _ => 0))), (k_steps_a_2, .inl (cI, 300, .inl (fun _ => 0)))] := hD
  refine va_putF (D := D) (ci := 2) (v := .ref k_steps_a_2) (ty := .array .int) (C := "CutShears$CutBook") (T := T_k) (N := 9) hx hb hG hi_k ty_k ty_k_ok nm_k hown hK hP hD hS 0 rfl rfl 1 (by decide) (hG _ mw_136) (fun _ h9 => h9) rfl hname rfl (by decide +kernel) rfl rfl (Nat.le_of_ble_eq_true rfl) d_k_init_19 (fun H locs hP hD hS => ?_)
  have hP : va_P D vwCl [(k_a, .inr (2, [.ref k_wanted_a_1, .ref k_steps_a_2, .null, .null, .null, .null, .int 0, .int 0, .int 0])), (k_wanted_a_1, .inl (cI, 300, .inl (fun _ => 0))), (k_steps_a_2, .inl (cI, 300, .inl (fun _ => 0)))] H := hP
  have hD : va_D A [(k_a, .inr (2, [.ref k_wanted_a_1, .ref k_steps_a_2, .null, .null, .null, .null, .int 0, .int 0, .int 0])), (k_wanted_a_1, .inl (cI, 300, .inl (fun _ => 0))), (k_steps_a_2, .inl (cI, 300, .inl (fun _ => 0)))] := hD
  refine lv_aload_n hx hb d_k_init_22 rfl (lv_at hl 0 rfl) ?_
  refine lv_sipush (v := 300) hx hb d_k_init_23 (by decide) ?_
  refine kt_newi (N' := 300) hx hb (hG _ mw_85) hK hP hD hS hA (by decide) (by decide) (by decide) (Nat.le_of_ble_eq_true rfl) (Nat.le_of_ble_eq_true rfl) d_k_init_26 (fun k_places_a_3 H hP hD hS => ?_)
  have hP : va_P D vwCl [(k_a, .inr (2, [.ref k_wanted_a_1, .ref k_steps_a_2, .null, .null, .null, .null, .int 0, .int 0, .int 0])), (k_wanted_a_1, .inl (cI, 300, .inl (fun _ => 0))), (k_steps_a_2, .inl (cI, 300, .inl (fun _ => 0))), (k_places_a_3, .inl (cI, 300, .inl (fun _ => 0)))] H := hP
  have hD : va_D A [(k_a, .inr (2, [.ref k_wanted_a_1, .ref k_steps_a_2, .null, .null, .null, .null, .int 0, .int 0, .int 0])), (k_wanted_a_1, .inl (cI, 300, .inl (fun _ => 0))), (k_steps_a_2, .inl (cI, 300, .inl (fun _ => 0))), (k_places_a_3, .inl (cI, 300, .inl (fun _ => 0)))] := hD
  refine va_putF (D := D) (ci := 2) (v := .ref k_places_a_3) (ty := .array .int) (C := "CutShears$CutBook") (T := T_k) (N := 9) hx hb hG hi_k ty_k ty_k_ok nm_k hown hK hP hD hS 0 rfl rfl 2 (by decide) (hG _ mw_137) (fun _ h9 => h9) rfl hname rfl (by decide +kernel) rfl rfl (Nat.le_of_ble_eq_true rfl) d_k_init_28 (fun H locs hP hD hS => ?_)
  have hP : va_P D vwCl [(k_a, .inr (2, [.ref k_wanted_a_1, .ref k_steps_a_2, .ref k_places_a_3, .null, .null, .null, .int 0, .int 0, .int 0])), (k_wanted_a_1, .inl (cI, 300, .inl (fun _ => 0))), (k_steps_a_2, .inl (cI, 300, .inl (fun _ => 0))), (k_places_a_3, .inl (cI, 300, .inl (fun _ => 0)))] H := hP
  have hD : va_D A [(k_a, .inr (2, [.ref k_wanted_a_1, .ref k_steps_a_2, .ref k_places_a_3, .null, .null, .null, .int 0, .int 0, .int 0])), (k_wanted_a_1, .inl (cI, 300, .inl (fun _ => 0))), (k_steps_a_2, .inl (cI, 300, .inl (fun _ => 0))), (k_places_a_3, .inl (cI, 300, .inl (fun _ => 0)))] := hD
  refine lv_aload_n hx hb d_k_init_31 rfl (lv_at hl 0 rfl) ?_
  refine lv_sipush (v := 300) hx hb d_k_init_32 (by decide) ?_
  refine kt_newi (N' := 300) hx hb (hG _ mw_85) hK hP hD hS hA (by decide) (by decide) (by decide) (Nat.le_of_ble_eq_true rfl) (Nat.le_of_ble_eq_true rfl) d_k_init_35 (fun k_bundles_a_4 H hP hD hS => ?_)
  have hP : va_P D vwCl [(k_a, .inr (2, [.ref k_wanted_a_1, .ref k_steps_a_2, .ref k_places_a_3, .null, .null, .null, .int 0, .int 0, .int 0])), (k_wanted_a_1, .inl (cI, 300, .inl (fun _ => 0))), (k_steps_a_2, .inl (cI, 300, .inl (fun _ => 0))), (k_places_a_3, .inl (cI, 300, .inl (fun _ => 0))), (k_bundles_a_4, .inl (cI, 300, .inl (fun _ => 0)))] H := hP
  have hD : va_D A [(k_a, .inr (2, [.ref k_wanted_a_1, .ref k_steps_a_2, .ref k_places_a_3, .null, .null, .null, .int 0, .int 0, .int 0])), (k_wanted_a_1, .inl (cI, 300, .inl (fun _ => 0))), (k_steps_a_2, .inl (cI, 300, .inl (fun _ => 0))), (k_places_a_3, .inl (cI, 300, .inl (fun _ => 0))), (k_bundles_a_4, .inl (cI, 300, .inl (fun _ => 0)))] := hD
  refine va_putF (D := D) (ci := 2) (v := .ref k_bundles_a_4) (ty := .array .int) (C := "CutShears$CutBook") (T := T_k) (N := 9) hx hb hG hi_k ty_k ty_k_ok nm_k hown hK hP hD hS 0 rfl rfl 3 (by decide) (hG _ mw_138) (fun _ h9 => h9) rfl hname rfl (by decide +kernel) rfl rfl (Nat.le_of_ble_eq_true rfl) d_k_init_37 (fun H locs hP hD hS => ?_)
  have hP : va_P D vwCl [(k_a, .inr (2, [.ref k_wanted_a_1, .ref k_steps_a_2, .ref k_places_a_3, .ref k_bundles_a_4, .null, .null, .int 0, .int 0, .int 0])), (k_wanted_a_1, .inl (cI, 300, .inl (fun _ => 0))), (k_steps_a_2, .inl (cI, 300, .inl (fun _ => 0))), (k_places_a_3, .inl (cI, 300, .inl (fun _ => 0))), (k_bundles_a_4, .inl (cI, 300, .inl (fun _ => 0)))] H := hP
  have hD : va_D A [(k_a, .inr (2, [.ref k_wanted_a_1, .ref k_steps_a_2, .ref k_places_a_3, .ref k_bundles_a_4, .null, .null, .int 0, .int 0, .int 0])), (k_wanted_a_1, .inl (cI, 300, .inl (fun _ => 0))), (k_steps_a_2, .inl (cI, 300, .inl (fun _ => 0))), (k_places_a_3, .inl (cI, 300, .inl (fun _ => 0))), (k_bundles_a_4, .inl (cI, 300, .inl (fun _ => 0)))] := hD
  refine lv_aload_n hx hb d_k_init_40 rfl (lv_at hl 0 rfl) ?_
  refine lv_sipush (v := 300) hx hb d_k_init_41 (by decide) ?_
  refine kt_newi (N' := 300) hx hb (hG _ mw_85) hK hP hD hS hA (by decide) (by decide) (by decide) (Nat.le_of_ble_eq_true rfl) (Nat.le_of_ble_eq_true rfl) d_k_init_44 (fun k_sideCuts_a_5 H hP hD hS => ?_)
  have hP : va_P D vwCl [(k_a, .inr (2, [.ref k_wanted_a_1, .ref k_steps_a_2, .ref k_places_a_3, .ref k_bundles_a_4, .null, .null, .int 0, .int 0, .int 0])), (k_wanted_a_1, .inl (cI, 300, .inl (fun _ => 0))), (k_steps_a_2, .inl (cI, 300, .inl (fun _ => 0))), (k_places_a_3, .inl (cI, 300, .inl (fun _ => 0))), (k_bundles_a_4, .inl (cI, 300, .inl (fun _ => 0))), (k_sideCuts_a_5, .inl (cI, 300, .inl (fun _ => 0)))] H := hP
  have hD : va_D A [(k_a, .inr (2, [.ref k_wanted_a_1, .ref k_steps_a_2, .ref k_places_a_3, .ref k_bundles_a_4, .null, .null, .int 0, .int 0, .int 0])), (k_wanted_a_1, .inl (cI, 300, .inl (fun _ => 0))), (k_steps_a_2, .inl (cI, 300, .inl (fun _ => 0))), (k_places_a_3, .inl (cI, 300, .inl (fun _ => 0))), (k_bundles_a_4, .inl (cI, 300, .inl (fun _ => 0))), (k_sideCuts_a_5, .inl (cI, 300, .inl (fun _ => 0)))] := hD
  refine va_putF (D := D) (ci := 2) (v := .ref k_sideCuts_a_5) (ty := .array .int) (C := "CutShears$CutBook") (T := T_k) (N := 9) hx hb hG hi_k ty_k ty_k_ok nm_k hown hK hP hD hS 0 rfl rfl 4 (by decide) (hG _ mw_139) (fun _ h9 => h9) rfl hname rfl (by decide +kernel) rfl rfl (Nat.le_of_ble_eq_true rfl) d_k_init_46 (fun H locs hP hD hS => ?_)
  have hP : va_P D vwCl [(k_a, .inr (2, [.ref k_wanted_a_1, .ref k_steps_a_2, .ref k_places_a_3, .ref k_bundles_a_4, .ref k_sideCuts_a_5, .null, .int 0, .int 0, .int 0])), (k_wanted_a_1, .inl (cI, 300, .inl (fun _ => 0))), (k_steps_a_2, .inl (cI, 300, .inl (fun _ => 0))), (k_places_a_3, .inl (cI, 300, .inl (fun _ => 0))), (k_bundles_a_4, .inl (cI, 300, .inl (fun _ => 0))), (k_sideCuts_a_5, .inl (cI, 300, .inl (fun _ => 0)))] H := hP
  have hD : va_D A [(k_a, .inr (2, [.ref k_wanted_a_1, .ref k_steps_a_2, .ref k_places_a_3, .ref k_bundles_a_4, .ref k_sideCuts_a_5, .null, .int 0, .int 0, .int 0])), (k_wanted_a_1, .inl (cI, 300, .inl (fun _ => 0))), (k_steps_a_2, .inl (cI, 300, .inl (fun _ => 0))), (k_places_a_3, .inl (cI, 300, .inl (fun _ => 0))), (k_bundles_a_4, .inl (cI, 300, .inl (fun _ => 0))), (k_sideCuts_a_5, .inl (cI, 300, .inl (fun _ => 0)))] := hD
  refine lv_aload_n hx hb d_k_init_49 rfl (lv_at hl 0 rfl) ?_
  refine lv_bipush (v := 6) hx hb d_k_init_50 (by decide) ?_
  refine kt_newi (N' := 6) hx hb (hG _ mw_85) hK hP hD hS hA (by decide) (by decide) (by decide) (Nat.le_of_ble_eq_true rfl) (Nat.le_of_ble_eq_true rfl) d_k_init_52 (fun k_sums_a_6 H hP hD hS => ?_)
  have hP : va_P D vwCl [(k_a, .inr (2, [.ref k_wanted_a_1, .ref k_steps_a_2, .ref k_places_a_3, .ref k_bundles_a_4, .ref k_sideCuts_a_5, .null, .int 0, .int 0, .int 0])), (k_wanted_a_1, .inl (cI, 300, .inl (fun _ => 0))), (k_steps_a_2, .inl (cI, 300, .inl (fun _ => 0))), (k_places_a_3, .inl (cI, 300, .inl (fun _ => 0))), (k_bundles_a_4, .inl (cI, 300, .inl (fun _ => 0))), (k_sideCuts_a_5, .inl (cI, 300, .inl (fun _ => 0))), (k_sums_a_6, .inl (cI, 6, .inl (fun _ => 0)))] H := hP
  have hD : va_D A [(k_a, .inr (2, [.ref k_wanted_a_1, .ref k_steps_a_2, .ref k_places_a_3, .ref k_bundles_a_4, .ref k_sideCuts_a_5, .null, .int 0, .int 0, .int 0])), (k_wanted_a_1, .inl (cI, 300, .inl (fun _ => 0))), (k_steps_a_2, .inl (cI, 300, .inl (fun _ => 0))), (k_places_a_3, .inl (cI, 300, .inl (fun _ => 0))), (k_bundles_a_4, .inl (cI, 300, .inl (fun _ => 0))), (k_sideCuts_a_5, .inl (cI, 300, .inl (fun _ => 0))), (k_sums_a_6, .inl (cI, 6, .inl (fun _ => 0)))] := hD
  refine va_putF (D := D) (ci := 2) (v := .ref k_sums_a_6) (ty := .array .int) (C := "CutShears$CutBook") (T := T_k) (N := 9) hx hb hG hi_k ty_k ty_k_ok nm_k hown hK hP hD hS 0 rfl rfl 5 (by decide) (hG _ mw_140) (fun _ h9 => h9) rfl hname rfl (by decide +kernel) rfl rfl (Nat.le_of_ble_eq_true rfl) d_k_init_54 (fun H locs hP hD hS => ?_)
  have hP : va_P D vwCl [(k_a, .inr (2, [.ref k_wanted_a_1, .ref k_steps_a_2, .ref k_places_a_3, .ref k_bundles_a_4, .ref k_sideCuts_a_5, .ref k_sums_a_6, .int 0, .int 0, .int 0])), (k_wanted_a_1, .inl (cI, 300, .inl (fun _ => 0))), (k_steps_a_2, .inl (cI, 300, .inl (fun _ => 0))), (k_places_a_3, .inl (cI, 300, .inl (fun _ => 0))), (k_bundles_a_4, .inl (cI, 300, .inl (fun _ => 0))), (k_sideCuts_a_5, .inl (cI, 300, .inl (fun _ => 0))), (k_sums_a_6, .inl (cI, 6, .inl (fun _ => 0)))] H := hP
  have hD : va_D A [(k_a, .inr (2, [.ref k_wanted_a_1, .ref k_steps_a_2, .ref k_places_a_3, .ref k_bundles_a_4, .ref k_sideCuts_a_5, .ref k_sums_a_6, .int 0, .int 0, .int 0])), (k_wanted_a_1, .inl (cI, 300, .inl (fun _ => 0))), (k_steps_a_2, .inl (cI, 300, .inl (fun _ => 0))), (k_places_a_3, .inl (cI, 300, .inl (fun _ => 0))), (k_bundles_a_4, .inl (cI, 300, .inl (fun _ => 0))), (k_sideCuts_a_5, .inl (cI, 300, .inl (fun _ => 0))), (k_sums_a_6, .inl (cI, 6, .inl (fun _ => 0)))] := hD
  refine lv_aload_n hx hb d_k_init_57 rfl (lv_at hl 0 rfl) ?_
  refine lv_iconst (v := 0) hx hb d_k_init_58 (by decide) ?_
  refine va_put (D := D) (ci := 2) (v := .int 0) (ty := .int) (C := "CutShears$CutBook") (T := T_k) (N := 9) hx hb hG hi_k ty_k ty_k_ok nm_k hown hK hP hD hS 0 rfl rfl 6 (by decide) (hG _ mw_141) (fun _ h9 => h9) rfl (by decide +kernel) rfl rfl (Nat.le_of_ble_eq_true rfl) d_k_init_59 (fun H locs hP hD hS => ?_)
  have hP : va_P D vwCl [(k_a, .inr (2, [.ref k_wanted_a_1, .ref k_steps_a_2, .ref k_places_a_3, .ref k_bundles_a_4, .ref k_sideCuts_a_5, .ref k_sums_a_6, .int 0, .int 0, .int 0])), (k_wanted_a_1, .inl (cI, 300, .inl (fun _ => 0))), (k_steps_a_2, .inl (cI, 300, .inl (fun _ => 0))), (k_places_a_3, .inl (cI, 300, .inl (fun _ => 0))), (k_bundles_a_4, .inl (cI, 300, .inl (fun _ => 0))), (k_sideCuts_a_5, .inl (cI, 300, .inl (fun _ => 0))), (k_sums_a_6, .inl (cI, 6, .inl (fun _ => 0)))] H := hP
  have hD : va_D A [(k_a, .inr (2, [.ref k_wanted_a_1, .ref k_steps_a_2, .ref k_places_a_3, .ref k_bundles_a_4, .ref k_sideCuts_a_5, .ref k_sums_a_6, .int 0, .int 0, .int 0])), (k_wanted_a_1, .inl (cI, 300, .inl (fun _ => 0))), (k_steps_a_2, .inl (cI, 300, .inl (fun _ => 0))), (k_places_a_3, .inl (cI, 300, .inl (fun _ => 0))), (k_bundles_a_4, .inl (cI, 300, .inl (fun _ => 0))), (k_sideCuts_a_5, .inl (cI, 300, .inl (fun _ => 0))), (k_sums_a_6, .inl (cI, 6, .inl (fun _ => 0)))] := hD
  refine lv_aload_n hx hb d_k_init_62 rfl (lv_at hl 0 rfl) ?_
  refine lv_iconst (v := 0) hx hb d_k_init_63 (by decide) ?_
  refine va_put (D := D) (ci := 2) (v := .int 0) (ty := .int) (C := "CutShears$CutBook") (T := T_k) (N := 9) hx hb hG hi_k ty_k ty_k_ok nm_k hown hK hP hD hS 0 rfl rfl 7 (by decide) (hG _ mw_143) (fun _ h9 => h9) rfl (by decide +kernel) rfl rfl (Nat.le_of_ble_eq_true rfl) d_k_init_64 (fun H locs hP hD hS => ?_)
  have hP : va_P D vwCl [(k_a, .inr (2, [.ref k_wanted_a_1, .ref k_steps_a_2, .ref k_places_a_3, .ref k_bundles_a_4, .ref k_sideCuts_a_5, .ref k_sums_a_6, .int 0, .int 0, .int 0])), (k_wanted_a_1, .inl (cI, 300, .inl (fun _ => 0))), (k_steps_a_2, .inl (cI, 300, .inl (fun _ => 0))), (k_places_a_3, .inl (cI, 300, .inl (fun _ => 0))), (k_bundles_a_4, .inl (cI, 300, .inl (fun _ => 0))), (k_sideCuts_a_5, .inl (cI, 300, .inl (fun _ => 0))), (k_sums_a_6, .inl (cI, 6, .inl (fun _ => 0)))] H := hP
  have hD : va_D A [(k_a, .inr (2, [.ref k_wanted_a_1, .ref k_steps_a_2, .ref k_places_a_3, .ref k_bundles_a_4, .ref k_sideCuts_a_5, .ref k_sums_a_6, .int 0, .int 0, .int 0])), (k_wanted_a_1, .inl (cI, 300, .inl (fun _ => 0))), (k_steps_a_2, .inl (cI, 300, .inl (fun _ => 0))), (k_places_a_3, .inl (cI, 300, .inl (fun _ => 0))), (k_bundles_a_4, .inl (cI, 300, .inl (fun _ => 0))), (k_sideCuts_a_5, .inl (cI, 300, .inl (fun _ => 0))), (k_sums_a_6, .inl (cI, 6, .inl (fun _ => 0)))] := hD
  refine lv_aload_n hx hb d_k_init_67 rfl (lv_at hl 0 rfl) ?_
  refine lv_iconst (v := 0) hx hb d_k_init_68 (by decide) ?_
  refine va_put (D := D) (ci := 2) (v := .int 0) (ty := .int) (C := "CutShears$CutBook") (T := T_k) (N := 9) hx hb hG hi_k ty_k ty_k_ok nm_k hown hK hP hD hS 0 rfl rfl 8 (by decide) (hG _ mw_144) (fun _ h9 => h9) rfl (by decide +kernel) rfl rfl (Nat.le_of_ble_eq_true rfl) d_k_init_69 (fun H locs hP hD hS => ?_)
  have hP : va_P D vwCl [(k_a, .inr (2, [.ref k_wanted_a_1, .ref k_steps_a_2, .ref k_places_a_3, .ref k_bundles_a_4, .ref k_sideCuts_a_5, .ref k_sums_a_6, .int 0, .int 0, .int 0])), (k_wanted_a_1, .inl (cI, 300, .inl (fun _ => 0))), (k_steps_a_2, .inl (cI, 300, .inl (fun _ => 0))), (k_places_a_3, .inl (cI, 300, .inl (fun _ => 0))), (k_bundles_a_4, .inl (cI, 300, .inl (fun _ => 0))), (k_sideCuts_a_5, .inl (cI, 300, .inl (fun _ => 0))), (k_sums_a_6, .inl (cI, 6, .inl (fun _ => 0)))] H := hP
  have hD : va_D A [(k_a, .inr (2, [.ref k_wanted_a_1, .ref k_steps_a_2, .ref k_places_a_3, .ref k_bundles_a_4, .ref k_sideCuts_a_5, .ref k_sums_a_6, .int 0, .int 0, .int 0])), (k_wanted_a_1, .inl (cI, 300, .inl (fun _ => 0))), (k_steps_a_2, .inl (cI, 300, .inl (fun _ => 0))), (k_places_a_3, .inl (cI, 300, .inl (fun _ => 0))), (k_bundles_a_4, .inl (cI, 300, .inl (fun _ => 0))), (k_sideCuts_a_5, .inl (cI, 300, .inl (fun _ => 0))), (k_sums_a_6, .inl (cI, 6, .inl (fun _ => 0)))] := hD
  exact kt_vret hQ hx hb hr hlocks (k_wanted_a_1, k_steps_a_2, k_places_a_3, k_bundles_a_4, k_sideCuts_a_5, k_sums_a_6) hv (hP.sub [0, 1, 2, 3, 4, 5, 6] rfl) (hD.sub [0, 1, 2, 3, 4, 5, 6] (by decide) rfl) hS (Nat.le_of_ble_eq_true rfl) (Nat.le_of_ble_eq_true rfl) d_k_init_72
