/-! by program: contracts -/
set_option maxHeartbeats 4000000 in
set_option maxRecDepth 100000 in
theorem c_t_init (l : Launch) (D : va_G) (cI cJ cZ : ClassId) (t_a : Nat) (sz : Nat) {post : Prop} (hlt : l.stackTraces = false) (hv : vc_t_init post) :
    kt_Mv l y_t_init (.code y_t_init cc_t_init 1 none) rm_t_init D cI cJ cZ [(t_a, .inr (3, [.null, .null, .null, .null, .null, .null, .int 0]))] sz [.ref t_a] (fun (u : Nat × Nat × Nat × Nat × Nat × Nat) => post) (fun (u : Nat × Nat × Nat × Nat × Nat × Nat) => [(t_a, .inr (3, [.ref u.1, .ref u.2.1, .ref u.2.2.1, .ref u.2.2.2.1, .ref u.2.2.2.2.1, .ref u.2.2.2.2.2, .int 0])), (u.1, .inl (cI, 6, .inl (fun _ => 0))), (u.2.1, .inl (cI, 6, .inl (fun _ => 0))), (u.2.2.1, .inl (cI, 6, .inl (fun _ => 0))), (u.2.2.2.1, .inl (cI, 201, .inl (fun _ => 0))), (u.2.2.2.2.1, .inl (cI, 201, .inl (fun _ => 0))), (u.2.2.2.2.2, .inl (cI, 201, .inl (fun _ => 0)))]) 6 621 := by
  refine kt_ofM (cc := cc_t_init) (maxL := 1) (ret := none) (Qc := fun A => kt_Qv D A (fun (u : Nat × Nat × Nat × Nat × Nat × Nat) => post) (fun (u : Nat × Nat × Nat × Nat × Nat × Nat) => [(t_a, .inr (3, [.ref u.1, .ref u.2.1, .ref u.2.2.1, .ref u.2.2.2.1, .ref u.2.2.2.2.1, .ref u.2.2.2.2.2, .int 0])), (u.1, .inl (cI, 6, .inl (fun _ => 0))), (u.2.1, .inl (cI, 6, .inl (fun _ => 0))), (u.2.2.1, .inl (cI, 6, .inl (fun _ => 0))), (u.2.2.2.1, .inl (cI, 201, .inl (fun _ => 0))), (u.2.2.2.2.1, .inl (cI, 201, .inl (fun _ => 0))), (u.2.2.2.2.2, .inl (cI, 201, .inl (fun _ => 0)))])) (by decide) (Nat.le_of_ble_eq_true rfl) ?_
  intro p e s m args below meth c A Q hI hP hD hS hQ ls hl
  obtain ⟨hx, hb, hr, hG, hown, hlocks, hname, hml, hC, hZ, hA⟩ := hI
  have hown : s.vm.findClass "CutShears$LossTable" = some m.cls := hown
  have hname : meth.name = "<init>" := hname
  have hK := hC.1
  have hl : lv_has ls 1 [(0, .ref t_a)] := hl
  unfold vc_t_init at hv
  refine lv_aload_n hx hb d_t_init_0 rfl (lv_at hl 0 rfl) ?_
  refine W.objInit hx hb hown (hG _ mw_59) (hG _ mw_52) (hG _ mw_53) rfl (by rw [hml]; exact hl.1) rfl d_t_init_1 (Nat.le_of_ble_eq_true rfl) (Nat.le_of_ble_eq_true rfl) ?_
  refine W.eq (g2 := F0 m 4 ls []) rfl ?_
  refine lv_aload_n hx hb d_t_init_4 rfl (lv_at hl 0 rfl) ?_
  refine lv_bipush (v := 6) hx hb d_t_init_5 (by decide) ?_
  refine kt_newi (N' := 6) hx hb (hG _ mw_85) hK hP hD hS hA (by decide) (by decide) (by decide) (Nat.le_of_ble_eq_true rfl) (Nat.le_of_ble_eq_true rfl) d_t_init_7 (fun t_lows_a_1 H hP hD hS => ?_)
  have hP : va_P D vwCl [(t_a, .inr (3, [.null, .null, .null, .null, .null, .null, .int 0])), (t_lows_a_1, .inl (cI, 6, .inl (fun _ => 0)))] H := hP
  have hD : va_D A [(t_a, .inr (3, [.null, .null, .null, .null, .null, .null, .int 0])), (t_lows_a_1, .inl (cI, 6, .inl (fun _ => 0)))] := hD
  refine va_putF (D := D) (ci := 3) (v := .ref t_lows_a_1) (ty := .array .int) (C := "CutShears$LossTable") (T := T_t) (N := 7) hx hb hG hi_t ty_t ty_t_ok nm_t hown hK hP hD hS 0 rfl rfl 0 (by decide) (hG _ mw_60) (fun _ h9 => h9) rfl hname rfl (by decide +kernel) rfl rfl (Nat.le_of_ble_eq_true rfl) d_t_init_9 (fun H locs hP hD hS => ?_)
  have hP : va_P D vwCl [(t_a, .inr (3, [.ref t_lows_a_1, .null, .null, .null, .null, .null, .int 0])), (t_lows_a_1, .inl (cI, 6, .inl (fun _ => 0)))] H := hP
  have hD : va_D A [(t_a, .inr (3, [.ref t_lows_a_1, .null, .null, .null, .null, .null, .int 0])), (t_lows_a_1, .inl (cI, 6, .inl (fun _ => 0)))] := hD
  refine lv_aload_n hx hb d_t_init_12 rfl (lv_at hl 0 rfl) ?_
  refine lv_bipush (v := 6) hx hb d_t_init_13 (by decide) ?_
  refine kt_newi (N' := 6) hx hb (hG _ mw_85) hK hP hD hS hA (by decide) (by decide) (by decide) (Nat.le_of_ble_eq_true rfl) (Nat.le_of_ble_eq_true rfl) d_t_init_15 (fun t_highs_a_2 H hP hD hS => ?_)
  have hP : va_P D vwCl [(t_a, .inr (3, [.ref t_lows_a_1, .null, .null, .null, .null, .null, .int 0])), (t_lows_a_1, .inl (cI, 6, .inl (fun _ => 0))), (t_highs_a_2, .inl (cI, 6, .inl (fun _ => 0)))] H := hP
  have hD : va_D A [(t_a, .inr (3, [.ref t_lows_a_1, .null, .null, .null, .null, .null, .int 0])), (t_lows_a_1, .inl (cI, 6, .inl (fun _ => 0))), (t_highs_a_2, .inl (cI, 6, .inl (fun _ => 0)))] := hD
  refine va_putF (D := D) (ci := 3) (v := .ref t_highs_a_2) (ty := .array .int) (C := "CutShears$LossTable") (T := T_t) (N := 7) hx hb hG hi_t ty_t ty_t_ok nm_t hown hK hP hD hS 0 rfl rfl 1 (by decide) (hG _ mw_61) (fun _ h9 => h9) rfl hname rfl (by decide +kernel) rfl rfl (Nat.le_of_ble_eq_true rfl) d_t_init_17 (fun H locs hP hD hS => ?_)
  have hP : va_P D vwCl [(t_a, .inr (3, [.ref t_lows_a_1, .ref t_highs_a_2, .null, .null, .null, .null, .int 0])), (t_lows_a_1, .inl (cI, 6, .inl (fun _ => 0))), (t_highs_a_2, .inl (cI, 6, .inl (fun _ => 0)))] H := hP
  have hD : va_D A [(t_a, .inr (3, [.ref t_lows_a_1, .ref t_highs_a_2, .null, .null, .null, .null, .int 0])), (t_lows_a_1, .inl (cI, 6, .inl (fun _ => 0))), (t_highs_a_2, .inl (cI, 6, .inl (fun _ => 0)))] := hD
  refine lv_aload_n hx hb d_t_init_20 rfl (lv_at hl 0 rfl) ?_
  refine lv_bipush (v := 6) hx hb d_t_init_21 (by decide) ?_
  refine kt_newi (N' := 6) hx hb (hG _ mw_85) hK hP hD hS hA (by decide) (by decide) (by decide) (Nat.le_of_ble_eq_true rfl) (Nat.le_of_ble_eq_true rfl) d_t_init_23 (fun t_ranks_a_3 H hP hD hS => ?_)
  have hP : va_P D vwCl [(t_a, .inr (3, [.ref t_lows_a_1, .ref t_highs_a_2, .null, .null, .null, .null, .int 0])), (t_lows_a_1, .inl (cI, 6, .inl (fun _ => 0))), (t_highs_a_2, .inl (cI, 6, .inl (fun _ => 0))), (t_ranks_a_3, .inl (cI, 6, .inl (fun _ => 0)))] H := hP
  have hD : va_D A [(t_a, .inr (3, [.ref t_lows_a_1, .ref t_highs_a_2, .null, .null, .null, .null, .int 0])), (t_lows_a_1, .inl (cI, 6, .inl (fun _ => 0))), (t_highs_a_2, .inl (cI, 6, .inl (fun _ => 0))), (t_ranks_a_3, .inl (cI, 6, .inl (fun _ => 0)))] := hD
  refine va_putF (D := D) (ci := 3) (v := .ref t_ranks_a_3) (ty := .array .int) (C := "CutShears$LossTable") (T := T_t) (N := 7) hx hb hG hi_t ty_t ty_t_ok nm_t hown hK hP hD hS 0 rfl rfl 2 (by decide) (hG _ mw_62) (fun _ h9 => h9) rfl hname rfl (by decide +kernel) rfl rfl (Nat.le_of_ble_eq_true rfl) d_t_init_25 (fun H locs hP hD hS => ?_)
  have hP : va_P D vwCl [(t_a, .inr (3, [.ref t_lows_a_1, .ref t_highs_a_2, .ref t_ranks_a_3, .null, .null, .null, .int 0])), (t_lows_a_1, .inl (cI, 6, .inl (fun _ => 0))), (t_highs_a_2, .inl (cI, 6, .inl (fun _ => 0))), (t_ranks_a_3, .inl (cI, 6, .inl (fun _ => 0)))] H := hP
  have hD : va_D A [(t_a, .inr (3, [.ref t_lows_a_1, .ref t_highs_a_2, .ref t_ranks_a_3, .null, .null, .null, .int 0])), (t_lows_a_1, .inl (cI, 6, .inl (fun _ => 0))), (t_highs_a_2, .inl (cI, 6, .inl (fun _ => 0))), (t_ranks_a_3, .inl (cI, 6, .inl (fun _ => 0)))] := hD
  refine lv_aload_n hx hb d_t_init_28 rfl (lv_at hl 0 rfl) ?_
  refine lv_sipush (v := 201) hx hb d_t_init_29 (by decide) ?_
  refine kt_newi (N' := 201) hx hb (hG _ mw_85) hK hP hD hS hA (by decide) (by decide) (by decide) (Nat.le_of_ble_eq_true rfl) (Nat.le_of_ble_eq_true rfl) d_t_init_32 (fun t_costs_a_4 H hP hD hS => ?_)
  have hP : va_P D vwCl [(t_a, .inr (3, [.ref t_lows_a_1, .ref t_highs_a_2, .ref t_ranks_a_3, .null, .null, .null, .int 0])), (t_lows_a_1, .inl (cI, 6, .inl (fun _ => 0))), (t_highs_a_2, .inl (cI, 6, .inl (fun _ => 0))), (t_ranks_a_3, .inl (cI, 6, .inl (fun _ => 0))), (t_costs_a_4, .inl (cI, 201, .inl (fun _ => 0)))] H := hP
  have hD : va_D A [(t_a, .inr (3, [.ref t_lows_a_1, .ref t_highs_a_2, .ref t_ranks_a_3, .null, .null, .null, .int 0])), (t_lows_a_1, .inl (cI, 6, .inl (fun _ => 0))), (t_highs_a_2, .inl (cI, 6, .inl (fun _ => 0))), (t_ranks_a_3, .inl (cI, 6, .inl (fun _ => 0))), (t_costs_a_4, .inl (cI, 201, .inl (fun _ => 0)))] := hD
  refine va_putF (D := D) (ci := 3) (v := .ref t_costs_a_4) (ty := .array .int) (C := "CutShears$LossTable") (T := T_t) (N := 7) hx hb hG hi_t ty_t ty_t_ok nm_t hown hK hP hD hS 0 rfl rfl 3 (by decide) (hG _ mw_63) (fun _ h9 => h9) rfl hname rfl (by decide +kernel) rfl rfl (Nat.le_of_ble_eq_true rfl) d_t_init_34 (fun H locs hP hD hS => ?_)
  have hP : va_P D vwCl [(t_a, .inr (3, [.ref t_lows_a_1, .ref t_highs_a_2, .ref t_ranks_a_3, .ref t_costs_a_4, .null, .null, .int 0])), (t_lows_a_1, .inl (cI, 6, .inl (fun _ => 0))), (t_highs_a_2, .inl (cI, 6, .inl (fun _ => 0))), (t_ranks_a_3, .inl (cI, 6, .inl (fun _ => 0))), (t_costs_a_4, .inl (cI, 201, .inl (fun _ => 0)))] H := hP
  have hD : va_D A [(t_a, .inr (3, [.ref t_lows_a_1, .ref t_highs_a_2, .ref t_ranks_a_3, .ref t_costs_a_4, .null, .null, .int 0])), (t_lows_a_1, .inl (cI, 6, .inl (fun _ => 0))), (t_highs_a_2, .inl (cI, 6, .inl (fun _ => 0))), (t_ranks_a_3, .inl (cI, 6, .inl (fun _ => 0))), (t_costs_a_4, .inl (cI, 201, .inl (fun _ => 0)))] := hD
  refine lv_aload_n hx hb d_t_init_37 rfl (lv_at hl 0 rfl) ?_
  refine lv_sipush (v := 201) hx hb d_t_init_38 (by decide) ?_
  refine kt_newi (N' := 201) hx hb (hG _ mw_85) hK hP hD hS hA (by decide) (by decide) (by decide) (Nat.le_of_ble_eq_true rfl) (Nat.le_of_ble_eq_true rfl) d_t_init_41 (fun t_firstWanted_a_5 H hP hD hS => ?_)
  have hP : va_P D vwCl [(t_a, .inr (3, [.ref t_lows_a_1, .ref t_highs_a_2, .ref t_ranks_a_3, .ref t_costs_a_4, .null, .null, .int 0])), (t_lows_a_1, .inl (cI, 6, .inl (fun _ => 0))), (t_highs_a_2, .inl (cI, 6, .inl (fun _ => 0))), (t_ranks_a_3, .inl (cI, 6, .inl (fun _ => 0))), (t_costs_a_4, .inl (cI, 201, .inl (fun _ => 0))), (t_firstWanted_a_5, .inl (cI, 201, .inl (fun _ => 0)))] H := hP
  have hD : va_D A [(t_a, .inr (3, [.ref t_lows_a_1, .ref t_highs_a_2, .ref t_ranks_a_3, .ref t_costs_a_4, .null, .null, .int 0])), (t_lows_a_1, .inl (cI, 6, .inl (fun _ => 0))), (t_highs_a_2, .inl (cI, 6, .inl (fun _ => 0))), (t_ranks_a_3, .inl (cI, 6, .inl (fun _ => 0))), (t_costs_a_4, .inl (cI, 201, .inl (fun _ => 0))), (t_firstWanted_a_5, .inl (cI, 201, .inl (fun _ => 0)))] := hD
  refine va_putF (D := D) (ci := 3) (v := .ref t_firstWanted_a_5) (ty := .array .int) (C := "CutShears$LossTable") (T := T_t) (N := 7) hx hb hG hi_t ty_t ty_t_ok nm_t hown hK hP hD hS 0 rfl rfl 4 (by decide) (hG _ mw_64) (fun _ h9 => h9) rfl hname rfl (by decide +kernel) rfl rfl (Nat.le_of_ble_eq_true rfl) d_t_init_43 (fun H locs hP hD hS => ?_)
  have hP : va_P D vwCl [(t_a, .inr (3, [.ref t_lows_a_1, .ref t_highs_a_2, .ref t_ranks_a_3, .ref t_costs_a_4, .ref t_firstWanted_a_5, .null, .int 0])), (t_lows_a_1, .inl (cI, 6, .inl (fun _ => 0))), (t_highs_a_2, .inl (cI, 6, .inl (fun _ => 0))), (t_ranks_a_3, .inl (cI, 6, .inl (fun _ => 0))), (t_costs_a_4, .inl (cI, 201, .inl (fun _ => 0))), (t_firstWanted_a_5, .inl (cI, 201, .inl (fun _ => 0)))] H := hP
  have hD : va_D A [(t_a, .inr (3, [.ref t_lows_a_1, .ref t_highs_a_2, .ref t_ranks_a_3, .ref t_costs_a_4, .ref t_firstWanted_a_5, .null, .int 0])), (t_lows_a_1, .inl (cI, 6, .inl (fun _ => 0))), (t_highs_a_2, .inl (cI, 6, .inl (fun _ => 0))), (t_ranks_a_3, .inl (cI, 6, .inl (fun _ => 0))), (t_costs_a_4, .inl (cI, 201, .inl (fun _ => 0))), (t_firstWanted_a_5, .inl (cI, 201, .inl (fun _ => 0)))] := hD
  refine lv_aload_n hx hb d_t_init_46 rfl (lv_at hl 0 rfl) ?_
  refine lv_sipush (v := 201) hx hb d_t_init_47 (by decide) ?_
  refine kt_newi (N' := 201) hx hb (hG _ mw_85) hK hP hD hS hA (by decide) (by decide) (by decide) (Nat.le_of_ble_eq_true rfl) (Nat.le_of_ble_eq_true rfl) d_t_init_50 (fun t_firstSteps_a_6 H hP hD hS => ?_)
  have hP : va_P D vwCl [(t_a, .inr (3, [.ref t_lows_a_1, .ref t_highs_a_2, .ref t_ranks_a_3, .ref t_costs_a_4, .ref t_firstWanted_a_5, .null, .int 0])), (t_lows_a_1, .inl (cI, 6, .inl (fun _ => 0))), (t_highs_a_2, .inl (cI, 6, .inl (fun _ => 0))), (t_ranks_a_3, .inl (cI, 6, .inl (fun _ => 0))), (t_costs_a_4, .inl (cI, 201, .inl (fun _ => 0))), (t_firstWanted_a_5, .inl (cI, 201, .inl (fun _ => 0))), (t_firstSteps_a_6, .inl (cI, 201, .inl (fun _ => 0)))] H := hP
  have hD : va_D A [(t_a, .inr (3, [.ref t_lows_a_1, .ref t_highs_a_2, .ref t_ranks_a_3, .ref t_costs_a_4, .ref t_firstWanted_a_5, .null, .int 0])), (t_lows_a_1, .inl (cI, 6, .inl (fun _ => 0))), (t_highs_a_2, .inl (cI, 6, .inl (fun _ => 0))), (t_ranks_a_3, .inl (cI, 6, .inl (fun _ => 0))), (t_costs_a_4, .inl (cI, 201, .inl (fun _ => 0))), (t_firstWanted_a_5, .inl (cI, 201, .inl (fun _ => 0))), (t_firstSteps_a_6, .inl (cI, 201, .inl (fun _ => 0)))] := hD
  refine va_putF (D := D) (ci := 3) (v := .ref t_firstSteps_a_6) (ty := .array .int) (C := "CutShears$LossTable") (T := T_t) (N := 7) hx hb hG hi_t ty_t ty_t_ok nm_t hown hK hP hD hS 0 rfl rfl 5 (by decide) (hG _ mw_66) (fun _ h9 => h9) rfl hname rfl (by decide +kernel) rfl rfl (Nat.le_of_ble_eq_true rfl) d_t_init_52 (fun H locs hP hD hS => ?_)
  have hP : va_P D vwCl [(t_a, .inr (3, [.ref t_lows_a_1, .ref t_highs_a_2, .ref t_ranks_a_3, .ref t_costs_a_4, .ref t_firstWanted_a_5, .ref t_firstSteps_a_6, .int 0])), (t_lows_a_1, .inl (cI, 6, .inl (fun _ => 0))), (t_highs_a_2, .inl (cI, 6, .inl (fun _ => 0))), (t_ranks_a_3, .inl (cI, 6, .inl (fun _ => 0))), (t_costs_a_4, .inl (cI, 201, .inl (fun _ => 0))), (t_firstWanted_a_5, .inl (cI, 201, .inl (fun _ => 0))), (t_firstSteps_a_6, .inl (cI, 201, .inl (fun _ => 0)))] H := hP
  have hD : va_D A [(t_a, .inr (3, [.ref t_lows_a_1, .ref t_highs_a_2, .ref t_ranks_a_3, .ref t_costs_a_4, .ref t_firstWanted_a_5, .ref t_firstSteps_a_6, .int 0])), (t_lows_a_1, .inl (cI, 6, .inl (fun _ => 0))), (t_highs_a_2, .inl (cI, 6, .inl (fun _ => 0))), (t_ranks_a_3, .inl (cI, 6, .inl (fun _ => 0))), (t_costs_a_4, .inl (cI, 201, .inl (fun _ => 0))), (t_firstWanted_a_5, .inl (cI, 201, .inl (fun _ => 0))), (t_firstSteps_a_6, .inl (cI, 201, .inl (fun _ => 0)))] := hD
  refine lv_aload_n hx hb d_t_init_55 rfl (lv_at hl 0 rfl) ?_
  refine lv_iconst (v := 0) hx hb d_t_init_56 (by decide) ?_
  refine va_put (D := D) (ci := 3) (v := .int 0) (ty := .int) (C := "CutShears$LossTable") (T := T_t) (N := 7) hx hb hG hi_t ty_t ty_t_ok nm_t hown hK hP hD hS 0 rfl rfl 6 (by decide) (hG _ mw_68) (fun _ h9 => h9) rfl (by decide +kernel) rfl rfl (Nat.le_of_ble_eq_true rfl) d_t_init_57 (fun H locs hP hD hS => ?_)
  have hP : va_P D vwCl [(t_a, .inr (3, [.ref t_lows_a_1, .ref t_highs_a_2, .ref t_ranks_a_3, .ref t_costs_a_4, .ref t_firstWanted_a_5, .ref t_firstSteps_a_6, .int 0])), (t_lows_a_1, .inl (cI, 6, .inl (fun _ => 0))), (t_highs_a_2, .inl (cI, 6, .inl (fun _ => 0))), (t_ranks_a_3, .inl (cI, 6, .inl (fun _ => 0))), (t_costs_a_4, .inl (cI, 201, .inl (fun _ => 0))), (t_firstWanted_a_5, .inl (cI, 201, .inl (fun _ => 0))), (t_firstSteps_a_6, .inl (cI, 201, .inl (fun _ => 0)))] H := hP
  have hD : va_D A [(t_a, .inr (3, [.ref t_lows_a_1, .ref t_highs_a_2, .ref t_ranks_a_3, .ref t_costs_a_4, .ref t_firstWanted_a_5, .ref t_firstSteps_a_6, .int 0])), (t_lows_a_1, .inl (cI, 6, .inl (fun _ => 0))), (t_highs_a_2, .inl (cI, 6, .inl (fun _ => 0))), (t_ranks_a_3, .inl (cI, 6, .inl (fun _ => 0))), (t_costs_a_4, .inl (cI, 201, .inl (fun _ => 0))), (t_firstWanted_a_5, .inl (cI, 201, .inl (fun _ => 0))), (t_firstSteps_a_6, .inl (cI, 201, .inl (fun _ => 0)))] := hD
  exact kt_vret hQ hx hb hr hlocks (t_lows_a_1, t_highs_a_2, t_ranks_a_3, t_costs_a_4, t_firstWanted_a_5, t_firstSteps_a_6) hv (hP.sub [0, 1, 2, 3, 4, 5, 6] rfl) (hD.sub [0, 1, 2, 3, 4, 5, 6] (by decide) rfl) hS (Nat.le_of_ble_eq_true rfl) (Nat.le_of_ble_eq_true rfl) d_t_init_60
set_option maxHeartbeats 4000000 in
set_option maxRecDepth 100000 in
theorem c_t_tryFirst (l : Launch) (D : va_G) (cI cJ cZ : ClassId) (t_a t_lows_a t_highs_a t_ranks_a t_costs_a t_firstWanted_a t_firstSteps_a : Nat) (sz : Nat) (t_lows : Nat → Int32) (t_highs : Nat → Int32) (t_ranks : Nat → Int32) (t_costs : Nat → Int32) (t_firstWanted : Nat → Int32) (t_firstSteps : Nat → Int32) (t_count : Int32) (p1 : Int32) (p2 : Int32) {post : (Nat → Int32) → (Nat → Int32) → (Nat → Int32) → Prop} (hlt : l.stackTraces = false) (hv : vc_t_tryFirst t_lows t_highs t_ranks t_costs t_firstWanted t_firstSteps p1 p2 post) :
    kt_Mv l y_t_tryFirst (.code y_t_tryFirst cc_t_tryFirst 7 none) rm_t_tryFirst D cI cJ cZ [(t_a, .inr (3, [.ref t_lows_a, .ref t_highs_a, .ref t_ranks_a, .ref t_costs_a, .ref t_firstWanted_a, .ref t_firstSteps_a, .int t_count])), (t_lows_a, .inl (cI, 6, .inl t_lows)), (t_highs_a, .inl (cI, 6, .inl t_highs)), (t_ranks_a, .inl (cI, 6, .inl t_ranks)), (t_costs_a, .inl (cI, 201, .inl t_costs)), (t_firstWanted_a, .inl (cI, 201, .inl t_firstWanted)), (t_firstSteps_a, .inl (cI, 201, .inl t_firstSteps))] sz [.ref t_a, .int p1, .int p2] (fun (u : (Nat → Int32) × (Nat → Int32) × (Nat → Int32)) => post (u.1) (u.2.1) (u.2.2)) (fun (u : (Nat → Int32) × (Nat → Int32) × (Nat → Int32)) => [(t_a, .inr (3, [.ref t_lows_a, .ref t_highs_a, .ref t_ranks_a, .ref t_costs_a, .ref t_firstWanted_a, .ref t_firstSteps_a, .int t_count])), (t_lows_a, .inl (cI, 6, .inl t_lows)), (t_highs_a, .inl (cI, 6, .inl t_highs)), (t_ranks_a, .inl (cI, 6, .inl t_ranks)), (t_costs_a, .inl (cI, 201, .inl (u.1))), (t_firstWanted_a, .inl (cI, 201, .inl (u.2.1))), (t_firstSteps_a, .inl (cI, 201, .inl (u.2.2)))]) 0 0 := by
  refine kt_ofM (cc := cc_t_tryFirst) (maxL := 7) (ret := none) (Qc := fun A => kt_Qv D A (fun (u : (Nat → Int32) × (Nat → Int32) × (Nat → Int32)) => post (u.1) (u.2.1) (u.2.2)) (fun (u : (Nat → Int32) × (Nat → Int32) × (Nat → Int32)) => [(t_a, .inr (3, [.ref t_lows_a, .ref t_highs_a, .ref t_ranks_a, .ref t_costs_a, .ref t_firstWanted_a, .ref t_firstSteps_a, .int t_count])), (t_lows_a, .inl (cI, 6, .inl t_lows)), (t_highs_a, .inl (cI, 6, .inl t_highs)), (t_ranks_a, .inl (cI, 6, .inl t_ranks)), (t_costs_a, .inl (cI, 201, .inl (u.1))), (t_firstWanted_a, .inl (cI, 201, .inl (u.2.1))), (t_firstSteps_a, .inl (cI, 201, .inl (u.2.2)))])) (by decide) (Nat.le_of_ble_eq_true rfl) ?_
  intro p e s m args below meth c A Q hI hP hD hS hQ ls hl
  obtain ⟨hx, hb, hr, hG, hown, hlocks, hname, hml, hC, hZ, hA⟩ := hI
  have hown : s.vm.findClass "CutShears$LossTable" = some m.cls := hown
  have hK := hC.1
  have hl : lv_has ls 7 [(0, .ref t_a), (1, .int p1), (2, .int p2)] := hl
  unfold vc_t_tryFirst at hv
  refine lv_aload_n hx hb d_t_tryFirst_0 rfl (lv_at hl 0 rfl) ?_
  refine va_get (D := D) (ci := 3) (v := .ref t_highs_a) (C := "CutShears$LossTable") (T := T_t) (N := 7) hx hb hG hi_t hown hK hP 0 rfl rfl 1 (by decide) (hG _ mw_61) (fun _ h9 => h9) rfl d_t_tryFirst_1 ?_
  refine lv_iload_n hx hb d_t_tryFirst_4 rfl (lv_at hl 2 rfl) ?_
  obtain ⟨hin, hv⟩ := hv
  refine va_iald hx hb hK hP 2 0 rfl rfl hin d_t_tryFirst_5 ?_
  refine lv_iload_n hx hb d_t_tryFirst_6 rfl (lv_at hl 1 rfl) ?_
  refine va_mmin hx hb (by rw [hml]; exact hl.1.symm) hown (hG _ mw_317) (hG _ mw_318) (hG _ mw_43) (hG _ mw_319) (Nat.le_of_ble_eq_true rfl) (Nat.le_of_ble_eq_true rfl) (Nat.zero_le _) (Nat.zero_le _) d_t_tryFirst_7 ?_
  refine lv_topi (fun v_1 ev_1 => ?_)
  replace hv := hv v_1 ev_1
  refine lv_istore_n (lv' := [(3, .int v_1), (0, .ref t_a), (1, .int p1), (2, .int p2)]) hx hb d_t_tryFirst_10 rfl hl (by decide) rfl (fun ls hl => ?_)
  refine lv_iconst (v := 1) hx hb d_t_tryFirst_11 (by decide) ?_
  refine lv_aload_n hx hb d_t_tryFirst_12 rfl (lv_at hl 1 rfl) ?_
  refine va_get (D := D) (ci := 3) (v := .ref t_ranks_a) (C := "CutShears$LossTable") (T := T_t) (N := 7) hx hb hG hi_t hown hK hP 0 rfl rfl 2 (by decide) (hG _ mw_62) (fun _ h9 => h9) rfl d_t_tryFirst_13 ?_
  refine lv_iload_n hx hb d_t_tryFirst_16 rfl (lv_at hl 3 rfl) ?_
  obtain ⟨hin, hv⟩ := hv
  refine va_iald hx hb hK hP 3 0 rfl rfl hin d_t_tryFirst_17 ?_
  refine lv_sipush (v := 256) hx hb d_t_tryFirst_18 (by decide) ?_
  refine lv_imul hx hb d_t_tryFirst_21 ?_
  refine lv_isub hx hb d_t_tryFirst_22 ?_
  refine lv_topi (fun v_2 ev_2 => ?_)
  replace hv := hv v_2 ev_2
  refine lv_istore (lv' := [(4, .int v_2), (3, .int v_1), (0, .ref t_a), (1, .int p1), (2, .int p2)]) hx hb d_t_tryFirst_23 hl (by decide) rfl (fun ls hl => ?_)
  refine lv_aload_n hx hb d_t_tryFirst_25 rfl (lv_at hl 2 rfl) ?_
  refine va_get (D := D) (ci := 3) (v := .ref t_lows_a) (C := "CutShears$LossTable") (T := T_t) (N := 7) hx hb hG hi_t hown hK hP 0 rfl rfl 0 (by decide) (hG _ mw_60) (fun _ h9 => h9) rfl d_t_tryFirst_26 ?_
  refine lv_iload_n hx hb d_t_tryFirst_29 rfl (lv_at hl 4 rfl) ?_
  obtain ⟨hin, hv⟩ := hv
  refine va_iald hx hb hK hP 1 0 rfl rfl hin d_t_tryFirst_30 ?_
  refine lv_topi (fun v_3 ev_3 => ?_)
  replace hv := hv v_3 ev_3
  refine lv_istore (lv' := [(5, .int v_3), (4, .int v_2), (3, .int v_1), (0, .ref t_a), (1, .int p1), (2, .int p2)]) hx hb d_t_tryFirst_31 hl (by decide) rfl (fun ls hl => ?_)
  obtain ⟨n33, hv⟩ := hv
  have loop33 : ∀ (n33 : Nat) (v_4 : Int32) (t_costs_5 : Nat → Int32) (t_firstWanted_6 : Nat → Int32) (t_firstSteps_7 : Nat → Int32), vc_t_tryFirst_L33 p1 p2 v_1 v_2 post n33 v_4 t_costs_5 t_firstWanted_6 t_firstSteps_7 → ∀ (H : Heap) (locs : List Loc), va_P D vwCl [(t_a, .inr (3, [.ref t_lows_a, .ref t_highs_a, .ref t_ranks_a, .ref t_costs_a, .ref t_firstWanted_a, .ref t_firstSteps_a, .int t_count])), (t_lows_a, .inl (cI, 6, .inl t_lows)), (t_highs_a, .inl (cI, 6, .inl t_highs)), (t_ranks_a, .inl (cI, 6, .inl t_ranks)), (t_costs_a, .inl (cI, 201, .inl t_costs_5)), (t_firstWanted_a, .inl (cI, 201, .inl t_firstWanted_6)), (t_firstSteps_a, .inl (cI, 201, .inl t_firstSteps_7))] H → va_D A [(t_a, .inr (3, [.ref t_lows_a, .ref t_highs_a, .ref t_ranks_a, .ref t_costs_a, .ref t_firstWanted_a, .ref t_firstSteps_a, .int t_count])), (t_lows_a, .inl (cI, 6, .inl t_lows)), (t_highs_a, .inl (cI, 6, .inl t_highs)), (t_ranks_a, .inl (cI, 6, .inl t_ranks)), (t_costs_a, .inl (cI, 201, .inl t_costs_5)), (t_firstWanted_a, .inl (cI, 201, .inl t_firstWanted_6)), (t_firstSteps_a, .inl (cI, 201, .inl t_firstSteps_7))] → va_S A s.heap H locs → ∀ ls, lv_has ls 7 [(5, .int v_4), (4, .int v_2), (3, .int v_1), (0, .ref t_a), (1, .int p1), (2, .int p2)] → W p l e rm_t_tryFirst s m args below meth c H locs 0 0 Q (F0 m 33 ls []) := by
    intro n33
    induction n33 with
    | zero =>
      intro v_4 t_costs_5 t_firstWanted_6 t_firstSteps_7 hv
      unfold vc_t_tryFirst_L33 at hv
      exact hv.elim
    | succ n33 ih33 =>
      intro v_4 t_costs_5 t_firstWanted_6 t_firstSteps_7 hv H locs hP hD hS ls hl
      unfold vc_t_tryFirst_L33 at hv
      refine lv_iload hx hb d_t_tryFirst_33 (lv_at hl 0 rfl) ?_
      refine lv_iload_n hx hb d_t_tryFirst_35 rfl (lv_at hl 2 rfl) ?_
      refine lv_icmp_gt (tgt := 93) hx hb d_t_tryFirst_36 (by decide) (fun c_8 => ?_) (fun c_8 => ?_)
      · replace hv := hv.1 c_8
        exact kt_vret hQ hx hb hr hlocks (t_costs_5, t_firstWanted_6, t_firstSteps_7) hv (hP.sub [0, 1, 2, 3, 4, 5, 6] rfl) (hD.sub [0, 1, 2, 3, 4, 5, 6] (by decide) rfl) hS (Nat.le_of_ble_eq_true rfl) (Nat.le_of_ble_eq_true rfl) d_t_tryFirst_93
      · replace hv := hv.2 c_8
        refine lv_aload_n hx hb d_t_tryFirst_39 rfl (lv_at hl 3 rfl) ?_
        refine va_get (D := D) (ci := 3) (v := .ref t_costs_a) (C := "CutShears$LossTable") (T := T_t) (N := 7) hx hb hG hi_t hown hK hP 0 rfl rfl 3 (by decide) (hG _ mw_63) (fun _ h9 => h9) rfl d_t_tryFirst_40 ?_
        refine lv_iload_n hx hb d_t_tryFirst_43 rfl (lv_at hl 4 rfl) ?_
        refine lv_iload hx hb d_t_tryFirst_44 (lv_at hl 0 rfl) ?_
        refine lv_isub hx hb d_t_tryFirst_46 ?_
        obtain ⟨hin, hv⟩ := hv
        refine va_iald hx hb hK hP 4 0 rfl rfl hin d_t_tryFirst_47 ?_
        refine lv_iload hx hb d_t_tryFirst_48 (lv_at hl 1 rfl) ?_
        refine lv_iadd hx hb d_t_tryFirst_50 ?_
        refine lv_topi (fun v_9 ev_9 => ?_)
        replace hv := hv v_9 ev_9
        refine lv_istore (lv' := [(6, .int v_9), (5, .int v_4), (4, .int v_2), (3, .int v_1), (0, .ref t_a), (1, .int p1), (2, .int p2)]) hx hb d_t_tryFirst_51 hl (by decide) rfl (fun ls hl => ?_)
        refine lv_iload hx hb d_t_tryFirst_53 (lv_at hl 0 rfl) ?_
        refine lv_aload_n hx hb d_t_tryFirst_55 rfl (lv_at hl 4 rfl) ?_
        refine va_get (D := D) (ci := 3) (v := .ref t_costs_a) (C := "CutShears$LossTable") (T := T_t) (N := 7) hx hb hG hi_t hown hK hP 0 rfl rfl 3 (by decide) (hG _ mw_63) (fun _ h9 => h9) rfl d_t_tryFirst_56 ?_
        refine lv_iload_n hx hb d_t_tryFirst_59 rfl (lv_at hl 5 rfl) ?_
        obtain ⟨hin, hv⟩ := hv
        refine va_iald hx hb hK hP 4 0 rfl rfl hin d_t_tryFirst_60 ?_
        refine lv_icmp_ge (tgt := 87) hx hb d_t_tryFirst_61 (by decide) (fun c_10 => ?_) (fun c_10 => ?_)
        · replace hv := hv.1 c_10
          obtain ⟨v_11, ev_11⟩ : ∃ y : Int32, y = v_4 + 1 := ⟨_, rfl⟩
          replace hv := hv v_11 ev_11
          refine lv_iinc (v := v_11) (lv' := [(5, .int v_11), (6, .int v_9), (4, .int v_2), (3, .int v_1), (0, .ref t_a), (1, .int p1), (2, .int p2)]) hx hb d_t_tryFirst_87 hl (k := 1) rfl (by rw [ev_11]; rfl) (by decide) rfl (fun ls hl => ?_)
          refine lv_goto (tgt := 33) hx hb d_t_tryFirst_90 (by decide) ?_
          exact ih33 v_11 t_costs_5 t_firstWanted_6 t_firstSteps_7 hv _ _ (hP.sub [0, 1, 2, 3, 4, 5, 6] rfl) (hD.sub [0, 1, 2, 3, 4, 5, 6] (by decide) rfl) hS ls (lv_sub hl [0, 2, 3, 4, 5, 6] rfl)
        · replace hv := hv.2 c_10
          refine lv_aload_n hx hb d_t_tryFirst_64 rfl (lv_at hl 4 rfl) ?_
          refine va_get (D := D) (ci := 3) (v := .ref t_costs_a) (C := "CutShears$LossTable") (T := T_t) (N := 7) hx hb hG hi_t hown hK hP 0 rfl rfl 3 (by decide) (hG _ mw_63) (fun _ h9 => h9) rfl d_t_tryFirst_65 ?_
          refine lv_iload_n hx hb d_t_tryFirst_68 rfl (lv_at hl 5 rfl) ?_
          refine lv_iload hx hb d_t_tryFirst_69 (lv_at hl 0 rfl) ?_
          obtain ⟨hin, hv⟩ := hv
          refine va_iast hx hb hK hP hD hS 4 0 rfl rfl hin d_t_tryFirst_71 (fun H locs hP hD hS => ?_)
          have hP : va_P D vwCl [(t_a, .inr (3, [.ref t_lows_a, .ref t_highs_a, .ref t_ranks_a, .ref t_costs_a, .ref t_firstWanted_a, .ref t_firstSteps_a, .int t_count])), (t_lows_a, .inl (cI, 6, .inl t_lows)), (t_highs_a, .inl (cI, 6, .inl t_highs)), (t_ranks_a, .inl (cI, 6, .inl t_ranks)), (t_costs_a, .inl (cI, 201, .inl (upd t_costs_5 p1.toNatClampNeg v_9))), (t_firstWanted_a, .inl (cI, 201, .inl t_firstWanted_6)), (t_firstSteps_a, .inl (cI, 201, .inl t_firstSteps_7))] H := hP
          have hD : va_D A [(t_a, .inr (3, [.ref t_lows_a, .ref t_highs_a, .ref t_ranks_a, .ref t_costs_a, .ref t_firstWanted_a, .ref t_firstSteps_a, .int t_count])), (t_lows_a, .inl (cI, 6, .inl t_lows)), (t_highs_a, .inl (cI, 6, .inl t_highs)), (t_ranks_a, .inl (cI, 6, .inl t_ranks)), (t_costs_a, .inl (cI, 201, .inl (upd t_costs_5 p1.toNatClampNeg v_9))), (t_firstWanted_a, .inl (cI, 201, .inl t_firstWanted_6)), (t_firstSteps_a, .inl (cI, 201, .inl t_firstSteps_7))] := hD
          refine lv_aload_n hx hb d_t_tryFirst_72 rfl (lv_at hl 4 rfl) ?_
          refine va_get (D := D) (ci := 3) (v := .ref t_firstWanted_a) (C := "CutShears$LossTable") (T := T_t) (N := 7) hx hb hG hi_t hown hK hP 0 rfl rfl 4 (by decide) (hG _ mw_64) (fun _ h9 => h9) rfl d_t_tryFirst_73 ?_
          refine lv_iload_n hx hb d_t_tryFirst_76 rfl (lv_at hl 5 rfl) ?_
          refine lv_iload_n hx hb d_t_tryFirst_77 rfl (lv_at hl 6 rfl) ?_
          obtain ⟨hin, hv⟩ := hv
          refine va_iast hx hb hK hP hD hS 5 0 rfl rfl hin d_t_tryFirst_78 (fun H locs hP hD hS => ?_)
          have hP : va_P D vwCl [(t_a, .inr (3, [.ref t_lows_a, .ref t_highs_a, .ref t_ranks_a, .ref t_costs_a, .ref t_firstWanted_a, .ref t_firstSteps_a, .int t_count])), (t_lows_a, .inl (cI, 6, .inl t_lows)), (t_highs_a, .inl (cI, 6, .inl t_highs)), (t_ranks_a, .inl (cI, 6, .inl t_ranks)), (t_costs_a, .inl (cI, 201, .inl (upd t_costs_5 p1.toNatClampNeg v_9))), (t_firstWanted_a, .inl (cI, 201, .inl (upd t_firstWanted_6 p1.toNatClampNeg p2))), (t_firstSteps_a, .inl (cI, 201, .inl t_firstSteps_7))] H := hP
          have hD : va_D A [(t_a, .inr (3, [.ref t_lows_a, .ref t_highs_a, .ref t_ranks_a, .ref t_costs_a, .ref t_firstWanted_a, .ref t_firstSteps_a, .int t_count])), (t_lows_a, .inl (cI, 6, .inl t_lows)), (t_highs_a, .inl (cI, 6, .inl t_highs)), (t_ranks_a, .inl (cI, 6, .inl t_ranks)), (t_costs_a, .inl (cI, 201, .inl (upd t_costs_5 p1.toNatClampNeg v_9))), (t_firstWanted_a, .inl (cI, 201, .inl (upd t_firstWanted_6 p1.toNatClampNeg p2))), (t_firstSteps_a, .inl (cI, 201, .inl t_firstSteps_7))] := hD
          refine lv_aload_n hx hb d_t_tryFirst_79 rfl (lv_at hl 4 rfl) ?_
          refine va_get (D := D) (ci := 3) (v := .ref t_firstSteps_a) (C := "CutShears$LossTable") (T := T_t) (N := 7) hx hb hG hi_t hown hK hP 0 rfl rfl 5 (by decide) (hG _ mw_66) (fun _ h9 => h9) rfl d_t_tryFirst_80 ?_
          refine lv_iload_n hx hb d_t_tryFirst_83 rfl (lv_at hl 5 rfl) ?_
          refine lv_iload hx hb d_t_tryFirst_84 (lv_at hl 1 rfl) ?_
          obtain ⟨hin, hv⟩ := hv
          refine va_iast hx hb hK hP hD hS 6 0 rfl rfl hin d_t_tryFirst_86 (fun H locs hP hD hS => ?_)
          have hP : va_P D vwCl [(t_a, .inr (3, [.ref t_lows_a, .ref t_highs_a, .ref t_ranks_a, .ref t_costs_a, .ref t_firstWanted_a, .ref t_firstSteps_a, .int t_count])), (t_lows_a, .inl (cI, 6, .inl t_lows)), (t_highs_a, .inl (cI, 6, .inl t_highs)), (t_ranks_a, .inl (cI, 6, .inl t_ranks)), (t_costs_a, .inl (cI, 201, .inl (upd t_costs_5 p1.toNatClampNeg v_9))), (t_firstWanted_a, .inl (cI, 201, .inl (upd t_firstWanted_6 p1.toNatClampNeg p2))), (t_firstSteps_a, .inl (cI, 201, .inl (upd t_firstSteps_7 p1.toNatClampNeg v_4)))] H := hP
          have hD : va_D A [(t_a, .inr (3, [.ref t_lows_a, .ref t_highs_a, .ref t_ranks_a, .ref t_costs_a, .ref t_firstWanted_a, .ref t_firstSteps_a, .int t_count])), (t_lows_a, .inl (cI, 6, .inl t_lows)), (t_highs_a, .inl (cI, 6, .inl t_highs)), (t_ranks_a, .inl (cI, 6, .inl t_ranks)), (t_costs_a, .inl (cI, 201, .inl (upd t_costs_5 p1.toNatClampNeg v_9))), (t_firstWanted_a, .inl (cI, 201, .inl (upd t_firstWanted_6 p1.toNatClampNeg p2))), (t_firstSteps_a, .inl (cI, 201, .inl (upd t_firstSteps_7 p1.toNatClampNeg v_4)))] := hD
          obtain ⟨v_12, ev_12⟩ : ∃ y : Int32, y = v_4 + 1 := ⟨_, rfl⟩
          replace hv := hv v_12 ev_12
          refine lv_iinc (v := v_12) (lv' := [(5, .int v_12), (6, .int v_9), (4, .int v_2), (3, .int v_1), (0, .ref t_a), (1, .int p1), (2, .int p2)]) hx hb d_t_tryFirst_87 hl (k := 1) rfl (by rw [ev_12]; rfl) (by decide) rfl (fun ls hl => ?_)
          refine lv_goto (tgt := 33) hx hb d_t_tryFirst_90 (by decide) ?_
          exact ih33 v_12 (upd t_costs_5 p1.toNatClampNeg v_9) (upd t_firstWanted_6 p1.toNatClampNeg p2) (upd t_firstSteps_7 p1.toNatClampNeg v_4) hv _ _ (hP.sub [0, 1, 2, 3, 4, 5, 6] rfl) (hD.sub [0, 1, 2, 3, 4, 5, 6] (by decide) rfl) hS ls (lv_sub hl [0, 2, 3, 4, 5, 6] rfl)
  exact loop33 n33 v_3 t_costs t_firstWanted t_firstSteps hv _ _ hP hD hS ls hl
set_option maxHeartbeats 4000000 in
set_option maxRecDepth 100000 in
theorem c_t_fill (l : Launch) (D : va_G) (cI cJ cZ : ClassId) (t_a t_lows_a t_highs_a t_ranks_a t_costs_a t_firstWanted_a t_firstSteps_a : Nat) (sz : Nat) (t_lows : Nat → Int32) (t_highs : Nat → Int32) (t_ranks : Nat → Int32) (t_costs : Nat → Int32) (t_firstWanted : Nat → Int32) (t_firstSteps : Nat → Int32) (t_count : Int32) {post : (Nat → Int32) → (Nat → Int32) → (Nat → Int32) → Prop} (hlt : l.stackTraces = false) (hv : vc_t_fill t_lows t_highs t_ranks t_costs t_firstWanted t_firstSteps t_count post) :
    kt_Mv l y_t_fill (.code y_t_fill cc_t_fill 3 none) rm_t_fill D cI cJ cZ [(t_a, .inr (3, [.ref t_lows_a, .ref t_highs_a, .ref t_ranks_a, .ref t_costs_a, .ref t_firstWanted_a, .ref t_firstSteps_a, .int t_count])), (t_lows_a, .inl (cI, 6, .inl t_lows)), (t_highs_a, .inl (cI, 6, .inl t_highs)), (t_ranks_a, .inl (cI, 6, .inl t_ranks)), (t_costs_a, .inl (cI, 201, .inl t_costs)), (t_firstWanted_a, .inl (cI, 201, .inl t_firstWanted)), (t_firstSteps_a, .inl (cI, 201, .inl t_firstSteps))] sz [.ref t_a] (fun (u : (Nat → Int32) × (Nat → Int32) × (Nat → Int32)) => post (u.1) (u.2.1) (u.2.2)) (fun (u : (Nat → Int32) × (Nat → Int32) × (Nat → Int32)) => [(t_a, .inr (3, [.ref t_lows_a, .ref t_highs_a, .ref t_ranks_a, .ref t_costs_a, .ref t_firstWanted_a, .ref t_firstSteps_a, .int t_count])), (t_lows_a, .inl (cI, 6, .inl t_lows)), (t_highs_a, .inl (cI, 6, .inl t_highs)), (t_ranks_a, .inl (cI, 6, .inl t_ranks)), (t_costs_a, .inl (cI, 201, .inl (u.1))), (t_firstWanted_a, .inl (cI, 201, .inl (u.2.1))), (t_firstSteps_a, .inl (cI, 201, .inl (u.2.2)))]) 0 0 := by
  refine kt_ofM (cc := cc_t_fill) (maxL := 3) (ret := none) (Qc := fun A => kt_Qv D A (fun (u : (Nat → Int32) × (Nat → Int32) × (Nat → Int32)) => post (u.1) (u.2.1) (u.2.2)) (fun (u : (Nat → Int32) × (Nat → Int32) × (Nat → Int32)) => [(t_a, .inr (3, [.ref t_lows_a, .ref t_highs_a, .ref t_ranks_a, .ref t_costs_a, .ref t_firstWanted_a, .ref t_firstSteps_a, .int t_count])), (t_lows_a, .inl (cI, 6, .inl t_lows)), (t_highs_a, .inl (cI, 6, .inl t_highs)), (t_ranks_a, .inl (cI, 6, .inl t_ranks)), (t_costs_a, .inl (cI, 201, .inl (u.1))), (t_firstWanted_a, .inl (cI, 201, .inl (u.2.1))), (t_firstSteps_a, .inl (cI, 201, .inl (u.2.2)))])) (by decide) (Nat.le_of_ble_eq_true rfl) ?_
  intro p e s m args below meth c A Q hI hP hD hS hQ ls hl
  obtain ⟨hx, hb, hr, hG, hown, hlocks, hname, hml, hC, hZ, hA⟩ := hI
  have hown : s.vm.findClass "CutShears$LossTable" = some m.cls := hown
  have hK := hC.1
  have hl : lv_has ls 3 [(0, .ref t_a)] := hl
  unfold vc_t_fill at hv
  refine lv_iconst (v := 0) hx hb d_t_fill_0 (by decide) ?_
  refine lv_istore_n (lv' := [(1, .int 0), (0, .ref t_a)]) hx hb d_t_fill_1 rfl hl (by decide) rfl (fun ls hl => ?_)
  obtain ⟨n2, hv⟩ := hv
  have loop2 : ∀ (n2 : Nat) (v_1 : Int32) (t_costs_2 : Nat → Int32) (t_firstWanted_3 : Nat → Int32) (t_firstSteps_4 : Nat → Int32), vc_t_fill_L2 t_lows t_highs t_ranks t_count post n2 v_1 t_costs_2 t_firstWanted_3 t_firstSteps_4 → ∀ (H : Heap) (locs : List Loc), va_P D vwCl [(t_a, .inr (3, [.ref t_lows_a, .ref t_highs_a, .ref t_ranks_a, .ref t_costs_a, .ref t_firstWanted_a, .ref t_firstSteps_a, .int t_count])), (t_lows_a, .inl (cI, 6, .inl t_lows)), (t_highs_a, .inl (cI, 6, .inl t_highs)), (t_ranks_a, .inl (cI, 6, .inl t_ranks)), (t_costs_a, .inl (cI, 201, .inl t_costs_2)), (t_firstWanted_a, .inl (cI, 201, .inl t_firstWanted_3)), (t_firstSteps_a, .inl (cI, 201, .inl t_firstSteps_4))] H → va_D A [(t_a, .inr (3, [.ref t_lows_a, .ref t_highs_a, .ref t_ranks_a, .ref t_costs_a, .ref t_firstWanted_a, .ref t_firstSteps_a, .int t_count])), (t_lows_a, .inl (cI, 6, .inl t_lows)), (t_highs_a, .inl (cI, 6, .inl t_highs)), (t_ranks_a, .inl (cI, 6, .inl t_ranks)), (t_costs_a, .inl (cI, 201, .inl t_costs_2)), (t_firstWanted_a, .inl (cI, 201, .inl t_firstWanted_3)), (t_firstSteps_a, .inl (cI, 201, .inl t_firstSteps_4))] → va_S A s.heap H locs → ∀ ls, lv_has ls 3 [(1, .int v_1), (0, .ref t_a)] → W p l e rm_t_fill s m args below meth c H locs 0 0 Q (F0 m 2 ls []) := by
    intro n2
    induction n2 with
    | zero =>
      intro v_1 t_costs_2 t_firstWanted_3 t_firstSteps_4 hv
      unfold vc_t_fill_L2 at hv
      exact hv.elim
    | succ n2 ih2 =>
      intro v_1 t_costs_2 t_firstWanted_3 t_firstSteps_4 hv H locs hP hD hS ls hl
      unfold vc_t_fill_L2 at hv
      refine lv_iload_n hx hb d_t_fill_2 rfl (lv_at hl 0 rfl) ?_
      refine lv_sipush (v := 200) hx hb d_t_fill_3 (by decide) ?_
      refine lv_icmp_gt (tgt := 61) hx hb d_t_fill_6 (by decide) (fun c_5 => ?_) (fun c_5 => ?_)
      · replace hv := hv.1 c_5
        exact kt_vret hQ hx hb hr hlocks (t_costs_2, t_firstWanted_3, t_firstSteps_4) hv (hP.sub [0, 1, 2, 3, 4, 5, 6] rfl) (hD.sub [0, 1, 2, 3, 4, 5, 6] (by decide) rfl) hS (Nat.le_of_ble_eq_true rfl) (Nat.le_of_ble_eq_true rfl) d_t_fill_61
      · replace hv := hv.2 c_5
        refine lv_aload_n hx hb d_t_fill_9 rfl (lv_at hl 1 rfl) ?_
        refine va_get (D := D) (ci := 3) (v := .ref t_costs_a) (C := "CutShears$LossTable") (T := T_t) (N := 7) hx hb hG hi_t hown hK hP 0 rfl rfl 3 (by decide) (hG _ mw_63) (fun _ h9 => h9) rfl d_t_fill_10 ?_
        refine lv_iload_n hx hb d_t_fill_13 rfl (lv_at hl 0 rfl) ?_
        refine lv_iload_n hx hb d_t_fill_14 rfl (lv_at hl 0 rfl) ?_
        refine lv_ldc (v := 1048576) hx hb hown (hG _ mw_312) d_t_fill_15 ?_
        refine lv_imul hx hb d_t_fill_17 ?_
        refine lv_topi (fun v_6 ev_6 => ?_)
        replace hv := hv v_6 ev_6
        obtain ⟨hin, hv⟩ := hv
        refine va_iast hx hb hK hP hD hS 4 0 rfl rfl hin d_t_fill_18 (fun H locs hP hD hS => ?_)
        have hP : va_P D vwCl [(t_a, .inr (3, [.ref t_lows_a, .ref t_highs_a, .ref t_ranks_a, .ref t_costs_a, .ref t_firstWanted_a, .ref t_firstSteps_a, .int t_count])), (t_lows_a, .inl (cI, 6, .inl t_lows)), (t_highs_a, .inl (cI, 6, .inl t_highs)), (t_ranks_a, .inl (cI, 6, .inl t_ranks)), (t_costs_a, .inl (cI, 201, .inl (upd t_costs_2 v_1.toNatClampNeg v_6))), (t_firstWanted_a, .inl (cI, 201, .inl t_firstWanted_3)), (t_firstSteps_a, .inl (cI, 201, .inl t_firstSteps_4))] H := hP
        have hD : va_D A [(t_a, .inr (3, [.ref t_lows_a, .ref t_highs_a, .ref t_ranks_a, .ref t_costs_a, .ref t_firstWanted_a, .ref t_firstSteps_a, .int t_count])), (t_lows_a, .inl (cI, 6, .inl t_lows)), (t_highs_a, .inl (cI, 6, .inl t_highs)), (t_ranks_a, .inl (cI, 6, .inl t_ranks)), (t_costs_a, .inl (cI, 201, .inl (upd t_costs_2 v_1.toNatClampNeg v_6))), (t_firstWanted_a, .inl (cI, 201, .inl t_firstWanted_3)), (t_firstSteps_a, .inl (cI, 201, .inl t_firstSteps_4))] := hD
        refine lv_aload_n hx hb d_t_fill_19 rfl (lv_at hl 1 rfl) ?_
        refine va_get (D := D) (ci := 3) (v := .ref t_firstWanted_a) (C := "CutShears$LossTable") (T := T_t) (N := 7) hx hb hG hi_t hown hK hP 0 rfl rfl 4 (by decide) (hG _ mw_64) (fun _ h9 => h9) rfl d_t_fill_20 ?_
        refine lv_iload_n hx hb d_t_fill_23 rfl (lv_at hl 0 rfl) ?_
        refine lv_iconst (v := (-1)) hx hb d_t_fill_24 (by decide) ?_
        obtain ⟨hin, hv⟩ := hv
        refine va_iast hx hb hK hP hD hS 5 0 rfl rfl hin d_t_fill_25 (fun H locs hP hD hS => ?_)
        have hP : va_P D vwCl [(t_a, .inr (3, [.ref t_lows_a, .ref t_highs_a, .ref t_ranks_a, .ref t_costs_a, .ref t_firstWanted_a, .ref t_firstSteps_a, .int t_count])), (t_lows_a, .inl (cI, 6, .inl t_lows)), (t_highs_a, .inl (cI, 6, .inl t_highs)), (t_ranks_a, .inl (cI, 6, .inl t_ranks)), (t_costs_a, .inl (cI, 201, .inl (upd t_costs_2 v_1.toNatClampNeg v_6))), (t_firstWanted_a, .inl (cI, 201, .inl (upd t_firstWanted_3 v_1.toNatClampNeg (-1)))), (t_firstSteps_a, .inl (cI, 201, .inl t_firstSteps_4))] H := hP
        have hD : va_D A [(t_a, .inr (3, [.ref t_lows_a, .ref t_highs_a, .ref t_ranks_a, .ref t_costs_a, .ref t_firstWanted_a, .ref t_firstSteps_a, .int t_count])), (t_lows_a, .inl (cI, 6, .inl t_lows)), (t_highs_a, .inl (cI, 6, .inl t_highs)), (t_ranks_a, .inl (cI, 6, .inl t_ranks)), (t_costs_a, .inl (cI, 201, .inl (upd t_costs_2 v_1.toNatClampNeg v_6))), (t_firstWanted_a, .inl (cI, 201, .inl (upd t_firstWanted_3 v_1.toNatClampNeg (-1)))), (t_firstSteps_a, .inl (cI, 201, .inl t_firstSteps_4))] := hD
        refine lv_aload_n hx hb d_t_fill_26 rfl (lv_at hl 1 rfl) ?_
        refine va_get (D := D) (ci := 3) (v := .ref t_firstSteps_a) (C := "CutShears$LossTable") (T := T_t) (N := 7) hx hb hG hi_t hown hK hP 0 rfl rfl 5 (by decide) (hG _ mw_66) (fun _ h9 => h9) rfl d_t_fill_27 ?_
        refine lv_iload_n hx hb d_t_fill_30 rfl (lv_at hl 0 rfl) ?_
        refine lv_iconst (v := 0) hx hb d_t_fill_31 (by decide) ?_
        obtain ⟨hin, hv⟩ := hv
        refine va_iast hx hb hK hP hD hS 6 0 rfl rfl hin d_t_fill_32 (fun H locs hP hD hS => ?_)
        have hP : va_P D vwCl [(t_a, .inr (3, [.ref t_lows_a, .ref t_highs_a, .ref t_ranks_a, .ref t_costs_a, .ref t_firstWanted_a, .ref t_firstSteps_a, .int t_count])), (t_lows_a, .inl (cI, 6, .inl t_lows)), (t_highs_a, .inl (cI, 6, .inl t_highs)), (t_ranks_a, .inl (cI, 6, .inl t_ranks)), (t_costs_a, .inl (cI, 201, .inl (upd t_costs_2 v_1.toNatClampNeg v_6))), (t_firstWanted_a, .inl (cI, 201, .inl (upd t_firstWanted_3 v_1.toNatClampNeg (-1)))), (t_firstSteps_a, .inl (cI, 201, .inl (upd t_firstSteps_4 v_1.toNatClampNeg 0)))] H := hP
        have hD : va_D A [(t_a, .inr (3, [.ref t_lows_a, .ref t_highs_a, .ref t_ranks_a, .ref t_costs_a, .ref t_firstWanted_a, .ref t_firstSteps_a, .int t_count])), (t_lows_a, .inl (cI, 6, .inl t_lows)), (t_highs_a, .inl (cI, 6, .inl t_highs)), (t_ranks_a, .inl (cI, 6, .inl t_ranks)), (t_costs_a, .inl (cI, 201, .inl (upd t_costs_2 v_1.toNatClampNeg v_6))), (t_firstWanted_a, .inl (cI, 201, .inl (upd t_firstWanted_3 v_1.toNatClampNeg (-1)))), (t_firstSteps_a, .inl (cI, 201, .inl (upd t_firstSteps_4 v_1.toNatClampNeg 0)))] := hD
        refine lv_iconst (v := 0) hx hb d_t_fill_33 (by decide) ?_
        refine lv_istore_n (lv' := [(2, .int 0), (1, .int v_1), (0, .ref t_a)]) hx hb d_t_fill_34 rfl hl (by decide) rfl (fun ls hl => ?_)
        obtain ⟨n35, hv⟩ := hv
        have loop35 : ∀ (n35 : Nat) (v_7 : Int32) (t_costs_8 : Nat → Int32) (t_firstWanted_9 : Nat → Int32) (t_firstSteps_10 : Nat → Int32), vc_t_fill_L35 t_lows t_highs t_ranks t_count v_1 (fun (v_1k : Int32) (t_costs_2k : Nat → Int32) (t_firstWanted_3k : Nat → Int32) (t_firstSteps_4k : Nat → Int32) => vc_t_fill_L2 t_lows t_highs t_ranks t_count post n2 v_1k t_costs_2k t_firstWanted_3k t_firstSteps_4k) n35 v_7 t_costs_8 t_firstWanted_9 t_firstSteps_10 → ∀ (H : Heap) (locs : List Loc), va_P D vwCl [(t_a, .inr (3, [.ref t_lows_a, .ref t_highs_a, .ref t_ranks_a, .ref t_costs_a, .ref t_firstWanted_a, .ref t_firstSteps_a, .int t_count])), (t_lows_a, .inl (cI, 6, .inl t_lows)), (t_highs_a, .inl (cI, 6, .inl t_highs)), (t_ranks_a, .inl (cI, 6, .inl t_ranks)), (t_costs_a, .inl (cI, 201, .inl t_costs_8)), (t_firstWanted_a, .inl (cI, 201, .inl t_firstWanted_9)), (t_firstSteps_a, .inl (cI, 201, .inl t_firstSteps_10))] H → va_D A [(t_a, .inr (3, [.ref t_lows_a, .ref t_highs_a, .ref t_ranks_a, .ref t_costs_a, .ref t_firstWanted_a, .ref t_firstSteps_a, .int t_count])), (t_lows_a, .inl (cI, 6, .inl t_lows)), (t_highs_a, .inl (cI, 6, .inl t_highs)), (t_ranks_a, .inl (cI, 6, .inl t_ranks)), (t_costs_a, .inl (cI, 201, .inl t_costs_8)), (t_firstWanted_a, .inl (cI, 201, .inl t_firstWanted_9)), (t_firstSteps_a, .inl (cI, 201, .inl t_firstSteps_10))] → va_S A s.heap H locs → ∀ ls, lv_has ls 3 [(2, .int v_7), (1, .int v_1), (0, .ref t_a)] → W p l e rm_t_fill s m args below meth c H locs 0 0 Q (F0 m 35 ls []) := by
          intro n35
          induction n35 with
          | zero =>
            intro v_7 t_costs_8 t_firstWanted_9 t_firstSteps_10 hv
            unfold vc_t_fill_L35 at hv
            exact hv.elim
          | succ n35 ih35 =>
            intro v_7 t_costs_8 t_firstWanted_9 t_firstSteps_10 hv H locs hP hD hS ls hl
            unfold vc_t_fill_L35 at hv
            refine lv_iload_n hx hb d_t_fill_35 rfl (lv_at hl 0 rfl) ?_
            refine lv_aload_n hx hb d_t_fill_36 rfl (lv_at hl 2 rfl) ?_
            refine va_get (D := D) (ci := 3) (v := .int t_count) (C := "CutShears$LossTable") (T := T_t) (N := 7) hx hb hG hi_t hown hK hP 0 rfl rfl 6 (by decide) (hG _ mw_68) (fun _ h9 => h9) rfl d_t_fill_37 ?_
            refine lv_icmp_ge (tgt := 55) hx hb d_t_fill_40 (by decide) (fun c_11 => ?_) (fun c_11 => ?_)
            · replace hv := hv.1 c_11
              obtain ⟨v_12, ev_12⟩ : ∃ y : Int32, y = v_1 + 1 := ⟨_, rfl⟩
              replace hv := hv v_12 ev_12
              refine lv_iinc (v := v_12) (lv' := [(1, .int v_12), (2, .int v_7), (0, .ref t_a)]) hx hb d_t_fill_55 hl (k := 1) rfl (by rw [ev_12]; rfl) (by decide) rfl (fun ls hl => ?_)
              refine lv_goto (tgt := 2) hx hb d_t_fill_58 (by decide) ?_
              exact ih2 v_12 t_costs_8 t_firstWanted_9 t_firstSteps_10 hv _ _ (hP.sub [0, 1, 2, 3, 4, 5, 6] rfl) (hD.sub [0, 1, 2, 3, 4, 5, 6] (by decide) rfl) hS ls (lv_sub hl [0, 2] rfl)
            · replace hv := hv.2 c_11
              refine lv_aload_n hx hb d_t_fill_43 rfl (lv_at hl 2 rfl) ?_
              refine lv_iload_n hx hb d_t_fill_44 rfl (lv_at hl 1 rfl) ?_
              refine lv_iload_n hx hb d_t_fill_45 rfl (lv_at hl 0 rfl) ?_
              refine kt_callv (wc := [(t_a, .inr (3, [.ref t_lows_a, .ref t_highs_a, .ref t_ranks_a, .ref t_costs_a, .ref t_firstWanted_a, .ref t_firstSteps_a, .int t_count])), (t_lows_a, .inl (cI, 6, .inl t_lows)), (t_highs_a, .inl (cI, 6, .inl t_highs)), (t_ranks_a, .inl (cI, 6, .inl t_ranks)), (t_costs_a, .inl (cI, 201, .inl t_costs_8)), (t_firstWanted_a, .inl (cI, 201, .inl t_firstWanted_9)), (t_firstSteps_a, .inl (cI, 201, .inl t_firstSteps_10))]) (wr := []) hA hP hD hS [0, 1, 2, 3, 4, 5, 6] [] rfl rfl (by decide) (by decide) (va_runV (As := [.int v_1, .int v_7]) (rest := []) ⟨hx, hb, hml, hown, hG⟩ (c_t_tryFirst l D cI cJ cZ t_a t_lows_a t_highs_a t_ranks_a t_costs_a t_firstWanted_a t_firstSteps_a _ t_lows t_highs t_ranks t_costs_8 t_firstWanted_9 t_firstSteps_10 t_count v_1 v_7 hlt hv) ⟨callB_of 2 hG (kt_g0 mw_316) rfl rfl rfl (hG _ mw_33) (hG _ mw_313) (by decide +kernel) ⟨Nat.le_of_ble_eq_true rfl, Nat.le_of_ble_eq_true rfl⟩, (hG _ mw_315), (hG _ mw_3)⟩ (kt_preV hC hZ hA hP hD hS [0, 1, 2, 3, 4, 5, 6] (by decide) rfl (ci := 3) (k0 := 0) rfl rfl) rfl rfl hl.1 rfl (lv_room (Nat.le_of_ble_eq_true rfl)) d_t_fill_46 ⟨Nat.le_of_ble_eq_true rfl, Nat.le_of_ble_eq_true rfl⟩) (fun u H locs hv hP hD hS => ?_)
              obtain ⟨t_costs_13, t_firstWanted_14, t_firstSteps_15⟩ := u
              try dsimp only at hv
              have hP : va_P D vwCl [(t_a, .inr (3, [.ref t_lows_a, .ref t_highs_a, .ref t_ranks_a, .ref t_costs_a, .ref t_firstWanted_a, .ref t_firstSteps_a, .int t_count])), (t_lows_a, .inl (cI, 6, .inl t_lows)), (t_highs_a, .inl (cI, 6, .inl t_highs)), (t_ranks_a, .inl (cI, 6, .inl t_ranks)), (t_costs_a, .inl (cI, 201, .inl t_costs_13)), (t_firstWanted_a, .inl (cI, 201, .inl t_firstWanted_14)), (t_firstSteps_a, .inl (cI, 201, .inl t_firstSteps_15))] H := hP
              have hD : va_D A [(t_a, .inr (3, [.ref t_lows_a, .ref t_highs_a, .ref t_ranks_a, .ref t_costs_a, .ref t_firstWanted_a, .ref t_firstSteps_a, .int t_count])), (t_lows_a, .inl (cI, 6, .inl t_lows)), (t_highs_a, .inl (cI, 6, .inl t_highs)), (t_ranks_a, .inl (cI, 6, .inl t_ranks)), (t_costs_a, .inl (cI, 201, .inl t_costs_13)), (t_firstWanted_a, .inl (cI, 201, .inl t_firstWanted_14)), (t_firstSteps_a, .inl (cI, 201, .inl t_firstSteps_15))] := hD
              obtain ⟨v_16, ev_16⟩ : ∃ y : Int32, y = v_7 + 1 := ⟨_, rfl⟩
              replace hv := hv v_16 ev_16
              refine lv_iinc (v := v_16) (lv' := [(2, .int v_16), (1, .int v_1), (0, .ref t_a)]) hx hb d_t_fill_49 hl (k := 0) rfl (by rw [ev_16]; rfl) (by decide) rfl (fun ls hl => ?_)
              refine lv_goto (tgt := 35) hx hb d_t_fill_52 (by decide) ?_
              exact ih35 v_16 t_costs_13 t_firstWanted_14 t_firstSteps_15 hv _ _ (hP.sub [0, 1, 2, 3, 4, 5, 6] rfl) (hD.sub [0, 1, 2, 3, 4, 5, 6] (by decide) rfl) hS ls (lv_sub hl [0, 1, 2] rfl)
        exact loop35 n35 0 (upd t_costs_2 v_1.toNatClampNeg v_6) (upd t_firstWanted_3 v_1.toNatClampNeg (-1)) (upd t_firstSteps_4 v_1.toNatClampNeg 0) hv _ _ hP hD hS ls hl
  exact loop2 n2 0 t_costs t_firstWanted t_firstSteps hv _ _ hP hD hS ls hl
set_option maxHeartbeats 4000000 in
set_option maxRecDepth 100000 in
theorem c_t_add (l : Launch) (D : va_G) (cI cJ cZ : ClassId) (t_a t_lows_a t_highs_a t_ranks_a t_costs_a t_firstWanted_a t_firstSteps_a : Nat) (sz : Nat) (t_lows : Nat → Int32) (t_highs : Nat → Int32) (t_ranks : Nat → Int32) (t_costs : Nat → Int32) (t_firstWanted : Nat → Int32) (t_firstSteps : Nat → Int32) (t_count : Int32) (p1 : Int32) (p2 : Int32) (p3 : Int32) {post : Int32 → Int32 → (Nat → Int32) → (Nat → Int32) → (Nat → Int32) → (Nat → Int32) → (Nat → Int32) → (Nat → Int32) → Prop} {postX : String → Prop} (hlt : l.stackTraces = false) (hv : vc_t_add t_lows t_highs t_ranks t_costs t_firstWanted t_firstSteps t_count p1 p2 p3 post postX) :
    kt_Xi l y_t_add (.code y_t_add cc_t_add 4 (some .int)) rm_t_add D cI cJ cZ [(t_a, .inr (3, [.ref t_lows_a, .ref t_highs_a, .ref t_ranks_a, .ref t_costs_a, .ref t_firstWanted_a, .ref t_firstSteps_a, .int t_count])), (t_lows_a, .inl (cI, 6, .inl t_lows)), (t_highs_a, .inl (cI, 6, .inl t_highs)), (t_ranks_a, .inl (cI, 6, .inl t_ranks)), (t_costs_a, .inl (cI, 201, .inl t_costs)), (t_firstWanted_a, .inl (cI, 201, .inl t_firstWanted)), (t_firstSteps_a, .inl (cI, 201, .inl t_firstSteps))] sz [.ref t_a, .int p1, .int p2, .int p3] (fun (r : Int32) (u : Int32 × (Nat → Int32) × (Nat → Int32) × (Nat → Int32) × (Nat → Int32) × (Nat → Int32) × (Nat → Int32)) => post r (u.1) (u.2.1) (u.2.2.1) (u.2.2.2.1) (u.2.2.2.2.1) (u.2.2.2.2.2.1) (u.2.2.2.2.2.2)) (fun (u : Int32 × (Nat → Int32) × (Nat → Int32) × (Nat → Int32) × (Nat → Int32) × (Nat → Int32) × (Nat → Int32)) => [(t_a, .inr (3, [.ref t_lows_a, .ref t_highs_a, .ref t_ranks_a, .ref t_costs_a, .ref t_firstWanted_a, .ref t_firstSteps_a, .int (u.1)])), (t_lows_a, .inl (cI, 6, .inl (u.2.1))), (t_highs_a, .inl (cI, 6, .inl (u.2.2.1))), (t_ranks_a, .inl (cI, 6, .inl (u.2.2.2.1))), (t_costs_a, .inl (cI, 201, .inl (u.2.2.2.2.1))), (t_firstWanted_a, .inl (cI, 201, .inl (u.2.2.2.2.2.1))), (t_firstSteps_a, .inl (cI, 201, .inl (u.2.2.2.2.2.2)))]) postX 1 6 := by
  refine kt_ofX (cc := cc_t_add) (maxL := 4) (ret := (some .int)) (Qc := fun A => kt_Qi D A (fun (r : Int32) (u : Int32 × (Nat → Int32) × (Nat → Int32) × (Nat → Int32) × (Nat → Int32) × (Nat → Int32) × (Nat → Int32)) => post r (u.1) (u.2.1) (u.2.2.1) (u.2.2.2.1) (u.2.2.2.2.1) (u.2.2.2.2.2.1) (u.2.2.2.2.2.2)) (fun (u : Int32 × (Nat → Int32) × (Nat → Int32) × (Nat → Int32) × (Nat → Int32) × (Nat → Int32) × (Nat → Int32)) => [(t_a, .inr (3, [.ref t_lows_a, .ref t_highs_a, .ref t_ranks_a, .ref t_costs_a, .ref t_firstWanted_a, .ref t_firstSteps_a, .int (u.1)])), (t_lows_a, .inl (cI, 6, .inl (u.2.1))), (t_highs_a, .inl (cI, 6, .inl (u.2.2.1))), (t_ranks_a, .inl (cI, 6, .inl (u.2.2.2.1))), (t_costs_a, .inl (cI, 201, .inl (u.2.2.2.2.1))), (t_firstWanted_a, .inl (cI, 201, .inl (u.2.2.2.2.2.1))), (t_firstSteps_a, .inl (cI, 201, .inl (u.2.2.2.2.2.2)))])) (XC := fun A => kt_X D A [(t_a, .inr (3, [.ref t_lows_a, .ref t_highs_a, .ref t_ranks_a, .ref t_costs_a, .ref t_firstWanted_a, .ref t_firstSteps_a, .int t_count])), (t_lows_a, .inl (cI, 6, .inl t_lows)), (t_highs_a, .inl (cI, 6, .inl t_highs)), (t_ranks_a, .inl (cI, 6, .inl t_ranks)), (t_costs_a, .inl (cI, 201, .inl t_costs)), (t_firstWanted_a, .inl (cI, 201, .inl t_firstWanted)), (t_firstSteps_a, .inl (cI, 201, .inl t_firstSteps))] postX) (by decide) (Nat.le_of_ble_eq_true rfl) ?_
  intro p e s m args below meth c A Q hI htab hP hD hS hQ ls hl
  obtain ⟨hx, hb, hr, hG, hown, hlocks, hname, hml, hC, hZ, hA⟩ := hI
  have hown : s.vm.findClass "CutShears$LossTable" = some m.cls := hown
  have hK := hC.1
  have hl : lv_has ls 4 [(0, .ref t_a), (1, .int p1), (2, .int p2), (3, .int p3)] := hl
  unfold vc_t_add at hv
  refine lv_aload_n hx hb d_t_add_0 rfl (lv_at hl 0 rfl) ?_
  refine va_get (D := D) (ci := 3) (v := .int t_count) (C := "CutShears$LossTable") (T := T_t) (N := 7) hx hb hG hi_t hown hK hP 0 rfl rfl 6 (by decide) (hG _ mw_68) (fun _ h9 => h9) rfl d_t_add_1 ?_
  refine lv_bipush (v := 6) hx hb d_t_add_4 (by decide) ?_
  refine lv_icmp_lt (tgt := 19) hx hb d_t_add_6 (by decide) (fun c_1 => ?_) (fun c_1 => ?_)
  · replace hv := hv.1 c_1
    refine lv_aload_n hx hb d_t_add_19 rfl (lv_at hl 0 rfl) ?_
    refine va_get (D := D) (ci := 3) (v := .ref t_lows_a) (C := "CutShears$LossTable") (T := T_t) (N := 7) hx hb hG hi_t hown hK hP 0 rfl rfl 0 (by decide) (hG _ mw_60) (fun _ h9 => h9) rfl d_t_add_20 ?_
    refine lv_aload_n hx hb d_t_add_23 rfl (lv_at hl 0 rfl) ?_
    refine va_get (D := D) (ci := 3) (v := .int t_count) (C := "CutShears$LossTable") (T := T_t) (N := 7) hx hb hG hi_t hown hK hP 0 rfl rfl 6 (by decide) (hG _ mw_68) (fun _ h9 => h9) rfl d_t_add_24 ?_
    refine lv_iload_n hx hb d_t_add_27 rfl (lv_at hl 1 rfl) ?_
    obtain ⟨hin, hv⟩ := hv
    refine va_iast hx hb hK hP hD hS 1 0 rfl rfl hin d_t_add_28 (fun H locs hP hD hS => ?_)
    have hP : va_P D vwCl [(t_a, .inr (3, [.ref t_lows_a, .ref t_highs_a, .ref t_ranks_a, .ref t_costs_a, .ref t_firstWanted_a, .ref t_firstSteps_a, .int t_count])), (t_lows_a, .inl (cI, 6, .inl (upd t_lows t_count.toNatClampNeg p1))), (t_highs_a, .inl (cI, 6, .inl t_highs)), (t_ranks_a, .inl (cI, 6, .inl t_ranks)), (t_costs_a, .inl (cI, 201, .inl t_costs)), (t_firstWanted_a, .inl (cI, 201, .inl t_firstWanted)), (t_firstSteps_a, .inl (cI, 201, .inl t_firstSteps))] H := hP
    have hD : va_D A [(t_a, .inr (3, [.ref t_lows_a, .ref t_highs_a, .ref t_ranks_a, .ref t_costs_a, .ref t_firstWanted_a, .ref t_firstSteps_a, .int t_count])), (t_lows_a, .inl (cI, 6, .inl (upd t_lows t_count.toNatClampNeg p1))), (t_highs_a, .inl (cI, 6, .inl t_highs)), (t_ranks_a, .inl (cI, 6, .inl t_ranks)), (t_costs_a, .inl (cI, 201, .inl t_costs)), (t_firstWanted_a, .inl (cI, 201, .inl t_firstWanted)), (t_firstSteps_a, .inl (cI, 201, .inl t_firstSteps))] := hD
    refine lv_aload_n hx hb d_t_add_29 rfl (lv_at hl 0 rfl) ?_
    refine va_get (D := D) (ci := 3) (v := .ref t_highs_a) (C := "CutShears$LossTable") (T := T_t) (N := 7) hx hb hG hi_t hown hK hP 0 rfl rfl 1 (by decide) (hG _ mw_61) (fun _ h9 => h9) rfl d_t_add_30 ?_
    refine lv_aload_n hx hb d_t_add_33 rfl (lv_at hl 0 rfl) ?_
    refine va_get (D := D) (ci := 3) (v := .int t_count) (C := "CutShears$LossTable") (T := T_t) (N := 7) hx hb hG hi_t hown hK hP 0 rfl rfl 6 (by decide) (hG _ mw_68) (fun _ h9 => h9) rfl d_t_add_34 ?_
    refine lv_iload_n hx hb d_t_add_37 rfl (lv_at hl 2 rfl) ?_
    obtain ⟨hin, hv⟩ := hv
    refine va_iast hx hb hK hP hD hS 2 0 rfl rfl hin d_t_add_38 (fun H locs hP hD hS => ?_)
    have hP : va_P D vwCl [(t_a, .inr (3, [.ref t_lows_a, .ref t_highs_a, .ref t_ranks_a, .ref t_costs_a, .ref t_firstWanted_a, .ref t_firstSteps_a, .int t_count])), (t_lows_a, .inl (cI, 6, .inl (upd t_lows t_count.toNatClampNeg p1))), (t_highs_a, .inl (cI, 6, .inl (upd t_highs t_count.toNatClampNeg p2))), (t_ranks_a, .inl (cI, 6, .inl t_ranks)), (t_costs_a, .inl (cI, 201, .inl t_costs)), (t_firstWanted_a, .inl (cI, 201, .inl t_firstWanted)), (t_firstSteps_a, .inl (cI, 201, .inl t_firstSteps))] H := hP
    have hD : va_D A [(t_a, .inr (3, [.ref t_lows_a, .ref t_highs_a, .ref t_ranks_a, .ref t_costs_a, .ref t_firstWanted_a, .ref t_firstSteps_a, .int t_count])), (t_lows_a, .inl (cI, 6, .inl (upd t_lows t_count.toNatClampNeg p1))), (t_highs_a, .inl (cI, 6, .inl (upd t_highs t_count.toNatClampNeg p2))), (t_ranks_a, .inl (cI, 6, .inl t_ranks)), (t_costs_a, .inl (cI, 201, .inl t_costs)), (t_firstWanted_a, .inl (cI, 201, .inl t_firstWanted)), (t_firstSteps_a, .inl (cI, 201, .inl t_firstSteps))] := hD
    refine lv_aload_n hx hb d_t_add_39 rfl (lv_at hl 0 rfl) ?_
    refine va_get (D := D) (ci := 3) (v := .ref t_ranks_a) (C := "CutShears$LossTable") (T := T_t) (N := 7) hx hb hG hi_t hown hK hP 0 rfl rfl 2 (by decide) (hG _ mw_62) (fun _ h9 => h9) rfl d_t_add_40 ?_
    refine lv_aload_n hx hb d_t_add_43 rfl (lv_at hl 0 rfl) ?_
    refine va_get (D := D) (ci := 3) (v := .int t_count) (C := "CutShears$LossTable") (T := T_t) (N := 7) hx hb hG hi_t hown hK hP 0 rfl rfl 6 (by decide) (hG _ mw_68) (fun _ h9 => h9) rfl d_t_add_44 ?_
    refine lv_iload_n hx hb d_t_add_47 rfl (lv_at hl 3 rfl) ?_
    obtain ⟨hin, hv⟩ := hv
    refine va_iast hx hb hK hP hD hS 3 0 rfl rfl hin d_t_add_48 (fun H locs hP hD hS => ?_)
    have hP : va_P D vwCl [(t_a, .inr (3, [.ref t_lows_a, .ref t_highs_a, .ref t_ranks_a, .ref t_costs_a, .ref t_firstWanted_a, .ref t_firstSteps_a, .int t_count])), (t_lows_a, .inl (cI, 6, .inl (upd t_lows t_count.toNatClampNeg p1))), (t_highs_a, .inl (cI, 6, .inl (upd t_highs t_count.toNatClampNeg p2))), (t_ranks_a, .inl (cI, 6, .inl (upd t_ranks t_count.toNatClampNeg p3))), (t_costs_a, .inl (cI, 201, .inl t_costs)), (t_firstWanted_a, .inl (cI, 201, .inl t_firstWanted)), (t_firstSteps_a, .inl (cI, 201, .inl t_firstSteps))] H := hP
    have hD : va_D A [(t_a, .inr (3, [.ref t_lows_a, .ref t_highs_a, .ref t_ranks_a, .ref t_costs_a, .ref t_firstWanted_a, .ref t_firstSteps_a, .int t_count])), (t_lows_a, .inl (cI, 6, .inl (upd t_lows t_count.toNatClampNeg p1))), (t_highs_a, .inl (cI, 6, .inl (upd t_highs t_count.toNatClampNeg p2))), (t_ranks_a, .inl (cI, 6, .inl (upd t_ranks t_count.toNatClampNeg p3))), (t_costs_a, .inl (cI, 201, .inl t_costs)), (t_firstWanted_a, .inl (cI, 201, .inl t_firstWanted)), (t_firstSteps_a, .inl (cI, 201, .inl t_firstSteps))] := hD
    refine lv_aload_n hx hb d_t_add_49 rfl (lv_at hl 0 rfl) ?_
    refine lv_dup hx hb d_t_add_50 rfl ?_
    refine va_get (D := D) (ci := 3) (v := .int t_count) (C := "CutShears$LossTable") (T := T_t) (N := 7) hx hb hG hi_t hown hK hP 0 rfl rfl 6 (by decide) (hG _ mw_68) (fun _ h9 => h9) rfl d_t_add_51 ?_
    refine lv_iconst (v := 1) hx hb d_t_add_54 (by decide) ?_
    refine lv_iadd hx hb d_t_add_55 ?_
    refine lv_topi (fun v_2 ev_2 => ?_)
    replace hv := hv v_2 ev_2
    refine va_put (D := D) (ci := 3) (v := .int v_2) (ty := .int) (C := "CutShears$LossTable") (T := T_t) (N := 7) hx hb hG hi_t ty_t ty_t_ok nm_t hown hK hP hD hS 0 rfl rfl 6 (by decide) (hG _ mw_68) (fun _ h9 => h9) rfl (by decide +kernel) rfl rfl (Nat.le_of_ble_eq_true rfl) d_t_add_56 (fun H locs hP hD hS => ?_)
    have hP : va_P D vwCl [(t_a, .inr (3, [.ref t_lows_a, .ref t_highs_a, .ref t_ranks_a, .ref t_costs_a, .ref t_firstWanted_a, .ref t_firstSteps_a, .int v_2])), (t_lows_a, .inl (cI, 6, .inl (upd t_lows t_count.toNatClampNeg p1))), (t_highs_a, .inl (cI, 6, .inl (upd t_highs t_count.toNatClampNeg p2))), (t_ranks_a, .inl (cI, 6, .inl (upd t_ranks t_count.toNatClampNeg p3))), (t_costs_a, .inl (cI, 201, .inl t_costs)), (t_firstWanted_a, .inl (cI, 201, .inl t_firstWanted)), (t_firstSteps_a, .inl (cI, 201, .inl t_firstSteps))] H := hP
    have hD : va_D A [(t_a, .inr (3, [.ref t_lows_a, .ref t_highs_a, .ref t_ranks_a, .ref t_costs_a, .ref t_firstWanted_a, .ref t_firstSteps_a, .int v_2])), (t_lows_a, .inl (cI, 6, .inl (upd t_lows t_count.toNatClampNeg p1))), (t_highs_a, .inl (cI, 6, .inl (upd t_highs t_count.toNatClampNeg p2))), (t_ranks_a, .inl (cI, 6, .inl (upd t_ranks t_count.toNatClampNeg p3))), (t_costs_a, .inl (cI, 201, .inl t_costs)), (t_firstWanted_a, .inl (cI, 201, .inl t_firstWanted)), (t_firstSteps_a, .inl (cI, 201, .inl t_firstSteps))] := hD
    refine lv_aload_n hx hb d_t_add_59 rfl (lv_at hl 0 rfl) ?_
    refine kt_callv (wc := [(t_a, .inr (3, [.ref t_lows_a, .ref t_highs_a, .ref t_ranks_a, .ref t_costs_a, .ref t_firstWanted_a, .ref t_firstSteps_a, .int v_2])), (t_lows_a, .inl (cI, 6, .inl (upd t_lows t_count.toNatClampNeg p1))), (t_highs_a, .inl (cI, 6, .inl (upd t_highs t_count.toNatClampNeg p2))), (t_ranks_a, .inl (cI, 6, .inl (upd t_ranks t_count.toNatClampNeg p3))), (t_costs_a, .inl (cI, 201, .inl t_costs)), (t_firstWanted_a, .inl (cI, 201, .inl t_firstWanted)), (t_firstSteps_a, .inl (cI, 201, .inl t_firstSteps))]) (wr := []) hA hP hD hS [0, 1, 2, 3, 4, 5, 6] [] rfl rfl (by decide) (by decide) (va_runV (As := []) (rest := []) ⟨hx, hb, hml, hown, hG⟩ (c_t_fill l D cI cJ cZ t_a t_lows_a t_highs_a t_ranks_a t_costs_a t_firstWanted_a t_firstSteps_a _ (upd t_lows t_count.toNatClampNeg p1) (upd t_highs t_count.toNatClampNeg p2) (upd t_ranks t_count.toNatClampNeg p3) t_costs t_firstWanted t_firstSteps v_2 hlt hv) ⟨callB_of 0 hG (kt_g0 mw_311) rfl rfl rfl (hG _ mw_33) (hG _ mw_308) (by decide +kernel) ⟨Nat.le_of_ble_eq_true rfl, Nat.le_of_ble_eq_true rfl⟩, (hG _ mw_310), (hG _ mw_2)⟩ (kt_preV hC hZ hA hP hD hS [0, 1, 2, 3, 4, 5, 6] (by decide) rfl (ci := 3) (k0 := 0) rfl rfl) rfl rfl hl.1 rfl (lv_room (Nat.le_of_ble_eq_true rfl)) d_t_add_60 ⟨Nat.le_of_ble_eq_true rfl, Nat.le_of_ble_eq_true rfl⟩) (fun u H locs hv hP hD hS => ?_)
    obtain ⟨t_costs_3, t_firstWanted_4, t_firstSteps_5⟩ := u
    try dsimp only at hv
    have hP : va_P D vwCl [(t_a, .inr (3, [.ref t_lows_a, .ref t_highs_a, .ref t_ranks_a, .ref t_costs_a, .ref t_firstWanted_a, .ref t_firstSteps_a, .int v_2])), (t_lows_a, .inl (cI, 6, .inl (upd t_lows t_count.toNatClampNeg p1))), (t_highs_a, .inl (cI, 6, .inl (upd t_highs t_count.toNatClampNeg p2))), (t_ranks_a, .inl (cI, 6, .inl (upd t_ranks t_count.toNatClampNeg p3))), (t_costs_a, .inl (cI, 201, .inl t_costs_3)), (t_firstWanted_a, .inl (cI, 201, .inl t_firstWanted_4)), (t_firstSteps_a, .inl (cI, 201, .inl t_firstSteps_5))] H := hP
    have hD : va_D A [(t_a, .inr (3, [.ref t_lows_a, .ref t_highs_a, .ref t_ranks_a, .ref t_costs_a, .ref t_firstWanted_a, .ref t_firstSteps_a, .int v_2])), (t_lows_a, .inl (cI, 6, .inl (upd t_lows t_count.toNatClampNeg p1))), (t_highs_a, .inl (cI, 6, .inl (upd t_highs t_count.toNatClampNeg p2))), (t_ranks_a, .inl (cI, 6, .inl (upd t_ranks t_count.toNatClampNeg p3))), (t_costs_a, .inl (cI, 201, .inl t_costs_3)), (t_firstWanted_a, .inl (cI, 201, .inl t_firstWanted_4)), (t_firstSteps_a, .inl (cI, 201, .inl t_firstSteps_5))] := hD
    refine lv_aload_n hx hb d_t_add_63 rfl (lv_at hl 0 rfl) ?_
    refine va_get (D := D) (ci := 3) (v := .int v_2) (C := "CutShears$LossTable") (T := T_t) (N := 7) hx hb hG hi_t hown hK hP 0 rfl rfl 6 (by decide) (hG _ mw_68) (fun _ h9 => h9) rfl d_t_add_64 ?_
    refine lv_iconst (v := 1) hx hb d_t_add_67 (by decide) ?_
    refine lv_isub hx hb d_t_add_68 ?_
    exact kt_iretX hQ hx hb hr hlocks (v_2, (upd t_lows t_count.toNatClampNeg p1), (upd t_highs t_count.toNatClampNeg p2), (upd t_ranks t_count.toNatClampNeg p3), t_costs_3, t_firstWanted_4, t_firstSteps_5) hv (hP.sub [0, 1, 2, 3, 4, 5, 6] rfl) (hD.sub [0, 1, 2, 3, 4, 5, 6] (by decide) rfl) hS (Nat.le_of_ble_eq_true rfl) (Nat.le_of_ble_eq_true rfl) d_t_add_69
  · replace hv := hv.2 c_1
    exact kt_throw (own := "CutShears$LossTable") (cls := "java/lang/UnsupportedOperationException") (text := "there are 6 wanted lengths") (names := ["java/lang/RuntimeException", "java/lang/Exception"]) hQ hx hb hlt hown (by decide +kernel) (by decide +kernel) (hG _ mw_292) (hG _ mw_42) (hZ.2.2 _ (kt_Tm 0 rfl)) (kt_at hG hC ha_0) (kt_og mw_292 mw_42 ha_0) hZ htab hlocks (by rw [hml]; exact hl.1) hv (hP.sub [0, 1, 2, 3, 4, 5, 6] rfl) (hD.sub [0, 1, 2, 3, 4, 5, 6] (by decide) rfl) hS d_t_add_9 d_t_add_12 d_t_add_13 d_t_add_15 d_t_add_18 (Nat.le_of_ble_eq_true rfl) (Nat.le_of_ble_eq_true rfl) (Nat.le_of_ble_eq_true rfl) (Nat.le_of_ble_eq_true rfl) (Nat.le_of_ble_eq_true rfl) (Nat.le_of_ble_eq_true rfl)
