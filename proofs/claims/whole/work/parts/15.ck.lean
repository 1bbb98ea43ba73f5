/-! by program: contracts -/
set_option maxHeartbeats 4000000 in
set_option maxRecDepth 100000 in
theorem c_k_enter (l : Launch) (D : va_G) (cI cJ cZ : ClassId) (k_a k_wanted_a k_steps_a k_places_a k_bundles_a k_sideCuts_a k_sums_a : Nat) (sz : Nat) (k_wanted : Nat → Int32) (k_steps : Nat → Int32) (k_places : Nat → Int32) (k_bundles : Nat → Int32) (k_sideCuts : Nat → Int32) (k_sums : Nat → Int32) (k_count : Int32) (k_sideCount : Int32) (k_bundleCount : Int32) (p1 : Int32) (p2 : Int32) (p3 : Int32) {post : Int32 → Int32 → (Nat → Int32) → (Nat → Int32) → (Nat → Int32) → (Nat → Int32) → (Nat → Int32) → (Nat → Int32) → Prop} (hlt : l.stackTraces = false) (hv : vc_k_enter k_wanted k_steps k_places k_bundles k_sideCuts k_sums k_count k_sideCount p1 p2 p3 post) :
    kt_Mv l y_k_enter (.code y_k_enter cc_k_enter 4 none) rm_k_enter D cI cJ cZ [(k_a, .inr (2, [.ref k_wanted_a, .ref k_steps_a, .ref k_places_a, .ref k_bundles_a, .ref k_sideCuts_a, .ref k_sums_a, .int k_count, .int k_sideCount, .int k_bundleCount])), (k_wanted_a, .inl (cI, 300, .inl k_wanted)), (k_steps_a, .inl (cI, 300, .inl k_steps)), (k_places_a, .inl (cI, 300, .inl k_places)), (k_bundles_a, .inl (cI, 300, .inl k_bundles)), (k_sideCuts_a, .inl (cI, 300, .inl k_sideCuts)), (k_sums_a, .inl (cI, 6, .inl k_sums))] sz [.ref k_a, .int p1, .int p2, .int p3] (fun (u : Int32 × Int32 × (Nat → Int32) × (Nat → Int32) × (Nat → Int32) × (Nat → Int32) × (Nat → Int32) × (Nat → Int32)) => post (u.1) (u.2.1) (u.2.2.1) (u.2.2.2.1) (u.2.2.2.2.1) (u.2.2.2.2.2.1) (u.2.2.2.2.2.2.1) (u.2.2.2.2.2.2.2)) (fun (u : Int32 × Int32 × (Nat → Int32) × (Nat → Int32) × (Nat → Int32) × (Nat → Int32) × (Nat → Int32) × (Nat → Int32)) => [(k_a, .inr (2, [.ref k_wanted_a, .ref k_steps_a, .ref k_places_a, .ref k_bundles_a, .ref k_sideCuts_a, .ref k_sums_a, .int (u.1), .int (u.2.1), .int k_bundleCount])), (k_wanted_a, .inl (cI, 300, .inl (u.2.2.1))), (k_steps_a, .inl (cI, 300, .inl (u.2.2.2.1))), (k_places_a, .inl (cI, 300, .inl (u.2.2.2.2.1))), (k_bundles_a, .inl (cI, 300, .inl (u.2.2.2.2.2.1))), (k_sideCuts_a, .inl (cI, 300, .inl (u.2.2.2.2.2.2.1))), (k_sums_a, .inl (cI, 6, .inl (u.2.2.2.2.2.2.2)))]) 0 0 := by
  refine kt_ofM (cc := cc_k_enter) (maxL := 4) (ret := none) (Qc := fun A => kt_Qv D A (fun (u : Int32 × Int32 × (Nat → Int32) × (Nat → Int32) × (Nat → Int32) × (Nat → Int32) × (Nat → Int32) × (Nat → Int32)) => post (u.1) (u.2.1) (u.2.2.1) (u.2.2.2.1) (u.2.2.2.2.1) (u.2.2.2.2.2.1) (u.2.2.2.2.2.2.1) (u.2.2.2.2.2.2.2)) (fun (u : Int32 × Int32 × (Nat → Int32) × (Nat → Int32) × (Nat → Int32) × (Nat → Int32) × (Nat → Int32) × (Nat → Int32)) => [(k_a, .inr (2, [.ref k_wanted_a, .ref k_steps_a, .ref k_places_a, .ref k_bundles_a, .ref k_sideCuts_a, .ref k_sums_a, .int (u.1), .int (u.2.1), .int k_bundleCount])), (k_wanted_a, .inl (cI, 300, .inl (u.2.2.1))), (k_steps_a, .inl (cI, 300, .inl (u.2.2.2.1))), (k_places_a, .inl (cI, 300, .inl (u.2.2.2.2.1))), (k_bundles_a, .inl (cI, 300, .inl (u.2.2.2.2.2.1))), (k_sideCuts_a, .inl (cI, 300, .inl (u.2.2.2.2.2.2.1))), (k_sums_a, .inl (cI, 6, .inl (u.2.2.2.2.2.2.2)))])) (by decide) (Nat.le_of_ble_eq_true rfl) ?_
  intro p e s m args below meth c A Q hI hP hD hS hQ ls hl
  obtain ⟨hx, hb, hr, hG, hown, hlocks, hname, hml, hC, hZ, hA⟩ := hI
  have hown : s.vm.findClass "CutShears$CutBook" = some m.cls := hown
  have hK := hC.1
  have hl : lv_has ls 4 [(0, .ref k_a), (1, .int p1), (2, .int p2), (3, .int p3)] := hl
  unfold vc_k_enter at hv
  refine lv_aload_n hx hb d_k_enter_0 rfl (lv_at hl 0 rfl) ?_
  refine va_get (D := D) (ci := 2) (v := .int k_count) (C := "CutShears$CutBook") (T := T_k) (N := 9) hx hb hG hi_k hown hK hP 0 rfl rfl 6 (by decide) (hG _ mw_141) (fun _ h9 => h9) rfl d_k_enter_1 ?_
  refine lv_sipush (v := 300) hx hb d_k_enter_4 (by decide) ?_
  refine lv_icmp_ge (tgt := 20) hx hb d_k_enter_7 (by decide) (fun c_1 => ?_) (fun c_1 => ?_)
  · replace hv := hv.1 c_1
    exact kt_vret hQ hx hb hr hlocks (k_count, k_sideCount, k_wanted, k_steps, k_places, k_bundles, k_sideCuts, k_sums) hv (hP.sub [0, 1, 2, 3, 4, 5, 6] rfl) (hD.sub [0, 1, 2, 3, 4, 5, 6] (by decide) rfl) hS (Nat.le_of_ble_eq_true rfl) (Nat.le_of_ble_eq_true rfl) d_k_enter_20
  · replace hv := hv.2 c_1
    refine lv_iload_n hx hb d_k_enter_10 rfl (lv_at hl 1 rfl) ?_
    refine lv_if_lt (tgt := 20) hx hb d_k_enter_11 (by decide) (fun c_2 => ?_) (fun c_2 => ?_)
    · replace hv := hv.1 c_2
      exact kt_vret hQ hx hb hr hlocks (k_count, k_sideCount, k_wanted, k_steps, k_places, k_bundles, k_sideCuts, k_sums) hv (hP.sub [0, 1, 2, 3, 4, 5, 6] rfl) (hD.sub [0, 1, 2, 3, 4, 5, 6] (by decide) rfl) hS (Nat.le_of_ble_eq_true rfl) (Nat.le_of_ble_eq_true rfl) d_k_enter_20
    · replace hv := hv.2 c_2
      refine lv_iload_n hx hb d_k_enter_14 rfl (lv_at hl 1 rfl) ?_
      refine lv_bipush (v := 6) hx hb d_k_enter_15 (by decide) ?_
      refine lv_icmp_lt (tgt := 21) hx hb d_k_enter_17 (by decide) (fun c_3 => ?_) (fun c_3 => ?_)
      · replace hv := hv.1 c_3
        refine lv_aload_n hx hb d_k_enter_21 rfl (lv_at hl 0 rfl) ?_
        refine va_get (D := D) (ci := 2) (v := .ref k_wanted_a) (C := "CutShears$CutBook") (T := T_k) (N := 9) hx hb hG hi_k hown hK hP 0 rfl rfl 0 (by decide) (hG _ mw_135) (fun _ h9 => h9) rfl d_k_enter_22 ?_
        refine lv_aload_n hx hb d_k_enter_25 rfl (lv_at hl 0 rfl) ?_
        refine va_get (D := D) (ci := 2) (v := .int k_count) (C := "CutShears$CutBook") (T := T_k) (N := 9) hx hb hG hi_k hown hK hP 0 rfl rfl 6 (by decide) (hG _ mw_141) (fun _ h9 => h9) rfl d_k_enter_26 ?_
        refine lv_iload_n hx hb d_k_enter_29 rfl (lv_at hl 1 rfl) ?_
        obtain ⟨hin, hv⟩ := hv
        refine va_iast hx hb hK hP hD hS 1 0 rfl rfl hin d_k_enter_30 (fun H locs hP hD hS => ?_)
        have hP : va_P D vwCl [(k_a, .inr (2, [.ref k_wanted_a, .ref k_steps_a, .ref k_places_a, .ref k_bundles_a, .ref k_sideCuts_a, .ref k_sums_a, .int k_count, .int k_sideCount, .int k_bundleCount])), (k_wanted_a, .inl (cI, 300, .inl (upd k_wanted k_count.toNatClampNeg p1))), (k_steps_a, .inl (cI, 300, .inl k_steps)), (k_places_a, .inl (cI, 300, .inl k_places)), (k_bundles_a, .inl (cI, 300, .inl k_bundles)), (k_sideCuts_a, .inl (cI, 300, .inl k_sideCuts)), (k_sums_a, .inl (cI, 6, .inl k_sums))] H := hP
        have hD : va_D A [(k_a, .inr (2, [.ref k_wanted_a, .ref k_steps_a, .ref k_places_a, .ref k_bundles_a, .ref k_sideCuts_a, .ref k_sums_a, .int k_count, .int k_sideCount, .int k_bundleCount])), (k_wanted_a, .inl (cI, 300, .inl (upd k_wanted k_count.toNatClampNeg p1))), (k_steps_a, .inl (cI, 300, .inl k_steps)), (k_places_a, .inl (cI, 300, .inl k_places)), (k_bundles_a, .inl (cI, 300, .inl k_bundles)), (k_sideCuts_a, .inl (cI, 300, .inl k_sideCuts)), (k_sums_a, .inl (cI, 6, .inl k_sums))] := hD
        refine lv_aload_n hx hb d_k_enter_31 rfl (lv_at hl 0 rfl) ?_
        refine va_get (D := D) (ci := 2) (v := .ref k_steps_a) (C := "CutShears$CutBook") (T := T_k) (N := 9) hx hb hG hi_k hown hK hP 0 rfl rfl 1 (by decide) (hG _ mw_136) (fun _ h9 => h9) rfl d_k_enter_32 ?_
        refine lv_aload_n hx hb d_k_enter_35 rfl (lv_at hl 0 rfl) ?_
        refine va_get (D := D) (ci := 2) (v := .int k_count) (C := "CutShears$CutBook") (T := T_k) (N := 9) hx hb hG hi_k hown hK hP 0 rfl rfl 6 (by decide) (hG _ mw_141) (fun _ h9 => h9) rfl d_k_enter_36 ?_
        refine lv_iload_n hx hb d_k_enter_39 rfl (lv_at hl 2 rfl) ?_
        obtain ⟨hin, hv⟩ := hv
        refine va_iast hx hb hK hP hD hS 2 0 rfl rfl hin d_k_enter_40 (fun H locs hP hD hS => ?_)
        have hP : va_P D vwCl [(k_a, .inr (2, [.ref k_wanted_a, .ref k_steps_a, .ref k_places_a, .ref k_bundles_a, .ref k_sideCuts_a, .ref k_sums_a, .int k_count, .int k_sideCount, .int k_bundleCount])), (k_wanted_a, .inl (cI, 300, .inl (upd k_wanted k_count.toNatClampNeg p1))), (k_steps_a, .inl (cI, 300, .inl (upd k_steps k_count.toNatClampNeg p2))), (k_places_a, .inl (cI, 300, .inl k_places)), (k_bundles_a, .inl (cI, 300, .inl k_bundles)), (k_sideCuts_a, .inl (cI, 300, .inl k_sideCuts)), (k_sums_a, .inl (cI, 6, .inl k_sums))] H := hP
        have hD : va_D A [(k_a, .inr (2, [.ref k_wanted_a, .ref k_steps_a, .ref k_places_a, .ref k_bundles_a, .ref k_sideCuts_a, .ref k_sums_a, .int k_count, .int k_sideCount, .int k_bundleCount])), (k_wanted_a, .inl (cI, 300, .inl (upd k_wanted k_count.toNatClampNeg p1))), (k_steps_a, .inl (cI, 300, .inl (upd k_steps k_count.toNatClampNeg p2))), (k_places_a, .inl (cI, 300, .inl k_places)), (k_bundles_a, .inl (cI, 300, .inl k_bundles)), (k_sideCuts_a, .inl (cI, 300, .inl k_sideCuts)), (k_sums_a, .inl (cI, 6, .inl k_sums))] := hD
        refine lv_aload_n hx hb d_k_enter_41 rfl (lv_at hl 0 rfl) ?_
        refine va_get (D := D) (ci := 2) (v := .ref k_places_a) (C := "CutShears$CutBook") (T := T_k) (N := 9) hx hb hG hi_k hown hK hP 0 rfl rfl 2 (by decide) (hG _ mw_137) (fun _ h9 => h9) rfl d_k_enter_42 ?_
        refine lv_aload_n hx hb d_k_enter_45 rfl (lv_at hl 0 rfl) ?_
        refine va_get (D := D) (ci := 2) (v := .int k_count) (C := "CutShears$CutBook") (T := T_k) (N := 9) hx hb hG hi_k hown hK hP 0 rfl rfl 6 (by decide) (hG _ mw_141) (fun _ h9 => h9) rfl d_k_enter_46 ?_
        refine lv_iload_n hx hb d_k_enter_49 rfl (lv_at hl 3 rfl) ?_
        obtain ⟨hin, hv⟩ := hv
        refine va_iast hx hb hK hP hD hS 3 0 rfl rfl hin d_k_enter_50 (fun H locs hP hD hS => ?_)
        have hP : va_P D vwCl [(k_a, .inr (2, [.ref k_wanted_a, .ref k_steps_a, .ref k_places_a, .ref k_bundles_a, .ref k_sideCuts_a, .ref k_sums_a, .int k_count, .int k_sideCount, .int k_bundleCount])), (k_wanted_a, .inl (cI, 300, .inl (upd k_wanted k_count.toNatClampNeg p1))), (k_steps_a, .inl (cI, 300, .inl (upd k_steps k_count.toNatClampNeg p2))), (k_places_a, .inl (cI, 300, .inl (upd k_places k_count.toNatClampNeg p3))), (k_bundles_a, .inl (cI, 300, .inl k_bundles)), (k_sideCuts_a, .inl (cI, 300, .inl k_sideCuts)), (k_sums_a, .inl (cI, 6, .inl k_sums))] H := hP
        have hD : va_D A [(k_a, .inr (2, [.ref k_wanted_a, .ref k_steps_a, .ref k_places_a, .ref k_bundles_a, .ref k_sideCuts_a, .ref k_sums_a, .int k_count, .int k_sideCount, .int k_bundleCount])), (k_wanted_a, .inl (cI, 300, .inl (upd k_wanted k_count.toNatClampNeg p1))), (k_steps_a, .inl (cI, 300, .inl (upd k_steps k_count.toNatClampNeg p2))), (k_places_a, .inl (cI, 300, .inl (upd k_places k_count.toNatClampNeg p3))), (k_bundles_a, .inl (cI, 300, .inl k_bundles)), (k_sideCuts_a, .inl (cI, 300, .inl k_sideCuts)), (k_sums_a, .inl (cI, 6, .inl k_sums))] := hD
        refine lv_aload_n hx hb d_k_enter_51 rfl (lv_at hl 0 rfl) ?_
        refine va_get (D := D) (ci := 2) (v := .ref k_bundles_a) (C := "CutShears$CutBook") (T := T_k) (N := 9) hx hb hG hi_k hown hK hP 0 rfl rfl 3 (by decide) (hG _ mw_138) (fun _ h9 => h9) rfl d_k_enter_52 ?_
        refine lv_aload_n hx hb d_k_enter_55 rfl (lv_at hl 0 rfl) ?_
        refine va_get (D := D) (ci := 2) (v := .int k_count) (C := "CutShears$CutBook") (T := T_k) (N := 9) hx hb hG hi_k hown hK hP 0 rfl rfl 6 (by decide) (hG _ mw_141) (fun _ h9 => h9) rfl d_k_enter_56 ?_
        refine lv_iconst (v := (-1)) hx hb d_k_enter_59 (by decide) ?_
        obtain ⟨hin, hv⟩ := hv
        refine va_iast hx hb hK hP hD hS 4 0 rfl rfl hin d_k_enter_60 (fun H locs hP hD hS => ?_)
        have hP : va_P D vwCl [(k_a, .inr (2, [.ref k_wanted_a, .ref k_steps_a, .ref k_places_a, .ref k_bundles_a, .ref k_sideCuts_a, .ref k_sums_a, .int k_count, .int k_sideCount, .int k_bundleCount])), (k_wanted_a, .inl (cI, 300, .inl (upd k_wanted k_count.toNatClampNeg p1))), (k_steps_a, .inl (cI, 300, .inl (upd k_steps k_count.toNatClampNeg p2))), (k_places_a, .inl (cI, 300, .inl (upd k_places k_count.toNatClampNeg p3))), (k_bundles_a, .inl (cI, 300, .inl (upd k_bundles k_count.toNatClampNeg (-1)))), (k_sideCuts_a, .inl (cI, 300, .inl k_sideCuts)), (k_sums_a, .inl (cI, 6, .inl k_sums))] H := hP
        have hD : va_D A [(k_a, .inr (2, [.ref k_wanted_a, .ref k_steps_a, .ref k_places_a, .ref k_bundles_a, .ref k_sideCuts_a, .ref k_sums_a, .int k_count, .int k_sideCount, .int k_bundleCount])), (k_wanted_a, .inl (cI, 300, .inl (upd k_wanted k_count.toNatClampNeg p1))), (k_steps_a, .inl (cI, 300, .inl (upd k_steps k_count.toNatClampNeg p2))), (k_places_a, .inl (cI, 300, .inl (upd k_places k_count.toNatClampNeg p3))), (k_bundles_a, .inl (cI, 300, .inl (upd k_bundles k_count.toNatClampNeg (-1)))), (k_sideCuts_a, .inl (cI, 300, .inl k_sideCuts)), (k_sums_a, .inl (cI, 6, .inl k_sums))] := hD
        refine lv_aload_n hx hb d_k_enter_61 rfl (lv_at hl 0 rfl) ?_
        refine va_get (D := D) (ci := 2) (v := .ref k_sums_a) (C := "CutShears$CutBook") (T := T_k) (N := 9) hx hb hG hi_k hown hK hP 0 rfl rfl 5 (by decide) (hG _ mw_140) (fun _ h9 => h9) rfl d_k_enter_62 ?_
        refine lv_iload_n hx hb d_k_enter_65 rfl (lv_at hl 1 rfl) ?_
        refine lv_dup2_11 hx hb d_k_enter_66 rfl rfl ?_
        obtain ⟨hin, hv⟩ := hv
        refine va_iald hx hb hK hP 6 0 rfl rfl hin d_k_enter_67 ?_
        refine lv_iload_n hx hb d_k_enter_68 rfl (lv_at hl 2 rfl) ?_
        refine lv_iadd hx hb d_k_enter_69 ?_
        refine lv_topi (fun v_4 ev_4 => ?_)
        replace hv := hv v_4 ev_4
        obtain ⟨hin, hv⟩ := hv
        refine va_iast hx hb hK hP hD hS 6 0 rfl rfl hin d_k_enter_70 (fun H locs hP hD hS => ?_)
        have hP : va_P D vwCl [(k_a, .inr (2, [.ref k_wanted_a, .ref k_steps_a, .ref k_places_a, .ref k_bundles_a, .ref k_sideCuts_a, .ref k_sums_a, .int k_count, .int k_sideCount, .int k_bundleCount])), (k_wanted_a, .inl (cI, 300, .inl (upd k_wanted k_count.toNatClampNeg p1))), (k_steps_a, .inl (cI, 300, .inl (upd k_steps k_count.toNatClampNeg p2))), (k_places_a, .inl (cI, 300, .inl (upd k_places k_count.toNatClampNeg p3))), (k_bundles_a, .inl (cI, 300, .inl (upd k_bundles k_count.toNatClampNeg (-1)))), (k_sideCuts_a, .inl (cI, 300, .inl k_sideCuts)), (k_sums_a, .inl (cI, 6, .inl (upd k_sums p1.toNatClampNeg v_4)))] H := hP
        have hD : va_D A [(k_a, .inr (2, [.ref k_wanted_a, .ref k_steps_a, .ref k_places_a, .ref k_bundles_a, .ref k_sideCuts_a, .ref k_sums_a, .int k_count, .int k_sideCount, .int k_bundleCount])), (k_wanted_a, .inl (cI, 300, .inl (upd k_wanted k_count.toNatClampNeg p1))), (k_steps_a, .inl (cI, 300, .inl (upd k_steps k_count.toNatClampNeg p2))), (k_places_a, .inl (cI, 300, .inl (upd k_places k_count.toNatClampNeg p3))), (k_bundles_a, .inl (cI, 300, .inl (upd k_bundles k_count.toNatClampNeg (-1)))), (k_sideCuts_a, .inl (cI, 300, .inl k_sideCuts)), (k_sums_a, .inl (cI, 6, .inl (upd k_sums p1.toNatClampNeg v_4)))] := hD
        refine lv_iload_n hx hb d_k_enter_71 rfl (lv_at hl 3 rfl) ?_
        refine lv_iconst (v := (-1)) hx hb d_k_enter_72 (by decide) ?_
        refine lv_icmp_ne (tgt := 109) hx hb d_k_enter_73 (by decide) (fun c_5 => ?_) (fun c_5 => ?_)
        · replace hv := hv.2 c_5
          refine lv_aload_n hx hb d_k_enter_109 rfl (lv_at hl 0 rfl) ?_
          refine lv_dup hx hb d_k_enter_110 rfl ?_
          refine va_get (D := D) (ci := 2) (v := .int k_count) (C := "CutShears$CutBook") (T := T_k) (N := 9) hx hb hG hi_k hown hK hP 0 rfl rfl 6 (by decide) (hG _ mw_141) (fun _ h9 => h9) rfl d_k_enter_111 ?_
          refine lv_iconst (v := 1) hx hb d_k_enter_114 (by decide) ?_
          refine lv_iadd hx hb d_k_enter_115 ?_
          refine lv_topi (fun v_6 ev_6 => ?_)
          replace hv := hv v_6 ev_6
          refine va_put (D := D) (ci := 2) (v := .int v_6) (ty := .int) (C := "CutShears$CutBook") (T := T_k) (N := 9) hx hb hG hi_k ty_k ty_k_ok nm_k hown hK hP hD hS 0 rfl rfl 6 (by decide) (hG _ mw_141) (fun _ h9 => h9) rfl (by decide +kernel) rfl rfl (Nat.le_of_ble_eq_true rfl) d_k_enter_116 (fun H locs hP hD hS => ?_)
          have hP : va_P D vwCl [(k_a, .inr (2, [.ref k_wanted_a, .ref k_steps_a, .ref k_places_a, .ref k_bundles_a, .ref k_sideCuts_a, .ref k_sums_a, .int v_6, .int k_sideCount, .int k_bundleCount])), (k_wanted_a, .inl (cI, 300, .inl (upd k_wanted k_count.toNatClampNeg p1))), (k_steps_a, .inl (cI, 300, .inl (upd k_steps k_count.toNatClampNeg p2))), (k_places_a, .inl (cI, 300, .inl (upd k_places k_count.toNatClampNeg p3))), (k_bundles_a, .inl (cI, 300, .inl (upd k_bundles k_count.toNatClampNeg (-1)))), (k_sideCuts_a, .inl (cI, 300, .inl k_sideCuts)), (k_sums_a, .inl (cI, 6, .inl (upd k_sums p1.toNatClampNeg v_4)))] H := hP
          have hD : va_D A [(k_a, .inr (2, [.ref k_wanted_a, .ref k_steps_a, .ref k_places_a, .ref k_bundles_a, .ref k_sideCuts_a, .ref k_sums_a, .int v_6, .int k_sideCount, .int k_bundleCount])), (k_wanted_a, .inl (cI, 300, .inl (upd k_wanted k_count.toNatClampNeg p1))), (k_steps_a, .inl (cI, 300, .inl (upd k_steps k_count.toNatClampNeg p2))), (k_places_a, .inl (cI, 300, .inl (upd k_places k_count.toNatClampNeg p3))), (k_bundles_a, .inl (cI, 300, .inl (upd k_bundles k_count.toNatClampNeg (-1)))), (k_sideCuts_a, .inl (cI, 300, .inl k_sideCuts)), (k_sums_a, .inl (cI, 6, .inl (upd k_sums p1.toNatClampNeg v_4)))] := hD
          exact kt_vret hQ hx hb hr hlocks (v_6, k_sideCount, (upd k_wanted k_count.toNatClampNeg p1), (upd k_steps k_count.toNatClampNeg p2), (upd k_places k_count.toNatClampNeg p3), (upd k_bundles k_count.toNatClampNeg (-1)), k_sideCuts, (upd k_sums p1.toNatClampNeg v_4)) hv (hP.sub [0, 1, 2, 3, 4, 5, 6] rfl) (hD.sub [0, 1, 2, 3, 4, 5, 6] (by decide) rfl) hS (Nat.le_of_ble_eq_true rfl) (Nat.le_of_ble_eq_true rfl) d_k_enter_119
        · replace hv := hv.1 c_5
          refine lv_aload_n hx hb d_k_enter_76 rfl (lv_at hl 0 rfl) ?_
          refine va_get (D := D) (ci := 2) (v := .int k_sideCount) (C := "CutShears$CutBook") (T := T_k) (N := 9) hx hb hG hi_k hown hK hP 0 rfl rfl 7 (by decide) (hG _ mw_143) (fun _ h9 => h9) rfl d_k_enter_77 ?_
          refine lv_sipush (v := 300) hx hb d_k_enter_80 (by decide) ?_
          refine lv_icmp_ge (tgt := 109) hx hb d_k_enter_83 (by decide) (fun c_7 => ?_) (fun c_7 => ?_)
          · replace hv := hv.1 c_7
            refine lv_aload_n hx hb d_k_enter_109 rfl (lv_at hl 0 rfl) ?_
            refine lv_dup hx hb d_k_enter_110 rfl ?_
            refine va_get (D := D) (ci := 2) (v := .int k_count) (C := "CutShears$CutBook") (T := T_k) (N := 9) hx hb hG hi_k hown hK hP 0 rfl rfl 6 (by decide) (hG _ mw_141) (fun _ h9 => h9) rfl d_k_enter_111 ?_
            refine lv_iconst (v := 1) hx hb d_k_enter_114 (by decide) ?_
            refine lv_iadd hx hb d_k_enter_115 ?_
            refine lv_topi (fun v_8 ev_8 => ?_)
            replace hv := hv v_8 ev_8
            refine va_put (D := D) (ci := 2) (v := .int v_8) (ty := .int) (C := "CutShears$CutBook") (T := T_k) (N := 9) hx hb hG hi_k ty_k ty_k_ok nm_k hown hK hP hD hS 0 rfl rfl 6 (by decide) (hG _ mw_141) (fun _ h9 => h9) rfl (by decide +kernel) rfl rfl (Nat.le_of_ble_eq_true rfl) d_k_enter_116 (fun H locs hP hD hS => ?_)
            have hP : va_P D vwCl [(k_a, .inr (2, [.ref k_wanted_a, .ref k_steps_a, .ref k_places_a, .ref k_bundles_a, .ref k_sideCuts_a, .ref k_sums_a, .int v_8, .int k_sideCount, .int k_bundleCount])), (k_wanted_a, .inl (cI, 300, .inl (upd k_wanted k_count.toNatClampNeg p1))), (k_steps_a, .inl (cI, 300, .inl (upd k_steps k_count.toNatClampNeg p2))), (k_places_a, .inl (cI, 300, .inl (upd k_places k_count.toNatClampNeg p3))), (k_bundles_a, .inl (cI, 300, .inl (upd k_bundles k_count.toNatClampNeg (-1)))), (k_sideCuts_a, .inl (cI, 300, .inl k_sideCuts)), (k_sums_a, .inl (cI, 6, .inl (upd k_sums p1.toNatClampNeg v_4)))] H := hP
            have hD : va_D A [(k_a, .inr (2, [.ref k_wanted_a, .ref k_steps_a, .ref k_places_a, .ref k_bundles_a, .ref k_sideCuts_a, .ref k_sums_a, .int v_8, .int k_sideCount, .int k_bundleCount])), (k_wanted_a, .inl (cI, 300, .inl (upd k_wanted k_count.toNatClampNeg p1))), (k_steps_a, .inl (cI, 300, .inl (upd k_steps k_count.toNatClampNeg p2))), (k_places_a, .inl (cI, 300, .inl (upd k_places k_count.toNatClampNeg p3))), (k_bundles_a, .inl (cI, 300, .inl (upd k_bundles k_count.toNatClampNeg (-1)))), (k_sideCuts_a, .inl (cI, 300, .inl k_sideCuts)), (k_sums_a, .inl (cI, 6, .inl (upd k_sums p1.toNatClampNeg v_4)))] := hD
            exact kt_vret hQ hx hb hr hlocks (v_8, k_sideCount, (upd k_wanted k_count.toNatClampNeg p1), (upd k_steps k_count.toNatClampNeg p2), (upd k_places k_count.toNatClampNeg p3), (upd k_bundles k_count.toNatClampNeg (-1)), k_sideCuts, (upd k_sums p1.toNatClampNeg v_4)) hv (hP.sub [0, 1, 2, 3, 4, 5, 6] rfl) (hD.sub [0, 1, 2, 3, 4, 5, 6] (by decide) rfl) hS (Nat.le_of_ble_eq_true rfl) (Nat.le_of_ble_eq_true rfl) d_k_enter_119
          · replace hv := hv.2 c_7
            refine lv_aload_n hx hb d_k_enter_86 rfl (lv_at hl 0 rfl) ?_
            refine va_get (D := D) (ci := 2) (v := .ref k_sideCuts_a) (C := "CutShears$CutBook") (T := T_k) (N := 9) hx hb hG hi_k hown hK hP 0 rfl rfl 4 (by decide) (hG _ mw_139) (fun _ h9 => h9) rfl d_k_enter_87 ?_
            refine lv_aload_n hx hb d_k_enter_90 rfl (lv_at hl 0 rfl) ?_
            refine va_get (D := D) (ci := 2) (v := .int k_sideCount) (C := "CutShears$CutBook") (T := T_k) (N := 9) hx hb hG hi_k hown hK hP 0 rfl rfl 7 (by decide) (hG _ mw_143) (fun _ h9 => h9) rfl d_k_enter_91 ?_
            refine lv_aload_n hx hb d_k_enter_94 rfl (lv_at hl 0 rfl) ?_
            refine va_get (D := D) (ci := 2) (v := .int k_count) (C := "CutShears$CutBook") (T := T_k) (N := 9) hx hb hG hi_k hown hK hP 0 rfl rfl 6 (by decide) (hG _ mw_141) (fun _ h9 => h9) rfl d_k_enter_95 ?_
            obtain ⟨hin, hv⟩ := hv
            refine va_iast hx hb hK hP hD hS 5 0 rfl rfl hin d_k_enter_98 (fun H locs hP hD hS => ?_)
            have hP : va_P D vwCl [(k_a, .inr (2, [.ref k_wanted_a, .ref k_steps_a, .ref k_places_a, .ref k_bundles_a, .ref k_sideCuts_a, .ref k_sums_a, .int k_count, .int k_sideCount, .int k_bundleCount])), (k_wanted_a, .inl (cI, 300, .inl (upd k_wanted k_count.toNatClampNeg p1))), (k_steps_a, .inl (cI, 300, .inl (upd k_steps k_count.toNatClampNeg p2))), (k_places_a, .inl (cI, 300, .inl (upd k_places k_count.toNatClampNeg p3))), (k_bundles_a, .inl (cI, 300, .inl (upd k_bundles k_count.toNatClampNeg (-1)))), (k_sideCuts_a, .inl (cI, 300, .inl (upd k_sideCuts k_sideCount.toNatClampNeg k_count))), (k_sums_a, .inl (cI, 6, .inl (upd k_sums p1.toNatClampNeg v_4)))] H := hP
            have hD : va_D A [(k_a, .inr (2, [.ref k_wanted_a, .ref k_steps_a, .ref k_places_a, .ref k_bundles_a, .ref k_sideCuts_a, .ref k_sums_a, .int k_count, .int k_sideCount, .int k_bundleCount])), (k_wanted_a, .inl (cI, 300, .inl (upd k_wanted k_count.toNatClampNeg p1))), (k_steps_a, .inl (cI, 300, .inl (upd k_steps k_count.toNatClampNeg p2))), (k_places_a, .inl (cI, 300, .inl (upd k_places k_count.toNatClampNeg p3))), (k_bundles_a, .inl (cI, 300, .inl (upd k_bundles k_count.toNatClampNeg (-1)))), (k_sideCuts_a, .inl (cI, 300, .inl (upd k_sideCuts k_sideCount.toNatClampNeg k_count))), (k_sums_a, .inl (cI, 6, .inl (upd k_sums p1.toNatClampNeg v_4)))] := hD
            refine lv_aload_n hx hb d_k_enter_99 rfl (lv_at hl 0 rfl) ?_
            refine lv_dup hx hb d_k_enter_100 rfl ?_
            refine va_get (D := D) (ci := 2) (v := .int k_sideCount) (C := "CutShears$CutBook") (T := T_k) (N := 9) hx hb hG hi_k hown hK hP 0 rfl rfl 7 (by decide) (hG _ mw_143) (fun _ h9 => h9) rfl d_k_enter_101 ?_
            refine lv_iconst (v := 1) hx hb d_k_enter_104 (by decide) ?_
            refine lv_iadd hx hb d_k_enter_105 ?_
            refine lv_topi (fun v_9 ev_9 => ?_)
            replace hv := hv v_9 ev_9
            refine va_put (D := D) (ci := 2) (v := .int v_9) (ty := .int) (C := "CutShears$CutBook") (T := T_k) (N := 9) hx hb hG hi_k ty_k ty_k_ok nm_k hown hK hP hD hS 0 rfl rfl 7 (by decide) (hG _ mw_143) (fun _ h9 => h9) rfl (by decide +kernel) rfl rfl (Nat.le_of_ble_eq_true rfl) d_k_enter_106 (fun H locs hP hD hS => ?_)
            have hP : va_P D vwCl [(k_a, .inr (2, [.ref k_wanted_a, .ref k_steps_a, .ref k_places_a, .ref k_bundles_a, .ref k_sideCuts_a, .ref k_sums_a, .int k_count, .int v_9, .int k_bundleCount])), (k_wanted_a, .inl (cI, 300, .inl (upd k_wanted k_count.toNatClampNeg p1))), (k_steps_a, .inl (cI, 300, .inl (upd k_steps k_count.toNatClampNeg p2))), (k_places_a, .inl (cI, 300, .inl (upd k_places k_count.toNatClampNeg p3))), (k_bundles_a, .inl (cI, 300, .inl (upd k_bundles k_count.toNatClampNeg (-1)))), (k_sideCuts_a, .inl (cI, 300, .inl (upd k_sideCuts k_sideCount.toNatClampNeg k_count))), (k_sums_a, .inl (cI, 6, .inl (upd k_sums p1.toNatClampNeg v_4)))] H := hP
            have hD : va_D A [(k_a, .inr (2, [.ref k_wanted_a, .ref k_steps_a, .ref k_places_a, .ref k_bundles_a, .ref k_sideCuts_a, .ref k_sums_a, .int k_count, .int v_9, .int k_bundleCount])), (k_wanted_a, .inl (cI, 300, .inl (upd k_wanted k_count.toNatClampNeg p1))), (k_steps_a, .inl (cI, 300, .inl (upd k_steps k_count.toNatClampNeg p2))), (k_places_a, .inl (cI, 300, .inl (upd k_places k_count.toNatClampNeg p3))), (k_bundles_a, .inl (cI, 300, .inl (upd k_bundles k_count.toNatClampNeg (-1)))), (k_sideCuts_a, .inl (cI, 300, .inl (upd k_sideCuts k_sideCount.toNatClampNeg k_count))), (k_sums_a, .inl (cI, 6, .inl (upd k_sums p1.toNatClampNeg v_4)))] := hD
            refine lv_aload_n hx hb d_k_enter_109 rfl (lv_at hl 0 rfl) ?_
            refine lv_dup hx hb d_k_enter_110 rfl ?_
            refine va_get (D := D) (ci := 2) (v := .int k_count) (C := "CutShears$CutBook") (T := T_k) (N := 9) hx hb hG hi_k hown hK hP 0 rfl rfl 6 (by decide) (hG _ mw_141) (fun _ h9 => h9) rfl d_k_enter_111 ?_
            refine lv_iconst (v := 1) hx hb d_k_enter_114 (by decide) ?_
            refine lv_iadd hx hb d_k_enter_115 ?_
            refine lv_topi (fun v_10 ev_10 => ?_)
            replace hv := hv v_10 ev_10
            refine va_put (D := D) (ci := 2) (v := .int v_10) (ty := .int) (C := "CutShears$CutBook") (T := T_k) (N := 9) hx hb hG hi_k ty_k ty_k_ok nm_k hown hK hP hD hS 0 rfl rfl 6 (by decide) (hG _ mw_141) (fun _ h9 => h9) rfl (by decide +kernel) rfl rfl (Nat.le_of_ble_eq_true rfl) d_k_enter_116 (fun H locs hP hD hS => ?_)
            have hP : va_P D vwCl [(k_a, .inr (2, [.ref k_wanted_a, .ref k_steps_a, .ref k_places_a, .ref k_bundles_a, .ref k_sideCuts_a, .ref k_sums_a, .int v_10, .int v_9, .int k_bundleCount])), (k_wanted_a, .inl (cI, 300, .inl (upd k_wanted k_count.toNatClampNeg p1))), (k_steps_a, .inl (cI, 300, .inl (upd k_steps k_count.toNatClampNeg p2))), (k_places_a, .inl (cI, 300, .inl (upd k_places k_count.toNatClampNeg p3))), (k_bundles_a, .inl (cI, 300, .inl (upd k_bundles k_count.toNatClampNeg (-1)))), (k_sideCuts_a, .inl (cI, 300, .inl (upd k_sideCuts k_sideCount.toNatClampNeg k_count))), (k_sums_a, .inl (cI, 6, .inl (upd k_sums p1.toNatClampNeg v_4)))] H := hP
            have hD : va_D A [(k_a, .inr (2, [.ref k_wanted_a, .ref k_steps_a, .ref k_places_a, .ref k_bundles_a, .ref k_sideCuts_a, .ref k_sums_a, .int v_10, .int v_9, .int k_bundleCount])), (k_wanted_a, .inl (cI, 300, .inl (upd k_wanted k_count.toNatClampNeg p1))), (k_steps_a, .inl (cI, 300, .inl (upd k_steps k_count.toNatClampNeg p2))), (k_places_a, .inl (cI, 300, .inl (upd k_places k_count.toNatClampNeg p3))), (k_bundles_a, .inl (cI, 300, .inl (upd k_bundles k_count.toNatClampNeg (-1)))), (k_sideCuts_a, .inl (cI, 300, .inl (upd k_sideCuts k_sideCount.toNatClampNeg k_count))), (k_sums_a, .inl (cI, 6, .inl (upd k_sums p1.toNatClampNeg v_4)))] := hD
            exact kt_vret hQ hx hb hr hlocks (v_10, v_9, (upd k_wanted k_count.toNatClampNeg p1), (upd k_steps k_count.toNatClampNeg p2), (upd k_places k_count.toNatClampNeg p3), (upd k_bundles k_count.toNatClampNeg (-1)), (upd k_sideCuts k_sideCount.toNatClampNeg k_count), (upd k_sums p1.toNatClampNeg v_4)) hv (hP.sub [0, 1, 2, 3, 4, 5, 6] rfl) (hD.sub [0, 1, 2, 3, 4, 5, 6] (by decide) rfl) hS (Nat.le_of_ble_eq_true rfl) (Nat.le_of_ble_eq_true rfl) d_k_enter_119
      · replace hv := hv.2 c_3
        exact kt_vret hQ hx hb hr hlocks (k_count, k_sideCount, k_wanted, k_steps, k_places, k_bundles, k_sideCuts, k_sums) hv (hP.sub [0, 1, 2, 3, 4, 5, 6] rfl) (hD.sub [0, 1, 2, 3, 4, 5, 6] (by decide) rfl) hS (Nat.le_of_ble_eq_true rfl) (Nat.le_of_ble_eq_true rfl) d_k_enter_20
set_option maxHeartbeats 4000000 in
set_option maxRecDepth 100000 in
theorem c_k_tell (l : Launch) (D : va_G) (cI cJ cZ : ClassId) (k_a k_wanted_a k_steps_a k_places_a k_bundles_a k_sideCuts_a k_sums_a : Nat) (sz : Nat) (k_wanted : Nat → Int32) (k_steps : Nat → Int32) (k_places : Nat → Int32) (k_bundles : Nat → Int32) (k_sideCuts : Nat → Int32) (k_sums : Nat → Int32) (k_count : Int32) (k_sideCount : Int32) (k_bundleCount : Int32) (p1 : Int32) (p2 : Int32) {post : Int32 → Prop} (hlt : l.stackTraces = false) (hv : vc_k_tell k_wanted k_steps k_places k_bundles p1 p2 post) :
    kt_Mi l y_k_tell (.code y_k_tell cc_k_tell 3 (some .int)) rm_k_tell D cI cJ cZ [(k_a, .inr (2, [.ref k_wanted_a, .ref k_steps_a, .ref k_places_a, .ref k_bundles_a, .ref k_sideCuts_a, .ref k_sums_a, .int k_count, .int k_sideCount, .int k_bundleCount])), (k_wanted_a, .inl (cI, 300, .inl k_wanted)), (k_steps_a, .inl (cI, 300, .inl k_steps)), (k_places_a, .inl (cI, 300, .inl k_places)), (k_bundles_a, .inl (cI, 300, .inl k_bundles)), (k_sideCuts_a, .inl (cI, 300, .inl k_sideCuts)), (k_sums_a, .inl (cI, 6, .inl k_sums))] sz [.ref k_a, .int p1, .int p2] (fun (r : Int32) (_ : Unit) => post r) (fun _ : Unit => [(k_a, .inr (2, [.ref k_wanted_a, .ref k_steps_a, .ref k_places_a, .ref k_bundles_a, .ref k_sideCuts_a, .ref k_sums_a, .int k_count, .int k_sideCount, .int k_bundleCount])), (k_wanted_a, .inl (cI, 300, .inl k_wanted)), (k_steps_a, .inl (cI, 300, .inl k_steps)), (k_places_a, .inl (cI, 300, .inl k_places)), (k_bundles_a, .inl (cI, 300, .inl k_bundles)), (k_sideCuts_a, .inl (cI, 300, .inl k_sideCuts)), (k_sums_a, .inl (cI, 6, .inl k_sums))]) 0 0 := by
  refine kt_ofM (cc := cc_k_tell) (maxL := 3) (ret := (some .int)) (Qc := fun A => kt_Qi D A (fun (r : Int32) (_ : Unit) => post r) (fun _ : Unit => [(k_a, .inr (2, [.ref k_wanted_a, .ref k_steps_a, .ref k_places_a, .ref k_bundles_a, .ref k_sideCuts_a, .ref k_sums_a, .int k_count, .int k_sideCount, .int k_bundleCount])), (k_wanted_a, .inl (cI, 300, .inl k_wanted)), (k_steps_a, .inl (cI, 300, .inl k_steps)), (k_places_a, .inl (cI, 300, .inl k_places)), (k_bundles_a, .inl (cI, 300, .inl k_bundles)), (k_sideCuts_a, .inl (cI, 300, .inl k_sideCuts)), (k_sums_a, .inl (cI, 6, .inl k_sums))])) (by decide) (Nat.le_of_ble_eq_true rfl) ?_
  intro p e s m args below meth c A Q hI hP hD hS hQ ls hl
  obtain ⟨hx, hb, hr, hG, hown, hlocks, hname, hml, hC, hZ, hA⟩ := hI
  have hown : s.vm.findClass "CutShears$CutBook" = some m.cls := hown
  have hK := hC.1
  have hl : lv_has ls 3 [(0, .ref k_a), (1, .int p1), (2, .int p2)] := hl
  unfold vc_k_tell at hv
  refine lv_iload_n hx hb d_k_tell_0 rfl (lv_at hl 2 rfl) ?_
  by_cases c_1_0 : p2 = 0
  · have hv := hv.1 c_1_0
    refine lv_tableIn (tgt := 28) hx hb d_k_tell_1 (by rw [c_1_0]; decide) (by rw [c_1_0]; decide) (by rw [c_1_0]; rfl) (by decide) ?_
    refine lv_aload_n hx hb d_k_tell_28 rfl (lv_at hl 0 rfl) ?_
    refine va_get (D := D) (ci := 2) (v := .ref k_wanted_a) (C := "CutShears$CutBook") (T := T_k) (N := 9) hx hb hG hi_k hown hK hP 0 rfl rfl 0 (by decide) (hG _ mw_135) (fun _ h9 => h9) rfl d_k_tell_29 ?_
    refine lv_iload_n hx hb d_k_tell_32 rfl (lv_at hl 1 rfl) ?_
    refine kt_calli (wc := [(k_wanted_a, .inl (cI, 300, .inl k_wanted))]) (wr := [(k_a, .inr (2, [.ref k_wanted_a, .ref k_steps_a, .ref k_places_a, .ref k_bundles_a, .ref k_sideCuts_a, .ref k_sums_a, .int k_count, .int k_sideCount, .int k_bundleCount])), (k_steps_a, .inl (cI, 300, .inl k_steps)), (k_places_a, .inl (cI, 300, .inl k_places)), (k_bundles_a, .inl (cI, 300, .inl k_bundles)), (k_sideCuts_a, .inl (cI, 300, .inl k_sideCuts)), (k_sums_a, .inl (cI, 6, .inl k_sums))]) hA hP hD hS [1] [0, 2, 3, 4, 5, 6] rfl rfl (by decide) (by decide) (va_runSN (As := [.ref k_wanted_a, .int p1]) (rest := []) ⟨hx, hb, hml, hown, hG⟩ (c_x_numberAt l D cI cJ cZ k_wanted_a _ 300 k_wanted p1 hlt hv) ⟨va_cnB 2 hG (kt_g0 mw_332) rfl rfl rfl (hC.2 _ (kt_Nm 4 rfl)) (hG _ mw_32) (by decide +kernel) ⟨Nat.le_of_ble_eq_true rfl, Nat.le_of_ble_eq_true rfl⟩, (hG _ mw_331), trivial⟩ (kt_pre hC hZ hA hP hD hS [1] (by decide) rfl) rfl rfl hl.1 rfl (lv_room (Nat.le_of_ble_eq_true rfl)) d_k_tell_33 ⟨Nat.le_of_ble_eq_true rfl, Nat.le_of_ble_eq_true rfl⟩) (fun r_2 _ H locs hv hP hD hS => ?_)
    try dsimp only at hv
    have hP : va_P D vwCl [(k_a, .inr (2, [.ref k_wanted_a, .ref k_steps_a, .ref k_places_a, .ref k_bundles_a, .ref k_sideCuts_a, .ref k_sums_a, .int k_count, .int k_sideCount, .int k_bundleCount])), (k_steps_a, .inl (cI, 300, .inl k_steps)), (k_places_a, .inl (cI, 300, .inl k_places)), (k_bundles_a, .inl (cI, 300, .inl k_bundles)), (k_sideCuts_a, .inl (cI, 300, .inl k_sideCuts)), (k_sums_a, .inl (cI, 6, .inl k_sums)), (k_wanted_a, .inl (cI, 300, .inl k_wanted))] H := hP
    have hD : va_D A [(k_a, .inr (2, [.ref k_wanted_a, .ref k_steps_a, .ref k_places_a, .ref k_bundles_a, .ref k_sideCuts_a, .ref k_sums_a, .int k_count, .int k_sideCount, .int k_bundleCount])), (k_steps_a, .inl (cI, 300, .inl k_steps)), (k_places_a, .inl (cI, 300, .inl k_places)), (k_bundles_a, .inl (cI, 300, .inl k_bundles)), (k_sideCuts_a, .inl (cI, 300, .inl k_sideCuts)), (k_sums_a, .inl (cI, 6, .inl k_sums)), (k_wanted_a, .inl (cI, 300, .inl k_wanted))] := hD
    exact kt_iret hQ hx hb hr hlocks () hv (hP.sub [0, 6, 1, 2, 3, 4, 5] rfl) (hD.sub [0, 6, 1, 2, 3, 4, 5] (by decide) rfl) hS (Nat.le_of_ble_eq_true rfl) (Nat.le_of_ble_eq_true rfl) d_k_tell_36
  replace hv := hv.2
  by_cases c_1_1 : p2 = 1
  · have hv := hv.1 c_1_1
    refine lv_tableIn (tgt := 37) hx hb d_k_tell_1 (by rw [c_1_1]; decide) (by rw [c_1_1]; decide) (by rw [c_1_1]; rfl) (by decide) ?_
    refine lv_aload_n hx hb d_k_tell_37 rfl (lv_at hl 0 rfl) ?_
    refine va_get (D := D) (ci := 2) (v := .ref k_steps_a) (C := "CutShears$CutBook") (T := T_k) (N := 9) hx hb hG hi_k hown hK hP 0 rfl rfl 1 (by decide) (hG _ mw_136) (fun _ h9 => h9) rfl d_k_tell_38 ?_
    refine lv_iload_n hx hb d_k_tell_41 rfl (lv_at hl 1 rfl) ?_
    refine kt_calli (wc := [(k_steps_a, .inl (cI, 300, .inl k_steps))]) (wr := [(k_a, .inr (2, [.ref k_wanted_a, .ref k_steps_a, .ref k_places_a, .ref k_bundles_a, .ref k_sideCuts_a, .ref k_sums_a, .int k_count, .int k_sideCount, .int k_bundleCount])), (k_wanted_a, .inl (cI, 300, .inl k_wanted)), (k_places_a, .inl (cI, 300, .inl k_places)), (k_bundles_a, .inl (cI, 300, .inl k_bundles)), (k_sideCuts_a, .inl (cI, 300, .inl k_sideCuts)), (k_sums_a, .inl (cI, 6, .inl k_sums))]) hA hP hD hS [2] [0, 1, 3, 4, 5, 6] rfl rfl (by decide) (by decide) (va_runSN (As := [.ref k_steps_a, .int p1]) (rest := []) ⟨hx, hb, hml, hown, hG⟩ (c_x_numberAt l D cI cJ cZ k_steps_a _ 300 k_steps p1 hlt hv) ⟨va_cnB 2 hG (kt_g0 mw_332) rfl rfl rfl (hC.2 _ (kt_Nm 4 rfl)) (hG _ mw_32) (by decide +kernel) ⟨Nat.le_of_ble_eq_true rfl, Nat.le_of_ble_eq_true rfl⟩, (hG _ mw_331), trivial⟩ (kt_pre hC hZ hA hP hD hS [2] (by decide) rfl) rfl rfl hl.1 rfl (lv_room (Nat.le_of_ble_eq_true rfl)) d_k_tell_42 ⟨Nat.le_of_ble_eq_true rfl, Nat.le_of_ble_eq_true rfl⟩) (fun r_3 _ H locs hv hP hD hS => ?_)
    try dsimp only at hv
    have hP : va_P D vwCl [(k_a, .inr (2, [.ref k_wanted_a, .ref k_steps_a, .ref k_places_a, .ref k_bundles_a, .ref k_sideCuts_a, .ref k_sums_a, .int k_count, .int k_sideCount, .int k_bundleCount])), (k_wanted_a, .inl (cI, 300, .inl k_wanted)), (k_places_a, .inl (cI, 300, .inl k_places)), (k_bundles_a, .inl (cI, 300, .inl k_bundles)), (k_sideCuts_a, .inl (cI, 300, .inl k_sideCuts)), (k_sums_a, .inl (cI, 6, .inl k_sums)), (k_steps_a, .inl (cI, 300, .inl k_steps))] H := hP
    have hD : va_D A [(k_a, .inr (2, [.ref k_wanted_a, .ref k_steps_a, .ref k_places_a, .ref k_bundles_a, .ref k_sideCuts_a, .ref k_sums_a, .int k_count, .int k_sideCount, .int k_bundleCount])), (k_wanted_a, .inl (cI, 300, .inl k_wanted)), (k_places_a, .inl (cI, 300, .inl k_places)), (k_bundles_a, .inl (cI, 300, .inl k_bundles)), (k_sideCuts_a, .inl (cI, 300, .inl k_sideCuts)), (k_sums_a, .inl (cI, 6, .inl k_sums)), (k_steps_a, .inl (cI, 300, .inl k_steps))] := hD
    exact kt_iret hQ hx hb hr hlocks () hv (hP.sub [0, 1, 6, 2, 3, 4, 5] rfl) (hD.sub [0, 1, 6, 2, 3, 4, 5] (by decide) rfl) hS (Nat.le_of_ble_eq_true rfl) (Nat.le_of_ble_eq_true rfl) d_k_tell_45
  replace hv := hv.2
  by_cases c_1_2 : p2 = 2
  · have hv := hv.1 c_1_2
    refine lv_tableIn (tgt := 46) hx hb d_k_tell_1 (by rw [c_1_2]; decide) (by rw [c_1_2]; decide) (by rw [c_1_2]; rfl) (by decide) ?_
    refine lv_aload_n hx hb d_k_tell_46 rfl (lv_at hl 0 rfl) ?_
    refine va_get (D := D) (ci := 2) (v := .ref k_places_a) (C := "CutShears$CutBook") (T := T_k) (N := 9) hx hb hG hi_k hown hK hP 0 rfl rfl 2 (by decide) (hG _ mw_137) (fun _ h9 => h9) rfl d_k_tell_47 ?_
    refine lv_iload_n hx hb d_k_tell_50 rfl (lv_at hl 1 rfl) ?_
    refine kt_calli (wc := [(k_places_a, .inl (cI, 300, .inl k_places))]) (wr := [(k_a, .inr (2, [.ref k_wanted_a, .ref k_steps_a, .ref k_places_a, .ref k_bundles_a, .ref k_sideCuts_a, .ref k_sums_a, .int k_count, .int k_sideCount, .int k_bundleCount])), (k_wanted_a, .inl (cI, 300, .inl k_wanted)), (k_steps_a, .inl (cI, 300, .inl k_steps)), (k_bundles_a, .inl (cI, 300, .inl k_bundles)), (k_sideCuts_a, .inl (cI, 300, .inl k_sideCuts)), (k_sums_a, .inl (cI, 6, .inl k_sums))]) hA hP hD hS [3] [0, 1, 2, 4, 5, 6] rfl rfl (by decide) (by decide) (va_runSN (As := [.ref k_places_a, .int p1]) (rest := []) ⟨hx, hb, hml, hown, hG⟩ (c_x_numberAt l D cI cJ cZ k_places_a _ 300 k_places p1 hlt hv) ⟨va_cnB 2 hG (kt_g0 mw_332) rfl rfl rfl (hC.2 _ (kt_Nm 4 rfl)) (hG _ mw_32) (by decide +kernel) ⟨Nat.le_of_ble_eq_true rfl, Nat.le_of_ble_eq_true rfl⟩, (hG _ mw_331), trivial⟩ (kt_pre hC hZ hA hP hD hS [3] (by decide) rfl) rfl rfl hl.1 rfl (lv_room (Nat.le_of_ble_eq_true rfl)) d_k_tell_51 ⟨Nat.le_of_ble_eq_true rfl, Nat.le_of_ble_eq_true rfl⟩) (fun r_4 _ H locs hv hP hD hS => ?_)
    try dsimp only at hv
    have hP : va_P D vwCl [(k_a, .inr (2, [.ref k_wanted_a, .ref k_steps_a, .ref k_places_a, .ref k_bundles_a, .ref k_sideCuts_a, .ref k_sums_a, .int k_count, .int k_sideCount, .int k_bundleCount])), (k_wanted_a, .inl (cI, 300, .inl k_wanted)), (k_steps_a, .inl (cI, 300, .inl k_steps)), (k_bundles_a, .inl (cI, 300, .inl k_bundles)), (k_sideCuts_a, .inl (cI, 300, .inl k_sideCuts)), (k_sums_a, .inl (cI, 6, .inl k_sums)), (k_places_a, .inl (cI, 300, .inl k_places))] H := hP
    have hD : va_D A [(k_a, .inr (2, [.ref k_wanted_a, .ref k_steps_a, .ref k_places_a, .ref k_bundles_a, .ref k_sideCuts_a, .ref k_sums_a, .int k_count, .int k_sideCount, .int k_bundleCount])), (k_wanted_a, .inl (cI, 300, .inl k_wanted)), (k_steps_a, .inl (cI, 300, .inl k_steps)), (k_bundles_a, .inl (cI, 300, .inl k_bundles)), (k_sideCuts_a, .inl (cI, 300, .inl k_sideCuts)), (k_sums_a, .inl (cI, 6, .inl k_sums)), (k_places_a, .inl (cI, 300, .inl k_places))] := hD
    exact kt_iret hQ hx hb hr hlocks () hv (hP.sub [0, 1, 2, 6, 3, 4, 5] rfl) (hD.sub [0, 1, 2, 6, 3, 4, 5] (by decide) rfl) hS (Nat.le_of_ble_eq_true rfl) (Nat.le_of_ble_eq_true rfl) d_k_tell_54
  replace hv := hv.2
  replace hv := hv c_1_0
  replace hv := hv c_1_1
  replace hv := hv c_1_2
  have c_1_0n := lv_neT c_1_0 (a := 0) (by decide)
  have c_1_1n := lv_neT c_1_1 (a := 1) (by decide)
  have c_1_2n := lv_neT c_1_2 (a := 2) (by decide)
  refine lv_tableOut (tgt := 55) hx hb d_k_tell_1 (by omega) (by decide) ?_
  refine lv_aload_n hx hb d_k_tell_55 rfl (lv_at hl 0 rfl) ?_
  refine va_get (D := D) (ci := 2) (v := .ref k_bundles_a) (C := "CutShears$CutBook") (T := T_k) (N := 9) hx hb hG hi_k hown hK hP 0 rfl rfl 3 (by decide) (hG _ mw_138) (fun _ h9 => h9) rfl d_k_tell_56 ?_
  refine lv_iload_n hx hb d_k_tell_59 rfl (lv_at hl 1 rfl) ?_
  refine kt_calli (wc := [(k_bundles_a, .inl (cI, 300, .inl k_bundles))]) (wr := [(k_a, .inr (2, [.ref k_wanted_a, .ref k_steps_a, .ref k_places_a, .ref k_bundles_a, .ref k_sideCuts_a, .ref k_sums_a, .int k_count, .int k_sideCount, .int k_bundleCount])), (k_wanted_a, .inl (cI, 300, .inl k_wanted)), (k_steps_a, .inl (cI, 300, .inl k_steps)), (k_places_a, .inl (cI, 300, .inl k_places)), (k_sideCuts_a, .inl (cI, 300, .inl k_sideCuts)), (k_sums_a, .inl (cI, 6, .inl k_sums))]) hA hP hD hS [4] [0, 1, 2, 3, 5, 6] rfl rfl (by decide) (by decide) (va_runSN (As := [.ref k_bundles_a, .int p1]) (rest := []) ⟨hx, hb, hml, hown, hG⟩ (c_x_numberAt l D cI cJ cZ k_bundles_a _ 300 k_bundles p1 hlt hv) ⟨va_cnB 2 hG (kt_g0 mw_332) rfl rfl rfl (hC.2 _ (kt_Nm 4 rfl)) (hG _ mw_32) (by decide +kernel) ⟨Nat.le_of_ble_eq_true rfl, Nat.le_of_ble_eq_true rfl⟩, (hG _ mw_331), trivial⟩ (kt_pre hC hZ hA hP hD hS [4] (by decide) rfl) rfl rfl hl.1 rfl (lv_room (Nat.le_of_ble_eq_true rfl)) d_k_tell_60 ⟨Nat.le_of_ble_eq_true rfl, Nat.le_of_ble_eq_true rfl⟩) (fun r_5 _ H locs hv hP hD hS => ?_)
  try dsimp only at hv
  have hP : va_P D vwCl [(k_a, .inr (2, [.ref k_wanted_a, .ref k_steps_a, .ref k_places_a, .ref k_bundles_a, .ref k_sideCuts_a, .ref k_sums_a, .int k_count, .int k_sideCount, .int k_bundleCount])), (k_wanted_a, .inl (cI, 300, .inl k_wanted)), (k_steps_a, .inl (cI, 300, .inl k_steps)), (k_places_a, .inl (cI, 300, .inl k_places)), (k_sideCuts_a, .inl (cI, 300, .inl k_sideCuts)), (k_sums_a, .inl (cI, 6, .inl k_sums)), (k_bundles_a, .inl (cI, 300, .inl k_bundles))] H := hP
  have hD : va_D A [(k_a, .inr (2, [.ref k_wanted_a, .ref k_steps_a, .ref k_places_a, .ref k_bundles_a, .ref k_sideCuts_a, .ref k_sums_a, .int k_count, .int k_sideCount, .int k_bundleCount])), (k_wanted_a, .inl (cI, 300, .inl k_wanted)), (k_steps_a, .inl (cI, 300, .inl k_steps)), (k_places_a, .inl (cI, 300, .inl k_places)), (k_sideCuts_a, .inl (cI, 300, .inl k_sideCuts)), (k_sums_a, .inl (cI, 6, .inl k_sums)), (k_bundles_a, .inl (cI, 300, .inl k_bundles))] := hD
  exact kt_iret hQ hx hb hr hlocks () hv (hP.sub [0, 1, 2, 3, 6, 4, 5] rfl) (hD.sub [0, 1, 2, 3, 6, 4, 5] (by decide) rfl) hS (Nat.le_of_ble_eq_true rfl) (Nat.le_of_ble_eq_true rfl) d_k_tell_63
set_option maxHeartbeats 4000000 in
set_option maxRecDepth 100000 in
theorem c_k_sumOf (l : Launch) (D : va_G) (cI cJ cZ : ClassId) (k_a k_wanted_a k_steps_a k_places_a k_bundles_a k_sideCuts_a k_sums_a : Nat) (sz : Nat) (k_wanted : Nat → Int32) (k_steps : Nat → Int32) (k_places : Nat → Int32) (k_bundles : Nat → Int32) (k_sideCuts : Nat → Int32) (k_sums : Nat → Int32) (k_count : Int32) (k_sideCount : Int32) (k_bundleCount : Int32) (p1 : Int32) {post : Int32 → Prop} (hlt : l.stackTraces = false) (hv : vc_k_sumOf k_sums p1 post) :
    kt_Mi l y_k_sumOf (.code y_k_sumOf cc_k_sumOf 2 (some .int)) rm_k_sumOf D cI cJ cZ [(k_a, .inr (2, [.ref k_wanted_a, .ref k_steps_a, .ref k_places_a, .ref k_bundles_a, .ref k_sideCuts_a, .ref k_sums_a, .int k_count, .int k_sideCount, .int k_bundleCount])), (k_wanted_a, .inl (cI, 300, .inl k_wanted)), (k_steps_a, .inl (cI, 300, .inl k_steps)), (k_places_a, .inl (cI, 300, .inl k_places)), (k_bundles_a, .inl (cI, 300, .inl k_bundles)), (k_sideCuts_a, .inl (cI, 300, .inl k_sideCuts)), (k_sums_a, .inl (cI, 6, .inl k_sums))] sz [.ref k_a, .int p1] (fun (r : Int32) (_ : Unit) => post r) (fun _ : Unit => [(k_a, .inr (2, [.ref k_wanted_a, .ref k_steps_a, .ref k_places_a, .ref k_bundles_a, .ref k_sideCuts_a, .ref k_sums_a, .int k_count, .int k_sideCount, .int k_bundleCount])), (k_wanted_a, .inl (cI, 300, .inl k_wanted)), (k_steps_a, .inl (cI, 300, .inl k_steps)), (k_places_a, .inl (cI, 300, .inl k_places)), (k_bundles_a, .inl (cI, 300, .inl k_bundles)), (k_sideCuts_a, .inl (cI, 300, .inl k_sideCuts)), (k_sums_a, .inl (cI, 6, .inl k_sums))]) 0 0 := by
  refine kt_ofM (cc := cc_k_sumOf) (maxL := 2) (ret := (some .int)) (Qc := fun A => kt_Qi D A (fun (r : Int32) (_ : Unit) => post r) (fun _ : Unit => [(k_a, .inr (2, [.ref k_wanted_a, .ref k_steps_a, .ref k_places_a, .ref k_bundles_a, .ref k_sideCuts_a, .ref k_sums_a, .int k_count, .int k_sideCount, .int k_bundleCount])), (k_wanted_a, .inl (cI, 300, .inl k_wanted)), (k_steps_a, .inl (cI, 300, .inl k_steps)), (k_places_a, .inl (cI, 300, .inl k_places)), (k_bundles_a, .inl (cI, 300, .inl k_bundles)), (k_sideCuts_a, .inl (cI, 300, .inl k_sideCuts)), (k_sums_a, .inl (cI, 6, .inl k_sums))])) (by decide) (Nat.le_of_ble_eq_true rfl) ?_
  intro p e s m args below meth c A Q hI hP hD hS hQ ls hl
  obtain ⟨hx, hb, hr, hG, hown, hlocks, hname, hml, hC, hZ, hA⟩ := hI
  have hown : s.vm.findClass "CutShears$CutBook" = some m.cls := hown
  have hK := hC.1
  have hl : lv_has ls 2 [(0, .ref k_a), (1, .int p1)] := hl
  unfold vc_k_sumOf at hv
  refine lv_aload_n hx hb d_k_sumOf_0 rfl (lv_at hl 0 rfl) ?_
  refine va_get (D := D) (ci := 2) (v := .ref k_sums_a) (C := "CutShears$CutBook") (T := T_k) (N := 9) hx hb hG hi_k hown hK hP 0 rfl rfl 5 (by decide) (hG _ mw_140) (fun _ h9 => h9) rfl d_k_sumOf_1 ?_
  refine lv_iload_n hx hb d_k_sumOf_4 rfl (lv_at hl 1 rfl) ?_
  refine kt_calli (wc := [(k_sums_a, .inl (cI, 6, .inl k_sums))]) (wr := [(k_a, .inr (2, [.ref k_wanted_a, .ref k_steps_a, .ref k_places_a, .ref k_bundles_a, .ref k_sideCuts_a, .ref k_sums_a, .int k_count, .int k_sideCount, .int k_bundleCount])), (k_wanted_a, .inl (cI, 300, .inl k_wanted)), (k_steps_a, .inl (cI, 300, .inl k_steps)), (k_places_a, .inl (cI, 300, .inl k_places)), (k_bundles_a, .inl (cI, 300, .inl k_bundles)), (k_sideCuts_a, .inl (cI, 300, .inl k_sideCuts))]) hA hP hD hS [6] [0, 1, 2, 3, 4, 5] rfl rfl (by decide) (by decide) (va_runSN (As := [.ref k_sums_a, .int p1]) (rest := []) ⟨hx, hb, hml, hown, hG⟩ (c_x_numberAt l D cI cJ cZ k_sums_a _ 6 k_sums p1 hlt hv) ⟨va_cnB 2 hG (kt_g0 mw_332) rfl rfl rfl (hC.2 _ (kt_Nm 4 rfl)) (hG _ mw_32) (by decide +kernel) ⟨Nat.le_of_ble_eq_true rfl, Nat.le_of_ble_eq_true rfl⟩, (hG _ mw_331), trivial⟩ (kt_pre hC hZ hA hP hD hS [6] (by decide) rfl) rfl rfl hl.1 rfl (lv_room (Nat.le_of_ble_eq_true rfl)) d_k_sumOf_5 ⟨Nat.le_of_ble_eq_true rfl, Nat.le_of_ble_eq_true rfl⟩) (fun r_1 _ H locs hv hP hD hS => ?_)
  try dsimp only at hv
  have hP : va_P D vwCl [(k_a, .inr (2, [.ref k_wanted_a, .ref k_steps_a, .ref k_places_a, .ref k_bundles_a, .ref k_sideCuts_a, .ref k_sums_a, .int k_count, .int k_sideCount, .int k_bundleCount])), (k_wanted_a, .inl (cI, 300, .inl k_wanted)), (k_steps_a, .inl (cI, 300, .inl k_steps)), (k_places_a, .inl (cI, 300, .inl k_places)), (k_bundles_a, .inl (cI, 300, .inl k_bundles)), (k_sideCuts_a, .inl (cI, 300, .inl k_sideCuts)), (k_sums_a, .inl (cI, 6, .inl k_sums))] H := hP
  have hD : va_D A [(k_a, .inr (2, [.ref k_wanted_a, .ref k_steps_a, .ref k_places_a, .ref k_bundles_a, .ref k_sideCuts_a, .ref k_sums_a, .int k_count, .int k_sideCount, .int k_bundleCount])), (k_wanted_a, .inl (cI, 300, .inl k_wanted)), (k_steps_a, .inl (cI, 300, .inl k_steps)), (k_places_a, .inl (cI, 300, .inl k_places)), (k_bundles_a, .inl (cI, 300, .inl k_bundles)), (k_sideCuts_a, .inl (cI, 300, .inl k_sideCuts)), (k_sums_a, .inl (cI, 6, .inl k_sums))] := hD
  exact kt_iret hQ hx hb hr hlocks () hv (hP.sub [0, 1, 2, 3, 4, 5, 6] rfl) (hD.sub [0, 1, 2, 3, 4, 5, 6] (by decide) rfl) hS (Nat.le_of_ble_eq_true rfl) (Nat.le_of_ble_eq_true rfl) d_k_sumOf_8
set_option maxHeartbeats 4000000 in
set_option maxRecDepth 100000 in
theorem c_k_sideCut (l : Launch) (D : va_G) (cI cJ cZ : ClassId) (k_a k_wanted_a k_steps_a k_places_a k_bundles_a k_sideCuts_a k_sums_a : Nat) (sz : Nat) (k_wanted : Nat → Int32) (k_steps : Nat → Int32) (k_places : Nat → Int32) (k_bundles : Nat → Int32) (k_sideCuts : Nat → Int32) (k_sums : Nat → Int32) (k_count : Int32) (k_sideCount : Int32) (k_bundleCount : Int32) (p1 : Int32) {post : Int32 → Prop} (hlt : l.stackTraces = false) (hv : vc_k_sideCut k_sideCuts k_sideCount p1 post) :
    kt_Mi l y_k_sideCut (.code y_k_sideCut cc_k_sideCut 2 (some .int)) rm_k_sideCut D cI cJ cZ [(k_a, .inr (2, [.ref k_wanted_a, .ref k_steps_a, .ref k_places_a, .ref k_bundles_a, .ref k_sideCuts_a, .ref k_sums_a, .int k_count, .int k_sideCount, .int k_bundleCount])), (k_wanted_a, .inl (cI, 300, .inl k_wanted)), (k_steps_a, .inl (cI, 300, .inl k_steps)), (k_places_a, .inl (cI, 300, .inl k_places)), (k_bundles_a, .inl (cI, 300, .inl k_bundles)), (k_sideCuts_a, .inl (cI, 300, .inl k_sideCuts)), (k_sums_a, .inl (cI, 6, .inl k_sums))] sz [.ref k_a, .int p1] (fun (r : Int32) (_ : Unit) => post r) (fun _ : Unit => [(k_a, .inr (2, [.ref k_wanted_a, .ref k_steps_a, .ref k_places_a, .ref k_bundles_a, .ref k_sideCuts_a, .ref k_sums_a, .int k_count, .int k_sideCount, .int k_bundleCount])), (k_wanted_a, .inl (cI, 300, .inl k_wanted)), (k_steps_a, .inl (cI, 300, .inl k_steps)), (k_places_a, .inl (cI, 300, .inl k_places)), (k_bundles_a, .inl (cI, 300, .inl k_bundles)), (k_sideCuts_a, .inl (cI, 300, .inl k_sideCuts)), (k_sums_a, .inl (cI, 6, .inl k_sums))]) 0 0 := by
  refine kt_ofM (cc := cc_k_sideCut) (maxL := 2) (ret := (some .int)) (Qc := fun A => kt_Qi D A (fun (r : Int32) (_ : Unit) => post r) (fun _ : Unit => [(k_a, .inr (2, [.ref k_wanted_a, .ref k_steps_a, .ref k_places_a, .ref k_bundles_a, .ref k_sideCuts_a, .ref k_sums_a, .int k_count, .int k_sideCount, .int k_bundleCount])), (k_wanted_a, .inl (cI, 300, .inl k_wanted)), (k_steps_a, .inl (cI, 300, .inl k_steps)), (k_places_a, .inl (cI, 300, .inl k_places)), (k_bundles_a, .inl (cI, 300, .inl k_bundles)), (k_sideCuts_a, .inl (cI, 300, .inl k_sideCuts)), (k_sums_a, .inl (cI, 6, .inl k_sums))])) (by decide) (Nat.le_of_ble_eq_true rfl) ?_
  intro p e s m args below meth c A Q hI hP hD hS hQ ls hl
  obtain ⟨hx, hb, hr, hG, hown, hlocks, hname, hml, hC, hZ, hA⟩ := hI
  have hown : s.vm.findClass "CutShears$CutBook" = some m.cls := hown
  have hK := hC.1
  have hl : lv_has ls 2 [(0, .ref k_a), (1, .int p1)] := hl
  unfold vc_k_sideCut at hv
  refine lv_iload_n hx hb d_k_sideCut_0 rfl (lv_at hl 1 rfl) ?_
  refine lv_aload_n hx hb d_k_sideCut_1 rfl (lv_at hl 0 rfl) ?_
  refine va_get (D := D) (ci := 2) (v := .int k_sideCount) (C := "CutShears$CutBook") (T := T_k) (N := 9) hx hb hG hi_k hown hK hP 0 rfl rfl 7 (by decide) (hG _ mw_143) (fun _ h9 => h9) rfl d_k_sideCut_2 ?_
  refine lv_icmp_ge (tgt := 19) hx hb d_k_sideCut_5 (by decide) (fun c_1 => ?_) (fun c_1 => ?_)
  · replace hv := hv.1 c_1
    refine lv_iconst (v := (-1)) hx hb d_k_sideCut_19 (by decide) ?_
    exact kt_iret hQ hx hb hr hlocks () hv (hP.sub [0, 1, 2, 3, 4, 5, 6] rfl) (hD.sub [0, 1, 2, 3, 4, 5, 6] (by decide) rfl) hS (Nat.le_of_ble_eq_true rfl) (Nat.le_of_ble_eq_true rfl) d_k_sideCut_20
  · replace hv := hv.2 c_1
    refine lv_aload_n hx hb d_k_sideCut_8 rfl (lv_at hl 0 rfl) ?_
    refine va_get (D := D) (ci := 2) (v := .ref k_sideCuts_a) (C := "CutShears$CutBook") (T := T_k) (N := 9) hx hb hG hi_k hown hK hP 0 rfl rfl 4 (by decide) (hG _ mw_139) (fun _ h9 => h9) rfl d_k_sideCut_9 ?_
    refine lv_iload_n hx hb d_k_sideCut_12 rfl (lv_at hl 1 rfl) ?_
    refine kt_calli (wc := [(k_sideCuts_a, .inl (cI, 300, .inl k_sideCuts))]) (wr := [(k_a, .inr (2, [.ref k_wanted_a, .ref k_steps_a, .ref k_places_a, .ref k_bundles_a, .ref k_sideCuts_a, .ref k_sums_a, .int k_count, .int k_sideCount, .int k_bundleCount])), (k_wanted_a, .inl (cI, 300, .inl k_wanted)), (k_steps_a, .inl (cI, 300, .inl k_steps)), (k_places_a, .inl (cI, 300, .inl k_places)), (k_bundles_a, .inl (cI, 300, .inl k_bundles)), (k_sums_a, .inl (cI, 6, .inl k_sums))]) hA hP hD hS [5] [0, 1, 2, 3, 4, 6] rfl rfl (by decide) (by decide) (va_runSN (As := [.ref k_sideCuts_a, .int p1]) (rest := []) ⟨hx, hb, hml, hown, hG⟩ (c_x_numberAt l D cI cJ cZ k_sideCuts_a _ 300 k_sideCuts p1 hlt hv) ⟨va_cnB 2 hG (kt_g0 mw_332) rfl rfl rfl (hC.2 _ (kt_Nm 4 rfl)) (hG _ mw_32) (by decide +kernel) ⟨Nat.le_of_ble_eq_true rfl, Nat.le_of_ble_eq_true rfl⟩, (hG _ mw_331), trivial⟩ (kt_pre hC hZ hA hP hD hS [5] (by decide) rfl) rfl rfl hl.1 rfl (lv_room (Nat.le_of_ble_eq_true rfl)) d_k_sideCut_13 ⟨Nat.le_of_ble_eq_true rfl, Nat.le_of_ble_eq_true rfl⟩) (fun r_2 _ H locs hv hP hD hS => ?_)
    try dsimp only at hv
    have hP : va_P D vwCl [(k_a, .inr (2, [.ref k_wanted_a, .ref k_steps_a, .ref k_places_a, .ref k_bundles_a, .ref k_sideCuts_a, .ref k_sums_a, .int k_count, .int k_sideCount, .int k_bundleCount])), (k_wanted_a, .inl (cI, 300, .inl k_wanted)), (k_steps_a, .inl (cI, 300, .inl k_steps)), (k_places_a, .inl (cI, 300, .inl k_places)), (k_bundles_a, .inl (cI, 300, .inl k_bundles)), (k_sums_a, .inl (cI, 6, .inl k_sums)), (k_sideCuts_a, .inl (cI, 300, .inl k_sideCuts))] H := hP
    have hD : va_D A [(k_a, .inr (2, [.ref k_wanted_a, .ref k_steps_a, .ref k_places_a, .ref k_bundles_a, .ref k_sideCuts_a, .ref k_sums_a, .int k_count, .int k_sideCount, .int k_bundleCount])), (k_wanted_a, .inl (cI, 300, .inl k_wanted)), (k_steps_a, .inl (cI, 300, .inl k_steps)), (k_places_a, .inl (cI, 300, .inl k_places)), (k_bundles_a, .inl (cI, 300, .inl k_bundles)), (k_sums_a, .inl (cI, 6, .inl k_sums)), (k_sideCuts_a, .inl (cI, 300, .inl k_sideCuts))] := hD
    refine lv_goto (tgt := 20) hx hb d_k_sideCut_16 (by decide) ?_
    exact kt_iret hQ hx hb hr hlocks () hv (hP.sub [0, 1, 2, 3, 4, 6, 5] rfl) (hD.sub [0, 1, 2, 3, 4, 6, 5] (by decide) rfl) hS (Nat.le_of_ble_eq_true rfl) (Nat.le_of_ble_eq_true rfl) d_k_sideCut_20
set_option maxHeartbeats 4000000 in
set_option maxRecDepth 100000 in
theorem c_k_isOnBed (l : Launch) (D : va_G) (cI cJ cZ : ClassId) (k_a k_wanted_a k_steps_a k_places_a k_bundles_a k_sideCuts_a k_sums_a : Nat) (sz : Nat) (k_wanted : Nat → Int32) (k_steps : Nat → Int32) (k_places : Nat → Int32) (k_bundles : Nat → Int32) (k_sideCuts : Nat → Int32) (k_sums : Nat → Int32) (k_count : Int32) (k_sideCount : Int32) (k_bundleCount : Int32) (p1 : Int32) (p2 : Int32) {post : Int32 → Prop} (hlt : l.stackTraces = false) (hv : vc_k_isOnBed k_wanted k_places p1 p2 post) :
    kt_Mi l y_k_isOnBed (.code y_k_isOnBed cc_k_isOnBed 3 (some .boolean)) rm_k_isOnBed D cI cJ cZ [(k_a, .inr (2, [.ref k_wanted_a, .ref k_steps_a, .ref k_places_a, .ref k_bundles_a, .ref k_sideCuts_a, .ref k_sums_a, .int k_count, .int k_sideCount, .int k_bundleCount])), (k_wanted_a, .inl (cI, 300, .inl k_wanted)), (k_steps_a, .inl (cI, 300, .inl k_steps)), (k_places_a, .inl (cI, 300, .inl k_places)), (k_bundles_a, .inl (cI, 300, .inl k_bundles)), (k_sideCuts_a, .inl (cI, 300, .inl k_sideCuts)), (k_sums_a, .inl (cI, 6, .inl k_sums))] sz [.ref k_a, .int p1, .int p2] (fun (r : Int32) (_ : Unit) => narrow .boolean (.int r) = .int r ∧ post r) (fun _ : Unit => [(k_a, .inr (2, [.ref k_wanted_a, .ref k_steps_a, .ref k_places_a, .ref k_bundles_a, .ref k_sideCuts_a, .ref k_sums_a, .int k_count, .int k_sideCount, .int k_bundleCount])), (k_wanted_a, .inl (cI, 300, .inl k_wanted)), (k_steps_a, .inl (cI, 300, .inl k_steps)), (k_places_a, .inl (cI, 300, .inl k_places)), (k_bundles_a, .inl (cI, 300, .inl k_bundles)), (k_sideCuts_a, .inl (cI, 300, .inl k_sideCuts)), (k_sums_a, .inl (cI, 6, .inl k_sums))]) 0 0 := by
  refine kt_ofM (cc := cc_k_isOnBed) (maxL := 3) (ret := (some .boolean)) (Qc := fun A => kt_Qi D A (fun (r : Int32) (_ : Unit) => narrow .boolean (.int r) = .int r ∧ post r) (fun _ : Unit => [(k_a, .inr (2, [.ref k_wanted_a, .ref k_steps_a, .ref k_places_a, .ref k_bundles_a, .ref k_sideCuts_a, .ref k_sums_a, .int k_count, .int k_sideCount, .int k_bundleCount])), (k_wanted_a, .inl (cI, 300, .inl k_wanted)), (k_steps_a, .inl (cI, 300, .inl k_steps)), (k_places_a, .inl (cI, 300, .inl k_places)), (k_bundles_a, .inl (cI, 300, .inl k_bundles)), (k_sideCuts_a, .inl (cI, 300, .inl k_sideCuts)), (k_sums_a, .inl (cI, 6, .inl k_sums))])) (by decide) (Nat.le_of_ble_eq_true rfl) ?_
  intro p e s m args below meth c A Q hI hP hD hS hQ ls hl
  obtain ⟨hx, hb, hr, hG, hown, hlocks, hname, hml, hC, hZ, hA⟩ := hI
  have hown : s.vm.findClass "CutShears$CutBook" = some m.cls := hown
  have hK := hC.1
  have hl : lv_has ls 3 [(0, .ref k_a), (1, .int p1), (2, .int p2)] := hl
  unfold vc_k_isOnBed at hv
  refine lv_aload_n hx hb d_k_isOnBed_0 rfl (lv_at hl 0 rfl) ?_
  refine va_get (D := D) (ci := 2) (v := .ref k_wanted_a) (C := "CutShears$CutBook") (T := T_k) (N := 9) hx hb hG hi_k hown hK hP 0 rfl rfl 0 (by decide) (hG _ mw_135) (fun _ h9 => h9) rfl d_k_isOnBed_1 ?_
  refine lv_iload_n hx hb d_k_isOnBed_4 rfl (lv_at hl 1 rfl) ?_
  obtain ⟨hin, hv⟩ := hv
  refine va_iald hx hb hK hP 1 0 rfl rfl hin d_k_isOnBed_5 ?_
  refine lv_iload_n hx hb d_k_isOnBed_6 rfl (lv_at hl 2 rfl) ?_
  refine lv_icmp_ne (tgt := 23) hx hb d_k_isOnBed_7 (by decide) (fun c_1 => ?_) (fun c_1 => ?_)
  · replace hv := hv.2 c_1
    refine lv_iconst (v := 0) hx hb d_k_isOnBed_23 (by decide) ?_
    exact kt_zret rfl hQ hx hb hr hlocks () ⟨rfl, hv⟩ (hP.sub [0, 1, 2, 3, 4, 5, 6] rfl) (hD.sub [0, 1, 2, 3, 4, 5, 6] (by decide) rfl) hS (Nat.le_of_ble_eq_true rfl) (Nat.le_of_ble_eq_true rfl) d_k_isOnBed_24
  · replace hv := hv.1 c_1
    refine lv_aload_n hx hb d_k_isOnBed_10 rfl (lv_at hl 0 rfl) ?_
    refine va_get (D := D) (ci := 2) (v := .ref k_places_a) (C := "CutShears$CutBook") (T := T_k) (N := 9) hx hb hG hi_k hown hK hP 0 rfl rfl 2 (by decide) (hG _ mw_137) (fun _ h9 => h9) rfl d_k_isOnBed_11 ?_
    refine lv_iload_n hx hb d_k_isOnBed_14 rfl (lv_at hl 1 rfl) ?_
    obtain ⟨hin, hv⟩ := hv
    refine va_iald hx hb hK hP 3 0 rfl rfl hin d_k_isOnBed_15 ?_
    refine lv_if_lt (tgt := 23) hx hb d_k_isOnBed_16 (by decide) (fun c_2 => ?_) (fun c_2 => ?_)
    · replace hv := hv.1 c_2
      refine lv_iconst (v := 0) hx hb d_k_isOnBed_23 (by decide) ?_
      exact kt_zret rfl hQ hx hb hr hlocks () ⟨rfl, hv⟩ (hP.sub [0, 1, 2, 3, 4, 5, 6] rfl) (hD.sub [0, 1, 2, 3, 4, 5, 6] (by decide) rfl) hS (Nat.le_of_ble_eq_true rfl) (Nat.le_of_ble_eq_true rfl) d_k_isOnBed_24
    · replace hv := hv.2 c_2
      refine lv_iconst (v := 1) hx hb d_k_isOnBed_19 (by decide) ?_
      refine lv_goto (tgt := 24) hx hb d_k_isOnBed_20 (by decide) ?_
      exact kt_zret rfl hQ hx hb hr hlocks () ⟨rfl, hv⟩ (hP.sub [0, 1, 2, 3, 4, 5, 6] rfl) (hD.sub [0, 1, 2, 3, 4, 5, 6] (by decide) rfl) hS (Nat.le_of_ble_eq_true rfl) (Nat.le_of_ble_eq_true rfl) d_k_isOnBed_24
set_option maxHeartbeats 4000000 in
set_option maxRecDepth 100000 in
theorem c_k_countOnBed (l : Launch) (D : va_G) (cI cJ cZ : ClassId) (k_a k_wanted_a k_steps_a k_places_a k_bundles_a k_sideCuts_a k_sums_a : Nat) (sz : Nat) (k_wanted : Nat → Int32) (k_steps : Nat → Int32) (k_places : Nat → Int32) (k_bundles : Nat → Int32) (k_sideCuts : Nat → Int32) (k_sums : Nat → Int32) (k_count : Int32) (k_sideCount : Int32) (k_bundleCount : Int32) (p1 : Int32) {post : Int32 → Prop} (hlt : l.stackTraces = false) (hv : vc_k_countOnBed k_wanted k_places k_count p1 post) :
    kt_Mi l y_k_countOnBed (.code y_k_countOnBed cc_k_countOnBed 4 (some .int)) rm_k_countOnBed D cI cJ cZ [(k_a, .inr (2, [.ref k_wanted_a, .ref k_steps_a, .ref k_places_a, .ref k_bundles_a, .ref k_sideCuts_a, .ref k_sums_a, .int k_count, .int k_sideCount, .int k_bundleCount])), (k_wanted_a, .inl (cI, 300, .inl k_wanted)), (k_steps_a, .inl (cI, 300, .inl k_steps)), (k_places_a, .inl (cI, 300, .inl k_places)), (k_bundles_a, .inl (cI, 300, .inl k_bundles)), (k_sideCuts_a, .inl (cI, 300, .inl k_sideCuts)), (k_sums_a, .inl (cI, 6, .inl k_sums))] sz [.ref k_a, .int p1] (fun (r : Int32) (_ : Unit) => post r) (fun _ : Unit => [(k_a, .inr (2, [.ref k_wanted_a, .ref k_steps_a, .ref k_places_a, .ref k_bundles_a, .ref k_sideCuts_a, .ref k_sums_a, .int k_count, .int k_sideCount, .int k_bundleCount])), (k_wanted_a, .inl (cI, 300, .inl k_wanted)), (k_steps_a, .inl (cI, 300, .inl k_steps)), (k_places_a, .inl (cI, 300, .inl k_places)), (k_bundles_a, .inl (cI, 300, .inl k_bundles)), (k_sideCuts_a, .inl (cI, 300, .inl k_sideCuts)), (k_sums_a, .inl (cI, 6, .inl k_sums))]) 0 0 := by
  refine kt_ofM (cc := cc_k_countOnBed) (maxL := 4) (ret := (some .int)) (Qc := fun A => kt_Qi D A (fun (r : Int32) (_ : Unit) => post r) (fun _ : Unit => [(k_a, .inr (2, [.ref k_wanted_a, .ref k_steps_a, .ref k_places_a, .ref k_bundles_a, .ref k_sideCuts_a, .ref k_sums_a, .int k_count, .int k_sideCount, .int k_bundleCount])), (k_wanted_a, .inl (cI, 300, .inl k_wanted)), (k_steps_a, .inl (cI, 300, .inl k_steps)), (k_places_a, .inl (cI, 300, .inl k_places)), (k_bundles_a, .inl (cI, 300, .inl k_bundles)), (k_sideCuts_a, .inl (cI, 300, .inl k_sideCuts)), (k_sums_a, .inl (cI, 6, .inl k_sums))])) (by decide) (Nat.le_of_ble_eq_true rfl) ?_
  intro p e s m args below meth c A Q hI hP hD hS hQ ls hl
  obtain ⟨hx, hb, hr, hG, hown, hlocks, hname, hml, hC, hZ, hA⟩ := hI
  have hown : s.vm.findClass "CutShears$CutBook" = some m.cls := hown
  have hK := hC.1
  have hl : lv_has ls 4 [(0, .ref k_a), (1, .int p1)] := hl
  unfold vc_k_countOnBed at hv
  refine lv_iconst (v := 0) hx hb d_k_countOnBed_0 (by decide) ?_
  refine lv_istore_n (lv' := [(2, .int 0), (0, .ref k_a), (1, .int p1)]) hx hb d_k_countOnBed_1 rfl hl (by decide) rfl (fun ls hl => ?_)
  refine lv_iconst (v := 0) hx hb d_k_countOnBed_2 (by decide) ?_
  refine lv_istore_n (lv' := [(3, .int 0), (2, .int 0), (0, .ref k_a), (1, .int p1)]) hx hb d_k_countOnBed_3 rfl hl (by decide) rfl (fun ls hl => ?_)
  obtain ⟨n4, hv⟩ := hv
  have loop4 : ∀ (n4 : Nat) (v_1 : Int32) (v_2 : Int32), vc_k_countOnBed_L4 k_wanted k_places k_count p1 post n4 v_1 v_2 → ∀ (H : Heap) (locs : List Loc), va_P D vwCl [(k_a, .inr (2, [.ref k_wanted_a, .ref k_steps_a, .ref k_places_a, .ref k_bundles_a, .ref k_sideCuts_a, .ref k_sums_a, .int k_count, .int k_sideCount, .int k_bundleCount])), (k_wanted_a, .inl (cI, 300, .inl k_wanted)), (k_steps_a, .inl (cI, 300, .inl k_steps)), (k_places_a, .inl (cI, 300, .inl k_places)), (k_bundles_a, .inl (cI, 300, .inl k_bundles)), (k_sideCuts_a, .inl (cI, 300, .inl k_sideCuts)), (k_sums_a, .inl (cI, 6, .inl k_sums))] H → va_D A [(k_a, .inr (2, [.ref k_wanted_a, .ref k_steps_a, .ref k_places_a, .ref k_bundles_a, .ref k_sideCuts_a, .ref k_sums_a, .int k_count, .int k_sideCount, .int k_bundleCount])), (k_wanted_a, .inl (cI, 300, .inl k_wanted)), (k_steps_a, .inl (cI, 300, .inl k_steps)), (k_places_a, .inl (cI, 300, .inl k_places)), (k_bundles_a, .inl (cI, 300, .inl k_bundles)), (k_sideCuts_a, .inl (cI, 300, .inl k_sideCuts)), (k_sums_a, .inl (cI, 6, .inl k_sums))] → va_S A s.heap H locs → ∀ ls, lv_has ls 4 [(3, .int v_2), (2, .int v_1), (0, .ref k_a), (1, .int p1)] → W p l e rm_k_countOnBed s m args below meth c H locs 0 0 Q (F0 m 4 ls []) := by
    intro n4
    induction n4 with
    | zero =>
      intro v_1 v_2 hv
      unfold vc_k_countOnBed_L4 at hv
      exact hv.elim
    | succ n4 ih4 =>
      intro v_1 v_2 hv H locs hP hD hS ls hl
      unfold vc_k_countOnBed_L4 at hv
      refine lv_iload_n hx hb d_k_countOnBed_4 rfl (lv_at hl 0 rfl) ?_
      refine lv_aload_n hx hb d_k_countOnBed_5 rfl (lv_at hl 2 rfl) ?_
      refine va_get (D := D) (ci := 2) (v := .int k_count) (C := "CutShears$CutBook") (T := T_k) (N := 9) hx hb hG hi_k hown hK hP 0 rfl rfl 6 (by decide) (hG _ mw_141) (fun _ h9 => h9) rfl d_k_countOnBed_6 ?_
      refine lv_icmp_ge (tgt := 30) hx hb d_k_countOnBed_9 (by decide) (fun c_3 => ?_) (fun c_3 => ?_)
      · replace hv := hv.1 c_3
        refine lv_iload_n hx hb d_k_countOnBed_30 rfl (lv_at hl 1 rfl) ?_
        exact kt_iret hQ hx hb hr hlocks () hv (hP.sub [0, 1, 2, 3, 4, 5, 6] rfl) (hD.sub [0, 1, 2, 3, 4, 5, 6] (by decide) rfl) hS (Nat.le_of_ble_eq_true rfl) (Nat.le_of_ble_eq_true rfl) d_k_countOnBed_31
      · replace hv := hv.2 c_3
        refine lv_aload_n hx hb d_k_countOnBed_12 rfl (lv_at hl 2 rfl) ?_
        refine lv_iload_n hx hb d_k_countOnBed_13 rfl (lv_at hl 0 rfl) ?_
        refine lv_iload_n hx hb d_k_countOnBed_14 rfl (lv_at hl 3 rfl) ?_
        refine kt_calli (wc := [(k_a, .inr (2, [.ref k_wanted_a, .ref k_steps_a, .ref k_places_a, .ref k_bundles_a, .ref k_sideCuts_a, .ref k_sums_a, .int k_count, .int k_sideCount, .int k_bundleCount])), (k_wanted_a, .inl (cI, 300, .inl k_wanted)), (k_steps_a, .inl (cI, 300, .inl k_steps)), (k_places_a, .inl (cI, 300, .inl k_places)), (k_bundles_a, .inl (cI, 300, .inl k_bundles)), (k_sideCuts_a, .inl (cI, 300, .inl k_sideCuts)), (k_sums_a, .inl (cI, 6, .inl k_sums))]) (wr := []) hA hP hD hS [0, 1, 2, 3, 4, 5, 6] [] rfl rfl (by decide) (by decide) (va_runV (As := [.int v_2, .int p1]) (rest := []) ⟨hx, hb, hml, hown, hG⟩ (c_k_isOnBed l D cI cJ cZ k_a k_wanted_a k_steps_a k_places_a k_bundles_a k_sideCuts_a k_sums_a _ k_wanted k_steps k_places k_bundles k_sideCuts k_sums k_count k_sideCount k_bundleCount v_2 p1 hlt hv) ⟨callB_of 2 hG (kt_g0 mw_487) rfl rfl rfl (hG _ mw_35) (hG _ mw_484) (by decide +kernel) ⟨Nat.le_of_ble_eq_true rfl, Nat.le_of_ble_eq_true rfl⟩, (hG _ mw_486), (hG _ mw_17)⟩ (kt_preV hC hZ hA hP hD hS [0, 1, 2, 3, 4, 5, 6] (by decide) rfl (ci := 2) (k0 := 0) rfl rfl) rfl rfl hl.1 rfl (lv_room (Nat.le_of_ble_eq_true rfl)) d_k_countOnBed_15 ⟨Nat.le_of_ble_eq_true rfl, Nat.le_of_ble_eq_true rfl⟩) (fun r_4 _ H locs hv hP hD hS => ?_)
        try dsimp only at hv
        obtain ⟨hn_r_4, hv⟩ := hv
        have hP : va_P D vwCl [(k_a, .inr (2, [.ref k_wanted_a, .ref k_steps_a, .ref k_places_a, .ref k_bundles_a, .ref k_sideCuts_a, .ref k_sums_a, .int k_count, .int k_sideCount, .int k_bundleCount])), (k_wanted_a, .inl (cI, 300, .inl k_wanted)), (k_steps_a, .inl (cI, 300, .inl k_steps)), (k_places_a, .inl (cI, 300, .inl k_places)), (k_bundles_a, .inl (cI, 300, .inl k_bundles)), (k_sideCuts_a, .inl (cI, 300, .inl k_sideCuts)), (k_sums_a, .inl (cI, 6, .inl k_sums))] H := hP
        have hD : va_D A [(k_a, .inr (2, [.ref k_wanted_a, .ref k_steps_a, .ref k_places_a, .ref k_bundles_a, .ref k_sideCuts_a, .ref k_sums_a, .int k_count, .int k_sideCount, .int k_bundleCount])), (k_wanted_a, .inl (cI, 300, .inl k_wanted)), (k_steps_a, .inl (cI, 300, .inl k_steps)), (k_places_a, .inl (cI, 300, .inl k_places)), (k_bundles_a, .inl (cI, 300, .inl k_bundles)), (k_sideCuts_a, .inl (cI, 300, .inl k_sideCuts)), (k_sums_a, .inl (cI, 6, .inl k_sums))] := hD
        refine lv_if_eq (tgt := 24) hx hb d_k_countOnBed_18 (by decide) (fun c_5 => ?_) (fun c_5 => ?_)
        · replace hv := hv.1 c_5
          obtain ⟨v_6, ev_6⟩ : ∃ y : Int32, y = v_2 + 1 := ⟨_, rfl⟩
          replace hv := hv v_6 ev_6
          refine lv_iinc (v := v_6) (lv' := [(3, .int v_6), (2, .int v_1), (0, .ref k_a), (1, .int p1)]) hx hb d_k_countOnBed_24 hl (k := 0) rfl (by rw [ev_6]; rfl) (by decide) rfl (fun ls hl => ?_)
          refine lv_goto (tgt := 4) hx hb d_k_countOnBed_27 (by decide) ?_
          exact ih4 v_1 v_6 hv _ _ (hP.sub [0, 1, 2, 3, 4, 5, 6] rfl) (hD.sub [0, 1, 2, 3, 4, 5, 6] (by decide) rfl) hS ls (lv_sub hl [0, 1, 2, 3] rfl)
        · replace hv := hv.2 c_5
          obtain ⟨v_7, ev_7⟩ : ∃ y : Int32, y = v_1 + 1 := ⟨_, rfl⟩
          replace hv := hv v_7 ev_7
          refine lv_iinc (v := v_7) (lv' := [(2, .int v_7), (3, .int v_2), (0, .ref k_a), (1, .int p1)]) hx hb d_k_countOnBed_21 hl (k := 1) rfl (by rw [ev_7]; rfl) (by decide) rfl (fun ls hl => ?_)
          obtain ⟨v_8, ev_8⟩ : ∃ y : Int32, y = v_2 + 1 := ⟨_, rfl⟩
          replace hv := hv v_8 ev_8
          refine lv_iinc (v := v_8) (lv' := [(3, .int v_8), (2, .int v_7), (0, .ref k_a), (1, .int p1)]) hx hb d_k_countOnBed_24 hl (k := 1) rfl (by rw [ev_8]; rfl) (by decide) rfl (fun ls hl => ?_)
          refine lv_goto (tgt := 4) hx hb d_k_countOnBed_27 (by decide) ?_
          exact ih4 v_7 v_8 hv _ _ (hP.sub [0, 1, 2, 3, 4, 5, 6] rfl) (hD.sub [0, 1, 2, 3, 4, 5, 6] (by decide) rfl) hS ls (lv_sub hl [0, 1, 2, 3] rfl)
  exact loop4 n4 0 0 hv _ _ hP hD hS ls hl
