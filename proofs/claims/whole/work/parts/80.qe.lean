/-! The pure layer: the call of a cut, on both sides -/
theorem plc_rng (st lg p P : Nat) (h : P ≤ 20) : -2 ≤ plc st lg p P ∧ plc st lg p P < 20 := by
  unfold plc; split <;> omega
def asV (z : Int) : Nat := if z = -1 then 1 else 0
theorem l_cut012 {n : Nat} {lw hg rn : Nat → Nat} {ln er hd tl cuts first P lg p : Nat} {cw ct as : Nat → Nat} {pl : Nat → Int} {tc : Int32} {a b d fw fs : Nat → Int32} {bl be bh bt bn bc bs br : Int32} {w g s : Nat → Int32} {kc sc : Int32} {kw ks kp kb sd sm : Nat → Int32} {cp cl cy : Int32} {cc : Nat → Int32} {fo : Nat → Int64}
    {post : Int32 → Int32 → Int32 → Int32 → Int32 → (Nat → Int32) → (Nat → Int32) → (Nat → Int32) → (Nat → Int32) → (Nat → Int32) → (Nat → Int32) → Int32 → (Nat → Int32) → (Nat → Int64) → Prop}
    (ht : tX n lw hg rn tc a b d fw fs) (hk : kX n cuts cw ct) (hB : bX (dT n lw hg rn) ln er hd tl cuts first cw ct bl be bh bt bn bc bs br w g s) (hK : kK cuts cw ct pl as kc sc kw ks kp sd sm) (hX : cX cuts pl P lg cp cl cy cc)
    (hpP : p ≤ P) (hf : ∀ i < p, cc i ≠ I (-1)) (hg' : p < P → cc p = I (-1))
    (h1 : dmn (dT n lw hg rn (ln - er - hd - tl - sSum ct first (cuts - first))) = 0 → post 1 bc bs kc sc kw ks kp kb sd sm cy cc fo)
    (h2 : 0 < dmn (dT n lw hg rn (ln - er - hd - tl - sSum ct first (cuts - first))) → cuts = 300 → post 2 bc bs kc sc kw ks kp kb sd sm cy cc fo)
    (h0 : 0 < dmn (dT n lw hg rn (ln - er - hd - tl - sSum ct first (cuts - first))) → cuts < 300 → ∀ st x z, st = (dst (dT n lw hg rn (ln - er - hd - tl - sSum ct first (cuts - first)))).toNat → x = (dnx (dT n lw hg rn (ln - er - hd - tl - sSum ct first (cuts - first)))).toNat → z = plc st lg p P → ∀ bc' bs' kc' sc' kw' ks' kp' sd' sm' cy' cc',
      kX n (cuts + 1) (dAdd cw cuts x) (dAdd ct cuts st) → bX (dT n lw hg rn) ln er hd tl (cuts + 1) first (dAdd cw cuts x) (dAdd ct cuts st) bl be bh bt bn bc' bs' br w g s → kK (cuts + 1) (dAdd cw cuts x) (dAdd ct cuts st) (iAdd pl cuts z) (dAdd as cuts (asV z)) kc' sc' kw' ks' kp' sd' sm' → cX (cuts + 1) (iAdd pl cuts z) P lg cp cl cy' cc' →
      post 0 bc' bs' kc' sc' kw' ks' kp' (upd kb cuts (I (-1))) sd' sm' cy' cc' (vp_updL fo (0 : Int32).toNatClampNeg (I z).toInt64)) :
    vc_l_cut w s bn bc bs kw ks kp kb sd sm kc sc cc cp cl cy 1 fo post := by
  have hT := dT_ok ht.2.2.1
  have hn := ht.2.1
  have hcl := cnt_le hT hk hB
  have hBc := bX_cut hT hB
  have hKc := fun x y z a => kK_cut (x := x) (y := y) (z := z) (a := a) hK
  obtain ⟨b0, b1, b2, b3, b4, b5, b6, rfl, rfl, rfl, rfl, rfl, rfl, b7, b8, b9, b10⟩ := hB
  obtain ⟨rfl, rfl, k1, k2, k3, k4, k5⟩ := hK
  obtain ⟨rfl, c1, c2, rfl, c3, c4, rfl, c5⟩ := hX
  unfold cntX at hcl
  subst b7
  have hcu := hk.2.1
  unfold vc_l_cut vc_x_cut
  generalize hS : sSum ct first (cuts - first) = S at *
  generalize hL : ln - er - hd - tl - S = L at *
  have hmn := (hT L).2.2.1
  have hnn := nOn_le (f := pl) cuts
  simp (disch := omega) only [I_300, I_lt]
  refine ⟨fun hlt => ⟨fun hc => ?_, fun hc => ?_⟩, fun hlt => ?_⟩
  · have hm : 0 < dmn (dT n lw hg rn L) := by omega
    have hx := dOk_pos (hT L) hm
    have h8 := (hT L).2.2.2.2.2.2.2.1
    have h10 := (hT L).2.2.2.2.2.2.2.2.2 hx
    have hw0 := b10 0 (by omega)
    simp only [Nat.add_zero] at hw0
    have e0 : lft (dT n lw hg rn) L 0 = L := rfl
    rw [e0] at hw0
    have h0' := h0 hm (by omega) _ _ _ rfl rfl rfl
    have hkk := kX_cut (x := (dnx (dT n lw hg rn L)).toNat) (y := (dst (dT n lw hg rn L)).toNat) hk (by omega) (by omega) (by omega) (by omega)
    have hbb := hBc hm
    have hwn : dnx (dT n lw hg rn L) = ((dnx (dT n lw hg rn L)).toNat : Int) := by omega
    have hst : dst (dT n lw hg rn L) = ((dst (dT n lw hg rn L)).toNat : Int) := by omega
    have hpr := plc_rng (dst (dT n lw hg rn L)).toNat lg p P c2
    generalize hz : plc (dst (dT n lw hg rn L)).toNat lg p P = z at *
    have hkz := hKc (dnx (dT n lw hg rn L)).toNat (dst (dT n lw hg rn L)).toNat z
    generalize (dst (dT n lw hg rn L)).toNat = st at *
    generalize (dnx (dT n lw hg rn L)).toNat = x at *
    have hx6 : x < 6 := by omega
    unfold vc_b_stepsOf
    refine q_numberAt (by omega) (by omega) ?_
    rw [hw0.2.2, hst]
    -- what follows is the same behind both ways of the bed
    have fin : ∀ (cy' : Int32) (cc' : Nat → Int32), cX (cuts + 1) (iAdd pl cuts z) P lg (I P) (I lg) cy' cc' → vc_b_wantedOf w (I ((cuts - first : Nat) : Int)) (fun r_7 => vc_k_enter kw ks kp kb sd sm (I cuts) (I (nA as cuts : Nat)) r_7 (I st) (I z) (fun k_count_8 k_sideCount_9 k_wanted_10 k_steps_11 k_places_12 k_bundles_13 k_sideCuts_14 k_sums_15 => vc_b_markNextCut s (I ((cuts - first + (dmn (dT n lw hg rn L)).toNat : Nat) : Int)) (I ((cuts - first : Nat) : Int)) (I S) (fun b_cutCount_16 b_cutSteps_17 => ∀ v_14 : Int64, v_14 = (I z).toInt64 → vp_in 0 1 ∧ post 0 b_cutCount_16 b_cutSteps_17 k_count_8 k_sideCount_9 k_wanted_10 k_steps_11 k_places_12 k_bundles_13 k_sideCuts_14 k_sums_15 cy' cc' (vp_updL fo (0 : Int32).toNatClampNeg v_14)))) := by
      intro cy' cc' hcx
      unfold vc_b_wantedOf
      refine q_numberAt (by omega) (by omega) ?_
      rw [hw0.1, hwn]
      have mk : ∀ (P1 : Int32 → Int32 → Prop), P1 (I ((cuts - first + 1 : Nat) : Int)) (I ((S + st : Nat) : Int)) → vc_b_markNextCut s (I ((cuts - first + (dmn (dT n lw hg rn L)).toNat : Nat) : Int)) (I ((cuts - first : Nat) : Int)) (I S) P1 := by
        intro P1 hP1
        unfold vc_b_markNextCut vc_b_stepsOf
        simp (disch := omega) only [I_le]
        refine ⟨fun h => by omega, fun _ => q_numberAt (by omega) (by omega) ?_⟩
        rw [hw0.2.2, hst]
        simp (disch := omega) only [I_m1, I_m2, I_0, I_1, I_2, I_3, I_4, I_5, I_6, I_7, I_8, I_9, I_10, I_11, I_12, I_13, I_14, I_15, I_20, I_50, I_100, I_200, I_256, I_300, I_1000, I_2000, I_1048576, I_n1, I_n2, I_nat, I_add, I_sub, I_mul, I_le, I_lt, I_eq, I_cl, I_in, forall_eq, Int.not_le, Int.not_lt]
        rw [show (S : Int) + (st : Int) = ((S + st : Nat) : Int) by omega, show ((cuts - first : Nat) : Int) + 1 = ((cuts - first + 1 : Nat) : Int) by omega]
        exact hP1
      refine q_enter (W := wS cw ct x cuts) (by omega) (nA_le cuts k5) hx6 hpr.1 hpr.2 (k4 x hx6) (fun hz1 => ?_) (fun hz1 => ?_)
      · refine mk _ ?_
        rintro v rfl
        have := hkz 1 hpr.1 hpr.2 (by omega) hx6
        rw [if_pos rfl] at this
        have ea : asV z = 1 := by unfold asV; rw [if_pos hz1]
        rw [ea] at h0'
        exact ⟨in00, h0' _ _ _ _ _ _ _ _ _ _ _ hkk hbb this hcx⟩
      · refine mk _ ?_
        rintro v rfl
        have := hkz 0 hpr.1 hpr.2 (by omega) hx6
        rw [if_neg (by omega)] at this
        have ea : asV z = 0 := by unfold asV; rw [if_neg hz1]
        rw [ea] at h0'
        exact ⟨in00, h0' _ _ _ _ _ _ _ _ _ _ _ hkk hbb this hcx⟩
    refine q_lay (p := p) (by omega) c4 c2 hpP hf hg' (fun q1 q2 => ?_) (fun q1 => ?_)
    · have hz' : z = (p : Int) := by rw [← hz]; unfold plc; rw [if_pos ⟨q1, q2⟩]
      rw [← hz']
      refine fin _ _ ⟨rfl, c1, c2, rfl, c3, c4, ?_, ?_⟩
      · rw [nOn_add, if_pos (by omega)]
      · rw [hz']; exact cC_lay c5 (by omega) (hg' q2) hcu
    · have hz' : z = -1 := by rw [← hz]; unfold plc; rw [if_neg q1]
      rw [← hz']
      refine fin _ _ ⟨rfl, c1, c2, rfl, c3, c4, ?_, ?_⟩
      · rw [nOn_add, if_neg (by omega)]; rfl
      · rw [hz']; exact cC_no c5
  · exact ⟨fun h => absurd h (by decide), fun _ => h2 (by omega) (by omega), Or.inr trivial⟩
  · exact ⟨fun _ => h1 (by omega), fun h => absurd h (by decide), Or.inl trivial⟩
theorem q_cut42 {cuts P lg p st : Nat} {pl : Nat → Int} {gw gs mp mb ma z1 z2 z3 z4 z5 cc : Nat → Int32} {fw fb th : Int32} {post : Int32 → Int32 → Int32 → Int32 → Int32 → Int32 → (Nat → Int32) → (Nat → Int32) → (Nat → Int32) → (Nat → Int32) → (Nat → Int32) → (Nat → Int32) → (Nat → Int32) → (Nat → Int32) → (Nat → Int32) → (Nat → Int32) → Prop} (hc : cuts < 300) (hst : st ≤ 200) (hlg : lg ≤ 200) (hP : P ≤ 20) (hpl : kP cuts pl mp) (hC : cC cuts pl cc) (hpP : p ≤ P) (hf : ∀ i < p, cc i ≠ I (-1)) (hg' : p < P → cc p = I (-1))
    (hp : post (I (plc st lg p P)) th (I ((cuts + 1 : Nat) : Int)) fw fb (I st) (upd gw cuts fw) (upd gs cuts (I st)) (upd mp cuts (I (plc st lg p P))) (upd mb cuts (I (-1))) (upd ma cuts (I (asV (plc st lg p P) : Nat))) z1 z2 z3 z4 z5) :
    ∀ (r v : Nat), v + r = p → vc_m_cut_L42 (I P) (I lg) (I cuts) gw gs mp mb ma fw fb (I st) z1 z2 z3 z4 z5 th post (r + 1) (I v) := by
  rw [show ((cuts + 1 : Nat) : Int) = (cuts : Int) + 1 by omega] at hp
  have hz : (0 : Int) ≤ cuts ∧ (cuts : Int) < (300 : Nat) := by omega
  intro r
  induction r with
  | zero =>
    intro v hv
    have : v = p := by omega
    subst this
    unfold vc_m_cut_L42
    simp only [nar1, nar0]
    simp (disch := omega) only [I_m1, I_m2, I_0, I_1, I_2, I_3, I_4, I_5, I_6, I_7, I_8, I_9, I_10, I_11, I_12, I_13, I_14, I_15, I_20, I_50, I_100, I_200, I_256, I_300, I_1000, I_2000, I_1048576, I_n1, I_n2, I_nat, I_add, I_sub, I_mul, I_le, I_lt, I_eq, I_cl, I_in, forall_eq, Int.not_le, Int.not_lt, Int.toNat_natCast]
    unfold plc asV at hp
    refine ⟨fun h => ⟨fun h' => ⟨hz, hz, hz, hz, hz, ?_⟩, fun h' => by omega⟩, fun h => q_lying (by omega) hpl hC (by omega) ?_⟩
    · rw [if_neg (by omega)] at hp; exact hp
    · rw [hg' (by omega)]
      simp (disch := omega) only [I_m1, I_m2, I_0, I_1, I_2, I_3, I_4, I_5, I_6, I_7, I_8, I_9, I_10, I_11, I_12, I_13, I_14, I_15, I_20, I_50, I_100, I_200, I_256, I_300, I_1000, I_2000, I_1048576, I_n1, I_n2, I_nat, I_add, I_sub, I_mul, I_le, I_lt, I_eq, I_cl, I_in, forall_eq, Int.not_le, Int.not_lt]
      refine ⟨fun _ => ⟨fun h' => by omega, fun _ => ⟨fun q1 => ⟨hz, hz, hz, hz, fun h' => by omega, fun _ => ⟨hz, ?_⟩⟩, fun q1 => ⟨hz, hz, hz, hz, hz, ?_⟩⟩⟩, fun h' => by omega⟩
      · rw [if_pos ⟨by omega, by omega⟩, if_neg (by omega)] at hp; exact hp
      · rw [if_neg (by omega)] at hp; exact hp
  | succ r ih =>
    intro v hv
    unfold vc_m_cut_L42
    simp (disch := omega) only [I_m1, I_m2, I_0, I_1, I_2, I_3, I_4, I_5, I_6, I_7, I_8, I_9, I_10, I_11, I_12, I_13, I_14, I_15, I_20, I_50, I_100, I_200, I_256, I_300, I_1000, I_2000, I_1048576, I_n1, I_n2, I_nat, I_add, I_sub, I_mul, I_le, I_lt, I_eq, I_cl, I_in, forall_eq, Int.not_le, Int.not_lt, Int.toNat_natCast]
    refine ⟨fun h => by omega, fun h => q_lying (by omega) hpl hC (by omega) ?_⟩
    rcases hC v (by omega) with h1 | ⟨j, j1, j2, j3, j4⟩
    · exact absurd h1.1 (hf v (by omega))
    · rw [j3]
      simp (disch := omega) only [I_m1, I_m2, I_0, I_1, I_2, I_3, I_4, I_5, I_6, I_7, I_8, I_9, I_10, I_11, I_12, I_13, I_14, I_15, I_20, I_50, I_100, I_200, I_256, I_300, I_1000, I_2000, I_1048576, I_n1, I_n2, I_nat, I_add, I_sub, I_mul, I_le, I_lt, I_eq, I_cl, I_in, forall_eq, Int.not_le, Int.not_lt]
      exact ⟨fun h' => by omega, fun _ => ih (v + 1) (by omega)⟩
theorem m_cut012 {n : Nat} {lw hg rn : Nat → Nat} {ln er hd tl cuts first P lg p : Nat} {cw ct : Nat → Nat} {pl : Nat → Int} {tc : Int32} {a b d fw fs : Nat → Int32} {bl be bh bt bn bc bs br : Int32} {w g s : Nat → Int32} {cp cl cy : Int32} {cc : Nat → Int32} {mw ml' me mh' mt mc mf mp' ml'' : Int32} {ml mh mr gw gs mp mb ma z1 z2 z3 z4 z5 : Nat → Int32} {x y z : Int32}
    {post : Int32 → Int32 → Int32 → Int32 → Int32 → Int32 → (Nat → Int32) → (Nat → Int32) → (Nat → Int32) → (Nat → Int32) → (Nat → Int32) → (Nat → Int32) → (Nat → Int32) → (Nat → Int32) → (Nat → Int32) → (Nat → Int32) → Prop}
    (ht : tX n lw hg rn tc a b d fw fs) (hk : kX n cuts cw ct) (hB : bX (dT n lw hg rn) ln er hd tl cuts first cw ct bl be bh bt bn bc bs br w g s) (hmW : mW n lw hg rn mw ml mh mr) (hmB : mB ln er hd tl cuts first ml' me mh' mt mc mf) (hmK : mK cuts cw ct gw gs) (hX : cX cuts pl P lg cp cl cy cc) (hpl : kP cuts pl mp) (hmP : mp' = I P) (hmL : ml'' = I lg)
    (hpP : p ≤ P) (hf : ∀ i < p, cc i ≠ I (-1)) (hg' : p < P → cc p = I (-1))
    (h1 : dmn (dT n lw hg rn (ln - er - hd - tl - sSum ct first (cuts - first))) = 0 → ∀ x y z z1 z2 z3 z4 z5, post (I 0) (I 1) mc x y z gw gs mp mb ma z1 z2 z3 z4 z5)
    (h2 : 0 < dmn (dT n lw hg rn (ln - er - hd - tl - sSum ct first (cuts - first))) → cuts = 300 → ∀ x y z z1 z2 z3 z4 z5, post (I 0) (I 2) mc x y z gw gs mp mb ma z1 z2 z3 z4 z5)
    (h0 : 0 < dmn (dT n lw hg rn (ln - er - hd - tl - sSum ct first (cuts - first))) → cuts < 300 → ∀ st x' pz, st = (dst (dT n lw hg rn (ln - er - hd - tl - sSum ct first (cuts - first)))).toNat → x' = (dnx (dT n lw hg rn (ln - er - hd - tl - sSum ct first (cuts - first)))).toNat → pz = plc st lg p P → ∀ x y z z1 z2 z3 z4 z5, post (I pz) (I 0) (I ((cuts + 1 : Nat) : Int)) x y z (upd gw cuts (I x')) (upd gs cuts (I st)) (upd mp cuts (I pz)) (upd mb cuts (I (-1))) (upd ma cuts (I (asV pz : Nat))) z1 z2 z3 z4 z5) :
    vc_m_cut mw ml mh mr ml' me mh' mt mp' ml'' mc mf gw gs mp mb ma z1 z2 z3 z4 z5 x y z post := by
  subst hmP
  subst hmL
  have hT := dT_ok ht.2.2.1
  have hn := ht.2.1
  have hB2 := hB
  obtain ⟨b0, b1, b2, b3, b4, b5, b6, -, -, -, -, -, -, b7, b8, b9, b10⟩ := hB2
  obtain ⟨-, c1, c2, -, c3, c4, -, c5⟩ := hX
  have hmc : mc = I cuts := hmB.2.2.2.2.1
  have hmf : mf = I first := hmB.2.2.2.2.2
  have hcu := hk.2.1
  have hmn := (hT (ln - er - hd - tl - sSum ct first (cuts - first))).2.2.1
  unfold vc_m_cut
  have e1 : mc - mf = I ((cuts - first : Nat) : Int) := by rw [hmc, hmf, I_sub]; exact congrArg I (by omega)
  rw [e1]
  refine m_finds0 ht hk hB hmW hmB hmK (by omega) (by omega) (fun hh x y z z1 z2 z3 z4 z5 => ?_) (fun hh1 hh2 z1 z2 z3 z4 z5 => ?_)
  · unfold cntX at hh
    subst hmc
    simp (disch := omega) only [I_m1, I_m2, I_0, I_1, I_2, I_3, I_4, I_5, I_6, I_7, I_8, I_9, I_10, I_11, I_12, I_13, I_14, I_15, I_20, I_50, I_100, I_200, I_256, I_300, I_1000, I_2000, I_1048576, I_n1, I_n2, I_nat, I_add, I_sub, I_mul, I_le, I_lt, I_eq, I_cl, I_in, forall_eq, Int.not_le, Int.not_lt, m_in1, m_in0, m_go1, m_go2, m_go3, m_go0, i01, i10, j10, j20, j30, eq_self, not_true_eq_false, not_false_eq_true, true_implies, false_implies, and_true, true_and, implies_true, Int.toNat_natCast]
    exact ⟨fun _ => h1 (by omega) _ _ _ _ _ _ _ _, fun _ => h1 (by omega) _ _ _ _ _ _ _ _⟩
  · unfold cntX at hh2
    subst hmc
    have hm : 0 < dmn (dT n lw hg rn (ln - er - hd - tl - sSum ct first (cuts - first))) := by omega
    have hx := dOk_pos (hT _) hm
    have h10 := (hT _).2.2.2.2.2.2.2.2.2 hx
    have hw0 := b10 0 (by omega)
    simp only [Nat.add_zero] at hw0
    have e0 : lft (dT n lw hg rn) (ln - er - hd - tl - sSum ct first (cuts - first)) 0 = ln - er - hd - tl - sSum ct first (cuts - first) := rfl
    rw [e0] at hw0
    simp (disch := omega) only [I_m1, I_m2, I_0, I_1, I_2, I_3, I_4, I_5, I_6, I_7, I_8, I_9, I_10, I_11, I_12, I_13, I_14, I_15, I_20, I_50, I_100, I_200, I_256, I_300, I_1000, I_2000, I_1048576, I_n1, I_n2, I_nat, I_add, I_sub, I_mul, I_le, I_lt, I_eq, I_cl, I_in, forall_eq, Int.not_le, Int.not_lt, m_in1, m_in0, m_go1, m_go2, m_go3, m_go0, i01, i10, j10, j20, j30, eq_self, not_true_eq_false, not_false_eq_true, true_implies, false_implies, and_true, true_and, implies_true, Int.toNat_natCast]
    refine ⟨fun q1 => h2 hm (by omega) _ _ _ _ _ _ _ _, fun q1 => ?_⟩
    have h0' := h0 hm (by omega) _ _ _ rfl rfl rfl
    rw [hw0.1, hw0.2.2]
    rw [show dst (dT n lw hg rn (ln - er - hd - tl - sSum ct first (cuts - first))) = ((dst (dT n lw hg rn (ln - er - hd - tl - sSum ct first (cuts - first)))).toNat : Int) by omega, show dnx (dT n lw hg rn (ln - er - hd - tl - sSum ct first (cuts - first))) = ((dnx (dT n lw hg rn (ln - er - hd - tl - sSum ct first (cuts - first)))).toNat : Int) by omega]
    exact ⟨_, q_cut42 (by omega) (by omega) c4 c2 hpl c5 hpP hf hg' (h0' _ _ _ _ _ _ _ _) p 0 (by omega)⟩
