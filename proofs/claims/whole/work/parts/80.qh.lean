/-! The pure layer: the law -/
def Inv (t_count : Int32) (t_lows : Nat → Int32) (t_highs : Nat → Int32) (t_ranks : Nat → Int32) (t_costs : Nat → Int32) (t_firstWanted : Nat → Int32) (t_firstSteps : Nat → Int32) (b_length : Int32) (b_error : Int32) (b_head : Int32) (b_tail : Int32) (b_count : Int32) (b_cutCount : Int32) (b_cutSteps : Int32) (b_rest : Int32) (b_wanted : Nat → Int32) (b_begins : Nat → Int32) (b_steps : Nat → Int32) (k_count : Int32) (k_sideCount : Int32) (k_bundleCount : Int32) (k_wanted : Nat → Int32) (k_steps : Nat → Int32) (k_places : Nat → Int32) (k_bundles : Nat → Int32) (k_sideCuts : Nat → Int32) (k_sums : Nat → Int32) (c_places : Int32) (c_longest : Int32) (c_lying : Int32) (c_cuts : Nat → Int32) (m_thrown : Int32) (m_wanted : Int32) (m_length : Int32) (m_error : Int32) (m_head : Int32) (m_tail : Int32) (m_places : Int32) (m_longest : Int32) (m_cuts : Int32) (m_first : Int32) (m_bundles : Int32) (m_foundWanted : Int32) (m_foundBegin : Int32) (m_foundSteps : Int32) (m_low : Nat → Int32) (m_high : Nat → Int32) (m_rank : Nat → Int32) (m_cutWanted : Nat → Int32) (m_cutSteps : Nat → Int32) (m_cutPlace : Nat → Int32) (m_cutBundle : Nat → Int32) (m_aside : Nat → Int32) (m_loss : Nat → Int32) (m_ranks : Nat → Int32) (m_many : Nat → Int32) (m_next : Nat → Int32) (m_steps : Nat → Int32) (out : Nat → Int64) : Prop :=
  ∃ (n : Nat) (lw hg rn : Nat → Nat) (ln er hd tl cuts first : Nat) (cw ct : Nat → Nat) (pl : Nat → Int) (as : Nat → Nat) (P lg : Nat),
    tX n lw hg rn t_count t_lows t_highs t_ranks t_firstWanted t_firstSteps ∧ kX n cuts cw ct ∧ bX (dT n lw hg rn) ln er hd tl cuts first cw ct b_length b_error b_head b_tail b_count b_cutCount b_cutSteps b_rest b_wanted b_begins b_steps ∧ kK cuts cw ct pl as k_count k_sideCount k_wanted k_steps k_places k_sideCuts k_sums ∧ cX cuts pl P lg c_places c_longest c_lying c_cuts ∧ mW n lw hg rn m_wanted m_low m_high m_rank ∧ mB ln er hd tl cuts first m_length m_error m_head m_tail m_cuts m_first ∧ mK cuts cw ct m_cutWanted m_cutSteps ∧ kP cuts pl m_cutPlace ∧ (∀ j < cuts, k_bundles j = m_cutBundle j) ∧ k_bundleCount = m_bundles ∧ m_places = I P ∧ m_longest = I lg ∧ (∀ j < cuts, m_aside j = I (as j))
theorem cmp0 (x : Int64) (fo : Nat → Int64) : lg_cmp (vp_updL fo (0 : Int32).toNatClampNeg x (0 : Int32).toNatClampNeg) x = 0 := by
  rw [show vp_updL fo (0 : Int32).toNatClampNeg x (0 : Int32).toNatClampNeg = x by simp [vp_updL]]
  simp [lg_cmp]
theorem z_of (a : Int32) : ∃ z : Int, -2147483648 ≤ z ∧ z < 2147483648 ∧ a = I z := ⟨a.toInt, I_lo a, I_hi a, I_toInt a⟩
theorem n_of {z : Int} (h : 0 ≤ z) : ∃ k : Nat, z = k := ⟨z.toNat, by omega⟩
theorem mW_add {n : Nat} {lw hg rn : Nat → Nat} {a b c : Nat → Int32} {p q k : Nat} (h : cW n a b c lw hg rn) : cW (n + 1) (upd a n (I p)) (upd b n (I q)) (upd c n (I k)) (dAdd lw n p) (dAdd hg n q) (dAdd rn n k) := by
  intro i hi
  by_cases hin : i = n
  · subst hin; rw [dAdd_s, dAdd_s, dAdd_s, upd_same, upd_same, upd_same]; exact ⟨rfl, rfl, rfl⟩
  · rw [dAdd_n _ _ hin, dAdd_n _ _ hin, dAdd_n _ _ hin, upd_ne _ _ hin, upd_ne _ _ hin, upd_ne _ _ hin]; exact h i (by omega)
theorem mK_cut {cuts : Nat} {cw ct : Nat → Nat} {gw gs : Nat → Int32} {x y : Nat} (h : mK cuts cw ct gw gs) : mK (cuts + 1) (dAdd cw cuts x) (dAdd ct cuts y) (upd gw cuts (I x)) (upd gs cuts (I y)) := by
  refine ⟨fun j hj => ?_, fun j hj => ?_⟩
  · by_cases hin : j = cuts
    · subst hin; rw [dAdd_s, upd_same]
    · rw [dAdd_n _ _ hin, upd_ne _ _ hin]; exact h.1 j (by omega)
  · by_cases hin : j = cuts
    · subst hin; rw [dAdd_s, upd_same]
    · rw [dAdd_n _ _ hin, upd_ne _ _ hin]; exact h.2 j (by omega)
theorem eq_cut {cuts : Nat} {f g : Nat → Int32} {x : Int32} (h : ∀ j < cuts, f j = g j) : ∀ j < cuts + 1, upd f cuts x j = upd g cuts x j := by
  intro j hj
  by_cases hin : j = cuts
  · subst hin; rw [upd_same, upd_same]
  · rw [upd_ne _ _ hin, upd_ne _ _ hin]; exact h j (by omega)
theorem as_cut {cuts a : Nat} {as : Nat → Nat} {f : Nat → Int32} (h : ∀ j < cuts, f j = I (as j)) : ∀ j < cuts + 1, upd f cuts (I a) j = I (dAdd as cuts a j) := by
  intro j hj
  by_cases hin : j = cuts
  · subst hin; rw [upd_same, dAdd_s]
  · rw [upd_ne _ _ hin, dAdd_n _ _ hin]; exact h j (by omega)
theorem caV_eq {a b c d a' b' c' d' : Nat → Int32} {k q : Int} {n : Nat} (h1 : 0 ≤ k) (h2 : k < n) (ha : ∀ j < n, a j = a' j) (hb : ∀ j < n, b j = b' j) (hc : ∀ j < n, c j = c' j) (hd : ∀ j < n, d j = d' j) : caV a b c d k q = caV a' b' c' d' k q := by
  unfold caV
  rw [ha _ (by omega), hb _ (by omega), hc _ (by omega), hd _ (by omega)]
set_option maxHeartbeats 4000000 in
theorem law_loop {L : Nat} {xs : Nat → Int32} (hL : L ≤ 2048) : ∀ (r j : Nat) (t_count : Int32) (t_lows : Nat → Int32) (t_highs : Nat → Int32) (t_ranks : Nat → Int32) (t_costs : Nat → Int32) (t_firstWanted : Nat → Int32) (t_firstSteps : Nat → Int32) (b_length : Int32) (b_error : Int32) (b_head : Int32) (b_tail : Int32) (b_count : Int32) (b_cutCount : Int32) (b_cutSteps : Int32) (b_rest : Int32) (b_wanted : Nat → Int32) (b_begins : Nat → Int32) (b_steps : Nat → Int32) (k_count : Int32) (k_sideCount : Int32) (k_bundleCount : Int32) (k_wanted : Nat → Int32) (k_steps : Nat → Int32) (k_places : Nat → Int32) (k_bundles : Nat → Int32) (k_sideCuts : Nat → Int32) (k_sums : Nat → Int32) (c_places : Int32) (c_longest : Int32) (c_lying : Int32) (c_cuts : Nat → Int32) (m_thrown : Int32) (m_wanted : Int32) (m_length : Int32) (m_error : Int32) (m_head : Int32) (m_tail : Int32) (m_places : Int32) (m_longest : Int32) (m_cuts : Int32) (m_first : Int32) (m_bundles : Int32) (m_foundWanted : Int32) (m_foundBegin : Int32) (m_foundSteps : Int32) (m_low : Nat → Int32) (m_high : Nat → Int32) (m_rank : Nat → Int32) (m_cutWanted : Nat → Int32) (m_cutSteps : Nat → Int32) (m_cutPlace : Nat → Int32) (m_cutBundle : Nat → Int32) (m_aside : Nat → Int32) (m_loss : Nat → Int32) (m_ranks : Nat → Int32) (m_many : Nat → Int32) (m_next : Nat → Int32) (m_steps : Nat → Int32) (out : Nat → Int64), j + r = 512 → Inv t_count t_lows t_highs t_ranks t_costs t_firstWanted t_firstSteps b_length b_error b_head b_tail b_count b_cutCount b_cutSteps b_rest b_wanted b_begins b_steps k_count k_sideCount k_bundleCount k_wanted k_steps k_places k_bundles k_sideCuts k_sums c_places c_longest c_lying c_cuts m_thrown m_wanted m_length m_error m_head m_tail m_places m_longest m_cuts m_first m_bundles m_foundWanted m_foundBegin m_foundSteps m_low m_high m_rank m_cutWanted m_cutSteps m_cutPlace m_cutBundle m_aside m_loss m_ranks m_many m_next m_steps out → vc_l_law_L23 L xs (r + 1) j (I ((4 * j : Nat) : Int)) t_count t_lows t_highs t_ranks t_costs t_firstWanted t_firstSteps b_length b_error b_head b_tail b_count b_cutCount b_cutSteps b_rest b_wanted b_begins b_steps k_count k_sideCount k_bundleCount k_wanted k_steps k_places k_bundles k_sideCuts k_sums c_places c_longest c_lying c_cuts m_thrown m_wanted m_length m_error m_head m_tail m_places m_longest m_cuts m_first m_bundles m_foundWanted m_foundBegin m_foundSteps m_low m_high m_rank m_cutWanted m_cutSteps m_cutPlace m_cutBundle m_aside m_loss m_ranks m_many m_next m_steps out := by
  intro r
  induction r with
  | zero =>
    intro j t_count t_lows t_highs t_ranks t_costs t_firstWanted t_firstSteps b_length b_error b_head b_tail b_count b_cutCount b_cutSteps b_rest b_wanted b_begins b_steps k_count k_sideCount k_bundleCount k_wanted k_steps k_places k_bundles k_sideCuts k_sums c_places c_longest c_lying c_cuts m_thrown m_wanted m_length m_error m_head m_tail m_places m_longest m_cuts m_first m_bundles m_foundWanted m_foundBegin m_foundSteps m_low m_high m_rank m_cutWanted m_cutSteps m_cutPlace m_cutBundle m_aside m_loss m_ranks m_many m_next m_steps out hj hI
    unfold vc_l_law_L23
    refine ⟨by omega, fun _ => trivial, fun h => absurd ?_ h⟩
    rw [show (4 : Int32) = I 4 from rfl, I_nat, I_sub, I_lt (by omega) (by omega) (by omega) (by omega)]
    omega
  | succ r ih =>
    intro j t_count t_lows t_highs t_ranks t_costs t_firstWanted t_firstSteps b_length b_error b_head b_tail b_count b_cutCount b_cutSteps b_rest b_wanted b_begins b_steps k_count k_sideCount k_bundleCount k_wanted k_steps k_places k_bundles k_sideCuts k_sums c_places c_longest c_lying c_cuts m_thrown m_wanted m_length m_error m_head m_tail m_places m_longest m_cuts m_first m_bundles m_foundWanted m_foundBegin m_foundSteps m_low m_high m_rank m_cutWanted m_cutSteps m_cutPlace m_cutBundle m_aside m_loss m_ranks m_many m_next m_steps out hj hI
    have REC : ∀ (t_count : Int32) (t_lows : Nat → Int32) (t_highs : Nat → Int32) (t_ranks : Nat → Int32) (t_costs : Nat → Int32) (t_firstWanted : Nat → Int32) (t_firstSteps : Nat → Int32) (b_length : Int32) (b_error : Int32) (b_head : Int32) (b_tail : Int32) (b_count : Int32) (b_cutCount : Int32) (b_cutSteps : Int32) (b_rest : Int32) (b_wanted : Nat → Int32) (b_begins : Nat → Int32) (b_steps : Nat → Int32) (k_count : Int32) (k_sideCount : Int32) (k_bundleCount : Int32) (k_wanted : Nat → Int32) (k_steps : Nat → Int32) (k_places : Nat → Int32) (k_bundles : Nat → Int32) (k_sideCuts : Nat → Int32) (k_sums : Nat → Int32) (c_places : Int32) (c_longest : Int32) (c_lying : Int32) (c_cuts : Nat → Int32) (m_thrown : Int32) (m_wanted : Int32) (m_length : Int32) (m_error : Int32) (m_head : Int32) (m_tail : Int32) (m_places : Int32) (m_longest : Int32) (m_cuts : Int32) (m_first : Int32) (m_bundles : Int32) (m_foundWanted : Int32) (m_foundBegin : Int32) (m_foundSteps : Int32) (m_low : Nat → Int32) (m_high : Nat → Int32) (m_rank : Nat → Int32) (m_cutWanted : Nat → Int32) (m_cutSteps : Nat → Int32) (m_cutPlace : Nat → Int32) (m_cutBundle : Nat → Int32) (m_aside : Nat → Int32) (m_loss : Nat → Int32) (m_ranks : Nat → Int32) (m_many : Nat → Int32) (m_next : Nat → Int32) (m_steps : Nat → Int32) (out : Nat → Int64), Inv t_count t_lows t_highs t_ranks t_costs t_firstWanted t_firstSteps b_length b_error b_head b_tail b_count b_cutCount b_cutSteps b_rest b_wanted b_begins b_steps k_count k_sideCount k_bundleCount k_wanted k_steps k_places k_bundles k_sideCuts k_sums c_places c_longest c_lying c_cuts m_thrown m_wanted m_length m_error m_head m_tail m_places m_longest m_cuts m_first m_bundles m_foundWanted m_foundBegin m_foundSteps m_low m_high m_rank m_cutWanted m_cutSteps m_cutPlace m_cutBundle m_aside m_loss m_ranks m_many m_next m_steps out → ∀ v : Int32, v = I ((4 * j : Nat) : Int) + 4 → vc_l_law_L23 L xs (r + 1) (j + 1) v t_count t_lows t_highs t_ranks t_costs t_firstWanted t_firstSteps b_length b_error b_head b_tail b_count b_cutCount b_cutSteps b_rest b_wanted b_begins b_steps k_count k_sideCount k_bundleCount k_wanted k_steps k_places k_bundles k_sideCuts k_sums c_places c_longest c_lying c_cuts m_thrown m_wanted m_length m_error m_head m_tail m_places m_longest m_cuts m_first m_bundles m_foundWanted m_foundBegin m_foundSteps m_low m_high m_rank m_cutWanted m_cutSteps m_cutPlace m_cutBundle m_aside m_loss m_ranks m_many m_next m_steps out := by
      intro t_count t_lows t_highs t_ranks t_costs t_firstWanted t_firstSteps b_length b_error b_head b_tail b_count b_cutCount b_cutSteps b_rest b_wanted b_begins b_steps k_count k_sideCount k_bundleCount k_wanted k_steps k_places k_bundles k_sideCuts k_sums c_places c_longest c_lying c_cuts m_thrown m_wanted m_length m_error m_head m_tail m_places m_longest m_cuts m_first m_bundles m_foundWanted m_foundBegin m_foundSteps m_low m_high m_rank m_cutWanted m_cutSteps m_cutPlace m_cutBundle m_aside m_loss m_ranks m_many m_next m_steps out hI' v hv
      rw [hv, show (4 : Int32) = I 4 from rfl, I_add, show ((4 * j : Nat) : Int) + 4 = ((4 * (j + 1) : Nat) : Int) by omega]
      exact ih (j + 1) t_count t_lows t_highs t_ranks t_costs t_firstWanted t_firstSteps b_length b_error b_head b_tail b_count b_cutCount b_cutSteps b_rest b_wanted b_begins b_steps k_count k_sideCount k_bundleCount k_wanted k_steps k_places k_bundles k_sideCuts k_sums c_places c_longest c_lying c_cuts m_thrown m_wanted m_length m_error m_head m_tail m_places m_longest m_cuts m_first m_bundles m_foundWanted m_foundBegin m_foundSteps m_low m_high m_rank m_cutWanted m_cutSteps m_cutPlace m_cutBundle m_aside m_loss m_ranks m_many m_next m_steps out (by omega) hI'
    unfold vc_l_law_L23
    refine ⟨by omega, fun _ => trivial, fun hlt => ?_⟩
    have h4 : 4 * j + 4 ≤ L := by
      rw [show (4 : Int32) = I 4 from rfl, I_nat, I_sub, I_lt (by omega) (by omega) (by omega) (by omega)] at hlt
      omega
    have i0 : vp_in (I ((4 * j : Nat) : Int)) L := by rw [I_in (by omega) (by omega)]; omega
    have i1 : vp_in (I ((4 * j : Nat) : Int) + 1) L := by rw [show (1 : Int32) = I 1 from rfl, I_add, I_in (by omega) (by omega)]; omega
    have i2 : vp_in (I ((4 * j : Nat) : Int) + 2) L := by rw [show (2 : Int32) = I 2 from rfl, I_add, I_in (by omega) (by omega)]; omega
    have i3 : vp_in (I ((4 * j : Nat) : Int) + 3) L := by rw [show (3 : Int32) = I 3 from rfl, I_add, I_in (by omega) (by omega)]; omega
    refine ⟨i0, ?_⟩
    intro op hop
    generalize xs (I ((4 * j : Nat) : Int) + 1).toNatClampNeg = a1
    generalize xs (I ((4 * j : Nat) : Int) + 2).toNatClampNeg = a2
    generalize xs (I ((4 * j : Nat) : Int) + 3).toNatClampNeg = a3
    obtain ⟨z1, l1, u1, rfl⟩ := z_of a1
    obtain ⟨z2, l2, u2, rfl⟩ := z_of a2
    obtain ⟨z3, l3, u3, rfl⟩ := z_of a3
    clear hop hlt ih
    obtain ⟨n, lw, hg, rn, ln, er, hd, tl, cuts, first, cw, ct, pl, as, P, lg, ht, hk, hB, hK, hX, ⟨rfl, hCm⟩, ⟨rfl, rfl, rfl, rfl, rfl, rfl⟩, hmK, hmP, hkb, rfl, rfl, rfl, hma⟩ := hI
    have hmW : mW n lw hg rn (I n) m_low m_high m_rank := ⟨rfl, hCm⟩
    have hmB : mB ln er hd tl cuts first (I ln) (I er) (I hd) (I tl) (I cuts) (I first) := ⟨rfl, rfl, rfl, rfl, rfl, rfl⟩
    have hn6 := ht.2.1
    have hcu := hk.2.1
    have hW := ht.2.2.1
    have b1 := hB.2.1
    have b2 := hB.2.2.1
    have b3 := hB.2.2.2.1
    have b4 := hB.2.2.2.2.1
    have b5 := hB.2.2.2.2.2.1
    have b6 := hB.2.2.2.2.2.2.1
    have same : ∀ th x y z q1 q2 q3 q4 q5 o, Inv t_count t_lows t_highs t_ranks t_costs t_firstWanted t_firstSteps b_length b_error b_head b_tail b_count b_cutCount b_cutSteps b_rest b_wanted b_begins b_steps k_count k_sideCount k_bundleCount k_wanted k_steps k_places k_bundles k_sideCuts k_sums c_places c_longest c_lying c_cuts th (I n) (I ln) (I er) (I hd) (I tl) (I P) (I lg) (I cuts) (I first) k_bundleCount x y z m_low m_high m_rank m_cutWanted m_cutSteps m_cutPlace m_cutBundle m_aside q1 q2 q3 q4 q5 o := fun th x y z q1 q2 q3 q4 q5 o => ⟨n, lw, hg, rn, ln, er, hd, tl, cuts, first, cw, ct, pl, as, P, lg, ht, hk, hB, hK, hX, hmW, hmB, hmK, hmP, hkb, rfl, rfl, rfl, hma⟩
    refine ⟨fun _ => ?_, fun _ => ?_, fun _ => ?_, fun _ => ?_, fun _ => ?_, fun _ => ?_, fun _ => ?_, fun _ => ?_, fun _ => ?_, fun _ => ?_, fun _ => ?_, fun _ => ?_, fun _ => ?_, fun _ => ?_, fun _ => ?_, fun _ _ _ _ _ _ _ _ _ _ _ _ _ _ _ => fun v hv => REC _ _ _ _ _ _ _ _ _ _ _ _ _ _ _ _ _ _ _ _ _ _ _ _ _ _ _ _ _ _ _ _ _ _ _ _ _ _ _ _ _ _ _ _ _ _ _ _ _ _ _ _ _ _ _ _ _ _ _ (same _ _ _ _ _ _ _ _ _ _) v hv⟩
    · refine ⟨i1, i2, i3, ?_⟩
      by_cases hA : 1 ≤ z1 ∧ z1 ≤ 200 ∧ z1 ≤ z2 ∧ z2 ≤ 200 ∧ 0 ≤ z3 ∧ z3 ≤ 9
      · obtain ⟨k1, rfl⟩ := n_of (z := z1) (by omega)
        obtain ⟨k2, rfl⟩ := n_of (z := z2) (by omega)
        obtain ⟨k3, rfl⟩ := n_of (z := z3) (by omega)
        refine l_want0 ht hk hB (by omega) (by omega) (by omega) (by omega) (fun h6 => ?_) (fun h6 tc1 a4 b7 d4 c4 f4 s4 n4 r4 w4 g4 t4 ht1 hB1 => ?_)
        · refine ⟨i1, i2, i3, m_want2 (by rw [h6]) (by omega) (by omega) (by omega) (by omega) (by omega) (by omega) ?_⟩
          unfold vc_m_thrown
          exact ⟨fun _ => ⟨fun h => absurd h (by decide), fun _ => fun v hv => REC _ _ _ _ _ _ _ _ _ _ _ _ _ _ _ _ _ _ _ _ _ _ _ _ _ _ _ _ _ _ _ _ _ _ _ _ _ _ _ _ _ _ _ _ _ _ _ _ _ _ _ _ _ _ _ _ _ _ _ (same _ _ _ _ _ _ _ _ _ _) v hv⟩, fun h => absurd rfl h⟩
        · refine ⟨i1, i2, i3, m_want0 rfl h6 (by omega) (by omega) (by omega) (by omega) (by omega) (by omega) ?_⟩
          unfold vc_m_thrown
          exact ⟨fun _ => ⟨fun _ => ⟨in00, fun _ => fun v hv => REC _ _ _ _ _ _ _ _ _ _ _ _ _ _ _ _ _ _ _ _ _ _ _ _ _ _ _ _ _ _ _ _ _ _ _ _ _ _ _ _ _ _ _ _ _ _ _ _ _ _ _ _ _ _ _ _ _ _ _ (⟨n + 1, dAdd lw n k1, dAdd hg n k2, dAdd rn n k3, ln, er, hd, tl, cuts, first, cw, ct, pl, as, P, lg, ht1, kX_up hk h6, hB1, hK, hX, ⟨rfl, mW_add hCm⟩, hmB, hmK, hmP, hkb, rfl, rfl, rfl, hma⟩) v hv, fun h => absurd (cmp0 _ _) h⟩, fun h => absurd rfl h⟩, fun h => absurd rfl h⟩
      · refine l_want1 l1 u1 l2 u2 l3 u3 hA ?_
        refine ⟨i1, i2, i3, m_want1 rfl hn6 l1 u1 l2 u2 l3 u3 hA ?_⟩
        unfold vc_m_thrown
        exact ⟨fun _ => ⟨fun h => absurd h (by decide), fun _ => fun v hv => REC _ _ _ _ _ _ _ _ _ _ _ _ _ _ _ _ _ _ _ _ _ _ _ _ _ _ _ _ _ _ _ _ _ _ _ _ _ _ _ _ _ _ _ _ _ _ _ _ _ _ _ _ _ _ _ _ _ _ _ (same _ _ _ _ _ _ _ _ _ _) v hv⟩, fun h => absurd rfl h⟩
    · refine ⟨i1, i2, ?_⟩
      by_cases hA : 1 ≤ z1 ∧ z1 ≤ 200 ∧ 0 ≤ z2 ∧ z2 ≤ 50
      · obtain ⟨k1, rfl⟩ := n_of (z := z1) (by omega)
        obtain ⟨k2, rfl⟩ := n_of (z := z2) (by omega)
        refine l_bar0 ht hk hB (by omega) (by omega) (by omega) (fun q1 q2 q3 q4 q5 q6 w4 g4 t4 hB1 => ?_)
        refine ⟨i1, i2, m_bar0 (by omega) (by omega) (by omega) (by omega) ?_⟩
        unfold vc_m_thrown
        exact ⟨fun _ => fun v hv => REC _ _ _ _ _ _ _ _ _ _ _ _ _ _ _ _ _ _ _ _ _ _ _ _ _ _ _ _ _ _ _ _ _ _ _ _ _ _ _ _ _ _ _ _ _ _ _ _ _ _ _ _ _ _ _ _ _ _ _ (⟨n, lw, hg, rn, k1, k2, hd, tl, cuts, cuts, cw, ct, pl, as, P, lg, ht, hk, hB1, hK, hX, hmW, ⟨rfl, rfl, rfl, rfl, rfl, rfl⟩, hmK, hmP, hkb, rfl, rfl, rfl, hma⟩) v hv, fun h => absurd rfl h⟩
      · refine l_bar1 l1 u1 l2 u2 hA ?_
        refine ⟨i1, i2, m_bar1 l1 u1 l2 u2 hA ?_⟩
        unfold vc_m_thrown
        exact ⟨fun _ => fun v hv => REC _ _ _ _ _ _ _ _ _ _ _ _ _ _ _ _ _ _ _ _ _ _ _ _ _ _ _ _ _ _ _ _ _ _ _ _ _ _ _ _ _ _ _ _ _ _ _ _ _ _ _ _ _ _ _ _ _ _ _ (same _ _ _ _ _ _ _ _ _ _) v hv, fun h => absurd rfl h⟩
    · refine ⟨i1, i2, ?_⟩
      by_cases hA : 0 ≤ z1 ∧ z1 ≤ 100 ∧ 0 ≤ z2 ∧ z2 ≤ 100
      · obtain ⟨k1, rfl⟩ := n_of (z := z1) (by omega)
        obtain ⟨k2, rfl⟩ := n_of (z := z2) (by omega)
        refine l_crop0 ht hk hB (by omega) (by omega) (fun hx => ?_) (fun hx hs q1 q2 q3 q4 w4 g4 t4 hB1 => ?_)
        · refine ⟨i1, i2, m_crop2 (ct := ct) b1 (by omega) b3 hcu b5 hmK.2 (by omega) (by omega) (by omega) hx ?_⟩
          unfold vc_m_thrown
          exact ⟨fun _ => fun v hv => REC _ _ _ _ _ _ _ _ _ _ _ _ _ _ _ _ _ _ _ _ _ _ _ _ _ _ _ _ _ _ _ _ _ _ _ _ _ _ _ _ _ _ _ _ _ _ _ _ _ _ _ _ _ _ _ _ _ _ _ (same _ _ _ _ _ _ _ _ _ _) v hv, fun h => absurd rfl h⟩
        · refine ⟨i1, i2, m_crop0 (ct := ct) b1 (by omega) b3 hcu b5 hmK.2 (by omega) (by omega) (by omega) hx hs ?_⟩
          unfold vc_m_thrown
          exact ⟨fun _ => fun v hv => REC _ _ _ _ _ _ _ _ _ _ _ _ _ _ _ _ _ _ _ _ _ _ _ _ _ _ _ _ _ _ _ _ _ _ _ _ _ _ _ _ _ _ _ _ _ _ _ _ _ _ _ _ _ _ _ _ _ _ _ (⟨n, lw, hg, rn, ln, er, k1, k2, cuts, first, cw, ct, pl, as, P, lg, ht, hk, hB1, hK, hX, hmW, ⟨rfl, rfl, rfl, rfl, rfl, rfl⟩, hmK, hmP, hkb, rfl, rfl, rfl, hma⟩) v hv, fun h => absurd rfl h⟩
      · refine l_crop1 l1 u1 l2 u2 hA ?_
        refine ⟨i1, i2, m_crop1 l1 u1 l2 u2 hA ?_⟩
        unfold vc_m_thrown
        exact ⟨fun _ => fun v hv => REC _ _ _ _ _ _ _ _ _ _ _ _ _ _ _ _ _ _ _ _ _ _ _ _ _ _ _ _ _ _ _ _ _ _ _ _ _ _ _ _ _ _ _ _ _ _ _ _ _ _ _ _ _ _ _ _ _ _ _ (same _ _ _ _ _ _ _ _ _ _) v hv, fun h => absurd rfl h⟩
    · refine ⟨i1, ?_⟩
      by_cases hA : 1 ≤ z1 ∧ z1 ≤ 200
      · obtain ⟨k1, rfl⟩ := n_of (z := z1) (by omega)
        refine l_known0 ht hk hB (by omega) (by omega) (fun hx => ?_) (fun hs q1 q2 q3 q4 w4 g4 t4 hB1 => ?_)
        · refine ⟨i1, m_known20 (ct := ct) b3 b4 hcu b5 hmK.2 (by omega) (by omega) (by omega) (fun h => ?_) (fun h => by omega)⟩
          unfold vc_m_thrown
          exact ⟨fun _ => fun v hv => REC _ _ _ _ _ _ _ _ _ _ _ _ _ _ _ _ _ _ _ _ _ _ _ _ _ _ _ _ _ _ _ _ _ _ _ _ _ _ _ _ _ _ _ _ _ _ _ _ _ _ _ _ _ _ _ _ _ _ _ (same _ _ _ _ _ _ _ _ _ _) v hv, fun h => absurd rfl h⟩
        · refine ⟨i1, m_known20 (ct := ct) b3 b4 hcu b5 hmK.2 (by omega) (by omega) (by omega) (fun h => by omega) (fun h => ?_)⟩
          unfold vc_m_thrown
          exact ⟨fun _ => fun v hv => REC _ _ _ _ _ _ _ _ _ _ _ _ _ _ _ _ _ _ _ _ _ _ _ _ _ _ _ _ _ _ _ _ _ _ _ _ _ _ _ _ _ _ _ _ _ _ _ _ _ _ _ _ _ _ _ _ _ _ _ (⟨n, lw, hg, rn, k1, 0, hd, tl, cuts, first, cw, ct, pl, as, P, lg, ht, hk, hB1, hK, hX, hmW, ⟨rfl, rfl, rfl, rfl, rfl, rfl⟩, hmK, hmP, hkb, rfl, rfl, rfl, hma⟩) v hv, fun h => absurd rfl h⟩
      · refine l_known1 l1 u1 hA ?_
        refine ⟨i1, m_known1 l1 u1 hA ?_⟩
        unfold vc_m_thrown
        exact ⟨fun _ => fun v hv => REC _ _ _ _ _ _ _ _ _ _ _ _ _ _ _ _ _ _ _ _ _ _ _ _ _ _ _ _ _ _ _ _ _ _ _ _ _ _ _ _ _ _ _ _ _ _ _ _ _ _ _ _ _ _ _ _ _ _ _ (same _ _ _ _ _ _ _ _ _ _) v hv, fun h => absurd rfl h⟩
    · unfold vc_x_pieces
      refine m_pieces0 hn6 hW hCm (by omega) (by omega) (by omega) (by omega) hcu b5 hmK.2 b6 (fun q1 q2 q3 q4 q5 => ?_)
      exact ⟨fun _ => fun v hv => REC _ _ _ _ _ _ _ _ _ _ _ _ _ _ _ _ _ _ _ _ _ _ _ _ _ _ _ _ _ _ _ _ _ _ _ _ _ _ _ _ _ _ _ _ _ _ _ _ _ _ _ _ _ _ _ _ _ _ _ (same _ _ _ _ _ _ _ _ _ _) v hv, fun h => absurd hB.2.2.2.2.2.2.2.2.2.2.2.2.2.1 h⟩
    · refine ⟨i1, i2, ?_⟩
      refine l_piece01 ht hk hB l1 u1 l2 u2 (fun hx => ?_) (fun x1 x2 x3 x4 => ?_)
      · refine ⟨i1, i2, m_piece01 ht hk hB hmW hmB hmK l1 u1 l2 u2 (fun _ y1 y2 y3 q1 q2 q3 q4 q5 => ?_) (fun y1 y2 y3 y4 => absurd ⟨y1, y2, y3, y4⟩ hx)⟩
        unfold vc_m_thrown
        exact ⟨fun _ => ⟨fun h => absurd h (by decide), fun _ => fun v hv => REC _ _ _ _ _ _ _ _ _ _ _ _ _ _ _ _ _ _ _ _ _ _ _ _ _ _ _ _ _ _ _ _ _ _ _ _ _ _ _ _ _ _ _ _ _ _ _ _ _ _ _ _ _ _ _ _ _ _ _ (same _ _ _ _ _ _ _ _ _ _) v hv⟩, fun h => absurd rfl h⟩
      · refine ⟨i1, i2, m_piece01 ht hk hB hmW hmB hmK l1 u1 l2 u2 (fun hx => absurd ⟨x1, x2, x3, x4⟩ hx) (fun _ _ _ _ y1 y2 y3 q1 q2 q3 q4 q5 => ?_)⟩
        unfold vc_m_thrown
        exact ⟨fun _ => ⟨fun _ => ⟨in00, fun _ => fun v hv => REC _ _ _ _ _ _ _ _ _ _ _ _ _ _ _ _ _ _ _ _ _ _ _ _ _ _ _ _ _ _ _ _ _ _ _ _ _ _ _ _ _ _ _ _ _ _ _ _ _ _ _ _ _ _ _ _ _ _ _ (same _ _ _ _ _ _ _ _ _ _) v hv, fun h => absurd (cmp0 _ _) h⟩, fun h => absurd rfl h⟩, fun h => absurd rfl h⟩
    · unfold vc_x_loss
      refine m_loss0 hn6 hW hCm (by omega) (by omega) (by omega) (by omega) hcu b5 hmK.2 b6 (fun q1 q2 q3 q4 q5 => ?_)
      exact ⟨fun _ => fun v hv => REC _ _ _ _ _ _ _ _ _ _ _ _ _ _ _ _ _ _ _ _ _ _ _ _ _ _ _ _ _ _ _ _ _ _ _ _ _ _ _ _ _ _ _ _ _ _ _ _ _ _ _ _ _ _ _ _ _ _ _ (same _ _ _ _ _ _ _ _ _ _) v hv, fun h => absurd hB.2.2.2.2.2.2.2.2.2.2.2.2.2.2.1 h⟩
    · obtain ⟨p, hpP, hf, hg1⟩ := fr_ex c_cuts P
      refine l_cut012 ht hk hB hK hX hpP hf hg1 (fun hm => ?_) (fun hm h3 => ?_) (fun hm h3 st x z est ex ez q1 q2 q3 q4 q5 q6 q7 q8 q9 y1 y2 hk1 hB1 hK1 hX1 => ?_)
      · refine m_cut012 ht hk hB hmW hmB hmK hX hmP rfl rfl hpP hf hg1 (fun _ y1 y2 y3 q1 q2 q3 q4 q5 => ?_) (fun hm2 => by omega) (fun hm2 => by omega)
        unfold vc_m_thrown
        exact ⟨fun _ => ⟨fun h => absurd h (by decide), fun _ => fun v hv => REC _ _ _ _ _ _ _ _ _ _ _ _ _ _ _ _ _ _ _ _ _ _ _ _ _ _ _ _ _ _ _ _ _ _ _ _ _ _ _ _ _ _ _ _ _ _ _ _ _ _ _ _ _ _ _ _ _ _ _ (same _ _ _ _ _ _ _ _ _ _) v hv⟩, fun h => absurd rfl h⟩
      · refine m_cut012 ht hk hB hmW hmB hmK hX hmP rfl rfl hpP hf hg1 (fun hm2 => by omega) (fun _ _ y1 y2 y3 q1 q2 q3 q4 q5 => ?_) (fun hm2 hc2 => by omega)
        unfold vc_m_thrown
        exact ⟨fun _ => ⟨fun h => absurd h (by decide), fun _ => fun v hv => REC _ _ _ _ _ _ _ _ _ _ _ _ _ _ _ _ _ _ _ _ _ _ _ _ _ _ _ _ _ _ _ _ _ _ _ _ _ _ _ _ _ _ _ _ _ _ _ _ _ _ _ _ _ _ _ _ _ _ _ (same _ _ _ _ _ _ _ _ _ _) v hv⟩, fun h => absurd rfl h⟩
      · refine m_cut012 ht hk hB hmW hmB hmK hX hmP rfl rfl hpP hf hg1 (fun hm2 => by omega) (fun hm2 hc2 => by omega) (fun _ _ st2 x2 z2 est2 ex2 ez2 u4 u5 u6 v1 v2 v3 v4 v5 => ?_)
        obtain rfl : st2 = st := by rw [est2, est]
        obtain rfl : x2 = x := by rw [ex2, ex]
        obtain rfl : z2 = z := by rw [ez2, ez]
        have hzr : -2 ≤ z2 ∧ z2 < 20 := by rw [ez2]; exact plc_rng _ _ _ _ hX.2.2.1
        unfold vc_m_thrown
        exact ⟨fun _ => ⟨fun _ => ⟨in00, fun _ => fun v hv => REC _ _ _ _ _ _ _ _ _ _ _ _ _ _ _ _ _ _ _ _ _ _ _ _ _ _ _ _ _ _ _ _ _ _ _ _ _ _ _ _ _ _ _ _ _ _ _ _ _ _ _ _ _ _ _ _ _ _ _ (⟨n, lw, hg, rn, ln, er, hd, tl, cuts + 1, first, dAdd cw cuts x2, dAdd ct cuts st2, iAdd pl cuts z2, dAdd as cuts (asV z2), P, lg, ht, hk1, hB1, hK1, hX1, hmW, ⟨rfl, rfl, rfl, rfl, rfl, rfl⟩, mK_cut hmK, kP_cut hmP hzr.1 hzr.2, eq_cut hkb, rfl, rfl, rfl, as_cut hma⟩) v hv, fun h => absurd (cmp0 _ _) h⟩, fun h => absurd rfl h⟩, fun h => absurd rfl h⟩
    · refine ⟨i1, i2, ?_⟩
      refine l_bed012 hX hcu l1 u1 l2 u2 (fun hx => ?_) (fun hx hy => ?_) (fun hx y1 y2 y3 y4 => ?_)
      · refine ⟨i1, i2, m_bed012 hcu hmP l1 u1 l2 u2 (fun _ => ?_) (fun h => absurd h hx) (fun h => absurd h hx)⟩
        unfold vc_m_thrown
        exact ⟨fun _ => fun v hv => REC _ _ _ _ _ _ _ _ _ _ _ _ _ _ _ _ _ _ _ _ _ _ _ _ _ _ _ _ _ _ _ _ _ _ _ _ _ _ _ _ _ _ _ _ _ _ _ _ _ _ _ _ _ _ _ _ _ _ _ (same _ _ _ _ _ _ _ _ _ _) v hv, fun h => absurd rfl h⟩
      · refine ⟨i1, i2, m_bed012 hcu hmP l1 u1 l2 u2 (fun h => absurd hx h) (fun _ _ => ?_) (fun _ x1 x2 x3 x4 => absurd ⟨x1, x2, x3, x4⟩ hy)⟩
        unfold vc_m_thrown
        exact ⟨fun _ => fun v hv => REC _ _ _ _ _ _ _ _ _ _ _ _ _ _ _ _ _ _ _ _ _ _ _ _ _ _ _ _ _ _ _ _ _ _ _ _ _ _ _ _ _ _ _ _ _ _ _ _ _ _ _ _ _ _ _ _ _ _ _ (same _ _ _ _ _ _ _ _ _ _) v hv, fun h => absurd rfl h⟩
      · refine ⟨i1, i2, m_bed012 hcu hmP l1 u1 l2 u2 (fun h => absurd hx h) (fun _ h => absurd ⟨y1, y2, y3, y4⟩ h) (fun _ _ _ _ _ => ?_)⟩
        obtain ⟨k1, rfl⟩ := n_of (z := z1) (by omega)
        obtain ⟨k2, rfl⟩ := n_of (z := z2) (by omega)
        unfold vc_m_thrown
        exact ⟨fun _ => fun v hv => REC _ _ _ _ _ _ _ _ _ _ _ _ _ _ _ _ _ _ _ _ _ _ _ _ _ _ _ _ _ _ _ _ _ _ _ _ _ _ _ _ _ _ _ _ _ _ _ _ _ _ _ _ _ _ _ _ _ _ _ (⟨n, lw, hg, rn, ln, er, hd, tl, cuts, first, cw, ct, pl, as, k1, k2, ht, hk, hB, hK, ⟨rfl, by omega, by omega, rfl, by omega, by omega, hX.2.2.2.2.2.2.1, hX.2.2.2.2.2.2.2⟩, hmW, hmB, hmK, hmP, hkb, rfl, rfl, rfl, hma⟩) v hv, fun h => absurd rfl h⟩
    · refine ⟨i1, ?_⟩
      refine l_at01 hX l1 u1 (fun hx => ?_) (fun x1 x2 => ?_)
      · refine ⟨i1, m_at01 hX hcu hmP l1 u1 (fun _ => ?_) (fun y1 y2 => absurd ⟨y1, y2⟩ hx)⟩
        unfold vc_m_thrown
        exact ⟨fun _ => ⟨fun h => absurd h (by decide), fun _ => fun v hv => REC _ _ _ _ _ _ _ _ _ _ _ _ _ _ _ _ _ _ _ _ _ _ _ _ _ _ _ _ _ _ _ _ _ _ _ _ _ _ _ _ _ _ _ _ _ _ _ _ _ _ _ _ _ _ _ _ _ _ _ (same _ _ _ _ _ _ _ _ _ _) v hv⟩, fun h => absurd rfl h⟩
      · refine ⟨i1, m_at01 hX hcu hmP l1 u1 (fun h => absurd ⟨x1, x2⟩ h) (fun _ _ => ?_)⟩
        unfold vc_m_thrown
        exact ⟨fun _ => ⟨fun _ => ⟨in00, fun _ => fun v hv => REC _ _ _ _ _ _ _ _ _ _ _ _ _ _ _ _ _ _ _ _ _ _ _ _ _ _ _ _ _ _ _ _ _ _ _ _ _ _ _ _ _ _ _ _ _ _ _ _ _ _ _ _ _ _ _ _ _ _ _ (same _ _ _ _ _ _ _ _ _ _) v hv, fun h => absurd (cmp0 _ _) h⟩, fun h => absurd rfl h⟩, fun h => absurd rfl h⟩
    · refine ⟨i1, i2, ?_⟩
      refine l_bundle ht.1 hK.1 hk (fun j hj => (hK.2.2.1 j hj).1) hK.2.2.2.1 hX l1 u1 l2 u2 (fun hx => ?_) (fun x1 x2 hx => ?_) (fun x1 x2 x3 x4 hx => ?_) (fun x1 x2 x3 x4 hx q1 q2 q3 hP1 hX1 => ?_)
      · refine ⟨i1, i2, m_bundle hk hmK.1 hmP l1 u1 l2 u2 (fun _ => ?_) (fun y1 y2 => absurd ⟨y1, y2⟩ hx) (fun y1 y2 => absurd ⟨y1, y2⟩ hx) (fun y1 y2 => absurd ⟨y1, y2⟩ hx)⟩
        unfold vc_m_thrown
        exact ⟨fun _ => ⟨fun h => absurd h (by decide), fun _ => fun v hv => REC _ _ _ _ _ _ _ _ _ _ _ _ _ _ _ _ _ _ _ _ _ _ _ _ _ _ _ _ _ _ _ _ _ _ _ _ _ _ _ _ _ _ _ _ _ _ _ _ _ _ _ _ _ _ _ _ _ _ _ (same _ _ _ _ _ _ _ _ _ _) v hv⟩, fun h => absurd rfl h⟩
      · refine ⟨i1, i2, m_bundle hk hmK.1 hmP l1 u1 l2 u2 (fun h => absurd ⟨x1, x2⟩ h) (fun _ _ _ => ?_) (fun _ _ y1 y2 => absurd ⟨y1, y2⟩ hx) (fun _ _ y1 y2 => absurd ⟨y1, y2⟩ hx)⟩
        unfold vc_m_thrown
        exact ⟨fun _ => ⟨fun h => absurd h (by decide), fun _ => fun v hv => REC _ _ _ _ _ _ _ _ _ _ _ _ _ _ _ _ _ _ _ _ _ _ _ _ _ _ _ _ _ _ _ _ _ _ _ _ _ _ _ _ _ _ _ _ _ _ _ _ _ _ _ _ _ _ _ _ _ _ _ (same _ _ _ _ _ _ _ _ _ _) v hv⟩, fun h => absurd rfl h⟩
      · refine ⟨i1, i2, m_bundle hk hmK.1 hmP l1 u1 l2 u2 (fun h => absurd ⟨x1, x2⟩ h) (fun _ _ h => absurd ⟨x3, x4⟩ h) (fun _ _ _ _ _ => ?_) (fun _ _ _ _ h => by omega)⟩
        unfold vc_m_thrown
        exact ⟨fun _ => ⟨fun h => absurd h (by decide), fun _ => fun v hv => REC _ _ _ _ _ _ _ _ _ _ _ _ _ _ _ _ _ _ _ _ _ _ _ _ _ _ _ _ _ _ _ _ _ _ _ _ _ _ _ _ _ _ _ _ _ _ _ _ _ _ _ _ _ _ _ _ _ _ _ (same _ _ _ _ _ _ _ _ _ _) v hv⟩, fun h => absurd rfl h⟩
      · refine ⟨i1, i2, m_bundle hk hmK.1 hmP l1 u1 l2 u2 (fun h => absurd ⟨x1, x2⟩ h) (fun _ _ h => absurd ⟨x3, x4⟩ h) (fun _ _ _ _ h => by omega) (fun _ _ _ _ _ q4 hP2 => ?_)⟩
        unfold vc_m_thrown
        exact ⟨fun _ => ⟨fun _ => ⟨in00, fun _ => fun v hv => REC _ _ _ _ _ _ _ _ _ _ _ _ _ _ _ _ _ _ _ _ _ _ _ _ _ _ _ _ _ _ _ _ _ _ _ _ _ _ _ _ _ _ _ _ _ _ _ _ _ _ _ _ _ _ _ _ _ _ _ (⟨n, lw, hg, rn, ln, er, hd, tl, cuts, first, cw, ct, tkP cw z1.toNat cuts 0 z2.toNat pl, as, P, lg, ht, hk, hB, ⟨hK.1, hK.2.1, hK.2.2.1, hP1, hK.2.2.2.2⟩, hX1, hmW, hmB, hmK, hP2, tkB_cg _ _ _ _ _ _ hkb, rfl, rfl, rfl, hma⟩) v hv, fun h => absurd (cmp0 _ _) h⟩, fun h => absurd rfl h⟩, fun h => absurd rfl h⟩
    · refine ⟨i1, i2, ?_⟩
      refine l_cutAt01 hK.1 hcu l1 u1 l2 u2 (fun hx => ?_) (fun x1 x2 x3 x4 => ?_)
      · refine ⟨i1, i2, m_cutAt01 hcu l1 u1 l2 u2 (fun _ => ?_) (fun y1 y2 y3 y4 => absurd ⟨y1, y2, y3, y4⟩ hx)⟩
        unfold vc_m_thrown
        exact ⟨fun _ => ⟨fun h => absurd h (by decide), fun _ => fun v hv => REC _ _ _ _ _ _ _ _ _ _ _ _ _ _ _ _ _ _ _ _ _ _ _ _ _ _ _ _ _ _ _ _ _ _ _ _ _ _ _ _ _ _ _ _ _ _ _ _ _ _ _ _ _ _ _ _ _ _ _ (same _ _ _ _ _ _ _ _ _ _) v hv⟩, fun h => absurd rfl h⟩
      · refine ⟨i1, i2, m_cutAt01 hcu l1 u1 l2 u2 (fun h => absurd ⟨x1, x2, x3, x4⟩ h) (fun _ _ _ _ => ?_)⟩
        rw [caV_eq x1 x2 (fun j hj => ((hK.2.2.1 j hj).1).trans (hmK.1 j hj).symm) (fun j hj => ((hK.2.2.1 j hj).2).trans (hmK.2 j hj).symm) (fun j hj => ((hK.2.2.2.1 j hj).1).trans (hmP j hj).1.symm) hkb]
        unfold vc_m_thrown
        exact ⟨fun _ => ⟨fun _ => ⟨in00, fun _ => fun v hv => REC _ _ _ _ _ _ _ _ _ _ _ _ _ _ _ _ _ _ _ _ _ _ _ _ _ _ _ _ _ _ _ _ _ _ _ _ _ _ _ _ _ _ _ _ _ _ _ _ _ _ _ _ _ _ _ _ _ _ _ (same _ _ _ _ _ _ _ _ _ _) v hv, fun h => absurd (cmp0 _ _) h⟩, fun h => absurd rfl h⟩, fun h => absurd rfl h⟩
    · refine ⟨i1, i2, i3, ?_⟩
      refine l_blade012 ht hk hB l1 u1 l2 u2 l3 u3 (fun hx => ?_) (fun x1 x2 x3 x4 hx => ?_) (fun x1 x2 x3 x4 x5 x6 => ?_)
      · refine ⟨i1, i2, i3, m_blade012 ht hk hB hmW hmB hmK l1 u1 l2 u2 l3 u3 (fun _ y1 y2 y3 q1 q2 q3 q4 q5 => ?_) (fun y1 y2 y3 y4 => absurd ⟨y1, y2, y3, y4⟩ hx) (fun y1 y2 y3 y4 => absurd ⟨y1, y2, y3, y4⟩ hx)⟩
        unfold vc_m_thrown
        exact ⟨fun _ => ⟨fun h => absurd h (by decide), fun _ => fun v hv => REC _ _ _ _ _ _ _ _ _ _ _ _ _ _ _ _ _ _ _ _ _ _ _ _ _ _ _ _ _ _ _ _ _ _ _ _ _ _ _ _ _ _ _ _ _ _ _ _ _ _ _ _ _ _ _ _ _ _ _ (same _ _ _ _ _ _ _ _ _ _) v hv⟩, fun h => absurd rfl h⟩
      · refine ⟨i1, i2, i3, m_blade012 ht hk hB hmW hmB hmK l1 u1 l2 u2 l3 u3 (fun h => absurd ⟨x1, x2, x3, x4⟩ h) (fun _ _ _ _ _ y1 y2 y3 q1 q2 q3 q4 q5 => ?_) (fun _ _ _ _ y1 y2 => absurd ⟨y1, y2⟩ hx)⟩
        unfold vc_m_thrown
        exact ⟨fun _ => ⟨fun h => absurd h (by decide), fun _ => fun v hv => REC _ _ _ _ _ _ _ _ _ _ _ _ _ _ _ _ _ _ _ _ _ _ _ _ _ _ _ _ _ _ _ _ _ _ _ _ _ _ _ _ _ _ _ _ _ _ _ _ _ _ _ _ _ _ _ _ _ _ _ (same _ _ _ _ _ _ _ _ _ _) v hv⟩, fun h => absurd rfl h⟩
      · refine ⟨i1, i2, i3, m_blade012 ht hk hB hmW hmB hmK l1 u1 l2 u2 l3 u3 (fun h => absurd ⟨x1, x2, x3, x4⟩ h) (fun _ _ _ _ h => absurd ⟨x5, x6⟩ h) (fun _ _ _ _ _ _ y1 y2 y3 q1 q2 q3 q4 q5 => ?_)⟩
        unfold vc_m_thrown
        exact ⟨fun _ => ⟨fun _ => ⟨in00, fun _ => fun v hv => REC _ _ _ _ _ _ _ _ _ _ _ _ _ _ _ _ _ _ _ _ _ _ _ _ _ _ _ _ _ _ _ _ _ _ _ _ _ _ _ _ _ _ _ _ _ _ _ _ _ _ _ _ _ _ _ _ _ _ _ (same _ _ _ _ _ _ _ _ _ _) v hv, fun h => absurd (cmp0 _ _) h⟩, fun h => absurd rfl h⟩, fun h => absurd rfl h⟩
    · refine ⟨i1, ?_⟩
      refine l_sum01 ht.1 hn6 l1 u1 (fun hx => ?_) (fun x1 x2 => ?_)
      · refine ⟨i1, m_sum01 hk hmK l1 u1 (fun _ => ?_) (fun y1 y2 => absurd ⟨y1, y2⟩ hx)⟩
        unfold vc_m_thrown
        exact ⟨fun _ => ⟨fun h => absurd h (by decide), fun _ => fun v hv => REC _ _ _ _ _ _ _ _ _ _ _ _ _ _ _ _ _ _ _ _ _ _ _ _ _ _ _ _ _ _ _ _ _ _ _ _ _ _ _ _ _ _ _ _ _ _ _ _ _ _ _ _ _ _ _ _ _ _ _ (same _ _ _ _ _ _ _ _ _ _) v hv⟩, fun h => absurd rfl h⟩
      · refine ⟨i1, m_sum01 hk hmK l1 u1 (fun h => absurd ⟨x1, x2⟩ h) (fun _ _ => ?_)⟩
        rw [hK.2.2.2.2.2.1 z1.toNat (by omega)]
        unfold vc_m_thrown
        exact ⟨fun _ => ⟨fun _ => ⟨in00, fun _ => fun v hv => REC _ _ _ _ _ _ _ _ _ _ _ _ _ _ _ _ _ _ _ _ _ _ _ _ _ _ _ _ _ _ _ _ _ _ _ _ _ _ _ _ _ _ _ _ _ _ _ _ _ _ _ _ _ _ _ _ _ _ _ (same _ _ _ _ _ _ _ _ _ _) v hv, fun h => absurd (cmp0 _ _) h⟩, fun h => absurd rfl h⟩, fun h => absurd rfl h⟩
    · refine ⟨i1, ?_⟩
      have hna := nA_le (f := as) cuts hK.2.2.2.2.2.2
      refine l_side01 hK.2.1 (by omega) l1 u1 (fun hx => ?_) (fun hx => ?_)
      · refine ⟨i1, m_side01 hcu hK.2.2.2.2.2.2 hma hK.2.2.2.2.1 l1 u1 (fun _ => ?_) (fun h => by omega)⟩
        unfold vc_m_thrown
        exact ⟨fun _ => ⟨fun h => absurd h (by decide), fun _ => fun v hv => REC _ _ _ _ _ _ _ _ _ _ _ _ _ _ _ _ _ _ _ _ _ _ _ _ _ _ _ _ _ _ _ _ _ _ _ _ _ _ _ _ _ _ _ _ _ _ _ _ _ _ _ _ _ _ _ _ _ _ _ (same _ _ _ _ _ _ _ _ _ _) v hv⟩, fun h => absurd rfl h⟩
      · refine ⟨i1, m_side01 hcu hK.2.2.2.2.2.2 hma hK.2.2.2.2.1 l1 u1 (fun h => by omega) (fun _ => ?_)⟩
        unfold vc_m_thrown
        exact ⟨fun _ => ⟨fun _ => ⟨in00, fun _ => fun v hv => REC _ _ _ _ _ _ _ _ _ _ _ _ _ _ _ _ _ _ _ _ _ _ _ _ _ _ _ _ _ _ _ _ _ _ _ _ _ _ _ _ _ _ _ _ _ _ _ _ _ _ _ _ _ _ _ _ _ _ _ (same _ _ _ _ _ _ _ _ _ _) v hv, fun h => absurd (cmp0 _ _) h⟩, fun h => absurd rfl h⟩, fun h => absurd rfl h⟩
