/-! The pure layer: bundles -/
def nW (cw : Nat → Nat) (pl : Nat → Int) (w : Int) : Nat → Nat
  | 0 => 0
  | k + 1 => nW cw pl w k + if (cw k : Int) = w ∧ 0 ≤ pl k then 1 else 0
theorem nW_le {cw : Nat → Nat} {pl : Nat → Int} {w : Int} : ∀ k, nW cw pl w k ≤ k := by
  intro k
  induction k with
  | zero => exact Nat.le_refl _
  | succ k ih => unfold nW; split <;> omega
def tkP (cw : Nat → Nat) (w : Nat) : Nat → Nat → Nat → (Nat → Int) → (Nat → Int)
  | 0, _, _, pl => pl
  | r + 1, i, m, pl => if m = 0 then pl else if cw i = w ∧ 0 ≤ pl i then tkP cw w r (i + 1) (m - 1) (iAdd pl i (-2)) else tkP cw w r (i + 1) m pl
def tkB (cw : Nat → Nat) (w : Nat) (bd : Int32) : Nat → Nat → Nat → (Nat → Int) → (Nat → Int32) → (Nat → Int32)
  | 0, _, _, _, kb => kb
  | r + 1, i, m, pl, kb => if m = 0 then kb else if cw i = w ∧ 0 ≤ pl i then tkB cw w bd r (i + 1) (m - 1) (iAdd pl i (-2)) (upd kb i bd) else tkB cw w bd r (i + 1) m pl kb
theorem tkB_cg {cw : Nat → Nat} {w : Nat} {bd : Int32} {cuts : Nat} : ∀ (r i m : Nat) (pl : Nat → Int) (kb mb : Nat → Int32), (∀ j < cuts, kb j = mb j) → ∀ j < cuts, tkB cw w bd r i m pl kb j = tkB cw w bd r i m pl mb j := by
  intro r
  induction r with
  | zero => intro i m pl kb mb h; exact h
  | succ r ih =>
    intro i m pl kb mb h
    unfold tkB
    by_cases h1 : m = 0
    · rw [if_pos h1, if_pos h1]; exact h
    · rw [if_neg h1, if_neg h1]
      by_cases h2 : cw i = w ∧ 0 ≤ pl i
      · rw [if_pos h2, if_pos h2]
        refine ih _ _ _ _ _ (fun j hj => ?_)
        by_cases hji : j = i
        · subst hji; rw [upd_same, upd_same]
        · rw [upd_ne _ _ hji, upd_ne _ _ hji]; exact h j hj
      · rw [if_neg h2, if_neg h2]; exact ih _ _ _ _ _ h
theorem q_count4 {n cuts w : Nat} {cw ct : Nat → Nat} {pl : Nat → Int} {kw kp : Nat → Int32} {post : Int32 → Prop} (hk : kX n cuts cw ct) (hw : w < 6) (hkw : ∀ j < cuts, kw j = I (cw j)) (hpl : kP cuts pl kp) (hp : post (I (nW cw pl w cuts : Nat))) :
    ∀ (r i : Nat), i + r = cuts → vc_k_countOnBed_L4 kw kp (I cuts) (I w) post (r + 1) (I (nW cw pl w i : Nat)) (I i) := by
  have hcu := hk.2.1
  intro r
  induction r with
  | zero =>
    intro i hi
    have : i = cuts := by omega
    subst this
    unfold vc_k_countOnBed_L4
    simp (disch := omega) only [I_m1, I_m2, I_0, I_1, I_2, I_3, I_4, I_5, I_6, I_7, I_8, I_9, I_10, I_11, I_12, I_13, I_14, I_15, I_20, I_50, I_100, I_200, I_256, I_300, I_1000, I_2000, I_1048576, I_n1, I_n2, I_nat, I_add, I_sub, I_mul, I_le, I_lt, I_eq, I_cl, I_in, forall_eq, Int.not_le, Int.not_lt]
    exact ⟨fun _ => hp, fun h => by omega⟩
  | succ r ih =>
    intro i hi
    unfold vc_k_countOnBed_L4 vc_k_isOnBed
    have h1 := hkw i (by omega)
    have h2 := hpl i (by omega)
    have h3 := hk.2.2 i (by omega)
    have hn := hk.1
    have hnw := nW_le (cw := cw) (pl := pl) (w := w) i
    have ihh := ih (i + 1) (by omega)
    have en : nW cw pl w (i + 1) = nW cw pl w i + if (cw i : Int) = w ∧ 0 ≤ pl i then 1 else 0 := rfl
    have hz : (0 : Int) ≤ i ∧ (i : Int) < (300 : Nat) := by omega
    simp (disch := omega) only [I_m1, I_m2, I_0, I_1, I_2, I_3, I_4, I_5, I_6, I_7, I_8, I_9, I_10, I_11, I_12, I_13, I_14, I_15, I_20, I_50, I_100, I_200, I_256, I_300, I_1000, I_2000, I_1048576, I_n1, I_n2, I_nat, I_add, I_sub, I_mul, I_le, I_lt, I_eq, I_cl, I_in, forall_eq, Int.not_le, Int.not_lt, m_in1, m_in0, m_go1, m_go2, m_go3, m_go0, i01, i10, j10, j20, j30, eq_self, not_true_eq_false, not_false_eq_true, true_implies, false_implies, and_true, true_and, implies_true, Int.toNat_natCast, h1, h2.1]
    refine ⟨fun h => by omega, fun _ => ⟨hz, fun h => ⟨hz, fun h' => ?_, fun h' => ?_⟩, fun h => ?_⟩⟩
    · rw [en, if_neg (by omega), Nat.add_zero] at ihh; exact ihh
    · rw [en, if_pos ⟨by omega, by omega⟩] at ihh; exact ihh
    · rw [en, if_neg (by omega), Nat.add_zero] at ihh; exact ihh
theorem q_free {cc : Nat → Int32} {p y : Nat} {post : Int32 → (Nat → Int32) → Prop} (hp : p < 20) (hcc : cc p ≠ I (-1)) (hh : post (I ((y : Int) - 1)) (upd cc p (I (-1)))) : vc_c_free cc (I y) (I p) post := by
  unfold vc_c_free
  simp (disch := omega) only [I_m1, I_m2, I_0, I_1, I_2, I_3, I_4, I_5, I_6, I_7, I_8, I_9, I_10, I_11, I_12, I_13, I_14, I_15, I_20, I_50, I_100, I_200, I_256, I_300, I_1000, I_2000, I_1048576, I_n1, I_n2, I_nat, I_add, I_sub, I_mul, I_le, I_lt, I_eq, I_cl, I_in, forall_eq, Int.not_le, Int.not_lt, Int.toNat_natCast]
  exact ⟨fun h => by omega, fun _ => ⟨fun h => by omega, fun _ => ⟨by omega, fun h => absurd h hcc, fun _ => ⟨by omega, hh⟩⟩⟩⟩
theorem nOn_upd {pl : Nat → Int} {i : Nat} (hi : 0 ≤ pl i) : ∀ k, i < k → nOn (iAdd pl i (-2)) k + 1 = nOn pl k := by
  intro k
  induction k with
  | zero => intro h; omega
  | succ k ih =>
    intro h
    unfold nOn
    by_cases hik : i = k
    · subst hik
      rw [iAdd_s, if_neg (by omega), if_pos hi, nOn_cg (g := pl) i (fun j hj => iAdd_n _ _ (by omega))]
    · rw [iAdd_n _ _ (fun h => hik h.symm)]
      have := ih (by omega)
      omega
theorem cC_free {cuts i p : Nat} {pl : Nat → Int} {cc : Nat → Int32} (h : cC cuts pl cc) (hi : i < cuts) (hpi : pl i = (p : Int)) (hp : p < 20) : cC cuts (iAdd pl i (-2)) (upd cc p (I (-1))) := by
  intro q hq
  by_cases hqp : q = p
  · subst hqp
    refine Or.inl ⟨upd_same _ _ _, fun j hj => ?_⟩
    by_cases hji : j = i
    · subst hji; rw [iAdd_s]; omega
    · rw [iAdd_n _ _ hji]
      intro hpj
      rcases h q hq with h1 | ⟨j', j1, j2, j3, j4⟩
      · exact h1.2 i hi hpi
      · have e1 := j4 i hi hpi; have e2 := j4 j hj hpj; omega
  · rw [upd_ne _ _ hqp]
    rcases h q hq with h1 | ⟨j', j1, j2, j3, j4⟩
    · refine Or.inl ⟨h1.1, fun j hj => ?_⟩
      by_cases hji : j = i
      · subst hji; rw [iAdd_s]; omega
      · rw [iAdd_n _ _ hji]; exact h1.2 j hj
    · have hne : j' ≠ i := by intro e; subst e; rw [j2] at hpi; omega
      refine Or.inr ⟨j', j1, by rw [iAdd_n _ _ hne]; exact j2, j3, fun j hj hpj => ?_⟩
      by_cases hji : j = i
      · subst hji; rw [iAdd_s] at hpj; omega
      · rw [iAdd_n _ _ hji] at hpj; exact j4 j hj hpj
theorem kP_upd {cuts i : Nat} {pl : Nat → Int} {kp : Nat → Int32} (h : kP cuts pl kp) : kP cuts (iAdd pl i (-2)) (upd kp i (I (-2))) := by
  intro j hj
  by_cases hji : j = i
  · subst hji; rw [iAdd_s, upd_same]; exact ⟨rfl, by omega, by omega⟩
  · rw [iAdd_n _ _ hji, upd_ne _ _ hji]; exact h j hj
theorem cC_at {cuts i p : Nat} {pl : Nat → Int} {cc : Nat → Int32} (h : cC cuts pl cc) (hcu : cuts ≤ 300) (hi : i < cuts) (hpi : pl i = (p : Int)) (hp : p < 20) : cc p ≠ I (-1) := by
  rcases h p hp with h1 | ⟨j', j1, j2, j3, j4⟩
  · exact absurd hpi (h1.2 i hi)
  · rw [j3, Ne, I_eq (by omega) (by omega) (by omega) (by omega)]; omega
theorem q_take6 {n cuts w q P lg : Nat} {cw ct : Nat → Nat} {kw : Nat → Int32} {bd cp cl : Int32} {post : Int32 → Int32 → (Nat → Int32) → (Nat → Int32) → Int32 → (Nat → Int32) → Prop} (hk : kX n cuts cw ct) (hw : w < 6) (hq : q ≤ 20) (hkw : ∀ j < cuts, kw j = I (cw j)) :
    ∀ (r i t : Nat) (pl : Nat → Int) (kp kb : Nat → Int32) (cy : Int32) (cc : Nat → Int32), i + r = cuts → t ≤ q → kP cuts pl kp → cX cuts pl P lg cp cl cy cc →
    (∀ kp' cy' cc', kP cuts (tkP cw w r i (q - t) pl) kp' → cX cuts (tkP cw w r i (q - t) pl) P lg cp cl cy' cc' → post (bd + 1) (bd + 1) kp' (tkB cw w bd r i (q - t) pl kb) cy' cc') →
    vc_k_takeBundle_L6 kw (I cuts) bd (I w) (I q) post (r + 1) (I t) (I i) kp kb cy cc := by
  have hcu := hk.2.1
  have hn := hk.1
  intro r
  induction r with
  | zero =>
    intro i t pl kp kb cy cc hi ht hpl hX hp
    unfold vc_k_takeBundle_L6
    simp (disch := omega) only [I_le, forall_eq]
    exact ⟨fun _ => hp _ _ _ hpl hX, fun h => by omega⟩
  | succ r ih =>
    intro i t pl kp kb cy cc hi ht hpl hX hp
    unfold vc_k_takeBundle_L6 vc_k_isOnBed
    have h1 := hkw i (by omega)
    have h2 := hpl i (by omega)
    have h3 := hk.2.2 i (by omega)
    unfold tkP tkB at hp
    simp (disch := omega) only [I_le, forall_eq]
    refine ⟨fun h => by omega, fun _ => ⟨fun h => ?_, fun h => ?_⟩⟩
    · simp only [show q - t = 0 by omega, if_true] at hp
      exact hp _ _ _ hpl hX
    · rw [if_neg (show ¬ q - t = 0 by omega), if_neg (show ¬ q - t = 0 by omega)] at hp
      have hz : (0 : Int) ≤ i ∧ (i : Int) < (300 : Nat) := by omega
      have e3 : (i : Int) + 1 = ((i + 1 : Nat) : Int) := by omega
      have e4 : (t : Int) + 1 = ((t + 1 : Nat) : Int) := by omega
      simp (disch := omega) only [I_m1, I_m2, I_0, I_1, I_2, I_3, I_4, I_5, I_6, I_7, I_8, I_9, I_10, I_11, I_12, I_13, I_14, I_15, I_20, I_50, I_100, I_200, I_256, I_300, I_1000, I_2000, I_1048576, I_n1, I_n2, I_nat, I_add, I_sub, I_mul, I_le, I_lt, I_eq, I_cl, I_in, forall_eq, Int.not_le, Int.not_lt, m_in1, m_in0, m_go1, m_go2, m_go3, m_go0, i01, i10, j10, j20, j30, eq_self, not_true_eq_false, not_false_eq_true, true_implies, false_implies, and_true, true_and, implies_true, Int.toNat_natCast, h1, h2.1, e3, e4]
      refine ⟨hz, fun hcw => ⟨hz, fun hneg => ?_, fun hpos => ⟨hz, ?_⟩⟩, fun hcw => ?_⟩
      · rw [if_neg (by omega), if_neg (by omega)] at hp
        exact ih (i + 1) t pl kp kb cy cc (by omega) ht hpl hX hp
      · rw [if_pos ⟨by omega, by omega⟩, if_pos ⟨by omega, by omega⟩] at hp
        obtain ⟨pp, hpp⟩ : ∃ pp : Nat, pl i = pp := ⟨(pl i).toNat, by omega⟩
        obtain ⟨rfl, c1, c2, rfl, c3, c4, rfl, c5⟩ := hX
        have hnu := nOn_upd (pl := pl) (i := i) (by omega) cuts (by omega)
        rw [hpp]
        refine q_free (by omega) (cC_at c5 hcu (by omega) hpp (by omega)) ?_
        refine ⟨hz, hz, ih (i + 1) (t + 1) (iAdd pl i (-2)) _ _ _ _ (by omega) (by omega) (kP_upd hpl) ⟨rfl, c1, c2, rfl, c3, c4, congrArg I (by omega), cC_free c5 (by omega) hpp (by omega)⟩ ?_⟩
        rw [show q - (t + 1) = q - t - 1 by omega]
        exact hp
      · rw [if_neg (by omega), if_neg (by omega)] at hp
        exact ih (i + 1) t pl kp kb cy cc (by omega) ht hpl hX hp
theorem l_bundle {n cuts P lg : Nat} {cw ct : Nat → Nat} {pl : Nat → Int} {tc kc : Int32} {kw kp kb : Nat → Int32} {bd cp cl cy : Int32} {cc : Nat → Int32} {p q : Int} {fo : Nat → Int64} {post : Int32 → Int32 → (Nat → Int32) → (Nat → Int32) → Int32 → (Nat → Int32) → (Nat → Int64) → Prop} (htc : tc = I n) (hkc : kc = I cuts) (hk : kX n cuts cw ct) (hkw : ∀ j < cuts, kw j = I (cw j)) (hpl : kP cuts pl kp) (hX : cX cuts pl P lg cp cl cy cc) (p1 : -2147483648 ≤ p) (p2 : p < 2147483648) (q1 : -2147483648 ≤ q) (q2 : q < 2147483648)
    (h1 : ¬ (0 ≤ p ∧ p < n) → post 1 bd kp kb cy cc fo) (h2 : 0 ≤ p → p < n → ¬ (1 ≤ q ∧ q ≤ 20) → post 2 bd kp kb cy cc fo) (h3 : 0 ≤ p → p < n → 1 ≤ q → q ≤ 20 → (nW cw pl p cuts : Int) < q → post 3 bd kp kb cy cc fo)
    (h0 : 0 ≤ p → p < n → 1 ≤ q → q ≤ 20 → q ≤ (nW cw pl p cuts : Int) → ∀ kp' cy' cc', kP cuts (tkP cw p.toNat cuts 0 q.toNat pl) kp' → cX cuts (tkP cw p.toNat cuts 0 q.toNat pl) P lg cp cl cy' cc' → post 0 (bd + 1) kp' (tkB cw p.toNat bd cuts 0 q.toNat pl kb) cy' cc' (vp_updL fo (0 : Int32).toNatClampNeg (bd + 1).toInt64)) :
    vc_l_bundle tc kw kp kb kc bd cc cy (I p) (I q) 1 fo post := by
  subst htc
  subst hkc
  have hn := hk.1
  unfold vc_l_bundle vc_x_bundle
  by_cases hp : 0 ≤ p ∧ p < n
  · refine q_index1 p1 p2 (by omega) (by omega) hp.1 hp.2 ?_
    by_cases hq : 1 ≤ q ∧ q ≤ 20
    · refine q_range1 (b := 1) (c := 20) q1 q2 (by omega) (by omega) (by omega) (by omega) hq.1 hq.2 ?_
      obtain ⟨K, rfl⟩ : ∃ K : Nat, p = K := ⟨p.toNat, by omega⟩
      obtain ⟨Q, rfl⟩ : ∃ Q : Nat, q = Q := ⟨q.toNat, by omega⟩
      have hnw := nW_le (cw := cw) (pl := pl) (w := (K : Int)) cuts
      have hcu := hk.2.1
      simp only [Int.toNat_natCast] at h0
      unfold vc_k_countOnBed
      refine ⟨cuts + 1, q_count4 hk (by omega) hkw hpl ?_ cuts 0 (by omega)⟩
      simp (disch := omega) only [I_le]
      refine ⟨fun h => ?_, fun h => ⟨fun h => absurd h (by decide), fun h => absurd h (by decide), fun _ => h3 (by omega) (by omega) (by omega) (by omega) (by omega), Or.inr (Or.inr trivial)⟩⟩
      unfold vc_k_takeBundle
      refine ⟨cuts + 1, q_take6 hk (by omega) (by omega) hkw cuts 0 0 pl kp kb cy cc (by omega) (by omega) hpl hX ?_⟩
      intro kp' cy' cc' hk' hx'
      rw [Nat.sub_zero] at hk' hx' ⊢
      rintro v rfl
      exact ⟨in00, h0 (by omega) (by omega) (by omega) (by omega) (by omega) _ _ _ hk' hx'⟩
    · exact q_range0 (b := 1) (c := 20) q1 q2 (by omega) (by omega) (by omega) (by omega) hq ⟨fun _ => h2 hp.1 hp.2 hq, fun h => absurd h (by decide), fun h => absurd h (by decide), Or.inl rfl⟩
  · exact q_index0 p1 p2 (by omega) (by omega) hp ⟨fun h => absurd h (by decide), fun _ => h1 hp, fun h => absurd h (by decide), Or.inr (Or.inl rfl)⟩
theorem q_bun81 {n cuts w : Nat} {cw ct : Nat → Nat} {gw : Nat → Int32} {bd th : Int32} {post : Int32 → Int32 → Int32 → (Nat → Int32) → (Nat → Int32) → Prop} (hk : kX n cuts cw ct) (hw : w < 6) (hgw : ∀ j < cuts, gw j = I (cw j)) :
    ∀ (r i m : Nat) (pl : Nat → Int) (mp mb : Nat → Int32), i + r = cuts → m ≤ 20 → kP cuts pl mp →
    (∀ mp', kP cuts (tkP cw w r i m pl) mp' → post (bd + 1) th (bd + 1) mp' (tkB cw w bd r i m pl mb)) →
    vc_m_bundle_L81 (I cuts) gw bd (I w) th post (r + 1) (I m) (I i) mp mb := by
  have hcu := hk.2.1
  have hn := hk.1
  intro r
  induction r with
  | zero =>
    intro i m pl mp mb hi hm hpl hp
    unfold vc_m_bundle_L81
    simp (disch := omega) only [I_le, forall_eq]
    exact ⟨fun _ => hp _ hpl, fun h => by omega⟩
  | succ r ih =>
    intro i m pl mp mb hi hm hpl hp
    unfold vc_m_bundle_L81
    have h1 := hgw i (by omega)
    have h2 := hpl i (by omega)
    have h3 := hk.2.2 i (by omega)
    unfold tkP tkB at hp
    have hz : (0 : Int) ≤ i ∧ (i : Int) < (300 : Nat) := by omega
    have e3 : (i : Int) + 1 = ((i + 1 : Nat) : Int) := by omega
    rw [show (I m ≤ 0) = ((m : Int) ≤ 0) from I_le (b := 0) (by omega) (by omega) (by omega) (by omega)]
    simp (disch := omega) only [I_le, forall_eq]
    refine ⟨fun h => by omega, fun _ => ⟨fun h => ?_, fun h => ?_⟩⟩
    · simp only [show m = 0 by omega, if_true] at hp
      exact hp _ hpl
    · rw [if_neg (show ¬ m = 0 by omega), if_neg (show ¬ m = 0 by omega)] at hp
      simp (disch := omega) only [I_m1, I_m2, I_0, I_1, I_2, I_3, I_4, I_5, I_6, I_7, I_8, I_9, I_10, I_11, I_12, I_13, I_14, I_15, I_20, I_50, I_100, I_200, I_256, I_300, I_1000, I_2000, I_1048576, I_n1, I_n2, I_nat, I_add, I_sub, I_mul, I_le, I_lt, I_eq, I_cl, I_in, forall_eq, Int.not_le, Int.not_lt, m_in1, m_in0, m_go1, m_go2, m_go3, m_go0, i01, i10, j10, j20, j30, eq_self, not_true_eq_false, not_false_eq_true, true_implies, false_implies, and_true, true_and, implies_true, Int.toNat_natCast, h1, h2.1, e3]
      refine ⟨hz, fun hneg => ?_, fun hpos => ⟨hz, fun hcw => ⟨hz, hz, ?_⟩, fun hcw => ?_⟩⟩
      · rw [if_neg (by omega), if_neg (by omega)] at hp
        exact ih (i + 1) m pl mp mb (by omega) hm hpl hp
      · rw [if_pos ⟨by omega, by omega⟩, if_pos ⟨by omega, by omega⟩] at hp
        rw [show (m : Int) + -1 = ((m - 1 : Nat) : Int) by omega]
        exact ih (i + 1) (m - 1) (iAdd pl i (-2)) _ _ (by omega) (by omega) (kP_upd hpl) hp
      · rw [if_neg (by omega), if_neg (by omega)] at hp
        exact ih (i + 1) m pl mp mb (by omega) hm hpl hp
theorem q_bun5 {n cuts : Nat} {cw ct : Nat → Nat} {pl : Nat → Int} {gw mp mb : Nat → Int32} {bd : Int32} {p q : Int} {post : Int32 → Int32 → Int32 → (Nat → Int32) → (Nat → Int32) → Prop} (hk : kX n cuts cw ct) (hgw : ∀ j < cuts, gw j = I (cw j)) (hpl : kP cuts pl mp) (p1 : -2147483648 ≤ p) (p2 : p < 2147483648) (q1 : -2147483648 ≤ q) (q2 : q < 2147483648)
    (h1 : ¬ (0 ≤ p ∧ p < n) → post (I 0) (I 1) bd mp mb) (h2 : 0 ≤ p → p < n → ¬ (1 ≤ q ∧ q ≤ 20) → post (I 0) (I 2) bd mp mb) (h3 : 0 ≤ p → p < n → 1 ≤ q → q ≤ 20 → (nW cw pl p cuts : Int) < q → post (I 0) (I 3) bd mp mb)
    (h0 : 0 ≤ p → p < n → 1 ≤ q → q ≤ 20 → q ≤ (nW cw pl p cuts : Int) → ∀ mp', kP cuts (tkP cw p.toNat cuts 0 q.toNat pl) mp' → post (bd + 1) (I 0) (bd + 1) mp' (tkB cw p.toNat bd cuts 0 q.toNat pl mb)) :
    ∀ (r i : Nat), i + r = cuts → vc_m_bundle_L5 (I n) (I cuts) gw mp mb bd (I p) (I q) post (r + 1) (I (nW cw pl p i : Nat)) (I i) := by
  have hcu := hk.2.1
  have hn := hk.1
  intro r
  induction r with
  | zero =>
    intro i hi
    have : i = cuts := by omega
    subst this
    have hnw := nW_le (cw := cw) (pl := pl) (w := p) i
    unfold vc_m_bundle_L5 vc_m_isWanted
    by_cases hp : 0 ≤ p ∧ p < n
    · by_cases hq : 1 ≤ q ∧ q ≤ 20
      · simp (disch := omega) only [I_m1, I_m2, I_0, I_1, I_2, I_3, I_4, I_5, I_6, I_7, I_8, I_9, I_10, I_11, I_12, I_13, I_14, I_15, I_20, I_50, I_100, I_200, I_256, I_300, I_1000, I_2000, I_1048576, I_n1, I_n2, I_nat, I_add, I_sub, I_mul, I_le, I_lt, I_eq, I_cl, I_in, forall_eq, Int.not_le, Int.not_lt, m_in1, m_in0, m_go1, m_go2, m_go3, m_go0, i01, i10, j10, j20, j30, eq_self, not_true_eq_false, not_false_eq_true, true_implies, false_implies, and_true, true_and, implies_true, Int.toNat_natCast]
        refine ⟨fun _ => ⟨fun h => h3 hp.1 hp.2 hq.1 hq.2 h, fun h => ?_⟩, fun h => by omega⟩
        obtain ⟨K, rfl⟩ : ∃ K : Nat, p = K := ⟨p.toNat, by omega⟩
        obtain ⟨Q, rfl⟩ : ∃ Q : Nat, q = Q := ⟨q.toNat, by omega⟩
        simp only [Int.toNat_natCast] at h0
        exact ⟨i + 1, q_bun81 hk (by omega) hgw i 0 Q pl mp mb (by omega) (by omega) hpl (h0 (by omega) (by omega) (by omega) (by omega) (by omega))⟩
      · simp (disch := omega) only [I_m1, I_m2, I_0, I_1, I_2, I_3, I_4, I_5, I_6, I_7, I_8, I_9, I_10, I_11, I_12, I_13, I_14, I_15, I_20, I_50, I_100, I_200, I_256, I_300, I_1000, I_2000, I_1048576, I_n1, I_n2, I_nat, I_add, I_sub, I_mul, I_le, I_lt, I_eq, I_cl, I_in, forall_eq, Int.not_le, Int.not_lt, m_in1, m_in0, m_go1, m_go2, m_go3, m_go0, i01, i10, j10, j20, j30, eq_self, not_true_eq_false, not_false_eq_true, true_implies, false_implies, and_true, true_and, implies_true, Int.toNat_natCast]
        exact ⟨fun _ => ⟨fun h => h2 hp.1 hp.2 hq, fun h => h2 hp.1 hp.2 hq⟩, fun h => by omega⟩
    · by_cases hq : 1 ≤ q ∧ q ≤ 20
      · simp (disch := omega) only [I_m1, I_m2, I_0, I_1, I_2, I_3, I_4, I_5, I_6, I_7, I_8, I_9, I_10, I_11, I_12, I_13, I_14, I_15, I_20, I_50, I_100, I_200, I_256, I_300, I_1000, I_2000, I_1048576, I_n1, I_n2, I_nat, I_add, I_sub, I_mul, I_le, I_lt, I_eq, I_cl, I_in, forall_eq, Int.not_le, Int.not_lt, m_in1, m_in0, m_go1, m_go2, m_go3, m_go0, i01, i10, j10, j20, j30, eq_self, not_true_eq_false, not_false_eq_true, true_implies, false_implies, and_true, true_and, implies_true, Int.toNat_natCast]
        exact ⟨fun _ => ⟨fun h => h1 hp, fun h => h1 hp⟩, fun h => by omega⟩
      · simp (disch := omega) only [I_m1, I_m2, I_0, I_1, I_2, I_3, I_4, I_5, I_6, I_7, I_8, I_9, I_10, I_11, I_12, I_13, I_14, I_15, I_20, I_50, I_100, I_200, I_256, I_300, I_1000, I_2000, I_1048576, I_n1, I_n2, I_nat, I_add, I_sub, I_mul, I_le, I_lt, I_eq, I_cl, I_in, forall_eq, Int.not_le, Int.not_lt, m_in1, m_in0, m_go1, m_go2, m_go3, m_go0, i01, i10, j10, j20, j30, eq_self, not_true_eq_false, not_false_eq_true, true_implies, false_implies, and_true, true_and, implies_true, Int.toNat_natCast]
        exact ⟨fun _ => ⟨fun h => h1 hp, fun h => h1 hp⟩, fun h => by omega⟩
  | succ r ih =>
    intro i hi
    unfold vc_m_bundle_L5
    have h1' := hgw i (by omega)
    have h2' := hpl i (by omega)
    have h3' := hk.2.2 i (by omega)
    have hnw := nW_le (cw := cw) (pl := pl) (w := p) i
    have ihh := ih (i + 1) (by omega)
    have en : nW cw pl p (i + 1) = nW cw pl p i + if (cw i : Int) = p ∧ 0 ≤ pl i then 1 else 0 := rfl
    have hz : (0 : Int) ≤ i ∧ (i : Int) < (300 : Nat) := by omega
    have e3 : (i : Int) + 1 = ((i + 1 : Nat) : Int) := by omega
    have e4 : ((nW cw pl p i : Nat) : Int) + 1 = ((nW cw pl p i + 1 : Nat) : Int) := by omega
    simp (disch := omega) only [I_m1, I_m2, I_0, I_1, I_2, I_3, I_4, I_5, I_6, I_7, I_8, I_9, I_10, I_11, I_12, I_13, I_14, I_15, I_20, I_50, I_100, I_200, I_256, I_300, I_1000, I_2000, I_1048576, I_n1, I_n2, I_nat, I_add, I_sub, I_mul, I_le, I_lt, I_eq, I_cl, I_in, forall_eq, Int.not_le, Int.not_lt, Int.toNat_natCast, h1', h2'.1, e3, e4]
    refine ⟨fun h => by omega, fun _ => ⟨hz, fun hneg => ?_, fun hpos => ⟨hz, fun hcw => ?_, fun hcw => ?_⟩⟩⟩
    · rw [en, if_neg (by omega), Nat.add_zero] at ihh; exact ihh
    · rw [en, if_pos ⟨by omega, by omega⟩] at ihh; exact ihh
    · rw [en, if_neg (by omega), Nat.add_zero] at ihh; exact ihh
theorem m_bundle {n cuts : Nat} {cw ct : Nat → Nat} {pl : Nat → Int} {gw mp mb : Nat → Int32} {bd : Int32} {p q : Int} {post : Int32 → Int32 → Int32 → (Nat → Int32) → (Nat → Int32) → Prop} (hk : kX n cuts cw ct) (hgw : ∀ j < cuts, gw j = I (cw j)) (hpl : kP cuts pl mp) (p1 : -2147483648 ≤ p) (p2 : p < 2147483648) (q1 : -2147483648 ≤ q) (q2 : q < 2147483648)
    (h1 : ¬ (0 ≤ p ∧ p < n) → post (I 0) (I 1) bd mp mb) (h2 : 0 ≤ p → p < n → ¬ (1 ≤ q ∧ q ≤ 20) → post (I 0) (I 2) bd mp mb) (h3 : 0 ≤ p → p < n → 1 ≤ q → q ≤ 20 → (nW cw pl p cuts : Int) < q → post (I 0) (I 3) bd mp mb)
    (h0 : 0 ≤ p → p < n → 1 ≤ q → q ≤ 20 → q ≤ (nW cw pl p cuts : Int) → ∀ mp', kP cuts (tkP cw p.toNat cuts 0 q.toNat pl) mp' → post (bd + 1) (I 0) (bd + 1) mp' (tkB cw p.toNat bd cuts 0 q.toNat pl mb)) :
    vc_m_bundle (I n) (I cuts) gw mp mb bd (I p) (I q) post := by
  unfold vc_m_bundle
  exact ⟨cuts + 1, q_bun5 hk hgw hpl p1 p2 q1 q2 h1 h2 h3 h0 cuts 0 (by omega)⟩
