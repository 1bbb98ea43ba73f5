/-! The pure layer: bed, at, cutAt, sum, side -/
theorem l_bed012 {cuts P lg : Nat} {pl : Nat → Int} {cp cl cy : Int32} {cc : Nat → Int32} {p q : Int} {post : Int32 → Int32 → Int32 → Prop} (hX : cX cuts pl P lg cp cl cy cc) (hcu : cuts ≤ 300) (p1 : -2147483648 ≤ p) (p2 : p < 2147483648) (q1 : -2147483648 ≤ q) (q2 : q < 2147483648)
    (h1 : nOn pl cuts ≠ 0 → post 1 cp cl) (h2 : nOn pl cuts = 0 → ¬ (1 ≤ p ∧ p ≤ 20 ∧ 1 ≤ q ∧ q ≤ 200) → post 2 cp cl) (h0 : nOn pl cuts = 0 → 1 ≤ p → p ≤ 20 → 1 ≤ q → q ≤ 200 → post 0 (I p) (I q)) : vc_l_bed cp cl cy (I p) (I q) post := by
  obtain ⟨rfl, c1, c2, rfl, c3, c4, rfl, c5⟩ := hX
  have hnn := nOn_le (f := pl) cuts
  unfold vc_l_bed vc_x_bed
  rw [show (I (nOn pl cuts : Nat) ≤ 0) = (((nOn pl cuts : Nat) : Int) ≤ 0) from I_le (b := 0) (by omega) (by omega) (by omega) (by omega)]
  refine ⟨fun h => ?_, fun h => ⟨fun h => absurd h (by decide), fun _ => h1 (by omega), Or.inr rfl⟩⟩
  by_cases hp : 1 ≤ p ∧ p ≤ 20
  · refine q_range1 (b := 1) (c := 20) p1 p2 (by omega) (by omega) (by omega) (by omega) hp.1 hp.2 ?_
    by_cases hq : 1 ≤ q ∧ q ≤ 200
    · exact q_range1 (b := 1) (c := 200) q1 q2 (by omega) (by omega) (by omega) (by omega) hq.1 hq.2 (h0 (by omega) hp.1 hp.2 hq.1 hq.2)
    · exact q_range0 (b := 1) (c := 200) q1 q2 (by omega) (by omega) (by omega) (by omega) hq ⟨fun _ => h2 (by omega) (by omega), fun h => absurd h (by decide), Or.inl rfl⟩
  · exact q_range0 (b := 1) (c := 20) p1 p2 (by omega) (by omega) (by omega) (by omega) hp ⟨fun _ => h2 (by omega) (by omega), fun h => absurd h (by decide), Or.inl rfl⟩
theorem q_bed5 {cuts : Nat} {pl : Nat → Int} {mp : Nat → Int32} {mP mL : Int32} {p q : Int} {post : Int32 → Int32 → Int32 → Prop} (hcu : cuts ≤ 300) (hpl : kP cuts pl mp) (p1 : -2147483648 ≤ p) (p2 : p < 2147483648) (q1 : -2147483648 ≤ q) (q2 : q < 2147483648)
    (h1 : nOn pl cuts ≠ 0 → post (I 1) mP mL) (h2 : nOn pl cuts = 0 → ¬ (1 ≤ p ∧ p ≤ 20 ∧ 1 ≤ q ∧ q ≤ 200) → post (I 2) mP mL) (h0 : nOn pl cuts = 0 → 1 ≤ p → p ≤ 20 → 1 ≤ q → q ≤ 200 → post (I 0) (I p) (I q)) :
    ∀ (r i : Nat), i + r = cuts → vc_m_bed_L5 mP mL (I cuts) mp (I p) (I q) post (r + 1) (I (if nOn pl i = 0 then 1 else 0)) (I i) := by
  intro r
  induction r with
  | zero =>
    intro i hi
    have : i = cuts := by omega
    subst this
    unfold vc_m_bed_L5
    by_cases hz : nOn pl i = 0
    · rw [if_pos hz]
      by_cases hp : 1 ≤ p ∧ p ≤ 20
      · by_cases hq : 1 ≤ q ∧ q ≤ 200
        · simp (disch := omega) only [I_m1, I_m2, I_0, I_1, I_2, I_3, I_4, I_5, I_6, I_7, I_8, I_9, I_10, I_11, I_12, I_13, I_14, I_15, I_20, I_50, I_100, I_200, I_256, I_300, I_1000, I_2000, I_1048576, I_n1, I_n2, I_nat, I_add, I_sub, I_mul, I_le, I_lt, I_eq, I_cl, I_in, forall_eq, Int.not_le, Int.not_lt, m_in1, m_in0, m_go1, m_go2, m_go3, m_go0, i01, i10, j10, j20, j30, eq_self, not_true_eq_false, not_false_eq_true, true_implies, false_implies, and_true, true_and, implies_true, Int.toNat_natCast]
          exact ⟨fun _ => h0 hz hp.1 hp.2 hq.1 hq.2, fun h => by omega⟩
        · simp (disch := omega) only [I_m1, I_m2, I_0, I_1, I_2, I_3, I_4, I_5, I_6, I_7, I_8, I_9, I_10, I_11, I_12, I_13, I_14, I_15, I_20, I_50, I_100, I_200, I_256, I_300, I_1000, I_2000, I_1048576, I_n1, I_n2, I_nat, I_add, I_sub, I_mul, I_le, I_lt, I_eq, I_cl, I_in, forall_eq, Int.not_le, Int.not_lt, m_in1, m_in0, m_go1, m_go2, m_go3, m_go0, i01, i10, j10, j20, j30, eq_self, not_true_eq_false, not_false_eq_true, true_implies, false_implies, and_true, true_and, implies_true, Int.toNat_natCast]
          exact ⟨fun _ => h2 hz (by omega), fun h => by omega⟩
      · simp (disch := omega) only [I_m1, I_m2, I_0, I_1, I_2, I_3, I_4, I_5, I_6, I_7, I_8, I_9, I_10, I_11, I_12, I_13, I_14, I_15, I_20, I_50, I_100, I_200, I_256, I_300, I_1000, I_2000, I_1048576, I_n1, I_n2, I_nat, I_add, I_sub, I_mul, I_le, I_lt, I_eq, I_cl, I_in, forall_eq, Int.not_le, Int.not_lt, m_in1, m_in0, m_go1, m_go2, m_go3, m_go0, i01, i10, j10, j20, j30, eq_self, not_true_eq_false, not_false_eq_true, true_implies, false_implies, and_true, true_and, implies_true, Int.toNat_natCast]
        exact ⟨fun _ => h2 hz (by omega), fun h => by omega⟩
    · rw [if_neg hz]
      by_cases hp : 1 ≤ p ∧ p ≤ 20
      · by_cases hq : 1 ≤ q ∧ q ≤ 200
        · simp (disch := omega) only [I_m1, I_m2, I_0, I_1, I_2, I_3, I_4, I_5, I_6, I_7, I_8, I_9, I_10, I_11, I_12, I_13, I_14, I_15, I_20, I_50, I_100, I_200, I_256, I_300, I_1000, I_2000, I_1048576, I_n1, I_n2, I_nat, I_add, I_sub, I_mul, I_le, I_lt, I_eq, I_cl, I_in, forall_eq, Int.not_le, Int.not_lt, m_in1, m_in0, m_go1, m_go2, m_go3, m_go0, i01, i10, j10, j20, j30, eq_self, not_true_eq_false, not_false_eq_true, true_implies, false_implies, and_true, true_and, implies_true, Int.toNat_natCast]
          exact ⟨fun _ => h1 hz, fun h => by omega⟩
        · simp (disch := omega) only [I_m1, I_m2, I_0, I_1, I_2, I_3, I_4, I_5, I_6, I_7, I_8, I_9, I_10, I_11, I_12, I_13, I_14, I_15, I_20, I_50, I_100, I_200, I_256, I_300, I_1000, I_2000, I_1048576, I_n1, I_n2, I_nat, I_add, I_sub, I_mul, I_le, I_lt, I_eq, I_cl, I_in, forall_eq, Int.not_le, Int.not_lt, m_in1, m_in0, m_go1, m_go2, m_go3, m_go0, i01, i10, j10, j20, j30, eq_self, not_true_eq_false, not_false_eq_true, true_implies, false_implies, and_true, true_and, implies_true, Int.toNat_natCast]
          exact ⟨fun _ => h1 hz, fun h => by omega⟩
      · simp (disch := omega) only [I_m1, I_m2, I_0, I_1, I_2, I_3, I_4, I_5, I_6, I_7, I_8, I_9, I_10, I_11, I_12, I_13, I_14, I_15, I_20, I_50, I_100, I_200, I_256, I_300, I_1000, I_2000, I_1048576, I_n1, I_n2, I_nat, I_add, I_sub, I_mul, I_le, I_lt, I_eq, I_cl, I_in, forall_eq, Int.not_le, Int.not_lt, m_in1, m_in0, m_go1, m_go2, m_go3, m_go0, i01, i10, j10, j20, j30, eq_self, not_true_eq_false, not_false_eq_true, true_implies, false_implies, and_true, true_and, implies_true, Int.toNat_natCast]
        exact ⟨fun _ => h1 hz, fun h => by omega⟩
  | succ r ih =>
    intro i hi
    unfold vc_m_bed_L5
    have hpi := hpl i (by omega)
    have ihh := ih (i + 1) (by omega)
    have en : nOn pl (i + 1) = nOn pl i + if 0 ≤ pl i then 1 else 0 := rfl
    simp (disch := omega) only [I_le, I_in, I_cl, Int.toNat_natCast, hpi.1, I_1, forall_eq, I_add]
    rw [show (0 : Int32) = I 0 from rfl]
    simp (disch := omega) only [I_lt]
    refine ⟨fun h => by omega, fun _ => ⟨by omega, fun h => ?_, fun h => ?_⟩⟩
    · rw [en, if_neg (show ¬ 0 ≤ pl i by omega), Nat.add_zero] at ihh
      exact ihh
    · rw [en, if_pos (show 0 ≤ pl i by omega), if_neg (show ¬ nOn pl i + 1 = 0 by omega)] at ihh
      exact ihh
theorem m_bed012 {cuts : Nat} {pl : Nat → Int} {mp : Nat → Int32} {mP mL : Int32} {p q : Int} {post : Int32 → Int32 → Int32 → Prop} (hcu : cuts ≤ 300) (hpl : kP cuts pl mp) (p1 : -2147483648 ≤ p) (p2 : p < 2147483648) (q1 : -2147483648 ≤ q) (q2 : q < 2147483648)
    (h1 : nOn pl cuts ≠ 0 → post (I 1) mP mL) (h2 : nOn pl cuts = 0 → ¬ (1 ≤ p ∧ p ≤ 20 ∧ 1 ≤ q ∧ q ≤ 200) → post (I 2) mP mL) (h0 : nOn pl cuts = 0 → 1 ≤ p → p ≤ 20 → 1 ≤ q → q ≤ 200 → post (I 0) (I p) (I q)) : vc_m_bed mP mL (I cuts) mp (I p) (I q) post := by
  unfold vc_m_bed
  exact ⟨cuts + 1, q_bed5 hcu hpl p1 p2 q1 q2 h1 h2 h0 cuts 0 (by omega)⟩
theorem l_at01 {cuts P lg : Nat} {pl : Nat → Int} {cp cl cy : Int32} {cc : Nat → Int32} {p : Int} {fo : Nat → Int64} {post : Int32 → (Nat → Int64) → Prop} (hX : cX cuts pl P lg cp cl cy cc) (p1 : -2147483648 ≤ p) (p2 : p < 2147483648)
    (h1 : ¬ (0 ≤ p ∧ p < P) → post 1 fo) (h0 : 0 ≤ p → p < P → post 0 (vp_updL fo (0 : Int32).toNatClampNeg (cc p.toNat).toInt64)) : vc_l_at cc cp (I p) 1 fo post := by
  obtain ⟨rfl, c1, c2, rfl, c3, c4, rfl, c5⟩ := hX
  unfold vc_l_at vc_x_at vc_c_cutOn
  by_cases hp : 0 ≤ p ∧ p < P
  · refine q_index1 p1 p2 (by omega) (by omega) hp.1 hp.2 ?_
    obtain ⟨K, rfl⟩ : ∃ K : Nat, p = K := ⟨p.toNat, by omega⟩
    refine q_numberAt (by omega) (by omega) ?_
    rintro v rfl
    exact ⟨in00, h0 hp.1 hp.2⟩
  · exact q_index0 p1 p2 (by omega) (by omega) hp ⟨fun _ => h1 hp, rfl⟩
theorem m_at01 {cuts P lg : Nat} {pl : Nat → Int} {cp cl cy : Int32} {cc mp : Nat → Int32} {p : Int} {post : Int32 → Int32 → Prop} (hX : cX cuts pl P lg cp cl cy cc) (hcu : cuts ≤ 300) (hpl : kP cuts pl mp) (p1 : -2147483648 ≤ p) (p2 : p < 2147483648)
    (h1 : ¬ (0 ≤ p ∧ p < P) → post (I 0) (I 1)) (h0 : 0 ≤ p → p < P → post (cc p.toNat) (I 0)) : vc_m_at (I P) (I cuts) mp (I p) post := by
  obtain ⟨rfl, c1, c2, rfl, c3, c4, rfl, c5⟩ := hX
  unfold vc_m_at
  by_cases hp : 0 ≤ p ∧ p < P
  · simp (disch := omega) only [I_m1, I_m2, I_0, I_1, I_2, I_3, I_4, I_5, I_6, I_7, I_8, I_9, I_10, I_11, I_12, I_13, I_14, I_15, I_20, I_50, I_100, I_200, I_256, I_300, I_1000, I_2000, I_1048576, I_n1, I_n2, I_nat, I_add, I_sub, I_mul, I_le, I_lt, I_eq, I_cl, I_in, forall_eq, Int.not_le, Int.not_lt, m_in1, m_in0, m_go1, m_go2, m_go3, m_go0, i01, i10, j10, j20, j30, eq_self, not_true_eq_false, not_false_eq_true, true_implies, false_implies, and_true, true_and, implies_true, Int.toNat_natCast]
    obtain ⟨K, rfl⟩ : ∃ K : Nat, p = K := ⟨p.toNat, by omega⟩
    exact q_lying hcu hpl c5 (by omega) (h0 hp.1 hp.2)
  · simp (disch := omega) only [I_m1, I_m2, I_0, I_1, I_2, I_3, I_4, I_5, I_6, I_7, I_8, I_9, I_10, I_11, I_12, I_13, I_14, I_15, I_20, I_50, I_100, I_200, I_256, I_300, I_1000, I_2000, I_1048576, I_n1, I_n2, I_nat, I_add, I_sub, I_mul, I_le, I_lt, I_eq, I_cl, I_in, forall_eq, Int.not_le, Int.not_lt, m_in1, m_in0, m_go1, m_go2, m_go3, m_go0, i01, i10, j10, j20, j30, eq_self, not_true_eq_false, not_false_eq_true, true_implies, false_implies, and_true, true_and, implies_true, Int.toNat_natCast]
    exact h1 hp
def caV (a b c d : Nat → Int32) (k q : Int) : Int32 := if q = 0 then a k.toNat else if q = 1 then b k.toNat else if q = 2 then c k.toNat else d k.toNat
theorem l_cutAt01 {cuts : Nat} {kc : Int32} {kw ks kp kb : Nat → Int32} {k q : Int} {fo : Nat → Int64} {post : Int32 → (Nat → Int64) → Prop} (hkc : kc = I cuts) (hcu : cuts ≤ 300) (k1 : -2147483648 ≤ k) (k2 : k < 2147483648) (q1 : -2147483648 ≤ q) (q2 : q < 2147483648)
    (h1 : ¬ (0 ≤ k ∧ k < cuts ∧ 0 ≤ q ∧ q < 4) → post 1 fo) (h0 : 0 ≤ k → k < cuts → 0 ≤ q → q < 4 → post 0 (vp_updL fo (0 : Int32).toNatClampNeg (caV kw ks kp kb k q).toInt64)) : vc_l_cutAt kw ks kp kb kc (I k) (I q) 1 fo post := by
  subst hkc
  unfold vc_l_cutAt vc_x_cutAt vc_k_tell
  by_cases hk : 0 ≤ k ∧ k < cuts
  · refine q_index1 k1 k2 (by omega) (by omega) hk.1 hk.2 ?_
    by_cases hq : 0 ≤ q ∧ q < 4
    · refine q_index1 (b := 4) q1 q2 (by omega) (by omega) hq.1 hq.2 ?_
      have hp := h0 hk.1 hk.2 hq.1 hq.2
      unfold caV at hp
      obtain ⟨K, rfl⟩ : ∃ K : Nat, k = K := ⟨k.toNat, by omega⟩
      simp only [Int.toNat_natCast] at hp
      simp (disch := omega) only [I_1, I_2, I_eq]
      rw [show (I q = 0) = (q = 0) from I_eq (b := 0) (by omega) (by omega) (by omega) (by omega)]
      refine ⟨fun e => q_numberAt (by omega) (by omega) ?_, fun e => q_numberAt (by omega) (by omega) ?_, fun e => q_numberAt (by omega) (by omega) ?_, fun e e1 e2 => q_numberAt (by omega) (by omega) ?_⟩
      · rintro v rfl
        rw [if_pos e] at hp
        exact ⟨in00, hp⟩
      · rintro v rfl
        rw [if_neg (by omega), if_pos e] at hp
        exact ⟨in00, hp⟩
      · rintro v rfl
        rw [if_neg (by omega), if_neg (by omega), if_pos e] at hp
        exact ⟨in00, hp⟩
      · rintro v rfl
        rw [if_neg (by omega), if_neg (by omega), if_neg (by omega)] at hp
        exact ⟨in00, hp⟩
    · exact q_index0 (b := 4) q1 q2 (by omega) (by omega) hq ⟨fun _ => h1 (by omega), rfl⟩
  · exact q_index0 k1 k2 (by omega) (by omega) hk ⟨fun _ => h1 (by omega), rfl⟩
theorem m_cutAt01 {cuts : Nat} {gw gs mp mb : Nat → Int32} {k q : Int} {post : Int32 → Int32 → Prop} (hcu : cuts ≤ 300) (k1 : -2147483648 ≤ k) (k2 : k < 2147483648) (q1 : -2147483648 ≤ q) (q2 : q < 2147483648)
    (h1 : ¬ (0 ≤ k ∧ k < cuts ∧ 0 ≤ q ∧ q < 4) → post (I 0) (I 1)) (h0 : 0 ≤ k → k < cuts → 0 ≤ q → q < 4 → post (caV gw gs mp mb k q) (I 0)) : vc_m_cutAt (I cuts) gw gs mp mb (I k) (I q) post := by
  unfold vc_m_cutAt
  by_cases hk : 0 ≤ k ∧ k < cuts
  · by_cases hq : 0 ≤ q ∧ q < 4
    · have hp := h0 hk.1 hk.2 hq.1 hq.2
      unfold caV at hp
      simp (disch := omega) only [I_m1, I_m2, I_0, I_1, I_2, I_3, I_4, I_5, I_6, I_7, I_8, I_9, I_10, I_11, I_12, I_13, I_14, I_15, I_20, I_50, I_100, I_200, I_256, I_300, I_1000, I_2000, I_1048576, I_n1, I_n2, I_nat, I_add, I_sub, I_mul, I_le, I_lt, I_eq, I_cl, I_in, forall_eq, Int.not_le, Int.not_lt, m_in1, m_in0, m_go1, m_go2, m_go3, m_go0, i01, i10, j10, j20, j30, eq_self, not_true_eq_false, not_false_eq_true, true_implies, false_implies, and_true, true_and, implies_true, Int.toNat_natCast]
      have hz : 0 ≤ k ∧ k < (300 : Nat) := by omega
      refine ⟨fun e => ⟨hz, ?_⟩, fun e => ⟨fun e1 => ⟨hz, ?_⟩, fun e1 => ⟨fun e2 => ⟨hz, ?_⟩, fun e2 => ⟨hz, ?_⟩⟩⟩⟩
      · rw [if_pos e] at hp; exact hp
      · rw [if_neg e, if_pos e1] at hp; exact hp
      · rw [if_neg e, if_neg e1, if_pos e2] at hp; exact hp
      · rw [if_neg e, if_neg e1, if_neg e2] at hp; exact hp
    · simp (disch := omega) only [I_m1, I_m2, I_0, I_1, I_2, I_3, I_4, I_5, I_6, I_7, I_8, I_9, I_10, I_11, I_12, I_13, I_14, I_15, I_20, I_50, I_100, I_200, I_256, I_300, I_1000, I_2000, I_1048576, I_n1, I_n2, I_nat, I_add, I_sub, I_mul, I_le, I_lt, I_eq, I_cl, I_in, forall_eq, Int.not_le, Int.not_lt, m_in1, m_in0, m_go1, m_go2, m_go3, m_go0, i01, i10, j10, j20, j30, eq_self, not_true_eq_false, not_false_eq_true, true_implies, false_implies, and_true, true_and, implies_true, Int.toNat_natCast]
      exact h1 (by omega)
  · simp (disch := omega) only [I_m1, I_m2, I_0, I_1, I_2, I_3, I_4, I_5, I_6, I_7, I_8, I_9, I_10, I_11, I_12, I_13, I_14, I_15, I_20, I_50, I_100, I_200, I_256, I_300, I_1000, I_2000, I_1048576, I_n1, I_n2, I_nat, I_add, I_sub, I_mul, I_le, I_lt, I_eq, I_cl, I_in, forall_eq, Int.not_le, Int.not_lt, m_in1, m_in0, m_go1, m_go2, m_go3, m_go0, i01, i10, j10, j20, j30, eq_self, not_true_eq_false, not_false_eq_true, true_implies, false_implies, and_true, true_and, implies_true, Int.toNat_natCast]
    exact h1 (by omega)
theorem l_sum01 {n : Nat} {tc : Int32} {sm : Nat → Int32} {p : Int} {fo : Nat → Int64} {post : Int32 → (Nat → Int64) → Prop} (htc : tc = I n) (hn : n ≤ 6) (p1 : -2147483648 ≤ p) (p2 : p < 2147483648)
    (h1 : ¬ (0 ≤ p ∧ p < n) → post 1 fo) (h0 : 0 ≤ p → p < n → post 0 (vp_updL fo (0 : Int32).toNatClampNeg (sm p.toNat).toInt64)) : vc_l_sum tc sm (I p) 1 fo post := by
  subst htc
  unfold vc_l_sum vc_x_sum vc_k_sumOf
  by_cases hp : 0 ≤ p ∧ p < n
  · refine q_index1 p1 p2 (by omega) (by omega) hp.1 hp.2 ?_
    obtain ⟨K, rfl⟩ : ∃ K : Nat, p = K := ⟨p.toNat, by omega⟩
    refine q_numberAt (by omega) (by omega) ?_
    rintro v rfl
    exact ⟨in00, h0 hp.1 hp.2⟩
  · exact q_index0 p1 p2 (by omega) (by omega) hp ⟨fun _ => h1 hp, rfl⟩
theorem q_sum20 {n cuts w : Nat} {cw ct : Nat → Nat} {gw gs : Nat → Int32} {th : Int32} {post : Int32 → Int32 → Prop} (hk : kX n cuts cw ct) (hmK : mK cuts cw ct gw gs) (hw : w < 6) (hp : post (I (wS cw ct w cuts : Nat)) th) :
    ∀ (r i : Nat), i + r = cuts → vc_m_sum_L20 (I cuts) gw gs (I w) th post (r + 1) (I (wS cw ct w i : Nat)) (I i) := by
  have hcu := hk.2.1
  intro r
  induction r with
  | zero =>
    intro i hi
    have : i = cuts := by omega
    subst this
    unfold vc_m_sum_L20
    simp (disch := omega) only [I_m1, I_m2, I_0, I_1, I_2, I_3, I_4, I_5, I_6, I_7, I_8, I_9, I_10, I_11, I_12, I_13, I_14, I_15, I_20, I_50, I_100, I_200, I_256, I_300, I_1000, I_2000, I_1048576, I_n1, I_n2, I_nat, I_add, I_sub, I_mul, I_le, I_lt, I_eq, I_cl, I_in, forall_eq, Int.not_le, Int.not_lt]
    exact ⟨fun _ => hp, fun h => by omega⟩
  | succ r ih =>
    intro i hi
    unfold vc_m_sum_L20
    have h1 := hmK.1 i (by omega)
    have h2 := hmK.2 i (by omega)
    have h3 := hk.2.2 i (by omega)
    have hn := hk.1
    have ihh := ih (i + 1) (by omega)
    have en : wS cw ct w (i + 1) = wS cw ct w i + if cw i = w then ct i else 0 := rfl
    simp (disch := omega) only [I_m1, I_m2, I_0, I_1, I_2, I_3, I_4, I_5, I_6, I_7, I_8, I_9, I_10, I_11, I_12, I_13, I_14, I_15, I_20, I_50, I_100, I_200, I_256, I_300, I_1000, I_2000, I_1048576, I_n1, I_n2, I_nat, I_add, I_sub, I_mul, I_le, I_lt, I_eq, I_cl, I_in, forall_eq, Int.not_le, Int.not_lt, Int.toNat_natCast, h1, h2]
    refine ⟨fun h => by omega, fun _ => ⟨by omega, fun h => ⟨by omega, ?_⟩, fun h => ?_⟩⟩
    · rw [en, if_pos (by omega)] at ihh; exact ihh
    · rw [en, if_neg (by omega), Nat.add_zero] at ihh; exact ihh
theorem m_sum01 {n cuts : Nat} {cw ct : Nat → Nat} {gw gs : Nat → Int32} {p : Int} {post : Int32 → Int32 → Prop} (hk : kX n cuts cw ct) (hmK : mK cuts cw ct gw gs) (p1 : -2147483648 ≤ p) (p2 : p < 2147483648)
    (h1 : ¬ (0 ≤ p ∧ p < n) → post (I 0) (I 1)) (h0 : 0 ≤ p → p < n → post (I (wS cw ct p.toNat cuts : Nat)) (I 0)) : vc_m_sum (I n) (I cuts) gw gs (I p) post := by
  have hn := hk.1
  unfold vc_m_sum vc_m_isWanted
  by_cases hp : 0 ≤ p ∧ p < n
  · simp (disch := omega) only [I_m1, I_m2, I_0, I_1, I_2, I_3, I_4, I_5, I_6, I_7, I_8, I_9, I_10, I_11, I_12, I_13, I_14, I_15, I_20, I_50, I_100, I_200, I_256, I_300, I_1000, I_2000, I_1048576, I_n1, I_n2, I_nat, I_add, I_sub, I_mul, I_le, I_lt, I_eq, I_cl, I_in, forall_eq, Int.not_le, Int.not_lt, m_in1, m_in0, m_go1, m_go2, m_go3, m_go0, i01, i10, j10, j20, j30, eq_self, not_true_eq_false, not_false_eq_true, true_implies, false_implies, and_true, true_and, implies_true, Int.toNat_natCast]
    obtain ⟨K, rfl⟩ : ∃ K : Nat, p = K := ⟨p.toNat, by omega⟩
    exact ⟨cuts + 1, q_sum20 hk hmK (by omega) (h0 hp.1 hp.2) cuts 0 (by omega)⟩
  · simp (disch := omega) only [I_m1, I_m2, I_0, I_1, I_2, I_3, I_4, I_5, I_6, I_7, I_8, I_9, I_10, I_11, I_12, I_13, I_14, I_15, I_20, I_50, I_100, I_200, I_256, I_300, I_1000, I_2000, I_1048576, I_n1, I_n2, I_nat, I_add, I_sub, I_mul, I_le, I_lt, I_eq, I_cl, I_in, forall_eq, Int.not_le, Int.not_lt, m_in1, m_in0, m_go1, m_go2, m_go3, m_go0, i01, i10, j10, j20, j30, eq_self, not_true_eq_false, not_false_eq_true, true_implies, false_implies, and_true, true_and, implies_true, Int.toNat_natCast]
    exact h1 hp
theorem l_side01 {cuts : Nat} {as : Nat → Nat} {sc : Int32} {sd : Nat → Int32} {p : Int} {fo : Nat → Int64} {post : Int32 → (Nat → Int64) → Prop} (hsc : sc = I (nA as cuts : Nat)) (hle : nA as cuts ≤ 300) (p1 : -2147483648 ≤ p) (p2 : p < 2147483648)
    (h1 : p < 0 → post 1 fo) (h0 : 0 ≤ p → post 0 (vp_updL fo (0 : Int32).toNatClampNeg (if p < (nA as cuts : Nat) then sd p.toNat else I (-1)).toInt64)) : vc_l_side sd sc (I p) 1 fo post := by
  subst hsc
  unfold vc_l_side vc_x_side vc_k_sideCut
  rw [show ((0 : Int32) ≤ I p) = (0 ≤ p) from I_le (a := 0) (by omega) (by omega) (by omega) (by omega)]
  simp (disch := omega) only [I_le]
  refine ⟨fun hp => ⟨fun h => ?_, fun h => ?_⟩, fun hp => ⟨fun _ => h1 (by omega), trivial⟩⟩
  · rintro v rfl
    have := h0 hp
    rw [if_neg (by omega)] at this
    exact ⟨in00, this⟩
  · obtain ⟨K, rfl⟩ : ∃ K : Nat, p = K := ⟨p.toNat, by omega⟩
    refine q_numberAt (by omega) (by omega) ?_
    rintro v rfl
    have := h0 hp
    rw [if_pos (by omega)] at this
    exact ⟨in00, this⟩
theorem q_side24 {cuts k : Nat} {as : Nat → Nat} {ma sd : Nat → Int32} {th : Int32} {post : Int32 → Int32 → Prop} (hcu : cuts ≤ 300) (hk : k < 2147483648) (ha : ∀ j < cuts, as j ≤ 1) (hma : ∀ j < cuts, ma j = I (as j)) (hsd : ∀ j < cuts, as j = 1 → sd (nA as j) = I j) (hp : post (if k < nA as cuts then sd k else I (-1)) th) :
    ∀ (r i : Nat), i + r = cuts → nA as i ≤ k → vc_m_side_L24 (I cuts) ma th post (r + 1) (I ((k - nA as i : Nat) : Int)) (I i) := by
  intro r
  induction r with
  | zero =>
    intro i hi hik
    have : i = cuts := by omega
    subst this
    unfold vc_m_side_L24
    simp (disch := omega) only [I_m1, I_m2, I_0, I_1, I_2, I_3, I_4, I_5, I_6, I_7, I_8, I_9, I_10, I_11, I_12, I_13, I_14, I_15, I_20, I_50, I_100, I_200, I_256, I_300, I_1000, I_2000, I_1048576, I_n1, I_n2, I_nat, I_add, I_sub, I_mul, I_le, I_lt, I_eq, I_cl, I_in, forall_eq, Int.not_le, Int.not_lt]
    rw [if_neg (by omega)] at hp
    exact ⟨fun _ => hp, fun h => by omega⟩
  | succ r ih =>
    intro i hi hik
    unfold vc_m_side_L24
    have h1 := hma i (by omega)
    have h2 := ha i (by omega)
    have en : nA as (i + 1) = nA as i + as i := rfl
    simp (disch := omega) only [I_m1, I_m2, I_0, I_1, I_2, I_3, I_4, I_5, I_6, I_7, I_8, I_9, I_10, I_11, I_12, I_13, I_14, I_15, I_20, I_50, I_100, I_200, I_256, I_300, I_1000, I_2000, I_1048576, I_n1, I_n2, I_nat, I_add, I_sub, I_mul, I_le, I_lt, I_eq, I_cl, I_in, forall_eq, Int.not_le, Int.not_lt, Int.toNat_natCast, h1]
    refine ⟨fun h => by omega, fun _ => ⟨by omega, fun h => ?_, fun h => ⟨fun h' => ?_, fun h' => ?_⟩⟩⟩
    · have ihh := ih (i + 1) (by omega) (by omega)
      rw [en, show as i = 0 by omega, Nat.add_zero] at ihh
      exact ihh
    · have hlt : k < nA as cuts := by
        have h3 := nA_mono (f := as) (i + 1) (cuts - (i + 1))
        rw [show i + 1 + (cuts - (i + 1)) = cuts by omega] at h3
        omega
      rw [if_pos hlt, show k = nA as i by omega, hsd i (by omega) (by omega)] at hp
      exact hp
    · have ihh := ih (i + 1) (by omega) (by omega)
      rw [en, show as i = 1 by omega, show ((k - (nA as i + 1) : Nat) : Int) = ((k - nA as i : Nat) : Int) + -1 by omega] at ihh
      exact ihh
theorem m_side01 {cuts : Nat} {as : Nat → Nat} {ma sd : Nat → Int32} {p : Int} {post : Int32 → Int32 → Prop} (hcu : cuts ≤ 300) (ha : ∀ j < cuts, as j ≤ 1) (hma : ∀ j < cuts, ma j = I (as j)) (hsd : ∀ j < cuts, as j = 1 → sd (nA as j) = I j) (p1 : -2147483648 ≤ p) (p2 : p < 2147483648)
    (h1 : p < 0 → post (I 0) (I 1)) (h0 : 0 ≤ p → post (if p < (nA as cuts : Nat) then sd p.toNat else I (-1)) (I 0)) : vc_m_side (I cuts) ma (I p) post := by
  unfold vc_m_side
  simp (disch := omega) only [I_m1, I_m2, I_0, I_1, I_2, I_3, I_4, I_5, I_6, I_7, I_8, I_9, I_10, I_11, I_12, I_13, I_14, I_15, I_20, I_50, I_100, I_200, I_256, I_300, I_1000, I_2000, I_1048576, I_n1, I_n2, I_nat, I_add, I_sub, I_mul, I_le, I_lt, I_eq, I_cl, I_in, forall_eq, Int.not_le, Int.not_lt, m_in1, m_in0, m_go1, m_go2, m_go3, m_go0, i01, i10, j10, j20, j30, eq_self, not_true_eq_false, not_false_eq_true, true_implies, false_implies, and_true, true_and, implies_true, Int.toNat_natCast]
  refine ⟨fun h => h1 h, fun h => ?_⟩
  obtain ⟨K, rfl⟩ : ∃ K : Nat, p = K := ⟨p.toNat, by omega⟩
  have hp := h0 h
  rw [Int.toNat_natCast] at hp
  refine ⟨cuts + 1, q_side24 (k := K) (sd := sd) hcu (by omega) ha hma hsd ?_ cuts 0 (by omega) (by show 0 ≤ K; omega)⟩
  by_cases hlt : K < nA as cuts
  · rw [if_pos hlt]; rw [if_pos (by omega)] at hp; exact hp
  · rw [if_neg hlt]; rw [if_neg (by omega)] at hp; exact hp
