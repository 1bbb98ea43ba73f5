/-! The pure layer: blade times -/
def bdV (x : Int32) (p q : Int) : Int32 := if q = 0 then (I 2000 * x + I p) / I (2 * p) / I 1000 else (I 2000 * x + I p) / I (2 * p) - (I 2000 * x + I p) / I (2 * p) / I 1000 * I 1000
theorem m_blade012 {n : Nat} {lw hg rn : Nat → Nat} {ln er hd tl cuts first : Nat} {cw ct : Nat → Nat} {tc : Int32} {a b d fw fs : Nat → Int32} {bl be bh bt bn bc bs br : Int32} {w g s : Nat → Int32} {mw ml' me mh' mt mc mf : Int32} {ml mh mr gw gs z1 z2 z3 z4 z5 : Nat → Int32} {x y z : Int32} {k p q : Int} {post : Int32 → Int32 → Int32 → Int32 → Int32 → (Nat → Int32) → (Nat → Int32) → (Nat → Int32) → (Nat → Int32) → (Nat → Int32) → Prop}
    (ht : tX n lw hg rn tc a b d fw fs) (hk : kX n cuts cw ct) (hB : bX (dT n lw hg rn) ln er hd tl cuts first cw ct bl be bh bt bn bc bs br w g s) (hmW : mW n lw hg rn mw ml mh mr) (hmB : mB ln er hd tl cuts first ml' me mh' mt mc mf) (hmK : mK cuts cw ct gw gs) (k1 : -2147483648 ≤ k) (k2 : k < 2147483648) (p1 : -2147483648 ≤ p) (p2 : p < 2147483648) (q1 : -2147483648 ≤ q) (q2 : q < 2147483648)
    (h0 : ¬ (0 ≤ k ∧ k < cntX (dT n lw hg rn) ln er hd tl cuts first ct ∧ 0 ≤ q ∧ q < 2) → ∀ x y z z1 z2 z3 z4 z5, post (I 0) (I 1) x y z z1 z2 z3 z4 z5)
    (h2 : 0 ≤ k → k < cntX (dT n lw hg rn) ln er hd tl cuts first ct → 0 ≤ q → q < 2 → ¬ (1 ≤ p ∧ p ≤ 1000) → ∀ x y z z1 z2 z3 z4 z5, post (I 0) (I 2) x y z z1 z2 z3 z4 z5)
    (h1 : 0 ≤ k → k < cntX (dT n lw hg rn) ln er hd tl cuts first ct → 0 ≤ q → q < 2 → 1 ≤ p → p ≤ 1000 → ∀ x y z z1 z2 z3 z4 z5, post (bdV (g k.toNat + s k.toNat) p q) (I 0) x y z z1 z2 z3 z4 z5) :
    vc_m_blade mw ml mh mr ml' me mh' mt mc mf gw gs z1 z2 z3 z4 z5 x y z (I k) (I p) (I q) post := by
  unfold vc_m_blade
  refine m_finds0 ht hk hB hmW hmB hmK k1 k2 (fun hh x y z z1 z2 z3 z4 z5 => ?_) (fun hh1 hh2 z1 z2 z3 z4 z5 => ?_)
  · have := fun x y z z1 z2 z3 z4 z5 => h0 (by omega) x y z z1 z2 z3 z4 z5
    by_cases hp : 1 ≤ p ∧ p ≤ 1000
    · simp (disch := omega) only [I_m1, I_m2, I_0, I_1, I_2, I_3, I_4, I_5, I_6, I_7, I_8, I_9, I_10, I_11, I_12, I_13, I_14, I_15, I_20, I_50, I_100, I_200, I_256, I_300, I_1000, I_2000, I_1048576, I_n1, I_n2, I_nat, I_add, I_sub, I_mul, I_le, I_lt, I_eq, I_cl, I_in, forall_eq, Int.not_le, Int.not_lt, m_in1, m_in0, m_go1, m_go2, m_go3, m_go0, i01, i10, j10, j20, j30, eq_self, not_true_eq_false, not_false_eq_true, true_implies, false_implies, and_true, true_and, implies_true, Int.toNat_natCast]
      exact this _ _ _ _ _ _ _ _
    · simp (disch := omega) only [I_m1, I_m2, I_0, I_1, I_2, I_3, I_4, I_5, I_6, I_7, I_8, I_9, I_10, I_11, I_12, I_13, I_14, I_15, I_20, I_50, I_100, I_200, I_256, I_300, I_1000, I_2000, I_1048576, I_n1, I_n2, I_nat, I_add, I_sub, I_mul, I_le, I_lt, I_eq, I_cl, I_in, forall_eq, Int.not_le, Int.not_lt, m_in1, m_in0, m_go1, m_go2, m_go3, m_go0, i01, i10, j10, j20, j30, eq_self, not_true_eq_false, not_false_eq_true, true_implies, false_implies, and_true, true_and, implies_true, Int.toNat_natCast]
      exact this _ _ _ _ _ _ _ _
  · by_cases hq : 0 ≤ q ∧ q ≤ 1
    · by_cases hp : 1 ≤ p ∧ p ≤ 1000
      · have hv := fun x y z z1 z2 z3 z4 z5 => h1 hh1 hh2 (by omega) (by omega) hp.1 hp.2 x y z z1 z2 z3 z4 z5
        unfold bdV at hv
        simp (disch := omega) only [I_m1, I_m2, I_0, I_1, I_2, I_3, I_4, I_5, I_6, I_7, I_8, I_9, I_10, I_11, I_12, I_13, I_14, I_15, I_20, I_50, I_100, I_200, I_256, I_300, I_1000, I_2000, I_1048576, I_n1, I_n2, I_nat, I_add, I_sub, I_mul, I_le, I_lt, I_eq, I_cl, I_in, forall_eq, Int.not_le, Int.not_lt, m_in1, m_in0, m_go1, m_go2, m_go3, m_go0, i01, i10, j10, j20, j30, eq_self, not_true_eq_false, not_false_eq_true, true_implies, false_implies, and_true, true_and, implies_true, Int.toNat_natCast]
        refine ⟨by omega, fun e => ⟨by decide, ?_⟩, fun e => ⟨by decide, ?_⟩⟩
        · simp only [e, if_true] at hv
          exact hv _ _ _ _ _ _ _ _
        · simp only [e, if_false] at hv
          exact hv _ _ _ _ _ _ _ _
      · simp (disch := omega) only [I_m1, I_m2, I_0, I_1, I_2, I_3, I_4, I_5, I_6, I_7, I_8, I_9, I_10, I_11, I_12, I_13, I_14, I_15, I_20, I_50, I_100, I_200, I_256, I_300, I_1000, I_2000, I_1048576, I_n1, I_n2, I_nat, I_add, I_sub, I_mul, I_le, I_lt, I_eq, I_cl, I_in, forall_eq, Int.not_le, Int.not_lt, m_in1, m_in0, m_go1, m_go2, m_go3, m_go0, i01, i10, j10, j20, j30, eq_self, not_true_eq_false, not_false_eq_true, true_implies, false_implies, and_true, true_and, implies_true, Int.toNat_natCast]
        exact h2 hh1 hh2 (by omega) (by omega) hp _ _ _ _ _ _ _ _
    · have := fun x y z z1 z2 z3 z4 z5 => h0 (by omega) x y z z1 z2 z3 z4 z5
      by_cases hp : 1 ≤ p ∧ p ≤ 1000
      · simp (disch := omega) only [I_m1, I_m2, I_0, I_1, I_2, I_3, I_4, I_5, I_6, I_7, I_8, I_9, I_10, I_11, I_12, I_13, I_14, I_15, I_20, I_50, I_100, I_200, I_256, I_300, I_1000, I_2000, I_1048576, I_n1, I_n2, I_nat, I_add, I_sub, I_mul, I_le, I_lt, I_eq, I_cl, I_in, forall_eq, Int.not_le, Int.not_lt, m_in1, m_in0, m_go1, m_go2, m_go3, m_go0, i01, i10, j10, j20, j30, eq_self, not_true_eq_false, not_false_eq_true, true_implies, false_implies, and_true, true_and, implies_true, Int.toNat_natCast]
        exact this _ _ _ _ _ _ _ _
      · simp (disch := omega) only [I_m1, I_m2, I_0, I_1, I_2, I_3, I_4, I_5, I_6, I_7, I_8, I_9, I_10, I_11, I_12, I_13, I_14, I_15, I_20, I_50, I_100, I_200, I_256, I_300, I_1000, I_2000, I_1048576, I_n1, I_n2, I_nat, I_add, I_sub, I_mul, I_le, I_lt, I_eq, I_cl, I_in, forall_eq, Int.not_le, Int.not_lt, m_in1, m_in0, m_go1, m_go2, m_go3, m_go0, i01, i10, j10, j20, j30, eq_self, not_true_eq_false, not_false_eq_true, true_implies, false_implies, and_true, true_and, implies_true, Int.toNat_natCast]
        exact this _ _ _ _ _ _ _ _
theorem l_blade012 {n : Nat} {lw hg rn : Nat → Nat} {ln er hd tl cuts first : Nat} {cw ct : Nat → Nat} {tc : Int32} {a b d fw fs : Nat → Int32} {bl be bh bt bn bc bs br : Int32} {w g s : Nat → Int32} {k p q : Int} {fo : Nat → Int64} {post : Int32 → (Nat → Int64) → Prop}
    (ht : tX n lw hg rn tc a b d fw fs) (hk : kX n cuts cw ct) (hB : bX (dT n lw hg rn) ln er hd tl cuts first cw ct bl be bh bt bn bc bs br w g s) (k1 : -2147483648 ≤ k) (k2 : k < 2147483648) (p1 : -2147483648 ≤ p) (p2 : p < 2147483648) (q1 : -2147483648 ≤ q) (q2 : q < 2147483648)
    (h0 : ¬ (0 ≤ k ∧ k < cntX (dT n lw hg rn) ln er hd tl cuts first ct ∧ 0 ≤ q ∧ q < 2) → post 1 fo)
    (h2 : 0 ≤ k → k < cntX (dT n lw hg rn) ln er hd tl cuts first ct → 0 ≤ q → q < 2 → ¬ (1 ≤ p ∧ p ≤ 1000) → post 2 fo)
    (h1 : 0 ≤ k → k < cntX (dT n lw hg rn) ln er hd tl cuts first ct → 0 ≤ q → q < 2 → 1 ≤ p → p ≤ 1000 → post 0 (vp_updL fo (0 : Int32).toNatClampNeg (bdV (g k.toNat + s k.toNat) p q).toInt64)) :
    vc_l_blade g s bn (I k) (I p) (I q) 1 fo post := by
  have hcl := cnt_le (dT_ok ht.2.2.1) hk hB
  obtain ⟨b0, b1, b2, b3, b4, b5, b6, rfl, rfl, rfl, rfl, rfl, rfl, b7, b8, b9, b10⟩ := hB
  have hbn : bn = I ((cntX (dT n lw hg rn) ln er hd tl cuts first ct : Nat) : Int) := b7
  generalize cntX (dT n lw hg rn) ln er hd tl cuts first ct = C at *
  subst hbn
  unfold vc_l_blade vc_x_blade
  by_cases hk0 : 0 ≤ k ∧ k < C
  · refine q_index1 k1 k2 (by omega) (by omega) hk0.1 hk0.2 ?_
    by_cases hq : 0 ≤ q ∧ q < 2
    · refine q_index1 (b := 2) q1 q2 (by omega) (by omega) hq.1 hq.2 ?_
      by_cases hp : 1 ≤ p ∧ p ≤ 1000
      · refine q_range1 (b := 1) (c := 1000) p1 p2 (by omega) (by omega) (by omega) (by omega) hp.1 hp.2 ?_
        have hv := h1 hk0.1 hk0.2 hq.1 hq.2 hp.1 hp.2
        unfold bdV at hv
        obtain ⟨K, rfl⟩ : ∃ K : Nat, k = K := ⟨k.toNat, by omega⟩
        simp only [Int.toNat_natCast] at hv
        unfold vc_b_beginOf vc_b_stepsOf
        refine q_numberAt (by omega) (by omega) (q_numberAt (by omega) (by omega) ?_)
        unfold vc_x_thousandthsOfTurns
        simp (disch := omega) only [I_1, I_2, I_1000, I_2000, I_mul, I_le]
        rw [show (0 : Int32) = I 0 from rfl]
        simp (disch := omega) only [I_eq]
        refine ⟨fun _ => ⟨by omega, fun e => ⟨by decide, ?_⟩, fun e => ⟨by decide, ?_⟩⟩, fun h => by omega⟩
        · rintro v rfl
          rw [if_pos e] at hv
          exact ⟨in00, hv⟩
        · rintro v rfl
          rw [if_neg e] at hv
          exact ⟨in00, hv⟩
      · refine q_range0 (b := 1) (c := 1000) p1 p2 (by omega) (by omega) (by omega) (by omega) hp ?_
        exact ⟨fun _ => h2 hk0.1 hk0.2 hq.1 hq.2 hp, fun h => absurd h (by decide), Or.inl rfl⟩
    · refine q_index0 (b := 2) q1 q2 (by omega) (by omega) hq ?_
      exact ⟨fun h => absurd h (by decide), fun _ => h0 (by omega), Or.inr rfl⟩
  · refine q_index0 k1 k2 (by omega) (by omega) hk0 ?_
    exact ⟨fun h => absurd h (by decide), fun _ => h0 (by omega), Or.inr rfl⟩
