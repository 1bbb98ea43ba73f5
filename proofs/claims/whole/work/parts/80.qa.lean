/-! The pure layer: pieces and blade times -/
def cntX (T : Nat → dE) (ln er hd tl cuts first : Nat) (ct : Nat → Nat) : Nat := cuts - first + (dmn (T (ln - er - hd - tl - sSum ct first (cuts - first)))).toNat
theorem cnt_le {n : Nat} {T : Nat → dE} {ln er hd tl cuts first : Nat} {cw ct : Nat → Nat} {bl be bh bt bn bc bs br : Int32} {w g s : Nat → Int32} (hT : ∀ j, dOk n T j (T j)) (hk : kX n cuts cw ct) (hB : bX T ln er hd tl cuts first cw ct bl be bh bt bn bc bs br w g s) : cntX T ln er hd tl cuts first ct ≤ 200 := by
  obtain ⟨b0, b1, b2, b3, b4, b5, b6, -⟩ := hB
  have hge : cuts - first ≤ sSum ct first (cuts - first) := sSum_ge _ _ (fun j h1 h2 => (hk.2.2 j (by omega)).2.1)
  have := (hT (ln - er - hd - tl - sSum ct first (cuts - first))).2.2.2.1
  unfold cntX
  omega
/-- what the reference keeps of the wanted lengths and of the cuts -/
def mW (n : Nat) (lw hg rn : Nat → Nat) (mw : Int32) (ml mh mr : Nat → Int32) : Prop := mw = I n ∧ cW n ml mh mr lw hg rn
def mB (ln er hd tl cuts first : Nat) (ml me mh mt mc mf : Int32) : Prop := ml = I ln ∧ me = I er ∧ mh = I hd ∧ mt = I tl ∧ mc = I cuts ∧ mf = I first
def mK (cuts : Nat) (cw ct : Nat → Nat) (gw gs : Nat → Int32) : Prop := (∀ j < cuts, gw j = I (cw j)) ∧ (∀ j < cuts, gs j = I (ct j))
theorem m_finds0 {n : Nat} {lw hg rn : Nat → Nat} {ln er hd tl cuts first : Nat} {cw ct : Nat → Nat} {tc : Int32} {a b d fw fs : Nat → Int32} {bl be bh bt bn bc bs br : Int32} {w g s : Nat → Int32} {mw ml' me mh' mt mc mf : Int32} {ml mh mr gw gs z1 z2 z3 z4 z5 : Nat → Int32} {x y z : Int32} {k : Int} {post : Int32 → Int32 → Int32 → Int32 → (Nat → Int32) → (Nat → Int32) → (Nat → Int32) → (Nat → Int32) → (Nat → Int32) → Prop}
    (ht : tX n lw hg rn tc a b d fw fs) (hk : kX n cuts cw ct) (hB : bX (dT n lw hg rn) ln er hd tl cuts first cw ct bl be bh bt bn bc bs br w g s) (hmW : mW n lw hg rn mw ml mh mr) (hmB : mB ln er hd tl cuts first ml' me mh' mt mc mf) (hmK : mK cuts cw ct gw gs) (k1 : -2147483648 ≤ k) (k2 : k < 2147483648)
    (h0 : ¬ (0 ≤ k ∧ k < cntX (dT n lw hg rn) ln er hd tl cuts first ct) → ∀ x y z z1 z2 z3 z4 z5, post 0 x y z z1 z2 z3 z4 z5)
    (h1 : 0 ≤ k → k < cntX (dT n lw hg rn) ln er hd tl cuts first ct → ∀ z1 z2 z3 z4 z5, post 1 (w k.toNat) (g k.toNat) (s k.toNat) z1 z2 z3 z4 z5) :
    vc_m_finds mw ml mh mr ml' me mh' mt mc mf gw gs z1 z2 z3 z4 z5 x y z (I k) post := by
  obtain ⟨rfl, hn, hW, hC, hF⟩ := ht
  obtain ⟨b0, b1, b2, b3, b4, b5, b6, rfl, rfl, rfl, rfl, rfl, rfl, b7, b8, b9, b10⟩ := hB
  obtain ⟨rfl, hCm⟩ := hmW
  obtain ⟨rfl, rfl, rfl, rfl, rfl, rfl⟩ := hmB
  unfold vc_m_finds
  unfold cntX at h0 h1
  simp (disch := omega) only [I_m1, I_m2, I_0, I_1, I_2, I_3, I_4, I_5, I_6, I_7, I_8, I_9, I_10, I_11, I_12, I_13, I_14, I_15, I_20, I_50, I_100, I_200, I_256, I_300, I_1000, I_2000, I_1048576, I_n1, I_n2, I_nat, I_add, I_sub, I_mul, I_le, I_lt, I_eq, I_cl, I_in, forall_eq, Int.not_le, Int.not_lt]
  refine ⟨fun hk0 => ?_, fun hk0 => h0 (by omega) _ _ _ _ _ _ _ _⟩
  obtain ⟨K, rfl⟩ : ∃ K : Nat, k = K := ⟨k.toNat, by omega⟩
  rw [Int.toNat_natCast] at h1
  refine ⟨_, q_finds19 (k := K) (cw := cw) (ct := ct) hn hW hCm (by omega) (by omega) (by omega) (by omega) hk.2.1 b5 hmK.1 hmK.2 b6 (by omega) (fun x y z z1 z2 z3 z4 z5 hh => h0 (by omega) x y z z1 z2 z3 z4 z5) ?_ ?_ (cuts - first) 0 x z (by omega) (by omega)⟩
  · intro hlt y1 y2 y3 y4 y5
    have := h1 (by omega) (by omega) y1 y2 y3 y4 y5
    rw [(b9 K hlt).1, (b9 K hlt).2.1, (b9 K hlt).2.2] at this
    exact this
  · intro u hu hum y1 y2 y3 y4 y5
    have := h1 (by omega) (by omega) y1 y2 y3 y4 y5
    subst hu
    rw [(b10 u hum).1, (b10 u hum).2.1, (b10 u hum).2.2] at this
    exact this
def pcV (w g s : Nat → Int32) (c : Nat) (k q : Int) : Int32 := if q = 0 then w k.toNat else if q = 1 then g k.toNat else if q = 2 then s k.toNat else if (c : Int) ≤ k then 0 else 1
theorem m_piece01 {n : Nat} {lw hg rn : Nat → Nat} {ln er hd tl cuts first : Nat} {cw ct : Nat → Nat} {tc : Int32} {a b d fw fs : Nat → Int32} {bl be bh bt bn bc bs br : Int32} {w g s : Nat → Int32} {mw ml' me mh' mt mc mf : Int32} {ml mh mr gw gs z1 z2 z3 z4 z5 : Nat → Int32} {x y z : Int32} {k q : Int} {post : Int32 → Int32 → Int32 → Int32 → Int32 → (Nat → Int32) → (Nat → Int32) → (Nat → Int32) → (Nat → Int32) → (Nat → Int32) → Prop}
    (ht : tX n lw hg rn tc a b d fw fs) (hk : kX n cuts cw ct) (hB : bX (dT n lw hg rn) ln er hd tl cuts first cw ct bl be bh bt bn bc bs br w g s) (hmW : mW n lw hg rn mw ml mh mr) (hmB : mB ln er hd tl cuts first ml' me mh' mt mc mf) (hmK : mK cuts cw ct gw gs) (k1 : -2147483648 ≤ k) (k2 : k < 2147483648) (q1 : -2147483648 ≤ q) (q2 : q < 2147483648)
    (h0 : ¬ (0 ≤ k ∧ k < cntX (dT n lw hg rn) ln er hd tl cuts first ct ∧ 0 ≤ q ∧ q < 4) → ∀ x y z z1 z2 z3 z4 z5, post (I 0) (I 1) x y z z1 z2 z3 z4 z5)
    (h1 : 0 ≤ k → k < cntX (dT n lw hg rn) ln er hd tl cuts first ct → 0 ≤ q → q < 4 → ∀ x y z z1 z2 z3 z4 z5, post (pcV w g s (cuts - first) k q) (I 0) x y z z1 z2 z3 z4 z5) :
    vc_m_piece mw ml mh mr ml' me mh' mt mc mf gw gs z1 z2 z3 z4 z5 x y z (I k) (I q) post := by
  unfold vc_m_piece
  have hcf := hk.2.1
  have hff := hB.2.2.2.2.2.1
  refine m_finds0 ht hk hB hmW hmB hmK k1 k2 (fun hh x y z z1 z2 z3 z4 z5 => ?_) (fun hh1 hh2 z1 z2 z3 z4 z5 => ?_)
  · simp (disch := omega) only [I_m1, I_m2, I_0, I_1, I_2, I_3, I_4, I_5, I_6, I_7, I_8, I_9, I_10, I_11, I_12, I_13, I_14, I_15, I_20, I_50, I_100, I_200, I_256, I_300, I_1000, I_2000, I_1048576, I_n1, I_n2, I_nat, I_add, I_sub, I_mul, I_le, I_lt, I_eq, I_cl, I_in, forall_eq, Int.not_le, Int.not_lt, m_in1, m_in0, m_go1, m_go2, m_go3, m_go0, i01, i10, j10, j20, j30, eq_self, not_true_eq_false, not_false_eq_true, true_implies, false_implies, and_true, true_and, implies_true, Int.toNat_natCast]
    exact h0 (by omega) _ _ _ _ _ _ _ _
  · obtain ⟨-, -, -, -, rfl, rfl⟩ := hmB
    by_cases hq : 0 ≤ q ∧ q ≤ 3
    · have hp := fun x y z z1 z2 z3 z4 z5 => h1 hh1 hh2 (by omega) (by omega) x y z z1 z2 z3 z4 z5
      unfold pcV at hp
      simp (disch := omega) only [I_m1, I_m2, I_0, I_1, I_2, I_3, I_4, I_5, I_6, I_7, I_8, I_9, I_10, I_11, I_12, I_13, I_14, I_15, I_20, I_50, I_100, I_200, I_256, I_300, I_1000, I_2000, I_1048576, I_n1, I_n2, I_nat, I_add, I_sub, I_mul, I_le, I_lt, I_eq, I_cl, I_in, forall_eq, Int.not_le, Int.not_lt, m_in1, m_in0, m_go1, m_go2, m_go3, m_go0, i01, i10, j10, j20, j30, eq_self, not_true_eq_false, not_false_eq_true, true_implies, false_implies, and_true, true_and, implies_true, Int.toNat_natCast]
      refine ⟨fun e => ?_, fun e => ⟨fun e1 => ?_, fun e1 => ⟨fun e2 => ?_, fun e2 => ⟨fun e3 => ?_, fun e3 => ?_⟩⟩⟩⟩
      · simpa [e] using hp _ _ _ _ _ _ _ _
      · simpa [e, e1] using hp _ _ _ _ _ _ _ _
      · simpa [e, e1, e2] using hp _ _ _ _ _ _ _ _
      · have := hp (w k.toNat) (g k.toNat) (s k.toNat) z1 z2 z3 z4 z5
        rw [if_neg e, if_neg e1, if_neg e2, if_pos (by omega)] at this
        exact this
      · have := hp (w k.toNat) (g k.toNat) (s k.toNat) z1 z2 z3 z4 z5
        rw [if_neg e, if_neg e1, if_neg e2, if_neg (by omega)] at this
        exact this
    · simp (disch := omega) only [I_m1, I_m2, I_0, I_1, I_2, I_3, I_4, I_5, I_6, I_7, I_8, I_9, I_10, I_11, I_12, I_13, I_14, I_15, I_20, I_50, I_100, I_200, I_256, I_300, I_1000, I_2000, I_1048576, I_n1, I_n2, I_nat, I_add, I_sub, I_mul, I_le, I_lt, I_eq, I_cl, I_in, forall_eq, Int.not_le, Int.not_lt, m_in1, m_in0, m_go1, m_go2, m_go3, m_go0, i01, i10, j10, j20, j30, eq_self, not_true_eq_false, not_false_eq_true, true_implies, false_implies, and_true, true_and, implies_true, Int.toNat_natCast]
      exact h0 (by omega) _ _ _ _ _ _ _ _
theorem l_piece01 {n : Nat} {lw hg rn : Nat → Nat} {ln er hd tl cuts first : Nat} {cw ct : Nat → Nat} {tc : Int32} {a b d fw fs : Nat → Int32} {bl be bh bt bn bc bs br : Int32} {w g s : Nat → Int32} {k q : Int} {fo : Nat → Int64} {post : Int32 → (Nat → Int64) → Prop}
    (ht : tX n lw hg rn tc a b d fw fs) (hk : kX n cuts cw ct) (hB : bX (dT n lw hg rn) ln er hd tl cuts first cw ct bl be bh bt bn bc bs br w g s) (k1 : -2147483648 ≤ k) (k2 : k < 2147483648) (q1 : -2147483648 ≤ q) (q2 : q < 2147483648)
    (h0 : ¬ (0 ≤ k ∧ k < cntX (dT n lw hg rn) ln er hd tl cuts first ct ∧ 0 ≤ q ∧ q < 4) → post 1 fo)
    (h1 : 0 ≤ k → k < cntX (dT n lw hg rn) ln er hd tl cuts first ct → 0 ≤ q → q < 4 → post 0 (vp_updL fo (0 : Int32).toNatClampNeg (pcV w g s (cuts - first) k q).toInt64)) :
    vc_l_piece w g s bn bc (I k) (I q) 1 fo post := by
  have hcl := cnt_le (dT_ok ht.2.2.1) hk hB
  have hcf := hk.2.1
  obtain ⟨b0, b1, b2, b3, b4, b5, b6, rfl, rfl, rfl, rfl, rfl, rfl, b7, b8, b9, b10⟩ := hB
  have hbn : bn = I ((cntX (dT n lw hg rn) ln er hd tl cuts first ct : Nat) : Int) := b7
  generalize cntX (dT n lw hg rn) ln er hd tl cuts first ct = C at *
  subst hbn
  unfold vc_l_piece vc_x_piece
  by_cases hk0 : 0 ≤ k ∧ k < C
  · refine q_index1 k1 k2 (by omega) (by omega) hk0.1 hk0.2 ?_
    by_cases hq : 0 ≤ q ∧ q < 4
    · refine q_index1 (b := 4) q1 q2 (by omega) (by omega) hq.1 hq.2 ?_
      have hp := h1 hk0.1 hk0.2 hq.1 hq.2
      unfold pcV at hp
      obtain ⟨K, rfl⟩ : ∃ K : Nat, k = K := ⟨k.toNat, by omega⟩
      simp only [Int.toNat_natCast] at hp
      unfold vc_b_wantedOf vc_b_beginOf vc_b_stepsOf
      simp (disch := omega) only [I_0, I_1, I_2, I_eq, I_le]
      refine ⟨fun e => q_numberAt (by omega) (by omega) ?_, fun e => q_numberAt (by omega) (by omega) ?_, fun e => q_numberAt (by omega) (by omega) ?_, fun e e1 e2 => ⟨fun e3 => ?_, fun e3 => ?_⟩⟩
      · rintro v rfl
        rw [if_pos e] at hp
        exact ⟨in00, hp⟩
      · rintro v rfl
        rw [if_neg (by omega), if_pos e] at hp
        exact ⟨in00, hp⟩
      · rintro v rfl
        rw [if_neg (by omega), if_neg (by omega), if_pos e] at hp
        exact ⟨in00, hp⟩
      · rintro v rfl
        rw [if_neg (by omega), if_neg (by omega), if_neg (by omega), if_pos (by omega)] at hp
        exact ⟨in00, hp⟩
      · rintro v rfl
        rw [if_neg (by omega), if_neg (by omega), if_neg (by omega), if_neg (by omega)] at hp
        exact ⟨in00, hp⟩
    · refine q_index0 (b := 4) q1 q2 (by omega) (by omega) hq ?_
      exact ⟨fun _ => h0 (by omega), rfl⟩
  · refine q_index0 k1 k2 (by omega) (by omega) hk0 ?_
    exact ⟨fun _ => h0 (by omega), rfl⟩
