/-! The pure layer: the reference's plan, pieces, loss, and what it finds -/
theorem q_mplan {n : Nat} {lw hg rn : Nat → Nat} {a b d : Nat → Int32} {ct : Nat → Nat} {g : Nat → Int32} {l e h t cuts first : Nat} {z1 z2 z3 z4 z5 : Nat → Int32} {post : (Nat → Int32) → (Nat → Int32) → (Nat → Int32) → (Nat → Int32) → (Nat → Int32) → Prop} (hn : n ≤ 6) (hW : dW n lw hg rn) (hC : cW n a b d lw hg rn) (h1 : l ≤ 200) (h2 : e ≤ 200) (h3 : h ≤ 200) (h4 : t ≤ 200) (hc : cuts ≤ 300) (hf : first ≤ cuts) (hgg : ∀ j < cuts, g j = I (ct j)) (hs : sSum ct first (cuts - first) ≤ l - e - h - t)
    (hp : ∀ z1 z2 z3 z4 z5, mT z1 z2 z3 z4 z5 (dT n lw hg rn) (l - e - h - t - sSum ct first (cuts - first) + 1) → post z1 z2 z3 z4 z5) : vc_m_plan (I n) a b d (I l) (I e) (I h) (I t) (I cuts) (I first) g z1 z2 z3 z4 z5 post := by
  unfold vc_m_plan
  refine q_mleft h1 h2 h3 h4 hc hf hgg hs ?_
  exact ⟨l - e - h - t - sSum ct first (cuts - first) + 1 + 1, q_plan7 (by omega) hn hW hC _ 0 _ _ _ _ _ (by omega) (fun j hj => by omega) hp⟩
theorem m_pieces0 {n : Nat} {lw hg rn : Nat → Nat} {a b d : Nat → Int32} {ct : Nat → Nat} {g : Nat → Int32} {l e h t cuts first : Nat} {z1 z2 z3 z4 z5 : Nat → Int32} {post : Int32 → Int32 → (Nat → Int32) → (Nat → Int32) → (Nat → Int32) → (Nat → Int32) → (Nat → Int32) → Prop} (hn : n ≤ 6) (hW : dW n lw hg rn) (hC : cW n a b d lw hg rn) (h1 : l ≤ 200) (h2 : e ≤ 200) (h3 : h ≤ 200) (h4 : t ≤ 200) (hc : cuts ≤ 300) (hf : first ≤ cuts) (hgg : ∀ j < cuts, g j = I (ct j)) (hs : sSum ct first (cuts - first) ≤ l - e - h - t)
    (hp : ∀ z1 z2 z3 z4 z5, post (I ((cuts - first + (dmn (dT n lw hg rn (l - e - h - t - sSum ct first (cuts - first)))).toNat : Nat) : Int)) 0 z1 z2 z3 z4 z5) : vc_m_pieces (I n) a b d (I l) (I e) (I h) (I t) (I cuts) (I first) g z1 z2 z3 z4 z5 post := by
  unfold vc_m_pieces
  refine q_mplan hn hW hC h1 h2 h3 h4 hc hf hgg hs (fun y1 y2 y3 y4 y5 hm => ?_)
  refine q_mleft h1 h2 h3 h4 hc hf hgg hs ?_
  have hr := hm (l - e - h - t - sSum ct first (cuts - first)) (by omega)
  have hq := hp y1 y2 y3 y4 y5
  have h0 := (dT_ok hW (l - e - h - t - sSum ct first (cuts - first))).2.2.1
  simp (disch := omega) only [I_in, I_cl, Int.toNat_natCast, I_sub, hr.2.2.1, I_add]
  rw [show ((cuts - first + (dmn (dT n lw hg rn (l - e - h - t - sSum ct first (cuts - first)))).toNat : Nat) : Int) = (cuts : Int) - first + dmn (dT n lw hg rn (l - e - h - t - sSum ct first (cuts - first))) by omega] at hq
  exact ⟨by omega, hq⟩
theorem m_loss0 {n : Nat} {lw hg rn : Nat → Nat} {a b d : Nat → Int32} {ct : Nat → Nat} {g : Nat → Int32} {l e h t cuts first : Nat} {z1 z2 z3 z4 z5 : Nat → Int32} {post : Int32 → Int32 → (Nat → Int32) → (Nat → Int32) → (Nat → Int32) → (Nat → Int32) → (Nat → Int32) → Prop} (hn : n ≤ 6) (hW : dW n lw hg rn) (hC : cW n a b d lw hg rn) (h1 : l ≤ 200) (h2 : e ≤ 200) (h3 : h ≤ 200) (h4 : t ≤ 200) (hc : cuts ≤ 300) (hf : first ≤ cuts) (hgg : ∀ j < cuts, g j = I (ct j)) (hs : sSum ct first (cuts - first) ≤ l - e - h - t)
    (hp : ∀ z1 z2 z3 z4 z5, post (I (dlo (dT n lw hg rn (l - e - h - t - sSum ct first (cuts - first))))) 0 z1 z2 z3 z4 z5) : vc_m_loss (I n) a b d (I l) (I e) (I h) (I t) (I cuts) (I first) g z1 z2 z3 z4 z5 post := by
  unfold vc_m_loss
  refine q_mplan hn hW hC h1 h2 h3 h4 hc hf hgg hs (fun y1 y2 y3 y4 y5 hm => ?_)
  refine q_mleft h1 h2 h3 h4 hc hf hgg hs ?_
  have hr := hm (l - e - h - t - sSum ct first (cuts - first)) (by omega)
  simp (disch := omega) only [I_in, I_cl, Int.toNat_natCast, hr.1]
  exact ⟨by omega, hp y1 y2 y3 y4 y5⟩
theorem q_finds99 {n : Nat} {T : Nat → dE} {R k : Nat} {z1 z2 z3 z4 z5 : Nat → Int32} {post : Int32 → Int32 → Int32 → Int32 → (Nat → Int32) → (Nat → Int32) → (Nat → Int32) → (Nat → Int32) → (Nat → Int32) → Prop} (hn : n ≤ 6) (hT : ∀ j, dOk n T j (T j)) (hm : mT z1 z2 z3 z4 z5 T (R + 1)) (hR : R ≤ 200) (hk : k < 2147483648)
    :
    ∀ (m L bg i : Nat) (fw fs : Int32), dmn (T L) = m → L ≤ R → bg + L ≤ 1000 → i + L ≤ 1000 → i ≤ k → (i + m ≤ k → ∀ x y z, post 0 x y z z1 z2 z3 z4 z5) →
    (∀ u, i + u = k → u < m → post 1 (I (dnx (T (lft T L u)))) (I ((bg + (L - lft T L u) : Nat) : Int)) (I (dst (T (lft T L u)))) z1 z2 z3 z4 z5) →
    vc_m_finds_L99 (I k) z1 z2 z3 z4 z5 post (m + 1) (I L) (I i) fw (I bg) fs := by
  intro m
  induction m with
  | zero =>
    intro L bg i fw fs hmm hL hb hi hik h0 hp
    have hx := dOk_zero hT hmm
    have hr := hm L (by omega)
    unfold vc_m_finds_L99
    simp (disch := omega) only [I_m1, I_m2, I_0, I_1, I_2, I_3, I_4, I_5, I_6, I_7, I_8, I_9, I_10, I_11, I_12, I_13, I_14, I_15, I_20, I_50, I_100, I_200, I_256, I_300, I_1000, I_2000, I_1048576, I_n1, I_n2, I_nat, I_add, I_sub, I_mul, I_le, I_lt, I_eq, I_cl, I_in, forall_eq, Int.not_le, Int.not_lt, Int.toNat_natCast, hr.2.2.2.1, hx]
    exact ⟨by omega, fun _ => h0 (by omega) _ _ _, fun h => by omega⟩
  | succ m ih =>
    intro L bg i fw fs hmm hL hb hi hik h0 hp
    have hx := dOk_pos (hT L) (by omega)
    have h8 := (hT L).2.2.2.2.2.2.2.1
    have h10 := (hT L).2.2.2.2.2.2.2.2.2 hx
    have hr := hm L (by omega)
    unfold vc_m_finds_L99
    simp (disch := omega) only [I_m1, I_m2, I_0, I_1, I_2, I_3, I_4, I_5, I_6, I_7, I_8, I_9, I_10, I_11, I_12, I_13, I_14, I_15, I_20, I_50, I_100, I_200, I_256, I_300, I_1000, I_2000, I_1048576, I_n1, I_n2, I_nat, I_add, I_sub, I_mul, I_le, I_lt, I_eq, I_cl, I_in, forall_eq, Int.not_le, Int.not_lt, Int.toNat_natCast, hr.2.2.2.1, hr.2.2.2.2 hx]
    have hz : (0 : Int) ≤ L ∧ (L : Int) < (201 : Nat) := by omega
    refine ⟨hz, fun h => by omega, fun h => ⟨hz, hz, fun hq => ?_, fun hq => ⟨hz, hz, ?_⟩⟩⟩
    · have := hp 0 (by omega) (by omega)
      have e : bg + (L - lft T L 0) = bg := by show bg + (L - L) = bg; omega
      rw [e] at this
      exact this
    · have e1 : (L : Int) - dst (T L) = ((L - (dst (T L)).toNat : Nat) : Int) := by omega
      have e2 : (bg : Int) + dst (T L) = ((bg + (dst (T L)).toNat : Nat) : Int) := by omega
      have e3 : (i : Int) + 1 = ((i + 1 : Nat) : Int) := by omega
      rw [e1, e2, e3]
      refine ih (L - (dst (T L)).toNat) (bg + (dst (T L)).toNat) (i + 1) _ _ (by omega) (by omega) (by omega) (by omega) (by omega) (fun hh => h0 (by omega)) ?_
      intro u hu hum
      have hle := (lft_ok hT u (L - (dst (T L)).toNat) (by omega)).2.2
      have := hp (u + 1) (by omega) (by omega)
      have e4 : bg + (L - lft T L (u + 1)) = bg + (dst (T L)).toNat + (L - (dst (T L)).toNat - lft T (L - (dst (T L)).toNat) u) := by
        show bg + (L - lft T (L - (dst (T L)).toNat) u) = _
        omega
      rw [e4] at this
      exact this
theorem q_finds19 {n : Nat} {lw hg rn : Nat → Nat} {a b d : Nat → Int32} {cw ct : Nat → Nat} {gw g : Nat → Int32} {l e h t cuts first k : Nat} {z1 z2 z3 z4 z5 : Nat → Int32} {post : Int32 → Int32 → Int32 → Int32 → (Nat → Int32) → (Nat → Int32) → (Nat → Int32) → (Nat → Int32) → (Nat → Int32) → Prop} (hn : n ≤ 6) (hW : dW n lw hg rn) (hC : cW n a b d lw hg rn) (h1 : l ≤ 200) (h2 : e ≤ 200) (h3 : h ≤ 200) (h4 : t ≤ 200) (hc : cuts ≤ 300) (hf : first ≤ cuts) (hgw : ∀ j < cuts, gw j = I (cw j)) (hgg : ∀ j < cuts, g j = I (ct j)) (hs : sSum ct first (cuts - first) ≤ l - e - h - t) (hk : k < 2147483648)
    (h0 : ∀ x y z z1 z2 z3 z4 z5, cuts - first + (dmn (dT n lw hg rn (l - e - h - t - sSum ct first (cuts - first)))).toNat ≤ k → post 0 x y z z1 z2 z3 z4 z5)
    (hp1 : k < cuts - first → ∀ z1 z2 z3 z4 z5, post 1 (I (cw (first + k))) (I ((h + sSum ct first k : Nat) : Int)) (I (ct (first + k))) z1 z2 z3 z4 z5)
    (hp2 : ∀ u, cuts - first + u = k → u < (dmn (dT n lw hg rn (l - e - h - t - sSum ct first (cuts - first)))).toNat → ∀ z1 z2 z3 z4 z5, post 1 (I (dnx (dT n lw hg rn (lft (dT n lw hg rn) (l - e - h - t - sSum ct first (cuts - first)) u)))) (I ((h + sSum ct first (cuts - first) + (l - e - h - t - sSum ct first (cuts - first) - lft (dT n lw hg rn) (l - e - h - t - sSum ct first (cuts - first)) u) : Nat) : Int)) (I (dst (dT n lw hg rn (lft (dT n lw hg rn) (l - e - h - t - sSum ct first (cuts - first)) u)))) z1 z2 z3 z4 z5) :
    ∀ (r i : Nat) (fw fs : Int32), i + r = cuts - first → i ≤ k → vc_m_finds_L19 (I n) a b d (I l) (I e) (I h) (I t) (I cuts) (I first) gw g z1 z2 z3 z4 z5 (I k) post (r + 1) (I ((first + i : Nat) : Int)) fw (I ((h + sSum ct first i : Nat) : Int)) fs := by
  intro r
  induction r with
  | zero =>
    intro i fw fs hi hik
    unfold vc_m_finds_L19
    have hT := dT_ok hW
    simp (disch := omega) only [I_m1, I_m2, I_0, I_1, I_2, I_3, I_4, I_5, I_6, I_7, I_8, I_9, I_10, I_11, I_12, I_13, I_14, I_15, I_20, I_50, I_100, I_200, I_256, I_300, I_1000, I_2000, I_1048576, I_n1, I_n2, I_nat, I_add, I_sub, I_mul, I_le, I_lt, I_eq, I_cl, I_in, forall_eq, Int.not_le, Int.not_lt]
    refine ⟨fun _ => ?_, fun hh => by omega⟩
    refine q_mplan hn hW hC h1 h2 h3 h4 hc hf hgg hs (fun y1 y2 y3 y4 y5 hm => ?_)
    refine q_mleft h1 h2 h3 h4 hc hf hgg hs ?_
    have hi' : i = cuts - first := by omega
    subst hi'
    have e1 : (cuts : Int) - first = ((cuts - first : Nat) : Int) := by omega
    rw [e1]
    have hmn := (hT (l - e - h - t - sSum ct first (cuts - first))).2.2.1
    exact ⟨(dmn (dT n lw hg rn (l - e - h - t - sSum ct first (cuts - first)))).toNat + 1, q_finds99 (n := n) hn hT hm (by omega) hk _ _ _ _ _ _ (by omega) (Nat.le_refl _) (by omega) (by omega) (by omega) (fun hh x y z => h0 x y z _ _ _ _ _ (by omega)) (fun u hu1 hu2 => hp2 u hu1 hu2 _ _ _ _ _)⟩
  | succ r ih =>
    intro i fw fs hi hik
    unfold vc_m_finds_L19
    simp (disch := omega) only [I_m1, I_m2, I_0, I_1, I_2, I_3, I_4, I_5, I_6, I_7, I_8, I_9, I_10, I_11, I_12, I_13, I_14, I_15, I_20, I_50, I_100, I_200, I_256, I_300, I_1000, I_2000, I_1048576, I_n1, I_n2, I_nat, I_add, I_sub, I_mul, I_le, I_lt, I_eq, I_cl, I_in, forall_eq, Int.not_le, Int.not_lt, Int.toNat_natCast, hgw (first + i) (by omega), hgg (first + i) (by omega)]
    have hz : (0 : Int) ≤ ((first + i : Nat) : Int) ∧ ((first + i : Nat) : Int) < (300 : Nat) := by omega
    refine ⟨fun hh => by omega, fun _ => ⟨hz, hz, fun hq => ?_, fun hq => ⟨hz, ?_⟩⟩⟩
    · have hik' : i = k := by omega
      subst hik'
      exact hp1 (by omega) _ _ _ _ _
    · have e2 : ((h + sSum ct first i : Nat) : Int) + (ct (first + i) : Nat) = ((h + sSum ct first (i + 1) : Nat) : Int) := by rw [sSum_snoc]; omega
      have e3 : ((first + i : Nat) : Int) + 1 = ((first + (i + 1) : Nat) : Int) := by omega
      rw [e2, e3]
      exact ih (i + 1) _ _ (by omega) (by omega)
