/-! The pure layer: the class's setting calls -/
def tX (n : Nat) (lw hg rn : Nat → Nat) (tc : Int32) (a b d fw fs : Nat → Int32) : Prop := tc = I n ∧ n ≤ 6 ∧ dW n lw hg rn ∧ cW n a b d lw hg rn ∧ cF fw fs (dT n lw hg rn)
theorem cT_cF {c f s : Nat → Int32} {T : Nat → dE} (h : cT c f s T 201) : cF f s T := fun j hj => ⟨(h j hj).2.2, fun _ => (h j hj).2.1⟩
theorem kX_up {n cuts : Nat} {cw ct : Nat → Nat} (h : kX n cuts cw ct) (hn : n < 6) : kX (n + 1) cuts cw ct := ⟨by omega, h.2.1, fun j hj => ⟨by have := (h.2.2 j hj).1; omega, (h.2.2 j hj).2⟩⟩
theorem in00 : vp_in 0 1 := by unfold vp_in; decide
theorem l_want1 {a b d cs fw fs : Nat → Int32} {tc : Int32} {w g s : Nat → Int32} {bl be bh bt bn bc bs br : Int32} {p q k : Int} {fo : Nat → Int64} {post : Int32 → Int32 → (Nat → Int32) → (Nat → Int32) → (Nat → Int32) → (Nat → Int32) → (Nat → Int32) → (Nat → Int32) → Int32 → Int32 → (Nat → Int32) → (Nat → Int32) → (Nat → Int32) → (Nat → Int64) → Prop} (p1 : -2147483648 ≤ p) (p2 : p < 2147483648) (q1 : -2147483648 ≤ q) (q2 : q < 2147483648) (k1 : -2147483648 ≤ k) (k2 : k < 2147483648) (h : ¬ (1 ≤ p ∧ p ≤ 200 ∧ p ≤ q ∧ q ≤ 200 ∧ 0 ≤ k ∧ k ≤ 9))
    (hp : post 1 tc a b d cs fw fs bn br w g s fo) : vc_l_want a b d cs fw fs tc w g s bl be bh bt bn bc bs br (I p) (I q) (I k) 1 fo post := by
  unfold vc_l_want vc_x_want
  simp only [I_0, I_1, I_9, I_200]
  by_cases h1 : 1 ≤ p ∧ p ≤ 200
  · refine q_range1 p1 p2 (by omega) (by omega) (by omega) (by omega) h1.1 h1.2 ?_
    by_cases h2 : p ≤ q ∧ q ≤ 200
    · refine q_range1 q1 q2 (by omega) (by omega) (by omega) (by omega) h2.1 h2.2 ?_
      refine q_range0 k1 k2 (by omega) (by omega) (by omega) (by omega) (by omega) ?_
      exact ⟨fun _ => hp, fun h => absurd h (by decide), Or.inl rfl⟩
    · refine q_range0 q1 q2 (by omega) (by omega) (by omega) (by omega) h2 ?_
      exact ⟨fun _ => hp, fun h => absurd h (by decide), Or.inl rfl⟩
  · refine q_range0 p1 p2 (by omega) (by omega) (by omega) (by omega) h1 ?_
    exact ⟨fun _ => hp, fun h => absurd h (by decide), Or.inl rfl⟩
theorem l_want0 {n : Nat} {lw hg rn : Nat → Nat} {ln er hd tl cuts first : Nat} {cw ct : Nat → Nat} {a b d cs fw fs : Nat → Int32} {tc : Int32} {w g s : Nat → Int32} {bl be bh bt bn bc bs br : Int32} {p q k : Nat} {fo : Nat → Int64} {post : Int32 → Int32 → (Nat → Int32) → (Nat → Int32) → (Nat → Int32) → (Nat → Int32) → (Nat → Int32) → (Nat → Int32) → Int32 → Int32 → (Nat → Int32) → (Nat → Int32) → (Nat → Int32) → (Nat → Int64) → Prop}
    (ht : tX n lw hg rn tc a b d fw fs) (hk : kX n cuts cw ct) (hB : bX (dT n lw hg rn) ln er hd tl cuts first cw ct bl be bh bt bn bc bs br w g s) (h1 : 1 ≤ p) (h2 : p ≤ q) (h3 : q ≤ 200) (h4 : k ≤ 9)
    (hx : n = 6 → post 2 tc a b d cs fw fs bn br w g s fo)
    (hp : n < 6 → ∀ tc' a' b' d' c' f' s' bn' br' w' g' t', tX (n + 1) (dAdd lw n p) (dAdd hg n q) (dAdd rn n k) tc' a' b' d' f' s' → bX (dT (n + 1) (dAdd lw n p) (dAdd hg n q) (dAdd rn n k)) ln er hd tl cuts first cw ct bl be bh bt bn' bc bs br' w' g' t' → post 0 tc' a' b' d' c' f' s' bn' br' w' g' t' (vp_updL fo (0 : Int32).toNatClampNeg (I n).toInt64)) :
    vc_l_want a b d cs fw fs tc w g s bl be bh bt bn bc bs br (I p) (I q) (I k) 1 fo post := by
  obtain ⟨rfl, hn, hW, hC, hF⟩ := ht
  obtain ⟨b0, b1, b2, b3, b4, b5, b6, rfl, rfl, rfl, rfl, rfl, rfl, b7, b8, b9, b10⟩ := hB
  unfold vc_l_want vc_x_want
  simp only [I_1, I_9, I_200]
  rw [show vc_x_requireRange (I k) 0 (I 9) = vc_x_requireRange (I k) (I 0) (I 9) from rfl]
  refine q_range1 (by omega) (by omega) (by omega) (by omega) (by omega) (by omega) (by omega) (by omega) ?_
  refine q_range1 (by omega) (by omega) (by omega) (by omega) (by omega) (by omega) (by omega) (by omega) ?_
  refine q_range1 (by omega) (by omega) (by omega) (by omega) (by omega) (by omega) (by omega) (by omega) ?_
  refine q_add hn hW hC h1 h2 h3 h4 ?_ (fun h => ⟨fun h => absurd h (by decide), fun _ => hx h, Or.inr rfl⟩)
  intro hn6 a' b' d' c' f' s' hW' hC' hT'
  refine q_planRest (n := n + 1) (dT_ok hW') (cT_cF hT') (kX_up hk hn6) b0 b1 b2 b3 b4 b5 b6 b9 ?_
  intro bn' br' w' g' t' hB'
  intro v hv
  subst hv
  exact ⟨in00, hp hn6 _ _ _ _ _ _ _ _ _ _ _ _ ⟨rfl, by omega, hW', hC', cT_cF hT'⟩ hB'⟩
theorem l_bar1 {fw fs w g s : Nat → Int32} {bl be bh bt bn bc bs br : Int32} {p q : Int} {post : Int32 → Int32 → Int32 → Int32 → Int32 → Int32 → Int32 → (Nat → Int32) → (Nat → Int32) → (Nat → Int32) → Prop} (p1 : -2147483648 ≤ p) (p2 : p < 2147483648) (q1 : -2147483648 ≤ q) (q2 : q < 2147483648) (h : ¬ (1 ≤ p ∧ p ≤ 200 ∧ 0 ≤ q ∧ q ≤ 50)) (hp : post 1 bl be bn bc bs br w g s) : vc_l_bar fw fs w g s bl be bh bt bn bc bs br (I p) (I q) post := by
  unfold vc_l_bar vc_x_bar
  simp only [I_0, I_1, I_50, I_200]
  by_cases h1 : 1 ≤ p ∧ p ≤ 200
  · refine q_range1 p1 p2 (by omega) (by omega) (by omega) (by omega) h1.1 h1.2 ?_
    refine q_range0 q1 q2 (by omega) (by omega) (by omega) (by omega) (by omega) ?_
    exact ⟨fun _ => hp, rfl⟩
  · refine q_range0 p1 p2 (by omega) (by omega) (by omega) (by omega) h1 ?_
    exact ⟨fun _ => hp, rfl⟩
theorem l_bar0 {n : Nat} {lw hg rn : Nat → Nat} {ln er hd tl cuts first : Nat} {cw ct : Nat → Nat} {a b d fw fs : Nat → Int32} {tc : Int32} {w g s : Nat → Int32} {bl be bh bt bn bc bs br : Int32} {p q : Nat} {post : Int32 → Int32 → Int32 → Int32 → Int32 → Int32 → Int32 → (Nat → Int32) → (Nat → Int32) → (Nat → Int32) → Prop}
    (ht : tX n lw hg rn tc a b d fw fs) (hk : kX n cuts cw ct) (hB : bX (dT n lw hg rn) ln er hd tl cuts first cw ct bl be bh bt bn bc bs br w g s) (h1 : 1 ≤ p) (h2 : p ≤ 200) (h3 : q ≤ 50)
    (hp : ∀ bl' be' bn' bc' bs' br' w' g' t', bX (dT n lw hg rn) p q hd tl cuts cuts cw ct bl' be' bh bt bn' bc' bs' br' w' g' t' → post 0 bl' be' bn' bc' bs' br' w' g' t') :
    vc_l_bar fw fs w g s bl be bh bt bn bc bs br (I p) (I q) post := by
  obtain ⟨rfl, hn, hW, hC, hF⟩ := ht
  obtain ⟨b0, b1, b2, b3, b4, b5, b6, rfl, rfl, rfl, rfl, rfl, rfl, b7, b8, b9, b10⟩ := hB
  unfold vc_l_bar vc_x_bar vc_b_startBar
  refine q_range1 (b := 1) (c := 200) (by omega) (by omega) (by omega) (by omega) (by omega) (by omega) (by omega) (by omega) ?_
  refine q_range1 (b := 0) (c := 50) (by omega) (by omega) (by omega) (by omega) (by omega) (by omega) (by omega) (by omega) ?_
  have key := q_planRest (n := n) (T := dT n lw hg rn) (fw := fw) (fs := fs) (ln := p) (er := q) (hd := hd) (tl := tl) (cuts := cuts) (first := cuts) (cw := cw) (ct := ct) (w := w) (b := g) (s := s) (post := fun bn' br' w' g' t' => post 0 (I p) (I q) bn' (I ((cuts - cuts : Nat) : Int)) (I (sSum ct cuts (cuts - cuts) : Nat)) br' w' g' t') (dT_ok hW) hF hk h1 h2 h3 b3 b4 (Nat.le_refl _) (by rw [Nat.sub_self]; exact Nat.zero_le _) (by rw [Nat.sub_self]; intro j hj; omega) (fun bn' br' w' g' t' h => hp _ _ _ _ _ _ _ _ _ h)
  rw [Nat.sub_self] at key
  exact key
theorem q_fit1 {S R : Int} {post : Prop} {postX : String → Prop} (h1 : -2147483648 ≤ S) (h2 : S < 2147483648) (h3 : -2147483648 ≤ R) (h4 : R < 2147483648) (hb : R < S → postX "java/lang/UnsupportedOperationException") (ho : S ≤ R → post) : vc_b_requireCutsFit (I S) (I R) post postX := by
  unfold vc_b_requireCutsFit
  simp (disch := omega) only [I_m1, I_m2, I_0, I_1, I_2, I_3, I_4, I_5, I_6, I_7, I_8, I_9, I_10, I_11, I_12, I_13, I_14, I_15, I_20, I_50, I_100, I_200, I_256, I_300, I_1000, I_2000, I_1048576, I_n1, I_n2, I_nat, I_add, I_sub, I_mul, I_le, I_lt, I_eq, I_cl, I_in, forall_eq, Int.not_le, Int.not_lt]
  exact ⟨ho, hb⟩
theorem l_crop1 {fw fs w g s : Nat → Int32} {bl be bh bt bn bc bs br : Int32} {p q : Int} {post : Int32 → Int32 → Int32 → Int32 → Int32 → (Nat → Int32) → (Nat → Int32) → (Nat → Int32) → Prop} (p1 : -2147483648 ≤ p) (p2 : p < 2147483648) (q1 : -2147483648 ≤ q) (q2 : q < 2147483648) (h : ¬ (0 ≤ p ∧ p ≤ 100 ∧ 0 ≤ q ∧ q ≤ 100)) (hp : post 1 bh bt bn br w g s) : vc_l_crop fw fs w g s bl be bh bt bn bc bs br (I p) (I q) post := by
  unfold vc_l_crop vc_x_crop
  simp only [I_0, I_100]
  by_cases h1 : 0 ≤ p ∧ p ≤ 100
  · refine q_range1 p1 p2 (by omega) (by omega) (by omega) (by omega) h1.1 h1.2 ?_
    refine q_range0 q1 q2 (by omega) (by omega) (by omega) (by omega) (by omega) ?_
    exact ⟨fun _ => hp, fun h => absurd h (by decide), Or.inl rfl⟩
  · refine q_range0 p1 p2 (by omega) (by omega) (by omega) (by omega) h1 ?_
    exact ⟨fun _ => hp, fun h => absurd h (by decide), Or.inl rfl⟩
theorem bC_hd {hd hd' first c : Nat} {cw ct : Nat → Nat} {w b s : Nat → Int32} (h : bC hd first c cw ct w b s) (he : hd' = hd ∨ c = 0) : bC hd' first c cw ct w b s := by
  rcases he with rfl | rfl
  · exact h
  · intro j hj; omega
theorem l_crop0 {n : Nat} {lw hg rn : Nat → Nat} {ln er hd tl cuts first : Nat} {cw ct : Nat → Nat} {a b d fw fs : Nat → Int32} {tc : Int32} {w g s : Nat → Int32} {bl be bh bt bn bc bs br : Int32} {p q : Nat} {post : Int32 → Int32 → Int32 → Int32 → Int32 → (Nat → Int32) → (Nat → Int32) → (Nat → Int32) → Prop}
    (ht : tX n lw hg rn tc a b d fw fs) (hk : kX n cuts cw ct) (hB : bX (dT n lw hg rn) ln er hd tl cuts first cw ct bl be bh bt bn bc bs br w g s) (h1 : p ≤ 100) (h2 : q ≤ 100)
    (hx : (p ≠ hd ∧ first ≠ cuts) ∨ ln - er - p - q < sSum ct first (cuts - first) → post 2 bh bt bn br w g s)
    (hp : (p = hd ∨ first = cuts) → sSum ct first (cuts - first) ≤ ln - er - p - q → ∀ bh' bt' bn' br' w' g' t', bX (dT n lw hg rn) ln er p q cuts first cw ct bl be bh' bt' bn' bc bs br' w' g' t' → post 0 bh' bt' bn' br' w' g' t') :
    vc_l_crop fw fs w g s bl be bh bt bn bc bs br (I p) (I q) post := by
  obtain ⟨rfl, hn, hW, hC, hF⟩ := ht
  obtain ⟨b0, b1, b2, b3, b4, b5, b6, rfl, rfl, rfl, rfl, rfl, rfl, b7, b8, b9, b10⟩ := hB
  have hcu := hk.2.1
  unfold vc_l_crop vc_x_crop vc_b_changeCrops
  refine q_range1 (b := 0) (c := 100) (by omega) (by omega) (by omega) (by omega) (by omega) (by omega) (by omega) (by omega) ?_
  refine q_range1 (b := 0) (c := 100) (by omega) (by omega) (by omega) (by omega) (by omega) (by omega) (by omega) (by omega) ?_
  have hxx : (p ≠ hd ∧ first ≠ cuts) ∨ ln - er - p - q < sSum ct first (cuts - first) → (("java/lang/UnsupportedOperationException" = "java/lang/IllegalArgumentException" → post 1 (I hd) (I tl) bn br w g s) ∧ ("java/lang/UnsupportedOperationException" = "java/lang/UnsupportedOperationException" → post 2 (I hd) (I tl) bn br w g s) ∧ ("java/lang/UnsupportedOperationException" = "java/lang/IllegalArgumentException" ∨ "java/lang/UnsupportedOperationException" = "java/lang/UnsupportedOperationException")) := fun h => ⟨fun h => absurd h (by decide), fun _ => hx h, Or.inr rfl⟩
  have key : (p = hd ∨ first = cuts) → sSum ct first (cuts - first) ≤ ln - er - p - q → vc_b_planRest w g s (I ln) (I er) (I p) (I q) (I ((cuts - first : Nat) : Int)) (I (sSum ct first (cuts - first) : Nat)) fw fs (fun bn' br' w' g' t' => post 0 (I p) (I q) bn' br' w' g' t') := by
    intro ho hs
    exact q_planRest (n := n) (dT_ok hW) hF hk b0 b1 b2 h1 h2 b5 hs (bC_hd b9 (by omega)) (fun bn' br' w' g' t' h => hp ho hs _ _ _ _ _ _ _ h)
  generalize sSum ct first (cuts - first) = S at *
  simp (disch := omega) only [I_m1, I_m2, I_0, I_1, I_2, I_3, I_4, I_5, I_6, I_7, I_8, I_9, I_10, I_11, I_12, I_13, I_14, I_15, I_20, I_50, I_100, I_200, I_256, I_300, I_1000, I_2000, I_1048576, I_n1, I_n2, I_nat, I_add, I_sub, I_mul, I_le, I_lt, I_eq, I_cl, I_in, forall_eq, Int.not_le, Int.not_lt]
  refine ⟨fun hc0 => q_roomOf b1 (by omega) (by omega) (by omega) (q_fit1 (by omega) (by omega) (by omega) (by omega) (fun h => hxx (Or.inr (by omega))) (fun h => key (Or.inr (by omega)) (by omega))), fun hc0 => ⟨fun hph => q_roomOf b1 (by omega) (by omega) (by omega) (q_fit1 (by omega) (by omega) (by omega) (by omega) (fun h => hxx (Or.inr (by omega))) (fun h => key (Or.inl (by omega)) (by omega))), fun hph => ⟨fun h => absurd h (by decide), fun _ => hx (Or.inl ⟨by omega, by omega⟩), Or.inr trivial⟩⟩⟩
theorem l_known1 {fw fs w g s : Nat → Int32} {bl be bh bt bn bc bs br : Int32} {p : Int} {post : Int32 → Int32 → Int32 → Int32 → Int32 → (Nat → Int32) → (Nat → Int32) → (Nat → Int32) → Prop} (p1 : -2147483648 ≤ p) (p2 : p < 2147483648) (h : ¬ (1 ≤ p ∧ p ≤ 200)) (hp : post 1 bl be bn br w g s) : vc_l_known fw fs w g s bl be bh bt bn bc bs br (I p) post := by
  unfold vc_l_known vc_x_known
  refine q_range0 (b := 1) (c := 200) p1 p2 (by omega) (by omega) (by omega) (by omega) h ?_
  exact ⟨fun _ => hp, fun h => absurd h (by decide), Or.inl rfl⟩
theorem l_known0 {n : Nat} {lw hg rn : Nat → Nat} {ln er hd tl cuts first : Nat} {cw ct : Nat → Nat} {a b d fw fs : Nat → Int32} {tc : Int32} {w g s : Nat → Int32} {bl be bh bt bn bc bs br : Int32} {p : Nat} {post : Int32 → Int32 → Int32 → Int32 → Int32 → (Nat → Int32) → (Nat → Int32) → (Nat → Int32) → Prop}
    (ht : tX n lw hg rn tc a b d fw fs) (hk : kX n cuts cw ct) (hB : bX (dT n lw hg rn) ln er hd tl cuts first cw ct bl be bh bt bn bc bs br w g s) (h1 : 1 ≤ p) (h2 : p ≤ 200)
    (hx : p - 0 - hd - tl < sSum ct first (cuts - first) → post 2 bl be bn br w g s)
    (hp : sSum ct first (cuts - first) ≤ p - 0 - hd - tl → ∀ bl' be' bn' br' w' g' t', bX (dT n lw hg rn) p 0 hd tl cuts first cw ct bl' be' bh bt bn' bc bs br' w' g' t' → post 0 bl' be' bn' br' w' g' t') :
    vc_l_known fw fs w g s bl be bh bt bn bc bs br (I p) post := by
  obtain ⟨rfl, hn, hW, hC, hF⟩ := ht
  obtain ⟨b0, b1, b2, b3, b4, b5, b6, rfl, rfl, rfl, rfl, rfl, rfl, b7, b8, b9, b10⟩ := hB
  have hcu := hk.2.1
  unfold vc_l_known vc_x_known vc_b_learnLength
  refine q_range1 (b := 1) (c := 200) (by omega) (by omega) (by omega) (by omega) (by omega) (by omega) (by omega) (by omega) ?_
  refine q_roomOf (e := 0) h2 (by omega) (by omega) (by omega) (q_fit1 (by omega) (by omega) (by omega) (by omega) (fun h => ⟨fun h => absurd h (by decide), fun _ => hx (by omega), Or.inr rfl⟩) (fun h => ?_))
  exact q_planRest (n := n) (er := 0) (dT_ok hW) hF hk h1 h2 (by omega) b3 b4 b5 (by omega) b9 (fun bn' br' w' g' t' h => hp (by omega) _ _ _ _ _ _ _ h)
