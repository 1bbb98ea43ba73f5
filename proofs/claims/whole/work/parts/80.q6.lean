/-! The pure layer: the plan of a bar -/
theorem sSum_ge {ct : Nat → Nat} : ∀ (k a : Nat), (∀ j, a ≤ j → j < a + k → 1 ≤ ct j) → k ≤ sSum ct a k := by
  intro k
  induction k with
  | zero => intro a _; exact Nat.zero_le _
  | succ k ih =>
    intro a h
    have h1 := h a (by omega) (by omega)
    have h2 := ih (a + 1) (fun j h1 h2 => h j (by omega) (by omega))
    unfold sSum; omega
def bC (hd first c : Nat) (cw ct : Nat → Nat) (w b s : Nat → Int32) : Prop := ∀ j < c, w j = I (cw (first + j)) ∧ b j = I ((hd + sSum ct first j : Nat) : Int) ∧ s j = I (ct (first + j))
def bX (T : Nat → dE) (ln er hd tl cuts first : Nat) (cw ct : Nat → Nat) (bl be bh bt bn bc bs br : Int32) (w b s : Nat → Int32) : Prop :=
  1 ≤ ln ∧ ln ≤ 200 ∧ er ≤ 50 ∧ hd ≤ 100 ∧ tl ≤ 100 ∧ first ≤ cuts ∧ sSum ct first (cuts - first) ≤ ln - er - hd - tl ∧ bl = I ln ∧ be = I er ∧ bh = I hd ∧ bt = I tl ∧ bc = I ((cuts - first : Nat) : Int) ∧ bs = I (sSum ct first (cuts - first) : Nat) ∧
  bn = I ((cuts - first + (dmn (T (ln - er - hd - tl - sSum ct first (cuts - first)))).toNat : Nat) : Int) ∧ br = I (dlo (T (ln - er - hd - tl - sSum ct first (cuts - first)))) ∧ bC hd first (cuts - first) cw ct w b s ∧
  pL T w b s (cuts - first) (hd + sSum ct first (cuts - first)) (ln - er - hd - tl - sSum ct first (cuts - first)) (dmn (T (ln - er - hd - tl - sSum ct first (cuts - first)))).toNat
def kX (n cuts : Nat) (cw ct : Nat → Nat) : Prop := n ≤ 6 ∧ cuts ≤ 300 ∧ ∀ j < cuts, cw j < n ∧ 1 ≤ ct j ∧ ct j ≤ 200
theorem q_planRest {n : Nat} {T : Nat → dE} {fw fs : Nat → Int32} {ln er hd tl cuts first : Nat} {cw ct : Nat → Nat} {w b s : Nat → Int32} {post : Int32 → Int32 → (Nat → Int32) → (Nat → Int32) → (Nat → Int32) → Prop} (hT : ∀ j, dOk n T j (T j)) (hC : cF fw fs T) (hk : kX n cuts cw ct) (h0 : 1 ≤ ln) (h1 : ln ≤ 200) (h2 : er ≤ 50) (h3 : hd ≤ 100) (h4 : tl ≤ 100) (hf : first ≤ cuts) (hs : sSum ct first (cuts - first) ≤ ln - er - hd - tl) (hb : bC hd first (cuts - first) cw ct w b s)
    (hp : ∀ bn br w' b' s', bX T ln er hd tl cuts first cw ct (I ln) (I er) (I hd) (I tl) bn (I ((cuts - first : Nat) : Int)) (I (sSum ct first (cuts - first) : Nat)) br w' b' s' → post bn br w' b' s') :
    vc_b_planRest w b s (I ln) (I er) (I hd) (I tl) (I ((cuts - first : Nat) : Int)) (I (sSum ct first (cuts - first) : Nat)) fw fs post := by
  obtain ⟨hn, hcu, hkk⟩ := hk
  unfold vc_b_planRest
  refine q_roomOf h1 (by omega) (by omega) (by omega) ?_
  simp only [forall_eq, I_sub, I_add]
  have hge : cuts - first ≤ sSum ct first (cuts - first) := sSum_ge _ _ (fun j h1 h2 => (hkk j (by omega)).2.1)
  generalize hS : sSum ct first (cuts - first) = S at *
  have e1 : ((ln - er - hd - tl : Nat) : Int) - (S : Nat) = ((ln - er - hd - tl - S : Nat) : Int) := by omega
  have e2 : (hd : Int) + (S : Nat) = ((hd + S : Nat) : Int) := by omega
  rw [e1, e2]
  have hm0 := (hT (ln - er - hd - tl - S)).2.2.1
  refine ⟨(dmn (T (ln - er - hd - tl - S))).toNat + 1, q_planL hn hT hC _ _ _ _ _ _ _ (by omega) (by omega) (by omega) ?_⟩
  intro w' b' s' hl hpl
  refine hp _ _ _ _ _ ?_
  unfold bX
  rw [hS]
  refine ⟨h0, h1, h2, h3, h4, hf, hs, rfl, rfl, rfl, rfl, rfl, rfl, rfl, rfl, ?_, hpl⟩
  intro j hj
  have := hb j hj
  rw [(hl j hj).1, (hl j hj).2.1, (hl j hj).2.2]
  exact this
/-! ranges -/
theorem q_range1 {a b c : Int} {post : Prop} {postX : String → Prop} (ha : -2147483648 ≤ a) (ha' : a < 2147483648) (hb : -2147483648 ≤ b) (hb' : b < 2147483648) (hc : -2147483648 ≤ c) (hc' : c < 2147483648) (h1 : b ≤ a) (h2 : a ≤ c) (hp : post) : vc_x_requireRange (I a) (I b) (I c) post postX := by
  unfold vc_x_requireRange
  simp (disch := omega) only [I_m1, I_m2, I_0, I_1, I_2, I_3, I_4, I_5, I_6, I_7, I_8, I_9, I_10, I_11, I_12, I_13, I_14, I_15, I_20, I_50, I_100, I_200, I_256, I_300, I_1000, I_2000, I_1048576, I_n1, I_n2, I_nat, I_add, I_sub, I_mul, I_le, I_lt, I_eq, I_cl, I_in, forall_eq, Int.not_le, Int.not_lt]
  exact ⟨fun h => by omega, fun _ => ⟨fun _ => hp, fun h => by omega⟩⟩
theorem q_range0 {a b c : Int} {post : Prop} {postX : String → Prop} (ha : -2147483648 ≤ a) (ha' : a < 2147483648) (hb : -2147483648 ≤ b) (hb' : b < 2147483648) (hc : -2147483648 ≤ c) (hc' : c < 2147483648) (h1 : ¬ (b ≤ a ∧ a ≤ c)) (hp : postX "java/lang/IllegalArgumentException") : vc_x_requireRange (I a) (I b) (I c) post postX := by
  unfold vc_x_requireRange
  simp (disch := omega) only [I_m1, I_m2, I_0, I_1, I_2, I_3, I_4, I_5, I_6, I_7, I_8, I_9, I_10, I_11, I_12, I_13, I_14, I_15, I_20, I_50, I_100, I_200, I_256, I_300, I_1000, I_2000, I_1048576, I_n1, I_n2, I_nat, I_add, I_sub, I_mul, I_le, I_lt, I_eq, I_cl, I_in, forall_eq, Int.not_le, Int.not_lt]
  exact ⟨fun h => hp, fun _ => ⟨fun h => by omega, fun h => hp⟩⟩
theorem q_index1 {a b : Int} {post : Prop} {postX : String → Prop} (ha : -2147483648 ≤ a) (ha' : a < 2147483648) (hb : -2147483648 ≤ b) (hb' : b < 2147483648) (h1 : 0 ≤ a) (h2 : a < b) (hp : post) : vc_x_requireIndex (I a) (I b) post postX := by
  unfold vc_x_requireIndex
  simp (disch := omega) only [I_m1, I_m2, I_0, I_1, I_2, I_3, I_4, I_5, I_6, I_7, I_8, I_9, I_10, I_11, I_12, I_13, I_14, I_15, I_20, I_50, I_100, I_200, I_256, I_300, I_1000, I_2000, I_1048576, I_n1, I_n2, I_nat, I_add, I_sub, I_mul, I_le, I_lt, I_eq, I_cl, I_in, forall_eq, Int.not_le, Int.not_lt]
  exact ⟨fun h => by omega, fun _ => ⟨fun _ => hp, fun h => by omega⟩⟩
theorem q_index0 {a b : Int} {post : Prop} {postX : String → Prop} (ha : -2147483648 ≤ a) (ha' : a < 2147483648) (hb : -2147483648 ≤ b) (hb' : b < 2147483648) (h1 : ¬ (0 ≤ a ∧ a < b)) (hp : postX "java/lang/IndexOutOfBoundsException") : vc_x_requireIndex (I a) (I b) post postX := by
  unfold vc_x_requireIndex
  simp (disch := omega) only [I_m1, I_m2, I_0, I_1, I_2, I_3, I_4, I_5, I_6, I_7, I_8, I_9, I_10, I_11, I_12, I_13, I_14, I_15, I_20, I_50, I_100, I_200, I_256, I_300, I_1000, I_2000, I_1048576, I_n1, I_n2, I_nat, I_add, I_sub, I_mul, I_le, I_lt, I_eq, I_cl, I_in, forall_eq, Int.not_le, Int.not_lt]
  exact ⟨fun h => hp, fun _ => ⟨fun h => by omega, fun h => hp⟩⟩
theorem m_in1 {a b c : Int} {post : Int32 → Prop} (ha : -2147483648 ≤ a) (ha' : a < 2147483648) (hb : -2147483648 ≤ b) (hb' : b < 2147483648) (hc : -2147483648 ≤ c) (hc' : c < 2147483648) (h1 : b ≤ a) (h2 : a ≤ c) : vc_m_in (I a) (I b) (I c) post = post (I 1) := by
  unfold vc_m_in
  simp (disch := omega) only [I_m1, I_m2, I_0, I_1, I_2, I_3, I_4, I_5, I_6, I_7, I_8, I_9, I_10, I_11, I_12, I_13, I_14, I_15, I_20, I_50, I_100, I_200, I_256, I_300, I_1000, I_2000, I_1048576, I_n1, I_n2, I_nat, I_add, I_sub, I_mul, I_le, I_lt, I_eq, I_cl, I_in, forall_eq, Int.not_le, Int.not_lt]
  exact propext ⟨fun h => (h.2 h1).2 h2, fun h => ⟨fun h => by omega, fun _ => ⟨fun h => by omega, fun _ => h⟩⟩⟩
theorem m_in0 {a b c : Int} {post : Int32 → Prop} (ha : -2147483648 ≤ a) (ha' : a < 2147483648) (hb : -2147483648 ≤ b) (hb' : b < 2147483648) (hc : -2147483648 ≤ c) (hc' : c < 2147483648) (h1 : ¬ (b ≤ a ∧ a ≤ c)) : vc_m_in (I a) (I b) (I c) post = post (I 0) := by
  unfold vc_m_in
  simp (disch := omega) only [I_m1, I_m2, I_0, I_1, I_2, I_3, I_4, I_5, I_6, I_7, I_8, I_9, I_10, I_11, I_12, I_13, I_14, I_15, I_20, I_50, I_100, I_200, I_256, I_300, I_1000, I_2000, I_1048576, I_n1, I_n2, I_nat, I_add, I_sub, I_mul, I_le, I_lt, I_eq, I_cl, I_in, forall_eq, Int.not_le, Int.not_lt]
  refine propext ⟨fun h => ?_, fun h => ⟨fun _ => h, fun _ => ⟨fun _ => h, fun h => by omega⟩⟩⟩
  by_cases q : a < b
  · exact h.1 q
  · exact (h.2 (by omega)).1 (by omega)
theorem m_go1 {b c : Int32} {post : Int32 → Int32 → Prop} : vc_m_goes (I 0) b c post = post (I 0) (I 1) := by
  unfold vc_m_goes
  exact propext ⟨fun h => h.1 rfl, fun h => ⟨fun _ => h, fun q => absurd rfl q⟩⟩
theorem m_go2 {c : Int32} {post : Int32 → Int32 → Prop} : vc_m_goes (I 1) (I 0) c post = post (I 0) (I 2) := by
  unfold vc_m_goes
  exact propext ⟨fun h => (h.2 (by decide)).1 rfl, fun h => ⟨fun q => absurd q (by decide), fun _ => ⟨fun _ => h, fun q => absurd rfl q⟩⟩⟩
theorem m_go3 {post : Int32 → Int32 → Prop} : vc_m_goes (I 1) (I 1) (I 0) post = post (I 0) (I 3) := by
  unfold vc_m_goes
  exact propext ⟨fun h => ((h.2 (by decide)).2 (by decide)).1 rfl, fun h => ⟨fun q => absurd q (by decide), fun _ => ⟨fun q => absurd q (by decide), fun _ => ⟨fun _ => h, fun q => absurd rfl q⟩⟩⟩⟩
theorem m_go0 {post : Int32 → Int32 → Prop} : vc_m_goes (I 1) (I 1) (I 1) post = post (I 1) (I 0) := by
  unfold vc_m_goes
  exact propext ⟨fun h => ((h.2 (by decide)).2 (by decide)).2 (by decide), fun h => ⟨fun q => absurd q (by decide), fun _ => ⟨fun q => absurd q (by decide), fun _ => ⟨fun q => absurd q (by decide), fun _ => h⟩⟩⟩⟩
theorem i01 : (I 0 = I 0) = True := by simp
theorem i10 : (I 1 = I 0) = False := eq_false (by decide)
theorem j10 : ((1 : Int) = 0) = False := eq_false (by decide)
theorem j20 : ((2 : Int) = 0) = False := eq_false (by decide)
theorem j30 : ((3 : Int) = 0) = False := eq_false (by decide)
