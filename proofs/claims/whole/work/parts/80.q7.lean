/-! The pure layer: the reference's setting calls -/
theorem m_want1 {n : Int32} {a b c : Nat → Int32} {p q k : Int} {nn : Nat} {post : Int32 → Int32 → Int32 → (Nat → Int32) → (Nat → Int32) → (Nat → Int32) → Prop} (hn : n = I nn) (hn6 : nn ≤ 6) (p1 : -2147483648 ≤ p) (p2 : p < 2147483648) (q1 : -2147483648 ≤ q) (q2 : q < 2147483648) (k1 : -2147483648 ≤ k) (k2 : k < 2147483648) (h : ¬ (1 ≤ p ∧ p ≤ 200 ∧ p ≤ q ∧ q ≤ 200 ∧ 0 ≤ k ∧ k ≤ 9)) (hp : post (I 0) (I 1) n a b c) : vc_m_want n a b c (I p) (I q) (I k) post := by
  subst hn
  unfold vc_m_want
  by_cases h1 : 1 ≤ p ∧ p ≤ 200
  · by_cases h2 : p ≤ q ∧ q ≤ 200
    · by_cases h3 : 0 ≤ k ∧ k ≤ 9
      · omega
      · simp (disch := omega) only [I_m1, I_m2, I_0, I_1, I_2, I_3, I_4, I_5, I_6, I_7, I_8, I_9, I_10, I_11, I_12, I_13, I_14, I_15, I_20, I_50, I_100, I_200, I_256, I_300, I_1000, I_2000, I_1048576, I_n1, I_n2, I_nat, I_add, I_sub, I_mul, I_le, I_lt, I_eq, I_cl, I_in, forall_eq, Int.not_le, Int.not_lt, m_in1, m_in0, m_go1, m_go2, m_go3, m_go0, i01, i10, j10, j20, j30, eq_self, not_true_eq_false, not_false_eq_true, true_implies, false_implies, and_true, true_and, implies_true, Int.toNat_natCast]
        exact ⟨fun _ => hp, fun _ => hp⟩
    · simp (disch := omega) only [I_m1, I_m2, I_0, I_1, I_2, I_3, I_4, I_5, I_6, I_7, I_8, I_9, I_10, I_11, I_12, I_13, I_14, I_15, I_20, I_50, I_100, I_200, I_256, I_300, I_1000, I_2000, I_1048576, I_n1, I_n2, I_nat, I_add, I_sub, I_mul, I_le, I_lt, I_eq, I_cl, I_in, forall_eq, Int.not_le, Int.not_lt, m_in1, m_in0, m_go1, m_go2, m_go3, m_go0, i01, i10, j10, j20, j30, eq_self, not_true_eq_false, not_false_eq_true, true_implies, false_implies, and_true, true_and, implies_true, Int.toNat_natCast]
      exact ⟨fun _ => hp, fun _ => hp⟩
  · simp (disch := omega) only [I_m1, I_m2, I_0, I_1, I_2, I_3, I_4, I_5, I_6, I_7, I_8, I_9, I_10, I_11, I_12, I_13, I_14, I_15, I_20, I_50, I_100, I_200, I_256, I_300, I_1000, I_2000, I_1048576, I_n1, I_n2, I_nat, I_add, I_sub, I_mul, I_le, I_lt, I_eq, I_cl, I_in, forall_eq, Int.not_le, Int.not_lt, m_in1, m_in0, m_go1, m_go2, m_go3, m_go0, i01, i10, j10, j20, j30, eq_self, not_true_eq_false, not_false_eq_true, true_implies, false_implies, and_true, true_and, implies_true, Int.toNat_natCast]
    exact ⟨fun _ => hp, fun _ => hp⟩
theorem m_want2 {n : Int32} {a b c : Nat → Int32} {p q k : Int} {post : Int32 → Int32 → Int32 → (Nat → Int32) → (Nat → Int32) → (Nat → Int32) → Prop} (hn : n = I (6 : Nat)) (h1 : 1 ≤ p) (h2 : p ≤ 200) (h3 : p ≤ q) (h4 : q ≤ 200) (h5 : 0 ≤ k) (h6 : k ≤ 9) (hp : post (I 0) (I 2) n a b c) : vc_m_want n a b c (I p) (I q) (I k) post := by
  subst hn
  unfold vc_m_want
  simp (disch := omega) only [I_m1, I_m2, I_0, I_1, I_2, I_3, I_4, I_5, I_6, I_7, I_8, I_9, I_10, I_11, I_12, I_13, I_14, I_15, I_20, I_50, I_100, I_200, I_256, I_300, I_1000, I_2000, I_1048576, I_n1, I_n2, I_nat, I_add, I_sub, I_mul, I_le, I_lt, I_eq, I_cl, I_in, forall_eq, Int.not_le, Int.not_lt, m_in1, m_in0, m_go1, m_go2, m_go3, m_go0, i01, i10, j10, j20, j30, eq_self, not_true_eq_false, not_false_eq_true, true_implies, false_implies, and_true, true_and, implies_true, Int.toNat_natCast]
  exact ⟨fun _ => hp, fun h => by omega⟩
theorem m_want0 {n : Int32} {a b c : Nat → Int32} {p q k : Int} {nn : Nat} {post : Int32 → Int32 → Int32 → (Nat → Int32) → (Nat → Int32) → (Nat → Int32) → Prop} (hn : n = I nn) (hn6 : nn < 6) (h1 : 1 ≤ p) (h2 : p ≤ 200) (h3 : p ≤ q) (h4 : q ≤ 200) (h5 : 0 ≤ k) (h6 : k ≤ 9) (hp : post (I nn) (I 0) (I ((nn + 1 : Nat) : Int)) (upd a nn (I p)) (upd b nn (I q)) (upd c nn (I k))) : vc_m_want n a b c (I p) (I q) (I k) post := by
  subst hn
  unfold vc_m_want
  simp (disch := omega) only [I_m1, I_m2, I_0, I_1, I_2, I_3, I_4, I_5, I_6, I_7, I_8, I_9, I_10, I_11, I_12, I_13, I_14, I_15, I_20, I_50, I_100, I_200, I_256, I_300, I_1000, I_2000, I_1048576, I_n1, I_n2, I_nat, I_add, I_sub, I_mul, I_le, I_lt, I_eq, I_cl, I_in, forall_eq, Int.not_le, Int.not_lt, m_in1, m_in0, m_go1, m_go2, m_go3, m_go0, i01, i10, j10, j20, j30, eq_self, not_true_eq_false, not_false_eq_true, true_implies, false_implies, and_true, true_and, implies_true, Int.toNat_natCast]
  have e : (nn : Int) + 1 - 1 = nn := by omega
  rw [e]
  exact ⟨fun h => by omega, fun _ => ⟨by omega, by omega, by omega, hp⟩⟩
theorem m_bar1 {l e c f : Int32} {p q : Int} {post : Int32 → Int32 → Int32 → Int32 → Prop} (p1 : -2147483648 ≤ p) (p2 : p < 2147483648) (q1 : -2147483648 ≤ q) (q2 : q < 2147483648) (h : ¬ (1 ≤ p ∧ p ≤ 200 ∧ 0 ≤ q ∧ q ≤ 50)) (hp : post (I 1) l e f) : vc_m_bar l e c f (I p) (I q) post := by
  unfold vc_m_bar
  by_cases h1 : 1 ≤ p ∧ p ≤ 200
  · by_cases h2 : 0 ≤ q ∧ q ≤ 50
    · omega
    · simp (disch := omega) only [I_m1, I_m2, I_0, I_1, I_2, I_3, I_4, I_5, I_6, I_7, I_8, I_9, I_10, I_11, I_12, I_13, I_14, I_15, I_20, I_50, I_100, I_200, I_256, I_300, I_1000, I_2000, I_1048576, I_n1, I_n2, I_nat, I_add, I_sub, I_mul, I_le, I_lt, I_eq, I_cl, I_in, forall_eq, Int.not_le, Int.not_lt, m_in1, m_in0, m_go1, m_go2, m_go3, m_go0, i01, i10, j10, j20, j30, eq_self, not_true_eq_false, not_false_eq_true, true_implies, false_implies, and_true, true_and, implies_true, Int.toNat_natCast]
      exact hp
  · simp (disch := omega) only [I_m1, I_m2, I_0, I_1, I_2, I_3, I_4, I_5, I_6, I_7, I_8, I_9, I_10, I_11, I_12, I_13, I_14, I_15, I_20, I_50, I_100, I_200, I_256, I_300, I_1000, I_2000, I_1048576, I_n1, I_n2, I_nat, I_add, I_sub, I_mul, I_le, I_lt, I_eq, I_cl, I_in, forall_eq, Int.not_le, Int.not_lt, m_in1, m_in0, m_go1, m_go2, m_go3, m_go0, i01, i10, j10, j20, j30, eq_self, not_true_eq_false, not_false_eq_true, true_implies, false_implies, and_true, true_and, implies_true, Int.toNat_natCast]
    exact hp
theorem m_bar0 {l e c f : Int32} {p q : Int} {post : Int32 → Int32 → Int32 → Int32 → Prop} (h1 : 1 ≤ p) (h2 : p ≤ 200) (h3 : 0 ≤ q) (h4 : q ≤ 50) (hp : post (I 0) (I p) (I q) c) : vc_m_bar l e c f (I p) (I q) post := by
  unfold vc_m_bar
  simp (disch := omega) only [I_m1, I_m2, I_0, I_1, I_2, I_3, I_4, I_5, I_6, I_7, I_8, I_9, I_10, I_11, I_12, I_13, I_14, I_15, I_20, I_50, I_100, I_200, I_256, I_300, I_1000, I_2000, I_1048576, I_n1, I_n2, I_nat, I_add, I_sub, I_mul, I_le, I_lt, I_eq, I_cl, I_in, forall_eq, Int.not_le, Int.not_lt, m_in1, m_in0, m_go1, m_go2, m_go3, m_go0, i01, i10, j10, j20, j30, eq_self, not_true_eq_false, not_false_eq_true, true_implies, false_implies, and_true, true_and, implies_true, Int.toNat_natCast]
  exact hp
theorem m_crop1 {l e hd tl cu fi : Int32} {g : Nat → Int32} {p q : Int} {post : Int32 → Int32 → Int32 → Prop} (p1 : -2147483648 ≤ p) (p2 : p < 2147483648) (q1 : -2147483648 ≤ q) (q2 : q < 2147483648) (h : ¬ (0 ≤ p ∧ p ≤ 100 ∧ 0 ≤ q ∧ q ≤ 100)) (hp : post (I 1) hd tl) : vc_m_crop l e hd tl cu fi g (I p) (I q) post := by
  unfold vc_m_crop
  by_cases h1 : 0 ≤ p ∧ p ≤ 100
  · by_cases h2 : 0 ≤ q ∧ q ≤ 100
    · omega
    · simp (disch := omega) only [I_m1, I_m2, I_0, I_1, I_2, I_3, I_4, I_5, I_6, I_7, I_8, I_9, I_10, I_11, I_12, I_13, I_14, I_15, I_20, I_50, I_100, I_200, I_256, I_300, I_1000, I_2000, I_1048576, I_n1, I_n2, I_nat, I_add, I_sub, I_mul, I_le, I_lt, I_eq, I_cl, I_in, forall_eq, Int.not_le, Int.not_lt, m_in1, m_in0, m_go1, m_go2, m_go3, m_go0, i01, i10, j10, j20, j30, eq_self, not_true_eq_false, not_false_eq_true, true_implies, false_implies, and_true, true_and, implies_true, Int.toNat_natCast]
      exact hp
  · simp (disch := omega) only [I_m1, I_m2, I_0, I_1, I_2, I_3, I_4, I_5, I_6, I_7, I_8, I_9, I_10, I_11, I_12, I_13, I_14, I_15, I_20, I_50, I_100, I_200, I_256, I_300, I_1000, I_2000, I_1048576, I_n1, I_n2, I_nat, I_add, I_sub, I_mul, I_le, I_lt, I_eq, I_cl, I_in, forall_eq, Int.not_le, Int.not_lt, m_in1, m_in0, m_go1, m_go2, m_go3, m_go0, i01, i10, j10, j20, j30, eq_self, not_true_eq_false, not_false_eq_true, true_implies, false_implies, and_true, true_and, implies_true, Int.toNat_natCast]
    exact hp
theorem m_crop2 {ct : Nat → Nat} {g : Nat → Int32} {l e hd tl cuts first p q : Nat} {post : Int32 → Int32 → Int32 → Prop} (h1 : l ≤ 200) (h2 : e ≤ 200) (h3 : hd ≤ 100) (hc : cuts ≤ 300) (hf : first ≤ cuts) (hg : ∀ j < cuts, g j = I (ct j)) (hs : sSum ct first (cuts - first) ≤ 200) (hp1 : p ≤ 100) (hq1 : q ≤ 100)
    (h : (p ≠ hd ∧ first ≠ cuts) ∨ l - e - p - q < sSum ct first (cuts - first)) (hp : post (I 2) (I hd) (I tl)) : vc_m_crop (I l) (I e) (I hd) (I tl) (I cuts) (I first) g (I p) (I q) post := by
  unfold vc_m_crop
  simp (disch := omega) only [I_m1, I_m2, I_0, I_1, I_2, I_3, I_4, I_5, I_6, I_7, I_8, I_9, I_10, I_11, I_12, I_13, I_14, I_15, I_20, I_50, I_100, I_200, I_256, I_300, I_1000, I_2000, I_1048576, I_n1, I_n2, I_nat, I_add, I_sub, I_mul, I_le, I_lt, I_eq, I_cl, I_in, forall_eq, Int.not_le, Int.not_lt, m_in1, m_in0, m_go1, m_go2, m_go3, m_go0, i01, i10, j10, j20, j30, eq_self, not_true_eq_false, not_false_eq_true, true_implies, false_implies, and_true, true_and, implies_true, Int.toNat_natCast]
  refine ⟨fun q1 => q_taken hc hf hg (by omega) (q_mroom h1 h2 (by omega) (by omega) ?_), fun q1 => ⟨fun q2 => q_taken hc hf hg (by omega) (q_mroom h1 h2 (by omega) (by omega) ?_), fun _ => hp⟩⟩
  · simp (disch := omega) only [I_m1, I_m2, I_0, I_1, I_2, I_3, I_4, I_5, I_6, I_7, I_8, I_9, I_10, I_11, I_12, I_13, I_14, I_15, I_20, I_50, I_100, I_200, I_256, I_300, I_1000, I_2000, I_1048576, I_n1, I_n2, I_nat, I_add, I_sub, I_mul, I_le, I_lt, I_eq, I_cl, I_in, forall_eq, Int.not_le, Int.not_lt, m_in1, m_in0, m_go1, m_go2, m_go3, m_go0, i01, i10, j10, j20, j30, eq_self, not_true_eq_false, not_false_eq_true, true_implies, false_implies, and_true, true_and, implies_true, Int.toNat_natCast]
    exact ⟨fun _ => hp, fun q3 => by omega⟩
  · simp (disch := omega) only [I_m1, I_m2, I_0, I_1, I_2, I_3, I_4, I_5, I_6, I_7, I_8, I_9, I_10, I_11, I_12, I_13, I_14, I_15, I_20, I_50, I_100, I_200, I_256, I_300, I_1000, I_2000, I_1048576, I_n1, I_n2, I_nat, I_add, I_sub, I_mul, I_le, I_lt, I_eq, I_cl, I_in, forall_eq, Int.not_le, Int.not_lt, m_in1, m_in0, m_go1, m_go2, m_go3, m_go0, i01, i10, j10, j20, j30, eq_self, not_true_eq_false, not_false_eq_true, true_implies, false_implies, and_true, true_and, implies_true, Int.toNat_natCast]
    exact ⟨fun _ => hp, fun q3 => by omega⟩
theorem m_crop0 {ct : Nat → Nat} {g : Nat → Int32} {l e hd tl cuts first p q : Nat} {post : Int32 → Int32 → Int32 → Prop} (h1 : l ≤ 200) (h2 : e ≤ 200) (h3 : hd ≤ 100) (hc : cuts ≤ 300) (hf : first ≤ cuts) (hg : ∀ j < cuts, g j = I (ct j)) (hs : sSum ct first (cuts - first) ≤ 200) (hp1 : p ≤ 100) (hq1 : q ≤ 100)
    (h : p = hd ∨ first = cuts) (h' : sSum ct first (cuts - first) ≤ l - e - p - q) (hp : post (I 0) (I p) (I q)) : vc_m_crop (I l) (I e) (I hd) (I tl) (I cuts) (I first) g (I p) (I q) post := by
  unfold vc_m_crop
  simp (disch := omega) only [I_m1, I_m2, I_0, I_1, I_2, I_3, I_4, I_5, I_6, I_7, I_8, I_9, I_10, I_11, I_12, I_13, I_14, I_15, I_20, I_50, I_100, I_200, I_256, I_300, I_1000, I_2000, I_1048576, I_n1, I_n2, I_nat, I_add, I_sub, I_mul, I_le, I_lt, I_eq, I_cl, I_in, forall_eq, Int.not_le, Int.not_lt, m_in1, m_in0, m_go1, m_go2, m_go3, m_go0, i01, i10, j10, j20, j30, eq_self, not_true_eq_false, not_false_eq_true, true_implies, false_implies, and_true, true_and, implies_true, Int.toNat_natCast]
  refine ⟨fun q1 => q_taken hc hf hg (by omega) (q_mroom h1 h2 (by omega) (by omega) ?_), fun q1 => ⟨fun q2 => q_taken hc hf hg (by omega) (q_mroom h1 h2 (by omega) (by omega) ?_), fun q2 => by omega⟩⟩
  · simp (disch := omega) only [I_m1, I_m2, I_0, I_1, I_2, I_3, I_4, I_5, I_6, I_7, I_8, I_9, I_10, I_11, I_12, I_13, I_14, I_15, I_20, I_50, I_100, I_200, I_256, I_300, I_1000, I_2000, I_1048576, I_n1, I_n2, I_nat, I_add, I_sub, I_mul, I_le, I_lt, I_eq, I_cl, I_in, forall_eq, Int.not_le, Int.not_lt, m_in1, m_in0, m_go1, m_go2, m_go3, m_go0, i01, i10, j10, j20, j30, eq_self, not_true_eq_false, not_false_eq_true, true_implies, false_implies, and_true, true_and, implies_true, Int.toNat_natCast]
    exact ⟨fun _ => by omega, fun q3 => hp⟩
  · simp (disch := omega) only [I_m1, I_m2, I_0, I_1, I_2, I_3, I_4, I_5, I_6, I_7, I_8, I_9, I_10, I_11, I_12, I_13, I_14, I_15, I_20, I_50, I_100, I_200, I_256, I_300, I_1000, I_2000, I_1048576, I_n1, I_n2, I_nat, I_add, I_sub, I_mul, I_le, I_lt, I_eq, I_cl, I_in, forall_eq, Int.not_le, Int.not_lt, m_in1, m_in0, m_go1, m_go2, m_go3, m_go0, i01, i10, j10, j20, j30, eq_self, not_true_eq_false, not_false_eq_true, true_implies, false_implies, and_true, true_and, implies_true, Int.toNat_natCast]
    exact ⟨fun _ => by omega, fun q3 => hp⟩
theorem m_known1 {l e hd tl cu fi : Int32} {g : Nat → Int32} {p : Int} {post : Int32 → Int32 → Int32 → Prop} (p1 : -2147483648 ≤ p) (p2 : p < 2147483648) (h : ¬ (1 ≤ p ∧ p ≤ 200)) (hp : post (I 1) l e) : vc_m_known l e hd tl cu fi g (I p) post := by
  unfold vc_m_known
  simp (disch := omega) only [I_m1, I_m2, I_0, I_1, I_2, I_3, I_4, I_5, I_6, I_7, I_8, I_9, I_10, I_11, I_12, I_13, I_14, I_15, I_20, I_50, I_100, I_200, I_256, I_300, I_1000, I_2000, I_1048576, I_n1, I_n2, I_nat, I_add, I_sub, I_mul, I_le, I_lt, I_eq, I_cl, I_in, forall_eq, Int.not_le, Int.not_lt, m_in1, m_in0, m_go1, m_go2, m_go3, m_go0, i01, i10, j10, j20, j30, eq_self, not_true_eq_false, not_false_eq_true, true_implies, false_implies, and_true, true_and, implies_true, Int.toNat_natCast]
  exact hp
theorem m_known20 {ct : Nat → Nat} {g : Nat → Int32} {l e : Int32} {hd tl cuts first p : Nat} {post : Int32 → Int32 → Int32 → Prop} (h3 : hd ≤ 100) (h4 : tl ≤ 100) (hc : cuts ≤ 300) (hf : first ≤ cuts) (hg : ∀ j < cuts, g j = I (ct j)) (hs : sSum ct first (cuts - first) ≤ 200) (h1 : 1 ≤ p) (h2 : p ≤ 200)
    (hb : p - 0 - hd - tl < sSum ct first (cuts - first) → post (I 2) l e) (ho : sSum ct first (cuts - first) ≤ p - 0 - hd - tl → post (I 0) (I p) (I 0)) : vc_m_known l e (I hd) (I tl) (I cuts) (I first) g (I p) post := by
  unfold vc_m_known
  simp (disch := omega) only [I_m1, I_m2, I_0, I_1, I_2, I_3, I_4, I_5, I_6, I_7, I_8, I_9, I_10, I_11, I_12, I_13, I_14, I_15, I_20, I_50, I_100, I_200, I_256, I_300, I_1000, I_2000, I_1048576, I_n1, I_n2, I_nat, I_add, I_sub, I_mul, I_le, I_lt, I_eq, I_cl, I_in, forall_eq, Int.not_le, Int.not_lt, m_in1, m_in0, m_go1, m_go2, m_go3, m_go0, i01, i10, j10, j20, j30, eq_self, not_true_eq_false, not_false_eq_true, true_implies, false_implies, and_true, true_and, implies_true, Int.toNat_natCast]
  refine q_taken hc hf hg (by omega) (q_mroom (e := 0) h2 (by omega) (by omega) (by omega) ?_)
  simp (disch := omega) only [I_m1, I_m2, I_0, I_1, I_2, I_3, I_4, I_5, I_6, I_7, I_8, I_9, I_10, I_11, I_12, I_13, I_14, I_15, I_20, I_50, I_100, I_200, I_256, I_300, I_1000, I_2000, I_1048576, I_n1, I_n2, I_nat, I_add, I_sub, I_mul, I_le, I_lt, I_eq, I_cl, I_in, forall_eq, Int.not_le, Int.not_lt, m_in1, m_in0, m_go1, m_go2, m_go3, m_go0, i01, i10, j10, j20, j30, eq_self, not_true_eq_false, not_false_eq_true, true_implies, false_implies, and_true, true_and, implies_true, Int.toNat_natCast]
  exact ⟨fun h => hb (by omega), fun h => ho (by omega)⟩
