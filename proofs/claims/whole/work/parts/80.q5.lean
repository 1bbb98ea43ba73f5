/-! The pure layer: sums, rooms, the walk through the table -/
def sSum (f : Nat → Nat) : Nat → Nat → Nat
  | _, 0 => 0
  | a, k + 1 => f a + sSum f (a + 1) k
theorem sSum_snoc (f : Nat → Nat) : ∀ (k a : Nat), sSum f a (k + 1) = sSum f a k + f (a + k) := by
  intro k
  induction k with
  | zero => intro a; simp [sSum]
  | succ k ih =>
    intro a
    have h1 : sSum f a (k + 1 + 1) = f a + sSum f (a + 1) (k + 1) := rfl
    have h2 : sSum f a (k + 1) = f a + sSum f (a + 1) k := rfl
    rw [h1, ih (a + 1), h2, show a + 1 + k = a + (k + 1) by omega]; omega
theorem sSum_mono (f : Nat → Nat) (a k : Nat) : ∀ d, sSum f a k ≤ sSum f a (k + d) := by
  intro d
  induction d with
  | zero => exact Nat.le_refl _
  | succ d ih => rw [show k + (d + 1) = (k + d) + 1 by omega, sSum_snoc]; omega
theorem sSum_congr {f g : Nat → Nat} : ∀ (k a : Nat), (∀ j, a ≤ j → j < a + k → f j = g j) → sSum f a k = sSum g a k := by
  intro k
  induction k with
  | zero => intro a _; rfl
  | succ k ih => intro a h; unfold sSum; rw [h a (by omega) (by omega), ih (a + 1) (fun j h1 h2 => h j (by omega) (by omega))]
theorem q_taken7 {ct : Nat → Nat} {g : Nat → Int32} {cuts : Nat} {post : Int32 → Prop} (hc : cuts ≤ 300) (hg : ∀ j < cuts, g j = I (ct j)) :
    ∀ (k i acc : Nat), i + k = cuts → acc + sSum ct i k ≤ 100000 → post (I ((acc + sSum ct i k : Nat) : Int)) → vc_m_taken_L7 (I cuts) g post (k + 1) (I acc) (I i) := by
  intro k
  induction k with
  | zero =>
    intro i acc hk hs hp
    unfold vc_m_taken_L7
    simp (disch := omega) only [I_m1, I_m2, I_0, I_1, I_2, I_3, I_4, I_5, I_6, I_7, I_8, I_9, I_10, I_11, I_12, I_13, I_14, I_15, I_20, I_50, I_100, I_200, I_256, I_300, I_1000, I_2000, I_1048576, I_n1, I_n2, I_nat, I_add, I_sub, I_mul, I_le, I_lt, I_eq, I_cl, I_in, forall_eq, Int.not_le, Int.not_lt]
    refine ⟨fun _ => ?_, fun h => by omega⟩
    simpa [sSum] using hp
  | succ k ih =>
    intro i acc hk hs hp
    unfold vc_m_taken_L7
    simp (disch := omega) only [I_m1, I_m2, I_0, I_1, I_2, I_3, I_4, I_5, I_6, I_7, I_8, I_9, I_10, I_11, I_12, I_13, I_14, I_15, I_20, I_50, I_100, I_200, I_256, I_300, I_1000, I_2000, I_1048576, I_n1, I_n2, I_nat, I_add, I_sub, I_mul, I_le, I_lt, I_eq, I_cl, I_in, forall_eq, Int.not_le, Int.not_lt, Int.toNat_natCast, hg i (by omega)]
    refine ⟨fun h => by omega, fun h => ⟨by omega, ?_⟩⟩
    have e : sSum ct i (k + 1) = ct i + sSum ct (i + 1) k := rfl
    rw [e] at hs hp
    exact ih (i + 1) (acc + ct i) (by omega) (by omega) (by rw [show acc + ct i + sSum ct (i + 1) k = acc + (ct i + sSum ct (i + 1) k) by omega]; exact hp)
theorem q_taken {ct : Nat → Nat} {g : Nat → Int32} {cuts first : Nat} {post : Int32 → Prop} (hc : cuts ≤ 300) (hf : first ≤ cuts) (hg : ∀ j < cuts, g j = I (ct j)) (hs : sSum ct first (cuts - first) ≤ 100000) (hp : post (I (sSum ct first (cuts - first) : Nat))) : vc_m_taken (I cuts) (I first) g post := by
  unfold vc_m_taken
  refine ⟨_, q_taken7 hc hg (cuts - first) first 0 (by omega) (by omega) ?_⟩
  rw [Nat.zero_add]; exact hp
theorem q_mroom {l e h t : Nat} {post : Int32 → Prop} (h1 : l ≤ 200) (h2 : e ≤ 200) (h3 : h ≤ 200) (h4 : t ≤ 200) (hp : post (I ((l - e - h - t : Nat) : Int))) : vc_m_room (I l) (I e) (I h) (I t) post := by
  unfold vc_m_room
  simp (disch := omega) only [I_m1, I_m2, I_0, I_1, I_2, I_3, I_4, I_5, I_6, I_7, I_8, I_9, I_10, I_11, I_12, I_13, I_14, I_15, I_20, I_50, I_100, I_200, I_256, I_300, I_1000, I_2000, I_1048576, I_n1, I_n2, I_nat, I_add, I_sub, I_mul, I_le, I_lt, I_eq, I_cl, I_in, forall_eq, Int.not_le, Int.not_lt]
  refine ⟨fun q => ?_, fun q => ?_⟩
  · rw [show ((l - e - h - t : Nat) : Int) = 0 by omega] at hp; exact hp
  · rw [show ((l - e - h - t : Nat) : Int) = (l : Int) - e - h - t by omega] at hp; exact hp
theorem q_mleft {ct : Nat → Nat} {g : Nat → Int32} {l e h t cuts first : Nat} {post : Int32 → Prop} (h1 : l ≤ 200) (h2 : e ≤ 200) (h3 : h ≤ 200) (h4 : t ≤ 200) (hc : cuts ≤ 300) (hf : first ≤ cuts) (hg : ∀ j < cuts, g j = I (ct j)) (hs : sSum ct first (cuts - first) ≤ l - e - h - t) (hp : post (I ((l - e - h - t - sSum ct first (cuts - first) : Nat) : Int))) : vc_m_left (I l) (I e) (I h) (I t) (I cuts) (I first) g post := by
  unfold vc_m_left
  refine q_mroom h1 h2 h3 h4 (q_taken hc hf hg (by omega) ?_)
  rw [I_sub]
  rw [show ((l - e - h - t - sSum ct first (cuts - first) : Nat) : Int) = ((l - e - h - t : Nat) : Int) - (sSum ct first (cuts - first) : Nat) by omega] at hp
  exact hp
theorem q_roomOf {l e h t : Nat} {post : Int32 → Prop} (h1 : l ≤ 200) (h2 : e ≤ 200) (h3 : h ≤ 200) (h4 : t ≤ 200) (hp : post (I ((l - e - h - t : Nat) : Int))) : vc_b_roomOf (I l) (I e) (I h) (I t) post := by
  unfold vc_b_roomOf
  simp (disch := omega) only [I_m1, I_m2, I_0, I_1, I_2, I_3, I_4, I_5, I_6, I_7, I_8, I_9, I_10, I_11, I_12, I_13, I_14, I_15, I_20, I_50, I_100, I_200, I_256, I_300, I_1000, I_2000, I_1048576, I_n1, I_n2, I_nat, I_add, I_sub, I_mul, I_le, I_lt, I_eq, I_cl, I_in, forall_eq, Int.not_le, Int.not_lt]
  by_cases q : (0 : Int) < (l : Int) - e - h - t
  · rw [if_pos q]; rw [show ((l - e - h - t : Nat) : Int) = (l : Int) - e - h - t by omega] at hp; exact hp
  · rw [if_neg q]; rw [show ((l - e - h - t : Nat) : Int) = 0 by omega] at hp; exact hp
/-- what is left behind k pieces -/
def lft (T : Nat → dE) : Nat → Nat → Nat
  | L, 0 => L
  | L, k + 1 => lft T (L - (dst (T L)).toNat) k
theorem lft_succ (T : Nat → dE) : ∀ (k L : Nat), lft T L (k + 1) = lft T L k - (dst (T (lft T L k))).toNat := by
  intro k
  induction k with
  | zero => intro L; rfl
  | succ k ih => intro L; show lft T (L - (dst (T L)).toNat) (k + 1) = _; rw [ih]; rfl
theorem dOk_pos {n : Nat} {T : Nat → dE} {r : Nat} {e : dE} (h : dOk n T r e) (hm : 0 < dmn e) : 0 ≤ dnx e := by
  obtain ⟨h1, h2, h3, h4, h5, h6, h7, h8, h9, h10⟩ := h
  by_cases hx : dnx e = -1
  · have := (h9 hx).2.2.1; omega
  · omega
theorem dOk_zero {n : Nat} {T : Nat → dE} {r : Nat} (hT : ∀ j, dOk n T j (T j)) (hm : dmn (T r) = 0) : dnx (T r) = -1 := by
  obtain ⟨h1, h2, h3, h4, h5, h6, h7, h8, h9, h10⟩ := hT r
  by_cases hx : 0 ≤ dnx (T r)
  · have h := h10 hx
    have g := (hT (r - (dst (T r)).toNat)).2.2.1
    omega
  · omega
theorem lft_ok {n : Nat} {T : Nat → dE} (hT : ∀ j, dOk n T j (T j)) : ∀ (k L : Nat), (k : Int) ≤ dmn (T L) → dmn (T (lft T L k)) = dmn (T L) - k ∧ dlo (T (lft T L k)) = dlo (T L) ∧ lft T L k + k ≤ L := by
  intro k
  induction k with
  | zero => intro L _; refine ⟨?_, rfl, Nat.le_refl _⟩; show dmn (T L) = _; omega
  | succ k ih =>
    intro L h
    have hx := dOk_pos (hT L) (by omega)
    have h10 := (hT L).2.2.2.2.2.2.2.2.2 hx
    have := ih (L - (dst (T L)).toNat) (by omega)
    show dmn (T (lft T (L - (dst (T L)).toNat) k)) = _ ∧ dlo (T (lft T (L - (dst (T L)).toNat) k)) = _ ∧ lft T (L - (dst (T L)).toNat) k + (k + 1) ≤ L
    refine ⟨?_, ?_, ?_⟩ <;> omega
def pL (T : Nat → dE) (w b s : Nat → Int32) (k bg L m : Nat) : Prop := ∀ i < m, w (k + i) = I (dnx (T (lft T L i))) ∧ b (k + i) = I ((bg + (L - lft T L i) : Nat) : Int) ∧ s (k + i) = I (dst (T (lft T L i)))
theorem q_numberAt {n : Nat} {f : Nat → Int32} {i : Nat} {post : Int32 → Prop} (hn : n ≤ 1000) (hi : i < n) (hp : post (f i)) : vc_x_numberAt n f (I i) post := by
  unfold vc_x_numberAt
  simp (disch := omega) only [I_m1, I_m2, I_0, I_1, I_2, I_3, I_4, I_5, I_6, I_7, I_8, I_9, I_10, I_11, I_12, I_13, I_14, I_15, I_20, I_50, I_100, I_200, I_256, I_300, I_1000, I_2000, I_1048576, I_n1, I_n2, I_nat, I_add, I_sub, I_mul, I_le, I_lt, I_eq, I_cl, I_in, forall_eq, Int.not_le, Int.not_lt, Int.toNat_natCast]
  exact ⟨fun h => by omega, fun _ => ⟨fun _ => ⟨by omega, hp⟩, fun h => by omega⟩⟩
/-- the rows that the walk reads -/
def cF (fw fs : Nat → Int32) (T : Nat → dE) : Prop := ∀ j < 201, fs j = I (dst (T j)) ∧ (0 ≤ dnx (T j) → fw j = I (dnx (T j)))
theorem q_planL {n : Nat} {T : Nat → dE} {fw fs : Nat → Int32} {post : Int32 → Int32 → (Nat → Int32) → (Nat → Int32) → (Nat → Int32) → Prop} (hn : n ≤ 6) (hT : ∀ j, dOk n T j (T j)) (hC : cF fw fs T) :
    ∀ (m L bg k : Nat) (w b s : Nat → Int32), dmn (T L) = m → k + L ≤ 200 → bg + L ≤ 1000 →
    (∀ w' b' s', (∀ j < k, w' j = w j ∧ b' j = b j ∧ s' j = s j) → pL T w' b' s' k bg L m → post (I ((k + m : Nat) : Int)) (I (dlo (T L))) w' b' s') →
    vc_b_planRest_L49 fw fs post (m + 1) (I L) (I bg) (I k) (I k) w b s := by
  intro m
  induction m with
  | zero =>
    intro L bg k w b s hm hk hb hp
    have hx := dOk_zero hT hm
    have h9 := (hT L).2.2.2.2.2.2.2.2.1 hx
    have hp := hp w b s (fun j _ => ⟨rfl, rfl, rfl⟩) (fun i hi => by omega)
    rw [h9.2.1] at hp
    unfold vc_b_planRest_L49
    simp (disch := omega) only [I_m1, I_m2, I_0, I_1, I_2, I_3, I_4, I_5, I_6, I_7, I_8, I_9, I_10, I_11, I_12, I_13, I_14, I_15, I_20, I_50, I_100, I_200, I_256, I_300, I_1000, I_2000, I_1048576, I_n1, I_n2, I_nat, I_add, I_sub, I_mul, I_le, I_lt, I_eq, I_cl, I_in, forall_eq, Int.not_le, Int.not_lt]
    refine ⟨fun _ => hp, fun _ => q_numberAt (by omega) (by omega) ?_⟩
    rw [(hC L (by omega)).1, h9.1]
    simp (disch := omega) only [I_m1, I_m2, I_0, I_1, I_2, I_3, I_4, I_5, I_6, I_7, I_8, I_9, I_10, I_11, I_12, I_13, I_14, I_15, I_20, I_50, I_100, I_200, I_256, I_300, I_1000, I_2000, I_1048576, I_n1, I_n2, I_nat, I_add, I_sub, I_mul, I_le, I_lt, I_eq, I_cl, I_in, forall_eq, Int.not_le, Int.not_lt]
    exact ⟨fun h => by omega, fun _ => hp⟩
  | succ m ih =>
    intro L bg k w b s hm hk hb hp
    have hx := dOk_pos (hT L) (by omega)
    have h8 := (hT L).2.2.2.2.2.2.2.1
    have h10 := (hT L).2.2.2.2.2.2.2.2.2 hx
    unfold vc_b_planRest_L49
    simp (disch := omega) only [I_m1, I_m2, I_0, I_1, I_2, I_3, I_4, I_5, I_6, I_7, I_8, I_9, I_10, I_11, I_12, I_13, I_14, I_15, I_20, I_50, I_100, I_200, I_256, I_300, I_1000, I_2000, I_1048576, I_n1, I_n2, I_nat, I_add, I_sub, I_mul, I_le, I_lt, I_eq, I_cl, I_in, forall_eq, Int.not_le, Int.not_lt]
    refine ⟨fun h => by omega, fun _ => q_numberAt (by omega) (by omega) ?_⟩
    rw [(hC L (by omega)).1]
    simp (disch := omega) only [I_m1, I_m2, I_0, I_1, I_2, I_3, I_4, I_5, I_6, I_7, I_8, I_9, I_10, I_11, I_12, I_13, I_14, I_15, I_20, I_50, I_100, I_200, I_256, I_300, I_1000, I_2000, I_1048576, I_n1, I_n2, I_nat, I_add, I_sub, I_mul, I_le, I_lt, I_eq, I_cl, I_in, forall_eq, Int.not_le, Int.not_lt]
    refine ⟨fun _ => q_numberAt (by omega) (by omega) ?_, fun h => by omega⟩
    rw [(hC L (by omega)).2 hx]
    simp (disch := omega) only [I_m1, I_m2, I_0, I_1, I_2, I_3, I_4, I_5, I_6, I_7, I_8, I_9, I_10, I_11, I_12, I_13, I_14, I_15, I_20, I_50, I_100, I_200, I_256, I_300, I_1000, I_2000, I_1048576, I_n1, I_n2, I_nat, I_add, I_sub, I_mul, I_le, I_lt, I_eq, I_cl, I_in, forall_eq, Int.not_le, Int.not_lt, Int.toNat_natCast]
    refine ⟨by omega, by omega, by omega, ?_⟩
    have e1 : (L : Int) - dst (T L) = ((L - (dst (T L)).toNat : Nat) : Int) := by omega
    have e2 : (bg : Int) + dst (T L) = ((bg + (dst (T L)).toNat : Nat) : Int) := by omega
    have e3 : (k : Int) + 1 = ((k + 1 : Nat) : Int) := by omega
    rw [e1, e2, e3]
    refine ih (L - (dst (T L)).toNat) (bg + (dst (T L)).toNat) (k + 1) _ _ _ (by omega) (by omega) (by omega) ?_
    intro w' b' s' hlow hpl
    rw [show k + 1 + m = k + (m + 1) by omega, ← h10.2.2.1]
    refine hp w' b' s' ?_ ?_
    · intro j hj
      have := hlow j (by omega)
      rw [upd_ne _ _ (by omega), upd_ne _ _ (by omega), upd_ne _ _ (by omega)] at this
      exact this
    · intro i hi
      cases i with
      | zero =>
        have := hlow k (by omega)
        rw [upd_same, upd_same, upd_same] at this
        refine ⟨this.1, ?_, this.2.2⟩
        rw [Nat.add_zero, this.2.1]
        show I (bg : Int) = I ((bg + (L - L) : Nat) : Int)
        rw [Nat.sub_self]; rfl
      | succ i =>
        have := hpl i (by omega)
        rw [show k + (i + 1) = k + 1 + i by omega]
        have hle := (lft_ok hT i (L - (dst (T L)).toNat) (by omega)).2.2
        refine ⟨this.1, ?_, this.2.2⟩
        rw [this.2.1]
        show I _ = I ((bg + (L - lft T (L - (dst (T L)).toNat) i) : Nat) : Int)
        exact congrArg I (by omega)
