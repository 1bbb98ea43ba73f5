/-! The pure layer: the reference's table -/
def mR (l k m x t : Nat → Int32) (T : Nat → dE) (R : Nat) (e : dE) : Prop :=
  (∀ j < R, l j = I (dlo (T j)) ∧ k j = I (drk (T j)) ∧ m j = I (dmn (T j)) ∧ x j = I (dnx (T j)) ∧ (0 ≤ dnx (T j) → t j = I (dst (T j)))) ∧ l R = I (dlo e) ∧ k R = I (drk e) ∧ m R = I (dmn e) ∧ x R = I (dnx e) ∧ (0 ≤ dnx e → t R = I (dst e))
def mT (l k m x t : Nat → Int32) (T : Nat → dE) (R : Nat) : Prop :=
  ∀ j < R, l j = I (dlo (T j)) ∧ k j = I (drk (T j)) ∧ m j = I (dmn (T j)) ∧ x j = I (dnx (T j)) ∧ (0 ≤ dnx (T j) → t j = I (dst (T j)))
theorem q_better {l k m : Nat → Int32} {r n : Nat} {T : Nat → dE} {e : dE} {a b c : Int} {post : Int32 → Prop} (hr : r ≤ 200) (he : dOk n T r e) (h1 : l r = I (dlo e)) (h2 : k r = I (drk e)) (h3 : m r = I (dmn e)) (ha : 0 ≤ a) (ha' : a ≤ 200) (hb : 0 ≤ b) (hb' : b ≤ 2000) (hc : 0 ≤ c) (hc' : c ≤ 300)
    (hy : dBet a b c e → post 1) (hn : ¬ dBet a b c e → post 0) : vc_m_isBetter l k m (I r) (I a) (I b) (I c) post := by
  obtain ⟨g1, g2, g3, g4, g5, g6, -⟩ := he
  unfold vc_m_isBetter
  unfold dBet at hy hn
  simp (disch := omega) only [I_cl, I_in, Int.toNat_natCast, h1, h2, h3, I_eq, I_le]
  have hx : (0 : Int) ≤ r ∧ (r : Int) < (201 : Nat) := by omega
  refine ⟨hx, fun q1 => ⟨hx, fun q2 => ⟨hx, fun q3 => hn (by omega), fun q3 => hy (by omega)⟩, fun q2 => ⟨hx, fun q3 => hn (by omega), fun q3 => hy (by omega)⟩⟩, fun q1 => ⟨hx, fun q3 => hn (by omega), fun q3 => hy (by omega)⟩⟩
theorem q_plan58 {n : Nat} {T : Nat → dE} {lw hg rn : Nat → Nat} {a b d : Nat → Int32} {r w : Nat} {K : Int32 → (Nat → Int32) → (Nat → Int32) → (Nat → Int32) → (Nat → Int32) → (Nat → Int32) → Prop} (hr : r ≤ 200) (hw : w < n) (hn : n ≤ 6) (hW : dW n lw hg rn) (hC : cW n a b d lw hg rn) (hT : ∀ j < r, dOk n T j (T j)) :
    ∀ (c s : Nat) (e : dE) (l k m x t : Nat → Int32), min (hg w) r + 1 - s = c → 1 ≤ s → s ≤ 201 → dOk n T r e → mR l k m x t T r e →
    (∀ l' k' m' x' t', mR l' k' m' x' t' T r (dIn T r w (rn w) c s e) → K (I ((w : Int) + 1)) l' k' m' x' t') →
    vc_m_plan_L58 b d (I w) (I r) K (c + 1) (I s) l k m x t := by
  have hw1 := hW w hw
  have hw2 := hC w hw
  intro c
  induction c with
  | zero =>
    intro s e l k m x t hc h1 h2 he hR hp
    unfold vc_m_plan_L58
    simp (disch := omega) only [I_m1, I_m2, I_0, I_1, I_2, I_3, I_4, I_5, I_6, I_7, I_8, I_9, I_10, I_11, I_12, I_13, I_14, I_15, I_20, I_50, I_100, I_200, I_256, I_300, I_1000, I_2000, I_1048576, I_n1, I_n2, I_nat, I_add, I_sub, I_mul, I_le, I_lt, I_eq, I_cl, I_in, forall_eq, Int.not_le, Int.not_lt, Int.toNat_natCast, hw2.2.1]
    refine ⟨by omega, fun _ => hp _ _ _ _ _ hR, fun h => ⟨fun _ => hp _ _ _ _ _ hR, fun h => by omega⟩⟩
  | succ c ih =>
    intro s e l k m x t hc h1 h2 he hR hp
    unfold vc_m_plan_L58
    have hx := hR.1 (r - s) (by omega)
    have ho := hT (r - s) (by omega)
    obtain ⟨o1, o2, o3, o4, o5, o6, -⟩ := id ho
    have e1 : ((r : Int) - s).toNat = r - s := by omega
    simp (disch := omega) only [I_m1, I_m2, I_0, I_1, I_2, I_3, I_4, I_5, I_6, I_7, I_8, I_9, I_10, I_11, I_12, I_13, I_14, I_15, I_20, I_50, I_100, I_200, I_256, I_300, I_1000, I_2000, I_1048576, I_n1, I_n2, I_nat, I_add, I_sub, I_mul, I_le, I_lt, I_eq, I_cl, I_in, forall_eq, Int.not_le, Int.not_lt, Int.toNat_natCast, hw2.2.1, hw2.2.2, e1, hx.1, hx.2.1, hx.2.2.1]
    have hz : (0 : Int) ≤ r - s ∧ (r : Int) - s < (201 : Nat) := by omega
    have hz2 : (0 : Int) ≤ w ∧ (w : Int) < (6 : Nat) := by omega
    have hz3 : (0 : Int) ≤ r ∧ (r : Int) < (201 : Nat) := by omega
    refine ⟨hz2, fun h => by omega, fun h => ⟨fun h => by omega, fun h => ⟨hz, hz, hz2, hz, ?_⟩⟩⟩
    refine q_better (n := n) (T := T) hr he hR.2.1 hR.2.2.1 hR.2.2.2.1 o1 (by omega) (by omega) (by omega) (by omega) (by omega) ?_ ?_
    · intro hb
      have hd : dStep T r w (rn w) e s = (dlo (T (r - s)), drk (T (r - s)) + (rn w : Nat), dmn (T (r - s)) + 1, (w : Int), (s : Int)) := by unfold dStep; rw [if_pos hb]
      have hok := dStep_ok (k := rn w) (e := e) h1 (by omega) hw hw1.2.2.2 hT he
      rw [hd] at hok
      refine ⟨fun h => absurd h (by decide), fun _ => ⟨hz, hz3, hz, hz2, hz3, hz, hz3, hz3, hz3, ?_⟩⟩
      refine ih (s + 1) _ _ _ _ _ _ (by omega) (by omega) (by omega) hok ?_ ?_
      · refine ⟨fun j hj => ?_, ?_, ?_, ?_, ?_, ?_⟩
        · rw [upd_ne _ _ (by omega), upd_ne _ _ (by omega), upd_ne _ _ (by omega), upd_ne _ _ (by omega), upd_ne _ _ (by omega)]; exact hR.1 j hj
        · rw [upd_same]; rfl
        · rw [upd_same]; rfl
        · rw [upd_same]; rfl
        · rw [upd_same]; rfl
        · intro _; rw [upd_same]; rfl
      · intro l' k' m' x' t' h9
        refine hp _ _ _ _ _ ?_
        unfold dIn; rw [hd]; exact h9
    · intro hb
      have hd : dStep T r w (rn w) e s = e := by unfold dStep; rw [if_neg hb]
      refine ⟨fun _ => ?_, fun h => absurd rfl h⟩
      refine ih (s + 1) e l k m x t (by omega) (by omega) (by omega) he hR ?_
      intro l' k' m' x' t' h9
      refine hp _ _ _ _ _ ?_
      unfold dIn; rw [hd]; exact h9
theorem q_plan42 {n : Nat} {T : Nat → dE} {lw hg rn : Nat → Nat} {a b d : Nat → Int32} {r : Nat} {K : Int32 → (Nat → Int32) → (Nat → Int32) → (Nat → Int32) → (Nat → Int32) → (Nat → Int32) → Prop} (hr : r ≤ 200) (hn : n ≤ 6) (hW : dW n lw hg rn) (hC : cW n a b d lw hg rn) (hT : ∀ j < r, dOk n T j (T j)) :
    ∀ (c w : Nat) (e : dE) (l k m x t : Nat → Int32), w + c = n → dOk n T r e → mR l k m x t T r e →
    (∀ l' k' m' x' t', mR l' k' m' x' t' T r (dMid lw hg rn T r c w e) → K (I ((r : Int) + 1)) l' k' m' x' t') →
    vc_m_plan_L42 (I n) a b d (I r) K (c + 1) (I w) l k m x t := by
  intro c
  induction c with
  | zero =>
    intro w e l k m x t hc he hR hp
    unfold vc_m_plan_L42
    simp (disch := omega) only [I_m1, I_m2, I_0, I_1, I_2, I_3, I_4, I_5, I_6, I_7, I_8, I_9, I_10, I_11, I_12, I_13, I_14, I_15, I_20, I_50, I_100, I_200, I_256, I_300, I_1000, I_2000, I_1048576, I_n1, I_n2, I_nat, I_add, I_sub, I_mul, I_le, I_lt, I_eq, I_cl, I_in, forall_eq, Int.not_le, Int.not_lt]
    exact ⟨fun _ => hp _ _ _ _ _ hR, fun h => by omega⟩
  | succ c ih =>
    intro w e l k m x t hc he hR hp
    unfold vc_m_plan_L42
    have h1 := hW w (by omega)
    have h2 := hC w (by omega)
    simp (disch := omega) only [I_m1, I_m2, I_0, I_1, I_2, I_3, I_4, I_5, I_6, I_7, I_8, I_9, I_10, I_11, I_12, I_13, I_14, I_15, I_20, I_50, I_100, I_200, I_256, I_300, I_1000, I_2000, I_1048576, I_n1, I_n2, I_nat, I_add, I_sub, I_mul, I_le, I_lt, I_eq, I_cl, I_in, forall_eq, Int.not_le, Int.not_lt, Int.toNat_natCast, h2.1]
    refine ⟨fun h => by omega, fun h => ⟨by omega, _, q_plan58 hr (by omega) hn hW hC hT _ (lw w) e l k m x t rfl h1.1 (by omega) he hR ?_⟩⟩
    intro l' k' m' x' t' h9
    refine ih (w + 1) _ _ _ _ _ _ (by omega) (dIn_ok (by omega) h1.2.2.2 hT _ _ _ h1.1 (by omega) he) h9 ?_
    intro l2 k2 m2 x2 t2 h8
    exact hp _ _ _ _ _ h8
theorem q_plan7 {n : Nat} {lw hg rn : Nat → Nat} {a b d : Nat → Int32} {R : Nat} {post : (Nat → Int32) → (Nat → Int32) → (Nat → Int32) → (Nat → Int32) → (Nat → Int32) → Prop} (hR0 : R ≤ 200) (hn : n ≤ 6) (hW : dW n lw hg rn) (hC : cW n a b d lw hg rn) :
    ∀ (c r : Nat) (l k m x t : Nat → Int32), r + c = R + 1 → mT l k m x t (dT n lw hg rn) r → (∀ l' k' m' x' t', mT l' k' m' x' t' (dT n lw hg rn) (R + 1) → post l' k' m' x' t') → vc_m_plan_L7 (I n) a b d (I R) post (c + 1) (I r) l k m x t := by
  intro c
  induction c with
  | zero =>
    intro r l k m x t hc hR hp
    unfold vc_m_plan_L7
    simp (disch := omega) only [I_m1, I_m2, I_0, I_1, I_2, I_3, I_4, I_5, I_6, I_7, I_8, I_9, I_10, I_11, I_12, I_13, I_14, I_15, I_20, I_50, I_100, I_200, I_256, I_300, I_1000, I_2000, I_1048576, I_n1, I_n2, I_nat, I_add, I_sub, I_mul, I_le, I_lt, I_eq, I_cl, I_in, forall_eq, Int.not_le, Int.not_lt]
    have : r = R + 1 := by omega
    subst this
    exact ⟨fun _ => hp _ _ _ _ _ hR, fun h => by omega⟩
  | succ c ih =>
    intro r l k m x t hc hR hp
    unfold vc_m_plan_L7
    simp (disch := omega) only [I_m1, I_m2, I_0, I_1, I_2, I_3, I_4, I_5, I_6, I_7, I_8, I_9, I_10, I_11, I_12, I_13, I_14, I_15, I_20, I_50, I_100, I_200, I_256, I_300, I_1000, I_2000, I_1048576, I_n1, I_n2, I_nat, I_add, I_sub, I_mul, I_le, I_lt, I_eq, I_cl, I_in, forall_eq, Int.not_le, Int.not_lt, Int.toNat_natCast]
    have hz3 : (0 : Int) ≤ r ∧ (r : Int) < (201 : Nat) := by omega
    refine ⟨fun h => by omega, fun h => ⟨hz3, hz3, hz3, hz3, _, q_plan42 (T := dT n lw hg rn) (by omega) hn hW hC (fun j _ => dT_ok hW j) n 0 ((r : Int), 0, 0, -1, 0) _ _ _ _ _ (by omega) (dOk_0 _ _ _) ?_ ?_⟩⟩
    · refine ⟨fun j hj => ?_, ?_, ?_, ?_, ?_, ?_⟩
      · rw [upd_ne _ _ (by omega), upd_ne _ _ (by omega), upd_ne _ _ (by omega), upd_ne _ _ (by omega)]; exact hR j hj
      · rw [upd_same]; rfl
      · rw [upd_same]; rfl
      · rw [upd_same]; rfl
      · rw [upd_same]; rfl
      · intro h; simp only [dnx_mk] at h; omega
    · intro l' k' m' x' t' h9
      refine ih (r + 1) _ _ _ _ _ (by omega) ?_ hp
      have h8 : dMid lw hg rn (dT n lw hg rn) r n 0 ((r : Int), 0, 0, -1, 0) = dT n lw hg rn r := (dT_eq hW r).symm
      rw [h8] at h9
      intro j hj
      by_cases hjr : j = r
      · subst hjr; exact h9.2
      · exact h9.1 j (by omega)
