/-! The pure layer: the class fills its table -/
def cW (n : Nat) (a b c : Nat → Int32) (lw hg rn : Nat → Nat) : Prop := ∀ i < n, a i = I (lw i) ∧ b i = I (hg i) ∧ c i = I (rn i)
def cT (c f s : Nat → Int32) (T : Nat → dE) (R : Nat) : Prop := ∀ j < R, c j = I (dcs (T j)) ∧ f j = I (dnx (T j)) ∧ s j = I (dst (T j))
theorem q_try {n : Nat} {T : Nat → dE} {lw hg rn : Nat → Nat} {a b d : Nat → Int32} {r w : Nat} {e : dE} {cs fw fs : Nat → Int32} {post : (Nat → Int32) → (Nat → Int32) → (Nat → Int32) → Prop} (hr : r ≤ 200) (hw : w < n) (hn : n ≤ 6) (hW : dW n lw hg rn) (hC : cW n a b d lw hg rn) (hT : ∀ j < r, dOk n T j (T j)) (he : dOk n T r e) (hR : cR cs fw fs T r e)
    (hp : ∀ c' f' s', cR c' f' s' T r (dIn T r w (rn w) (min (hg w) r + 1 - lw w) (lw w) e) → post c' f' s') : vc_t_tryFirst a b d cs fw fs (I r) (I w) post := by
  unfold vc_t_tryFirst
  have h1 := hW w hw
  have h2 := hC w hw
  simp (disch := omega) only [I_m1, I_m2, I_0, I_1, I_2, I_3, I_4, I_5, I_6, I_7, I_8, I_9, I_10, I_11, I_12, I_13, I_14, I_15, I_20, I_50, I_100, I_200, I_256, I_300, I_1000, I_2000, I_1048576, I_n1, I_n2, I_nat, I_add, I_sub, I_mul, I_le, I_lt, I_eq, I_cl, I_in, forall_eq, Int.not_le, Int.not_lt, Int.toNat_natCast, h2.1, h2.2.1, h2.2.2]
  have hm : (if (r : Int) < (hg w : Int) then I (r : Int) else I (hg w : Int)) = I ((min (hg w) r : Nat) : Int) := by
    by_cases h : (r : Int) < (hg w : Int)
    · rw [if_pos h, Nat.min_eq_right (by omega)]
    · rw [if_neg h, Nat.min_eq_left (by omega)]
  rw [hm]
  have hx : (0 : Int) ≤ w ∧ (w : Int) < (6 : Nat) := by omega
  exact ⟨hx, hx, hx, _, q_tryL hr (Nat.min_le_right _ _) hw hn h1.2.2.2 hT _ (lw w) e cs fw fs rfl h1.1 (by omega) he hR hp⟩
theorem q_fill35 {n : Nat} {T : Nat → dE} {lw hg rn : Nat → Nat} {a b d : Nat → Int32} {r : Nat} {K : Int32 → (Nat → Int32) → (Nat → Int32) → (Nat → Int32) → Prop} (hr : r ≤ 200) (hn : n ≤ 6) (hW : dW n lw hg rn) (hC : cW n a b d lw hg rn) (hT : ∀ j < r, dOk n T j (T j)) :
    ∀ (k w : Nat) (e : dE) (cs fw fs : Nat → Int32), w + k = n → dOk n T r e → cR cs fw fs T r e → (∀ c' f' s', cR c' f' s' T r (dMid lw hg rn T r k w e) → K (I ((r : Int) + 1)) c' f' s') → vc_t_fill_L35 a b d (I n) (I r) K (k + 1) (I w) cs fw fs := by
  intro k
  induction k with
  | zero =>
    intro w e cs fw fs hk he hR hp
    unfold vc_t_fill_L35
    simp (disch := omega) only [I_m1, I_m2, I_0, I_1, I_2, I_3, I_4, I_5, I_6, I_7, I_8, I_9, I_10, I_11, I_12, I_13, I_14, I_15, I_20, I_50, I_100, I_200, I_256, I_300, I_1000, I_2000, I_1048576, I_n1, I_n2, I_nat, I_add, I_sub, I_mul, I_le, I_lt, I_eq, I_cl, I_in, forall_eq, Int.not_le, Int.not_lt]
    exact ⟨fun _ => hp _ _ _ hR, fun h => by omega⟩
  | succ k ih =>
    intro w e cs fw fs hk he hR hp
    unfold vc_t_fill_L35
    have h1 := hW w (by omega)
    simp (disch := omega) only [I_m1, I_m2, I_0, I_1, I_2, I_3, I_4, I_5, I_6, I_7, I_8, I_9, I_10, I_11, I_12, I_13, I_14, I_15, I_20, I_50, I_100, I_200, I_256, I_300, I_1000, I_2000, I_1048576, I_n1, I_n2, I_nat, I_add, I_sub, I_mul, I_le, I_lt, I_eq, I_cl, I_in, forall_eq, Int.not_le, Int.not_lt]
    refine ⟨fun h => by omega, fun h => q_try hr (by omega) hn hW hC hT he hR (fun c' f' s' h9 => ?_)⟩
    refine ih (w + 1) _ c' f' s' (by omega) (dIn_ok (by omega) h1.2.2.2 hT _ _ _ h1.1 (by omega) he) h9 ?_
    intro c2 f2 s2 h8
    exact hp _ _ _ h8
theorem q_fill2 {n : Nat} {lw hg rn : Nat → Nat} {a b d : Nat → Int32} {post : (Nat → Int32) → (Nat → Int32) → (Nat → Int32) → Prop} (hn : n ≤ 6) (hW : dW n lw hg rn) (hC : cW n a b d lw hg rn) :
    ∀ (k r : Nat) (cs fw fs : Nat → Int32), r + k = 201 → cT cs fw fs (dT n lw hg rn) r → (∀ c' f' s', cT c' f' s' (dT n lw hg rn) 201 → post c' f' s') → vc_t_fill_L2 a b d (I n) post (k + 1) (I r) cs fw fs := by
  intro k
  induction k with
  | zero =>
    intro r cs fw fs hk hR hp
    unfold vc_t_fill_L2
    simp (disch := omega) only [I_m1, I_m2, I_0, I_1, I_2, I_3, I_4, I_5, I_6, I_7, I_8, I_9, I_10, I_11, I_12, I_13, I_14, I_15, I_20, I_50, I_100, I_200, I_256, I_300, I_1000, I_2000, I_1048576, I_n1, I_n2, I_nat, I_add, I_sub, I_mul, I_le, I_lt, I_eq, I_cl, I_in, forall_eq, Int.not_le, Int.not_lt]
    have : r = 201 := by omega
    subst this
    exact ⟨fun _ => hp _ _ _ hR, fun h => by omega⟩
  | succ k ih =>
    intro r cs fw fs hk hR hp
    unfold vc_t_fill_L2
    simp (disch := omega) only [I_m1, I_m2, I_0, I_1, I_2, I_3, I_4, I_5, I_6, I_7, I_8, I_9, I_10, I_11, I_12, I_13, I_14, I_15, I_20, I_50, I_100, I_200, I_256, I_300, I_1000, I_2000, I_1048576, I_n1, I_n2, I_nat, I_add, I_sub, I_mul, I_le, I_lt, I_eq, I_cl, I_in, forall_eq, Int.not_le, Int.not_lt, Int.toNat_natCast]
    refine ⟨fun h => by omega, fun h => ⟨by omega, by omega, by omega, _, q_fill35 (T := dT n lw hg rn) (by omega) hn hW hC (fun j _ => dT_ok hW j) n 0 ((r : Int), 0, 0, -1, 0) _ _ _ (by omega) (dOk_0 _ _ _) ?_ ?_⟩⟩
    · refine ⟨fun j hj => ?_, ?_, ?_, ?_⟩
      · rw [upd_ne _ _ (by omega), upd_ne _ _ (by omega), upd_ne _ _ (by omega)]; exact hR j hj
      · rw [upd_same]; simp only [dcs, dlo_mk, drk_mk, dmn_mk]; exact congrArg I (by omega)
      · rw [upd_same]; rfl
      · rw [upd_same]; rfl
    · intro c' f' s' h9
      refine ih (r + 1) c' f' s' (by omega) ?_ hp
      intro j hj
      have h8 : dMid lw hg rn (dT n lw hg rn) r n 0 ((r : Int), 0, 0, -1, 0) = dT n lw hg rn r := (dT_eq hW r).symm
      rw [h8] at h9
      by_cases hjr : j = r
      · subst hjr; exact h9.2
      · exact h9.1 j (by omega)
theorem q_fill {n : Nat} {lw hg rn : Nat → Nat} {a b d : Nat → Int32} {cs fw fs : Nat → Int32} {post : (Nat → Int32) → (Nat → Int32) → (Nat → Int32) → Prop} (hn : n ≤ 6) (hW : dW n lw hg rn) (hC : cW n a b d lw hg rn) (hp : ∀ c' f' s', cT c' f' s' (dT n lw hg rn) 201 → post c' f' s') : vc_t_fill a b d cs fw fs (I n) post := by
  unfold vc_t_fill
  exact ⟨201 + 1, q_fill2 hn hW hC 201 0 cs fw fs (by omega) (fun j hj => by omega) hp⟩
/-- the wanted lengths with one more -/
def dAdd (f : Nat → Nat) (n x : Nat) : Nat → Nat := fun j => if j = n then x else f j
theorem q_add {n : Nat} {lw hg rn : Nat → Nat} {a b d : Nat → Int32} {cs fw fs : Nat → Int32} {p q k : Nat} {post : Int32 → Int32 → (Nat → Int32) → (Nat → Int32) → (Nat → Int32) → (Nat → Int32) → (Nat → Int32) → (Nat → Int32) → Prop} {postX : String → Prop} (hn : n ≤ 6) (hW : dW n lw hg rn) (hC : cW n a b d lw hg rn) (h1 : 1 ≤ p) (h2 : p ≤ q) (h3 : q ≤ 200) (h4 : k ≤ 9)
    (hp : n < 6 → ∀ a' b' d' c' f' s', dW (n + 1) (dAdd lw n p) (dAdd hg n q) (dAdd rn n k) → cW (n + 1) a' b' d' (dAdd lw n p) (dAdd hg n q) (dAdd rn n k) → cT c' f' s' (dT (n + 1) (dAdd lw n p) (dAdd hg n q) (dAdd rn n k)) 201 → post (I n) (I ((n + 1 : Nat) : Int)) a' b' d' c' f' s') (hx : n = 6 → postX "java/lang/UnsupportedOperationException") : vc_t_add a b d cs fw fs (I n) (I p) (I q) (I k) post postX := by
  unfold vc_t_add
  simp (disch := omega) only [I_m1, I_m2, I_0, I_1, I_2, I_3, I_4, I_5, I_6, I_7, I_8, I_9, I_10, I_11, I_12, I_13, I_14, I_15, I_20, I_50, I_100, I_200, I_256, I_300, I_1000, I_2000, I_1048576, I_n1, I_n2, I_nat, I_add, I_sub, I_mul, I_le, I_lt, I_eq, I_cl, I_in, forall_eq, Int.not_le, Int.not_lt, Int.toNat_natCast]
  refine ⟨fun h => ⟨by omega, by omega, by omega, ?_⟩, fun h => hx (by omega)⟩
  have hW' : dW (n + 1) (dAdd lw n p) (dAdd hg n q) (dAdd rn n k) := by
    intro i hi
    unfold dAdd
    by_cases hin : i = n
    · simp only [hin, if_true]; exact ⟨h1, h2, h3, h4⟩
    · simp only [hin, if_false]; exact hW i (by omega)
  have hC' : cW (n + 1) (upd a n (I p)) (upd b n (I q)) (upd d n (I k)) (dAdd lw n p) (dAdd hg n q) (dAdd rn n k) := by
    intro i hi
    unfold dAdd upd
    by_cases hin : i = n
    · simp only [hin, if_true]; exact ⟨trivial, trivial, trivial⟩
    · simp only [hin, if_false]; exact hC i (by omega)
  have e1 : (n : Int) + 1 - 1 = n := by omega
  rw [e1]
  exact q_fill (n := n + 1) (by omega) hW' hC' (fun c' f' s' h9 => hp (by omega) _ _ _ _ _ _ hW' hC' h9)
