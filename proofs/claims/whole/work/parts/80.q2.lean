/-! The pure layer: the class's table -/
theorem upd_same (f : Nat → Int32) (k : Nat) (x : Int32) : upd f k x k = x := by simp [upd]
theorem upd_ne (f : Nat → Int32) {k j : Nat} (x : Int32) (h : j ≠ k) : upd f k x j = f j := by simp [upd, h]
def cR (c f s : Nat → Int32) (T : Nat → dE) (R : Nat) (e : dE) : Prop :=
  (∀ j < R, c j = I (dcs (T j)) ∧ f j = I (dnx (T j)) ∧ s j = I (dst (T j))) ∧ c R = I (dcs e) ∧ f R = I (dnx e) ∧ s R = I (dst e)
theorem dBet_iff {p e : dE} {k : Nat} {n r q : Nat} {T : Nat → dE} (hp : dOk n T q p) (he : dOk n T r e) (hq : q ≤ 200) (hr : r ≤ 200) (hk : k ≤ 9) : (dcs e ≤ dcs p + (1 - (k : Int) * 256)) = ¬ dBet (dlo p) (drk p + k) (dmn p + 1) e := by
  obtain ⟨h1, h2, h3, h4, h5, h6, -⟩ := hp
  obtain ⟨g1, g2, g3, g4, g5, g6, -⟩ := he
  unfold dBet dcs
  apply propext
  constructor <;> intro h <;> omega
theorem dcs_lo {n r : Nat} {T : Nat → dE} {e : dE} (h : dOk n T r e) (hr : r ≤ 200) : -500000 ≤ dcs e ∧ dcs e ≤ 210000000 := by
  obtain ⟨h1, h2, h3, h4, h5, h6, -⟩ := h
  unfold dcs
  omega
theorem q_tryL {n : Nat} {T : Nat → dE} {r w hi k : Nat} {post : (Nat → Int32) → (Nat → Int32) → (Nat → Int32) → Prop} (hr : r ≤ 200) (hhi : hi ≤ r) (hw : w < n) (hn : n ≤ 6) (hk : k ≤ 9) (hT : ∀ j < r, dOk n T j (T j)) :
    ∀ (c s : Nat) (e : dE) (cs fw fs : Nat → Int32), hi + 1 - s = c → 1 ≤ s → s ≤ 201 → dOk n T r e → cR cs fw fs T r e →
    (∀ c' f' s', cR c' f' s' T r (dIn T r w k c s e) → post c' f' s') →
    vc_t_tryFirst_L33 (I r) (I w) (I hi) (I (1 - (k : Int) * 256)) post (c + 1) (I s) cs fw fs := by
  intro c
  induction c with
  | zero =>
    intro s e cs fw fs hc h1 h2 he hR hp
    unfold vc_t_tryFirst_L33
    simp (disch := omega) only [I_m1, I_m2, I_0, I_1, I_2, I_3, I_4, I_5, I_6, I_7, I_8, I_9, I_10, I_11, I_12, I_13, I_14, I_15, I_20, I_50, I_100, I_200, I_256, I_300, I_1000, I_2000, I_1048576, I_n1, I_n2, I_nat, I_add, I_sub, I_mul, I_le, I_lt, I_eq, I_cl, I_in, forall_eq, Int.not_le, Int.not_lt]
    exact ⟨fun _ => hp _ _ _ hR, fun h => by omega⟩
  | succ c ih =>
    intro s e cs fw fs hc h1 h2 he hR hp
    unfold vc_t_tryFirst_L33
    have hx := hR.1 (r - s) (by omega)
    have ho := hT (r - s) (by omega)
    have e1 : ((r : Int) - s).toNat = r - s := by omega
    have b1 := dcs_lo ho (by omega)
    have b2 := dcs_lo he hr
    simp (disch := omega) only [I_m1, I_m2, I_0, I_1, I_2, I_3, I_4, I_5, I_6, I_7, I_8, I_9, I_10, I_11, I_12, I_13, I_14, I_15, I_20, I_50, I_100, I_200, I_256, I_300, I_1000, I_2000, I_1048576, I_n1, I_n2, I_nat, I_add, I_sub, I_mul, I_le, I_lt, I_eq, I_cl, I_in, forall_eq, Int.not_le, Int.not_lt, e1, Int.toNat_natCast, hx.1, hR.2.1]
    refine ⟨fun h => by omega, fun h => ⟨by omega, by omega, ?_, ?_⟩⟩
    · intro h'
      have hb : ¬ dBet (dlo (T (r - s))) (drk (T (r - s)) + k) (dmn (T (r - s)) + 1) e := by rw [← dBet_iff ho he (by omega) hr hk]; exact h'
      have hd : dStep T r w k e s = e := by unfold dStep; rw [if_neg hb]
      refine ih (s + 1) e cs fw fs (by omega) (by omega) (by omega) he hR ?_
      intro c' f' s' h9
      refine hp c' f' s' ?_
      unfold dIn; rw [hd]; exact h9
    · intro h'
      have hb : dBet (dlo (T (r - s))) (drk (T (r - s)) + k) (dmn (T (r - s)) + 1) e := by
        by_cases hq : dBet (dlo (T (r - s))) (drk (T (r - s)) + k) (dmn (T (r - s)) + 1) e
        · exact hq
        · rw [← dBet_iff ho he (by omega) hr hk] at hq; omega
      have hd : dStep T r w k e s = (dlo (T (r - s)), drk (T (r - s)) + k, dmn (T (r - s)) + 1, (w : Int), (s : Int)) := by unfold dStep; rw [if_pos hb]
      have hok := dStep_ok (k := k) (e := e) h1 (by omega) hw hk hT he
      rw [hd] at hok
      refine ⟨by omega, by omega, by omega, ?_⟩
      refine ih (s + 1) _ _ _ _ (by omega) (by omega) (by omega) hok ?_ ?_
      · refine ⟨fun j hj => ?_, ?_, ?_, ?_⟩
        · rw [upd_ne _ _ (by omega), upd_ne _ _ (by omega), upd_ne _ _ (by omega)]; exact hR.1 j hj
        · rw [upd_same]; simp only [dcs, dlo_mk, drk_mk, dmn_mk]; congr 1; omega
        · rw [upd_same]; rfl
        · rw [upd_same]; rfl
      · intro c' f' s' h9
        refine hp c' f' s' ?_
        unfold dIn; rw [hd]; exact h9
