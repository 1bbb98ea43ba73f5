/-! The pure layer: the start, and the whole -/
theorem q_cinit {post : Int32 → Int32 → (Nat → Int32) → Prop} (hp : ∀ cc, (∀ i < 20, cc i = I (-1)) → post (I 10) (I 200) cc) :
    ∀ (r i : Nat) (cc : Nat → Int32), i + r = 20 → (∀ k < i, cc k = I (-1)) → vc_c_init_L32 post (r + 1) (I i) cc := by
  intro r
  induction r with
  | zero =>
    intro i cc hi h
    have : i = 20 := by omega
    subst this
    unfold vc_c_init_L32
    simp (disch := omega) only [I_m1, I_m2, I_0, I_1, I_2, I_3, I_4, I_5, I_6, I_7, I_8, I_9, I_10, I_11, I_12, I_13, I_14, I_15, I_20, I_50, I_100, I_200, I_256, I_300, I_1000, I_2000, I_1048576, I_n1, I_n2, I_nat, I_add, I_sub, I_mul, I_le, I_lt, I_eq, I_cl, I_in, forall_eq, Int.not_le, Int.not_lt]
    exact ⟨fun _ => hp cc h, fun h => by omega⟩
  | succ r ih =>
    intro i cc hi h
    unfold vc_c_init_L32
    simp (disch := omega) only [I_m1, I_m2, I_0, I_1, I_2, I_3, I_4, I_5, I_6, I_7, I_8, I_9, I_10, I_11, I_12, I_13, I_14, I_15, I_20, I_50, I_100, I_200, I_256, I_300, I_1000, I_2000, I_1048576, I_n1, I_n2, I_nat, I_add, I_sub, I_mul, I_le, I_lt, I_eq, I_cl, I_in, forall_eq, Int.not_le, Int.not_lt, Int.toNat_natCast]
    refine ⟨fun h => by omega, fun _ => ⟨by omega, ih (i + 1) _ (by omega) (fun k hk => ?_)⟩⟩
    by_cases hki : k = i
    · subst hki; rw [upd_same]
    · rw [upd_ne _ _ hki]; exact h k (by omega)
theorem dT_0 (f : Nat → Nat) (j : Nat) : dT 0 f f f j = ((j : Int), 0, 0, -1, 0) := by
  show dTab 0 f f f (j + 1) j = _
  unfold dTab
  simp only [if_true]
  rfl
theorem vc_law_holds (L : Nat) (xs : Nat → Int32) (hL : L ≤ 2048) : vc_l_law L xs := by
  unfold vc_l_law vc_x_init vc_t_init vc_b_init vc_k_init vc_c_init
  refine ⟨20 + 1, q_cinit ?_ 20 0 _ (by omega) (fun k hk => by omega)⟩
  intro cc hcc
  unfold vc_m_init
  refine ⟨512 + 1, law_loop hL 512 0 _ _ _ _ _ _ _ _ _ _ _ _ _ _ _ _ _ _ _ _ _ _ _ _ _ _ _ _ _ _ _ _ _ _ _ _ _ _ _ _ _ _ _ _ _ _ _ _ _ _ _ _ _ _ _ _ _ _ _ (by omega) ?_⟩
  have hW : dW 0 (fun _ => 0) (fun _ => 0) (fun _ => 0) := fun i hi => by omega
  refine ⟨0, fun _ => 0, fun _ => 0, fun _ => 0, 100, 0, 0, 0, 0, 0, fun _ => 0, fun _ => 0, fun _ => 0, fun _ => 0, 10, 200, ⟨rfl, by omega, hW, fun i hi => by omega, ?_⟩, ⟨by omega, by omega, fun j hj => by omega⟩, ?_, ⟨rfl, rfl, fun j hj => by omega, fun j hj => by omega, fun j hj => by omega, fun w hw => rfl, fun j hj => by omega⟩, ⟨rfl, by omega, by omega, rfl, by omega, by omega, rfl, fun p hp => Or.inl ⟨hcc p hp, fun j hj => by omega⟩⟩, ⟨rfl, fun i hi => by omega⟩, ⟨rfl, rfl, rfl, rfl, rfl, rfl⟩, ⟨fun j hj => by omega, fun j hj => by omega⟩, fun j hj => by omega, fun j hj => by omega, rfl, rfl, rfl, fun j hj => by omega⟩
  · intro j hj
    rw [dT_0]
    exact ⟨rfl, fun h => by simp only [dnx_mk] at h; omega⟩
  · unfold bX
    simp only [Nat.sub_self, sSum, Nat.sub_zero, dT_0]
    refine ⟨by omega, by omega, by omega, by omega, by omega, by omega, by omega, rfl, rfl, rfl, rfl, rfl, rfl, rfl, rfl, fun j hj => by omega, fun i hi => ?_⟩
    simp only [dmn_mk] at hi
    omega
