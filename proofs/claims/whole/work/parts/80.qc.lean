/-! The pure layer: the bed and the book -/
def iAdd (f : Nat → Int) (n : Nat) (x : Int) : Nat → Int := fun j => if j = n then x else f j
theorem dAdd_s (f : Nat → Nat) (n x : Nat) : dAdd f n x n = x := by simp [dAdd]
theorem dAdd_n (f : Nat → Nat) {n j : Nat} (x : Nat) (h : j ≠ n) : dAdd f n x j = f j := by simp [dAdd, h]
theorem iAdd_s (f : Nat → Int) (n : Nat) (x : Int) : iAdd f n x n = x := by simp [iAdd]
theorem iAdd_n (f : Nat → Int) {n j : Nat} (x : Int) (h : j ≠ n) : iAdd f n x j = f j := by simp [iAdd, h]
def nA (f : Nat → Nat) : Nat → Nat
  | 0 => 0
  | k + 1 => nA f k + f k
def wS (cw ct : Nat → Nat) (w : Nat) : Nat → Nat
  | 0 => 0
  | k + 1 => wS cw ct w k + if cw k = w then ct k else 0
def nOn (pl : Nat → Int) : Nat → Nat
  | 0 => 0
  | k + 1 => nOn pl k + if 0 ≤ pl k then 1 else 0
theorem nA_cg {f g : Nat → Nat} : ∀ k, (∀ j < k, f j = g j) → nA f k = nA g k := by
  intro k
  induction k with
  | zero => intro _; rfl
  | succ k ih => intro h; unfold nA; rw [ih (fun j hj => h j (by omega)), h k (by omega)]
theorem wS_cg {f g p q : Nat → Nat} {w : Nat} : ∀ k, (∀ j < k, f j = g j ∧ p j = q j) → wS f p w k = wS g q w k := by
  intro k
  induction k with
  | zero => intro _; rfl
  | succ k ih => intro h; unfold wS; rw [ih (fun j hj => h j (by omega)), (h k (by omega)).1, (h k (by omega)).2]
theorem nOn_cg {f g : Nat → Int} : ∀ k, (∀ j < k, f j = g j) → nOn f k = nOn g k := by
  intro k
  induction k with
  | zero => intro _; rfl
  | succ k ih => intro h; unfold nOn; rw [ih (fun j hj => h j (by omega)), h k (by omega)]
theorem nA_le {f : Nat → Nat} : ∀ k, (∀ j < k, f j ≤ 1) → nA f k ≤ k := by
  intro k
  induction k with
  | zero => intro _; exact Nat.le_refl _
  | succ k ih => intro h; unfold nA; have := ih (fun j hj => h j (by omega)); have := h k (by omega); omega
theorem nA_mono {f : Nat → Nat} (a : Nat) : ∀ d, nA f a ≤ nA f (a + d) := by
  intro d
  induction d with
  | zero => exact Nat.le_refl _
  | succ d ih => show _ ≤ nA f (a + d) + f (a + d); omega
theorem nOn_le {f : Nat → Int} : ∀ k, nOn f k ≤ k := by
  intro k
  induction k with
  | zero => exact Nat.le_refl _
  | succ k ih => unfold nOn; split <;> omega
theorem wS_le {cw ct : Nat → Nat} {w : Nat} : ∀ k, (∀ j < k, ct j ≤ 200) → wS cw ct w k ≤ 200 * k := by
  intro k
  induction k with
  | zero => intro _; exact Nat.le_refl _
  | succ k ih => intro h; unfold wS; have := ih (fun j hj => h j (by omega)); have := h k (by omega); split <;> omega
theorem nOn_zero {f : Nat → Int} : ∀ k, nOn f k = 0 → ∀ j < k, f j < 0 := by
  intro k
  induction k with
  | zero => intro _ j hj; omega
  | succ k ih =>
    intro h j hj
    unfold nOn at h
    by_cases hj' : j = k
    · subst hj'
      by_cases h0 : 0 ≤ f j
      · rw [if_pos h0] at h; omega
      · omega
    · exact ih (by omega) j (by omega)
theorem nOn_of {f : Nat → Int} : ∀ k, (∀ j < k, f j < 0) → nOn f k = 0 := by
  intro k
  induction k with
  | zero => intro _; rfl
  | succ k ih => intro h; unfold nOn; rw [ih (fun j hj => h j (by omega)), if_neg (by have := h k (by omega); omega)]
def cC (cuts : Nat) (pl : Nat → Int) (cc : Nat → Int32) : Prop := ∀ p < 20, (cc p = I (-1) ∧ ∀ j < cuts, pl j ≠ (p : Int)) ∨ (∃ j, j < cuts ∧ pl j = (p : Int) ∧ cc p = I (j : Int) ∧ ∀ i < cuts, pl i = (p : Int) → i = j)
def kP (cuts : Nat) (pl : Nat → Int) (kp : Nat → Int32) : Prop := ∀ j < cuts, kp j = I (pl j) ∧ -2 ≤ pl j ∧ pl j < 20
theorem q_lying2 {cuts p : Nat} {pl : Nat → Int} {mp cc : Nat → Int32} {post : Int32 → Prop} (hc : cuts ≤ 300) (hp : kP cuts pl mp) (hC : cC cuts pl cc) (hp20 : p < 20) (hh : post (cc p)) :
    ∀ (r i : Nat), i + r = cuts → (∀ j < i, pl j ≠ (p : Int)) → vc_m_lying_L2 (I cuts) mp (I p) post (r + 1) (I i) := by
  intro r
  induction r with
  | zero =>
    intro i hi hn
    unfold vc_m_lying_L2
    simp (disch := omega) only [I_m1, I_m2, I_0, I_1, I_2, I_3, I_4, I_5, I_6, I_7, I_8, I_9, I_10, I_11, I_12, I_13, I_14, I_15, I_20, I_50, I_100, I_200, I_256, I_300, I_1000, I_2000, I_1048576, I_n1, I_n2, I_nat, I_add, I_sub, I_mul, I_le, I_lt, I_eq, I_cl, I_in, forall_eq, Int.not_le, Int.not_lt]
    refine ⟨fun _ => ?_, fun h => by omega⟩
    rcases hC p hp20 with h | ⟨j, h1, h2, h3, h4⟩
    · rw [h.1] at hh; exact hh
    · exact absurd h2 (hn j (by omega))
  | succ r ih =>
    intro i hi hn
    unfold vc_m_lying_L2
    have hpi := hp i (by omega)
    simp (disch := omega) only [I_m1, I_m2, I_0, I_1, I_2, I_3, I_4, I_5, I_6, I_7, I_8, I_9, I_10, I_11, I_12, I_13, I_14, I_15, I_20, I_50, I_100, I_200, I_256, I_300, I_1000, I_2000, I_1048576, I_n1, I_n2, I_nat, I_add, I_sub, I_mul, I_le, I_lt, I_eq, I_cl, I_in, forall_eq, Int.not_le, Int.not_lt, Int.toNat_natCast, hpi.1]
    refine ⟨fun h => by omega, fun _ => ⟨by omega, fun e => ?_, fun e => ?_⟩⟩
    · rcases hC p hp20 with h | ⟨j, h1, h2, h3, h4⟩
      · exact absurd e (h.2 i (by omega))
      · have := h4 i (by omega) e
        subst this
        rw [h3] at hh; exact hh
    · refine ih (i + 1) (by omega) (fun j hj => ?_)
      by_cases hji : j = i
      · subst hji; exact e
      · exact hn j (by omega)
theorem q_lying {cuts p : Nat} {pl : Nat → Int} {mp cc : Nat → Int32} {post : Int32 → Prop} (hc : cuts ≤ 300) (hp : kP cuts pl mp) (hC : cC cuts pl cc) (hp20 : p < 20) (hh : post (cc p)) : vc_m_lying (I cuts) mp (I p) post := by
  unfold vc_m_lying
  exact ⟨_, q_lying2 hc hp hC hp20 hh cuts 0 (by omega) (fun j hj => by omega)⟩
theorem fr_ex (cc : Nat → Int32) : ∀ P, ∃ p, p ≤ P ∧ (∀ i < p, cc i ≠ I (-1)) ∧ (p < P → cc p = I (-1)) := by
  intro P
  induction P with
  | zero => exact ⟨0, Nat.le_refl _, fun i hi => by omega, fun h => by omega⟩
  | succ P ih =>
    obtain ⟨p, h1, h2, h3⟩ := ih
    by_cases hp : p < P
    · exact ⟨p, by omega, h2, fun _ => h3 hp⟩
    · have : p = P := by omega
      subst this
      by_cases hc : cc p = I (-1)
      · exact ⟨p, by omega, h2, fun _ => hc⟩
      · refine ⟨p + 1, Nat.le_refl _, fun i hi => ?_, fun h => by omega⟩
        by_cases hip : i = p
        · subst hip; exact hc
        · exact h2 i (by omega)
theorem q_layL {cc : Nat → Int32} {P p c y : Nat} {post : Int32 → Int32 → (Nat → Int32) → Prop} (hP : P ≤ 20) (hpP : p ≤ P) (hf : ∀ i < p, cc i ≠ I (-1)) (hg : p < P → cc p = I (-1)) (hp1 : p < P → post (I p) (I ((y + 1 : Nat) : Int)) (upd cc p (I c))) (hp0 : p = P → post (I (-1)) (I y) cc) :
    ∀ (r v : Nat), v + r = p → vc_c_lay_L12 cc (I P) (I y) (I c) post (r + 1) (I v) := by
  intro r
  induction r with
  | zero =>
    intro v hv
    have : v = p := by omega
    subst this
    unfold vc_c_lay_L12
    simp (disch := omega) only [I_m1, I_m2, I_0, I_1, I_2, I_3, I_4, I_5, I_6, I_7, I_8, I_9, I_10, I_11, I_12, I_13, I_14, I_15, I_20, I_50, I_100, I_200, I_256, I_300, I_1000, I_2000, I_1048576, I_n1, I_n2, I_nat, I_add, I_sub, I_mul, I_le, I_lt, I_eq, I_cl, I_in, forall_eq, Int.not_le, Int.not_lt, Int.toNat_natCast]
    refine ⟨fun h => hp0 (by omega), fun h => ⟨by omega, fun _ => ⟨by omega, ?_⟩, fun h' => absurd (hg (by omega)) h'⟩⟩
    have := hp1 (by omega)
    rw [show ((y + 1 : Nat) : Int) = (y : Int) + 1 by omega] at this
    exact this
  | succ r ih =>
    intro v hv
    unfold vc_c_lay_L12
    simp (disch := omega) only [I_m1, I_m2, I_0, I_1, I_2, I_3, I_4, I_5, I_6, I_7, I_8, I_9, I_10, I_11, I_12, I_13, I_14, I_15, I_20, I_50, I_100, I_200, I_256, I_300, I_1000, I_2000, I_1048576, I_n1, I_n2, I_nat, I_add, I_sub, I_mul, I_le, I_lt, I_eq, I_cl, I_in, forall_eq, Int.not_le, Int.not_lt, Int.toNat_natCast]
    exact ⟨fun h => by omega, fun h => ⟨by omega, fun h' => absurd h' (hf v (by omega)), fun _ => ih (v + 1) (by omega)⟩⟩
/-- the place of a piece of st steps, where p is the first free place of P -/
def plc (st lg p P : Nat) : Int := if st ≤ lg ∧ p < P then (p : Int) else -1
theorem q_lay {cc : Nat → Int32} {P p c y st lg : Nat} {post : Int32 → Int32 → (Nat → Int32) → Prop} (hst : st ≤ 200) (hlg : lg ≤ 200) (hP : P ≤ 20) (hpP : p ≤ P) (hf : ∀ i < p, cc i ≠ I (-1)) (hg : p < P → cc p = I (-1)) (hp1 : st ≤ lg → p < P → post (I p) (I ((y + 1 : Nat) : Int)) (upd cc p (I c))) (hp0 : ¬ (st ≤ lg ∧ p < P) → post (I (-1)) (I y) cc) : vc_c_lay cc (I P) (I lg) (I y) (I c) (I st) post := by
  unfold vc_c_lay
  simp (disch := omega) only [I_m1, I_m2, I_0, I_1, I_2, I_3, I_4, I_5, I_6, I_7, I_8, I_9, I_10, I_11, I_12, I_13, I_14, I_15, I_20, I_50, I_100, I_200, I_256, I_300, I_1000, I_2000, I_1048576, I_n1, I_n2, I_nat, I_add, I_sub, I_mul, I_le, I_lt, I_eq, I_cl, I_in, forall_eq, Int.not_le, Int.not_lt]
  exact ⟨fun h => ⟨_, q_layL hP hpP hf hg (fun h' => hp1 (by omega) h') (fun h' => hp0 (by omega)) p 0 (by omega)⟩, fun h => hp0 (by omega)⟩
theorem nar1 : vp_nar .boolean 1 = I 1 := by decide
theorem nar0 : vp_nar .boolean 0 = I 0 := by decide
