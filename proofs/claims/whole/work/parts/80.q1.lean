/-! The pure layer: the table of the least loss -/
abbrev dE := Int × Int × Int × Int × Int
def dlo (e : dE) : Int := e.1
def drk (e : dE) : Int := e.2.1
def dmn (e : dE) : Int := e.2.2.1
def dnx (e : dE) : Int := e.2.2.2.1
def dst (e : dE) : Int := e.2.2.2.2
def dcs (e : dE) : Int := dlo e * 1048576 - drk e * 256 + dmn e
theorem dlo_mk (a b c d e : Int) : dlo (a, b, c, d, e) = a := rfl
theorem drk_mk (a b c d e : Int) : drk (a, b, c, d, e) = b := rfl
theorem dmn_mk (a b c d e : Int) : dmn (a, b, c, d, e) = c := rfl
theorem dnx_mk (a b c d e : Int) : dnx (a, b, c, d, e) = d := rfl
theorem dst_mk (a b c d e : Int) : dst (a, b, c, d, e) = e := rfl
def dBet (a b c : Int) (e : dE) : Prop := a < dlo e ∨ (a = dlo e ∧ (drk e < b ∨ (b = drk e ∧ c < dmn e)))

noncomputable def dStep (T : Nat → dE) (r w : Nat) (k : Int) (e : dE) (s : Nat) : dE :=
  @ite dE (dBet (dlo (T (r - s))) (drk (T (r - s)) + k) (dmn (T (r - s)) + 1) e) (Classical.propDecidable _) (dlo (T (r - s)), drk (T (r - s)) + k, dmn (T (r - s)) + 1, (w : Int), (s : Int)) e
noncomputable def dIn (T : Nat → dE) (r w : Nat) (k : Int) : Nat → Nat → dE → dE
  | 0, _, e => e
  | n + 1, s, e => dIn T r w k n (s + 1) (dStep T r w k e s)
noncomputable def dMid (lw hg rn : Nat → Nat) (T : Nat → dE) (r : Nat) : Nat → Nat → dE → dE
  | 0, _, e => e
  | n + 1, w, e => dMid lw hg rn T r n (w + 1) (dIn T r w (rn w) (min (hg w) r + 1 - lw w) (lw w) e)
noncomputable def dEnt (n : Nat) (lw hg rn : Nat → Nat) (T : Nat → dE) (r : Nat) : dE := dMid lw hg rn T r n 0 ((r : Int), 0, 0, -1, 0)
noncomputable def dTab (n : Nat) (lw hg rn : Nat → Nat) : Nat → Nat → dE
  | 0 => fun _ => (0, 0, 0, -1, 0)
  | r + 1 => fun j => if j = r then dEnt n lw hg rn (dTab n lw hg rn r) r else dTab n lw hg rn r j
noncomputable def dT (n : Nat) (lw hg rn : Nat → Nat) (j : Nat) : dE := dTab n lw hg rn (j + 1) j
def dW (n : Nat) (lw hg rn : Nat → Nat) : Prop := ∀ i < n, 1 ≤ lw i ∧ lw i ≤ hg i ∧ hg i ≤ 200 ∧ rn i ≤ 9
def dOk (n : Nat) (T : Nat → dE) (r : Nat) (e : dE) : Prop :=
  0 ≤ dlo e ∧ dlo e ≤ r ∧ 0 ≤ dmn e ∧ dmn e ≤ r ∧ 0 ≤ drk e ∧ drk e ≤ 9 * dmn e ∧ -1 ≤ dnx e ∧ dnx e < n ∧
  (dnx e = -1 → dst e = 0 ∧ dlo e = r ∧ dmn e = 0 ∧ drk e = 0) ∧
  (0 ≤ dnx e → 1 ≤ dst e ∧ dst e ≤ r ∧ dlo e = dlo (T (r - (dst e).toNat)) ∧ dmn e = dmn (T (r - (dst e).toNat)) + 1)
theorem dTab_lt {n : Nat} {lw hg rn : Nat → Nat} : ∀ (r j : Nat), j < r → dTab n lw hg rn r j = dT n lw hg rn j := by
  intro r
  induction r with
  | zero => intro j h; omega
  | succ r ih =>
    intro j h
    by_cases hj : j = r
    · subst hj; rfl
    · unfold dTab
      simp only [hj, if_false]
      exact ih j (by omega)
theorem dStep_cg {T U : Nat → dE} {r w : Nat} {k : Int} {e : dE} {s : Nat} (hs : 1 ≤ s) (hsr : s ≤ r) (h : ∀ j < r, T j = U j) : dStep T r w k e s = dStep U r w k e s := by
  unfold dStep; rw [h (r - s) (by omega)]
theorem dIn_cg {T U : Nat → dE} {r w : Nat} {k : Int} (h : ∀ j < r, T j = U j) : ∀ (n s : Nat) (e : dE), 1 ≤ s → s + n ≤ r + 1 ∨ n = 0 → dIn T r w k n s e = dIn U r w k n s e := by
  intro n
  induction n with
  | zero => intro s e _ _; rfl
  | succ n ih =>
    intro s e hs hn
    unfold dIn
    rw [dStep_cg hs (by omega) h]
    exact ih _ _ (by omega) (by omega)
theorem dMid_cg {n : Nat} {lw hg rn : Nat → Nat} {T U : Nat → dE} {r : Nat} (hW : dW n lw hg rn) (h : ∀ j < r, T j = U j) : ∀ (k w : Nat) (e : dE), w + k = n → dMid lw hg rn T r k w e = dMid lw hg rn U r k w e := by
  intro k
  induction k with
  | zero => intro w e _; rfl
  | succ k ih =>
    intro w e hn
    unfold dMid
    have hw := hW w (by omega)
    rw [dIn_cg h _ _ _ (by omega) (by omega)]
    exact ih _ _ (by omega)
theorem dT_eq {n : Nat} {lw hg rn : Nat → Nat} (hW : dW n lw hg rn) (r : Nat) : dT n lw hg rn r = dEnt n lw hg rn (dT n lw hg rn) r := by
  show dTab n lw hg rn (r + 1) r = _
  unfold dTab
  simp only [if_true]
  exact dMid_cg hW (fun j h => dTab_lt r j h) _ _ _ (by omega)
theorem dStep_ok {n : Nat} {T : Nat → dE} {r w : Nat} {k : Nat} {e : dE} {s : Nat} (hs : 1 ≤ s) (hsr : s ≤ r) (hw : w < n) (hk : k ≤ 9) (hT : ∀ j < r, dOk n T j (T j)) (he : dOk n T r e) : dOk n T r (dStep T r w k e s) := by
  unfold dStep
  split
  · obtain ⟨h1, h2, h3, h4, h5, h6, h7, h8, h9, h10⟩ := hT (r - s) (by omega)
    unfold dOk
    simp only [dlo_mk, drk_mk, dmn_mk, dnx_mk, dst_mk, Int.toNat_natCast]
    refine ⟨h1, ?_, ?_, ?_, ?_, ?_, ?_, ?_, ?_, ?_⟩ <;> first | omega | (intro _; simp; omega)
  · exact he
theorem dIn_ok {n : Nat} {T : Nat → dE} {r w k : Nat} (hw : w < n) (hk : k ≤ 9) (hT : ∀ j < r, dOk n T j (T j)) : ∀ (c s : Nat) (e : dE), 1 ≤ s → s + c ≤ r + 1 ∨ c = 0 → dOk n T r e → dOk n T r (dIn T r w k c s e) := by
  intro c
  induction c with
  | zero => intro s e _ _ h; exact h
  | succ c ih =>
    intro s e hs hc he
    unfold dIn
    exact ih _ _ (by omega) (by omega) (dStep_ok hs (by omega) hw hk hT he)
theorem dMid_ok {n : Nat} {lw hg rn : Nat → Nat} {T : Nat → dE} {r : Nat} (hW : dW n lw hg rn) (hT : ∀ j < r, dOk n T j (T j)) : ∀ (k w : Nat) (e : dE), w + k = n → dOk n T r e → dOk n T r (dMid lw hg rn T r k w e) := by
  intro k
  induction k with
  | zero => intro w e _ h; exact h
  | succ k ih =>
    intro w e hn he
    unfold dMid
    have hw := hW w (by omega)
    exact ih _ _ (by omega) (dIn_ok (by omega) hw.2.2.2 hT _ _ _ hw.1 (by omega) he)
theorem dOk_0 (n : Nat) (T : Nat → dE) (r : Nat) : dOk n T r ((r : Int), 0, 0, -1, 0) := by
  unfold dOk
  simp only [dlo_mk, drk_mk, dmn_mk, dnx_mk, dst_mk]
  refine ⟨?_, ?_, ?_, ?_, ?_, ?_, ?_, ?_, ?_, ?_⟩ <;> first | omega | (intro h; omega) | (intro _; simp)
theorem dT_ok {n : Nat} {lw hg rn : Nat → Nat} (hW : dW n lw hg rn) : ∀ r, dOk n (dT n lw hg rn) r (dT n lw hg rn r) := by
  intro r
  induction r using Nat.strongRecOn with
  | ind r ih =>
    rw [dT_eq hW r]
    exact dMid_ok hW ih _ _ _ (by omega) (dOk_0 n _ r)
