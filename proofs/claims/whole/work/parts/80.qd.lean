/-! The pure layer: one cut -/
def kK (cuts : Nat) (cw ct : Nat → Nat) (pl : Nat → Int) (as : Nat → Nat) (kc sc : Int32) (kw ks kp sd sm : Nat → Int32) : Prop :=
  kc = I cuts ∧ sc = I (nA as cuts : Nat) ∧ (∀ j < cuts, kw j = I (cw j) ∧ ks j = I (ct j)) ∧ kP cuts pl kp ∧ (∀ j < cuts, as j = 1 → sd (nA as j) = I j) ∧ (∀ w < 6, sm w = I (wS cw ct w cuts : Nat)) ∧ (∀ j < cuts, as j ≤ 1)
def cX (cuts : Nat) (pl : Nat → Int) (P lg : Nat) (cp cl cy : Int32) (cc : Nat → Int32) : Prop := cp = I P ∧ 1 ≤ P ∧ P ≤ 20 ∧ cl = I lg ∧ 1 ≤ lg ∧ lg ≤ 200 ∧ cy = I (nOn pl cuts : Nat) ∧ cC cuts pl cc
theorem sSum_add {ct : Nat → Nat} {first cuts x : Nat} (h : first ≤ cuts) : sSum (dAdd ct cuts x) first (cuts + 1 - first) = sSum ct first (cuts - first) + x := by
  rw [show cuts + 1 - first = cuts - first + 1 by omega, sSum_snoc, sSum_congr (g := ct) (cuts - first) first (fun j h1 h2 => dAdd_n _ _ (by omega)), show first + (cuts - first) = cuts by omega, dAdd_s]
theorem bX_cut {n : Nat} {T : Nat → dE} {ln er hd tl cuts first : Nat} {cw ct : Nat → Nat} {bl be bh bt bn bc bs br : Int32} {w g s : Nat → Int32} (hT : ∀ j, dOk n T j (T j)) (hB : bX T ln er hd tl cuts first cw ct bl be bh bt bn bc bs br w g s) (hm : 0 < dmn (T (ln - er - hd - tl - sSum ct first (cuts - first)))) :
    bX T ln er hd tl (cuts + 1) first (dAdd cw cuts (dnx (T (ln - er - hd - tl - sSum ct first (cuts - first)))).toNat) (dAdd ct cuts (dst (T (ln - er - hd - tl - sSum ct first (cuts - first)))).toNat) bl be bh bt bn (I ((cuts - first + 1 : Nat) : Int)) (I ((sSum ct first (cuts - first) + (dst (T (ln - er - hd - tl - sSum ct first (cuts - first)))).toNat : Nat) : Int)) br w g s := by
  obtain ⟨b0, b1, b2, b3, b4, b5, b6, rfl, rfl, rfl, rfl, rfl, rfl, b7, b8, b9, b10⟩ := hB
  unfold bX
  rw [sSum_add b5]
  have hsum : ∀ k, k ≤ cuts - first → sSum (dAdd ct cuts (dst (T (ln - er - hd - tl - sSum ct first (cuts - first)))).toNat) first k = sSum ct first k := fun k hk => sSum_congr k first (fun j h1 h2 => dAdd_n _ _ (by omega))
  unfold bC
  generalize hS : sSum ct first (cuts - first) = S at *
  generalize hL : ln - er - hd - tl - S = L at *
  have hx := dOk_pos (hT L) hm
  have h10 := (hT L).2.2.2.2.2.2.2.2.2 hx
  have eL : ln - er - hd - tl - (S + (dst (T L)).toNat) = L - (dst (T L)).toNat := by omega
  rw [eL]
  have hmn : (dmn (T L)).toNat = (dmn (T (L - (dst (T L)).toNat))).toNat + 1 := by
    have := (hT (L - (dst (T L)).toNat)).2.2.1; omega
  refine ⟨b0, b1, b2, b3, b4, by omega, by omega, rfl, rfl, rfl, rfl, ?_, rfl, ?_, ?_, ?_, ?_⟩
  · exact congrArg I (by omega)
  · rw [b7]; exact congrArg I (by omega)
  · rw [b8, h10.2.2.1]
  · intro j hj
    by_cases hjc : j = cuts - first
    · subst hjc
      have := b10 0 (by omega)
      simp only [Nat.add_zero] at this
      rw [this.1, this.2.1, this.2.2, show first + (cuts - first) = cuts by omega, dAdd_s, dAdd_s]
      have e0 : lft T L 0 = L := rfl
      rw [e0]
      refine ⟨congrArg I (by omega), congrArg I ?_, congrArg I (by omega)⟩
      rw [hsum (cuts - first) (Nat.le_refl _), hS]
      omega
    · have := b9 j (by omega)
      rw [this.1, this.2.1, this.2.2, dAdd_n _ _ (by omega), dAdd_n _ _ (by omega), hsum j (by omega)]
      exact ⟨rfl, rfl, rfl⟩
  · intro i hi
    have := b10 (i + 1) (by omega)
    have hle := (lft_ok hT i (L - (dst (T L)).toNat) (by omega)).2.2
    rw [show cuts + 1 - first + i = cuts - first + (i + 1) by omega]
    refine ⟨this.1, ?_, this.2.2⟩
    rw [this.2.1]
    show I ((hd + S + (L - lft T (L - (dst (T L)).toNat) i) : Nat) : Int) = _
    exact congrArg I (by omega)
theorem kX_cut {n cuts : Nat} {cw ct : Nat → Nat} {x y : Nat} (hk : kX n cuts cw ct) (hc : cuts < 300) (hx : x < n) (hy : 1 ≤ y) (hy' : y ≤ 200) : kX n (cuts + 1) (dAdd cw cuts x) (dAdd ct cuts y) := by
  refine ⟨hk.1, by omega, fun j hj => ?_⟩
  by_cases h : j = cuts
  · subst h; rw [dAdd_s, dAdd_s]; exact ⟨hx, hy, hy'⟩
  · rw [dAdd_n _ _ h, dAdd_n _ _ h]; exact hk.2.2 j (by omega)
theorem kP_cut {cuts : Nat} {pl : Nat → Int} {kp : Nat → Int32} {x : Int} (h : kP cuts pl kp) (h1 : -2 ≤ x) (h2 : x < 20) : kP (cuts + 1) (iAdd pl cuts x) (upd kp cuts (I x)) := by
  intro j hj
  by_cases hjc : j = cuts
  · subst hjc; rw [iAdd_s, upd_same]; exact ⟨rfl, h1, h2⟩
  · rw [iAdd_n _ _ hjc, upd_ne _ _ hjc]; exact h j (by omega)
theorem kK_cut {cuts : Nat} {cw ct : Nat → Nat} {pl : Nat → Int} {as : Nat → Nat} {kc sc : Int32} {kw ks kp sd sm : Nat → Int32} {x y a : Nat} {z : Int} (h : kK cuts cw ct pl as kc sc kw ks kp sd sm) (h1 : -2 ≤ z) (h2 : z < 20) (ha : a ≤ 1) (hx : x < 6) :
    kK (cuts + 1) (dAdd cw cuts x) (dAdd ct cuts y) (iAdd pl cuts z) (dAdd as cuts a) (I ((cuts + 1 : Nat) : Int)) (I ((nA as cuts + a : Nat) : Int)) (upd kw cuts (I x)) (upd ks cuts (I y)) (upd kp cuts (I z)) (if a = 1 then upd sd (nA as cuts) (I cuts) else sd) (upd sm x (I ((wS cw ct x cuts + y : Nat) : Int))) := by
  obtain ⟨rfl, rfl, k1, k2, k3, k4, k5⟩ := h
  have hna : ∀ j, j ≤ cuts → nA (dAdd as cuts a) j = nA as j := fun j hj => nA_cg j (fun i hi => dAdd_n _ _ (by omega))
  have hws : ∀ w, wS (dAdd cw cuts x) (dAdd ct cuts y) w cuts = wS cw ct w cuts := fun w => wS_cg cuts (fun j hj => ⟨dAdd_n _ _ (by omega), dAdd_n _ _ (by omega)⟩)
  refine ⟨rfl, ?_, ?_, kP_cut k2 h1 h2, ?_, ?_, ?_⟩
  · refine congrArg I ?_
    show _ = ((nA (dAdd as cuts a) cuts + dAdd as cuts a cuts : Nat) : Int)
    rw [hna cuts (Nat.le_refl _), dAdd_s]
  · intro j hj
    by_cases hjc : j = cuts
    · subst hjc; rw [dAdd_s, dAdd_s, upd_same, upd_same]; exact ⟨rfl, rfl⟩
    · rw [dAdd_n _ _ hjc, dAdd_n _ _ hjc, upd_ne _ _ hjc, upd_ne _ _ hjc]; exact k1 j (by omega)
  · intro j hj hja
    rw [hna j (by omega)]
    by_cases hjc : j = cuts
    · subst hjc
      rw [dAdd_s] at hja
      rw [if_pos hja, upd_same]
    · rw [dAdd_n _ _ hjc] at hja
      have hlt : nA as j < nA as cuts := by
        have h3 := nA_mono (f := as) (j + 1) (cuts - (j + 1))
        rw [show j + 1 + (cuts - (j + 1)) = cuts by omega] at h3
        have h4 : nA as (j + 1) = nA as j + as j := rfl
        omega
      by_cases h1' : a = 1
      · rw [if_pos h1', upd_ne _ _ (by omega)]; exact k3 j (by omega) hja
      · rw [if_neg h1']; exact k3 j (by omega) hja
  · intro w hw
    show _ = I ((wS (dAdd cw cuts x) (dAdd ct cuts y) w cuts + (if dAdd cw cuts x cuts = w then dAdd ct cuts y cuts else 0) : Nat) : Int)
    rw [hws, dAdd_s, dAdd_s]
    by_cases hwx : w = x
    · subst hwx; rw [upd_same, if_pos rfl]
    · rw [upd_ne _ _ hwx, if_neg (fun h => hwx h.symm), k4 w hw, Nat.add_zero]
  · intro j hj
    by_cases hjc : j = cuts
    · subst hjc; rw [dAdd_s]; exact ha
    · rw [dAdd_n _ _ hjc]; exact k5 j (by omega)
theorem cC_lay {cuts p : Nat} {pl : Nat → Int} {cc : Nat → Int32} (h : cC cuts pl cc) (hp : p < 20) (hf : cc p = I (-1)) (hc : cuts ≤ 300) : cC (cuts + 1) (iAdd pl cuts (p : Int)) (upd cc p (I cuts)) := by
  intro q hq
  by_cases hqp : q = p
  · subst hqp
    refine Or.inr ⟨cuts, by omega, iAdd_s _ _ _, upd_same _ _ _, fun i hi hpi => ?_⟩
    by_cases hic : i = cuts
    · exact hic
    · rw [iAdd_n _ _ hic] at hpi
      rcases h q hq with h1 | ⟨j, j1, j2, j3, j4⟩
      · exact absurd hpi (h1.2 i (by omega))
      · rw [j3, I_eq (by omega) (by omega) (by omega) (by omega)] at hf; omega
  · rw [upd_ne _ _ hqp]
    rcases h q hq with h1 | ⟨j, j1, j2, j3, j4⟩
    · refine Or.inl ⟨h1.1, fun j hj => ?_⟩
      by_cases hjc : j = cuts
      · subst hjc; rw [iAdd_s]; omega
      · rw [iAdd_n _ _ hjc]; exact h1.2 j (by omega)
    · refine Or.inr ⟨j, by omega, by rw [iAdd_n _ _ (by omega)]; exact j2, j3, fun i hi hpi => ?_⟩
      by_cases hic : i = cuts
      · subst hic; rw [iAdd_s] at hpi; omega
      · rw [iAdd_n _ _ hic] at hpi; exact j4 i (by omega) hpi
theorem cC_no {cuts : Nat} {pl : Nat → Int} {cc : Nat → Int32} (h : cC cuts pl cc) : cC (cuts + 1) (iAdd pl cuts (-1)) cc := by
  intro q hq
  rcases h q hq with h1 | ⟨j, j1, j2, j3, j4⟩
  · refine Or.inl ⟨h1.1, fun j hj => ?_⟩
    by_cases hjc : j = cuts
    · subst hjc; rw [iAdd_s]; omega
    · rw [iAdd_n _ _ hjc]; exact h1.2 j (by omega)
  · refine Or.inr ⟨j, by omega, by rw [iAdd_n _ _ (by omega)]; exact j2, j3, fun i hi hpi => ?_⟩
    by_cases hic : i = cuts
    · subst hic; rw [iAdd_s] at hpi; omega
    · rw [iAdd_n _ _ hic] at hpi; exact j4 i (by omega) hpi
theorem nOn_add {pl : Nat → Int} {cuts : Nat} {x : Int} : nOn (iAdd pl cuts x) (cuts + 1) = nOn pl cuts + if 0 ≤ x then 1 else 0 := by
  show nOn (iAdd pl cuts x) cuts + (if 0 ≤ iAdd pl cuts x cuts then 1 else 0) = _
  rw [nOn_cg (g := pl) cuts (fun j hj => iAdd_n _ _ (by omega)), iAdd_s]
theorem q_enter {kw ks kp kb sd sm : Nat → Int32} {cuts na wv st W : Nat} {pla : Int} {post : Int32 → Int32 → (Nat → Int32) → (Nat → Int32) → (Nat → Int32) → (Nat → Int32) → (Nat → Int32) → (Nat → Int32) → Prop} (hc : cuts < 300) (hna : na ≤ cuts) (hw : wv < 6) (hp1 : -2 ≤ pla) (hp2 : pla < 20) (hs : sm wv = I W)
    (hm : pla = -1 → post (I ((cuts + 1 : Nat) : Int)) (I ((na + 1 : Nat) : Int)) (upd kw cuts (I wv)) (upd ks cuts (I st)) (upd kp cuts (I pla)) (upd kb cuts (I (-1))) (upd sd na (I cuts)) (upd sm wv (I ((W + st : Nat) : Int))))
    (ho : pla ≠ -1 → post (I ((cuts + 1 : Nat) : Int)) (I na) (upd kw cuts (I wv)) (upd ks cuts (I st)) (upd kp cuts (I pla)) (upd kb cuts (I (-1))) sd (upd sm wv (I ((W + st : Nat) : Int)))) :
    vc_k_enter kw ks kp kb sd sm (I cuts) (I na) (I wv) (I st) (I pla) post := by
  unfold vc_k_enter
  simp (disch := omega) only [I_m1, I_m2, I_0, I_1, I_2, I_3, I_4, I_5, I_6, I_7, I_8, I_9, I_10, I_11, I_12, I_13, I_14, I_15, I_20, I_50, I_100, I_200, I_256, I_300, I_1000, I_2000, I_1048576, I_n1, I_n2, I_nat, I_add, I_sub, I_mul, I_le, I_lt, I_eq, I_cl, I_in, forall_eq, Int.not_le, Int.not_lt, Int.toNat_natCast, hs]
  rw [show (W : Int) + (st : Int) = ((W + st : Nat) : Int) by omega, show (cuts : Int) + 1 = ((cuts + 1 : Nat) : Int) by omega, show (na : Int) + 1 = ((na + 1 : Nat) : Int) by omega]
  have hz : (0 : Int) ≤ cuts ∧ (cuts : Int) < (300 : Nat) := by omega
  have hz2 : (0 : Int) ≤ wv ∧ (wv : Int) < (6 : Nat) := by omega
  exact ⟨fun h => by omega, fun _ => ⟨fun h => by omega, fun _ => ⟨fun _ => ⟨hz, hz, hz, hz, hz2, hz2, fun h => ⟨fun h' => by omega, fun _ => ⟨by omega, hm h⟩⟩, fun h => ho h⟩, fun h => by omega⟩⟩⟩
