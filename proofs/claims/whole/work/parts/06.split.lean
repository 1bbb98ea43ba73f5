/-! A private method returns or throws: which one is known ahead of the call. -/
theorem sp_x_requireRange {a b c : Int32} {post : Prop} {postX : String → Prop} (h : vc_x_requireRange a b c post postX) : vc_x_requireRange a b c post (fun _ => False) ∨ vc_x_requireRange a b c False postX := by
  unfold vc_x_requireRange at h ⊢
  by_cases h1 : a < b
  · exact Or.inr ⟨fun _ => h.1 h1, fun n => absurd h1 n⟩
  · by_cases h2 : a ≤ c
    · exact Or.inl ⟨fun n => absurd n h1, fun _ => ⟨fun _ => (h.2 h1).1 h2, fun n => absurd h2 n⟩⟩
    · exact Or.inr ⟨fun n => absurd n h1, fun _ => ⟨fun n => absurd n h2, fun _ => (h.2 h1).2 h2⟩⟩
theorem sp_x_requireIndex {a b : Int32} {post : Prop} {postX : String → Prop} (h : vc_x_requireIndex a b post postX) : vc_x_requireIndex a b post (fun _ => False) ∨ vc_x_requireIndex a b False postX := by
  unfold vc_x_requireIndex at h ⊢
  by_cases h1 : a < 0
  · exact Or.inr ⟨fun _ => h.1 h1, fun n => absurd h1 n⟩
  · by_cases h2 : a < b
    · exact Or.inl ⟨fun n => absurd n h1, fun _ => ⟨fun _ => (h.2 h1).1 h2, fun n => absurd h2 n⟩⟩
    · exact Or.inr ⟨fun n => absurd n h1, fun _ => ⟨fun n => absurd n h2, fun _ => (h.2 h1).2 h2⟩⟩
theorem sp_b_requireCutsFit {a b : Int32} {post : Prop} {postX : String → Prop} (h : vc_b_requireCutsFit a b post postX) : vc_b_requireCutsFit a b post (fun _ => False) ∨ vc_b_requireCutsFit a b False postX := by
  unfold vc_b_requireCutsFit at h ⊢
  by_cases h1 : a ≤ b
  · exact Or.inl ⟨fun _ => h.1 h1, fun n => absurd h1 n⟩
  · exact Or.inr ⟨fun n => absurd n h1, fun _ => h.2 h1⟩
theorem sp_b_changeCrops {a b c d e p1 p2 : Int32} {post : Int32 → Int32 → Prop} {postX : String → Prop} (h : vc_b_changeCrops a b c d e p1 p2 post postX) : vc_b_changeCrops a b c d e p1 p2 post (fun _ => False) ∨ vc_b_changeCrops a b c d e p1 p2 (fun _ _ => False) postX := by
  unfold vc_b_changeCrops vc_b_roomOf at h ⊢
  by_cases h1 : d ≤ 0
  · rcases sp_b_requireCutsFit (h.1 h1) with k | k
    · exact Or.inl ⟨fun _ => k, fun n => absurd h1 n⟩
    · exact Or.inr ⟨fun _ => k, fun n => absurd h1 n⟩
  · by_cases h2 : p1 = c
    · rcases sp_b_requireCutsFit ((h.2 h1).1 h2) with k | k
      · exact Or.inl ⟨fun n => absurd n h1, fun _ => ⟨fun _ => k, fun n => absurd h2 n⟩⟩
      · exact Or.inr ⟨fun n => absurd n h1, fun _ => ⟨fun _ => k, fun n => absurd h2 n⟩⟩
    · exact Or.inr ⟨fun n => absurd n h1, fun _ => ⟨fun n => absurd n h2, fun _ => (h.2 h1).2 h2⟩⟩
theorem sp_b_learnLength {a b c p1 : Int32} {post : Int32 → Int32 → Prop} {postX : String → Prop} (h : vc_b_learnLength a b c p1 post postX) : vc_b_learnLength a b c p1 post (fun _ => False) ∨ vc_b_learnLength a b c p1 (fun _ _ => False) postX := by
  unfold vc_b_learnLength vc_b_roomOf at h ⊢
  exact sp_b_requireCutsFit h
theorem sp_t_add {f1 f2 f3 f4 f5 f6 : Nat → Int32} {n p1 p2 p3 : Int32} {post : Int32 → Int32 → (Nat → Int32) → (Nat → Int32) → (Nat → Int32) → (Nat → Int32) → (Nat → Int32) → (Nat → Int32) → Prop} {postX : String → Prop} (h : vc_t_add f1 f2 f3 f4 f5 f6 n p1 p2 p3 post postX) : vc_t_add f1 f2 f3 f4 f5 f6 n p1 p2 p3 post (fun _ => False) ∨ vc_t_add f1 f2 f3 f4 f5 f6 n p1 p2 p3 (fun _ _ _ _ _ _ _ _ => False) postX := by
  unfold vc_t_add at h ⊢
  by_cases h1 : n < 6
  · exact Or.inl ⟨fun _ => h.1 h1, fun n => absurd h1 n⟩
  · exact Or.inr ⟨fun n => absurd n h1, fun _ => h.2 h1⟩
