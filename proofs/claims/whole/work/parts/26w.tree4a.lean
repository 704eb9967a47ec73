theorem lk2_invK {κ A1 A2 ρ : Type} {f : κ → (A1 → A2 → Option ρ) → A1 → A2 → Option ρ} (I : Nat → A1 → A2 → Prop) (N : Nat) (hs : ∀ (t : Nat) (a1 : A1) (a2 : A2), t < N → I t a1 a2 → ∃ b1 b2, (∀ (x : κ) (k : A1 → A2 → Option ρ), f x k a1 a2 = k b1 b2) ∧ I (t + 1) b1 b2) (a1 : A1) (a2 : A2) (h0 : I 0 a1 a2) : ∃ b1 b2, I N b1 b2 ∧ ∀ (x : κ) (F : Nat), N < F → ∃ k, lk2 (f x) F a1 a2 = f x k b1 b2 := by
  have h : ∀ (m t : Nat) (a1 : A1) (a2 : A2), t + m = N → I t a1 a2 → ∃ b1 b2, I N b1 b2 ∧ ∀ (x : κ) (F : Nat), m < F → ∃ k, lk2 (f x) F a1 a2 = f x k b1 b2 := by
    intro m
    induction m with
    | zero =>
      intro t a1 a2 ht h
      have e : t = N := by omega
      subst e
      refine ⟨a1, a2, h, fun x F hF => ?_⟩
      obtain ⟨F, rfl⟩ : ∃ F', F = F' + 1 := ⟨F - 1, by omega⟩
      exact ⟨_, rfl⟩
    | succ m ih =>
      intro t a1 a2 ht h
      obtain ⟨b1, b2, e, h1⟩ := hs t a1 a2 (by omega) h
      obtain ⟨c1, c2, h2, h3⟩ := ih (t + 1) b1 b2 (by omega) h1
      refine ⟨c1, c2, h2, fun x F hF => ?_⟩
      obtain ⟨F, rfl⟩ : ∃ F', F = F' + 1 := ⟨F - 1, by omega⟩
      obtain ⟨k, hk⟩ := h3 x F (by omega)
      exact ⟨k, (e x _).trans hk⟩
  exact h N 0 a1 a2 (by omega) h0
theorem lk3_invK {κ A1 A2 A3 ρ : Type} {f : κ → (A1 → A2 → A3 → Option ρ) → A1 → A2 → A3 → Option ρ} (I : Nat → A1 → A2 → A3 → Prop) (N : Nat) (hs : ∀ (t : Nat) (a1 : A1) (a2 : A2) (a3 : A3), t < N → I t a1 a2 a3 → ∃ b1 b2 b3, (∀ (x : κ) (k : A1 → A2 → A3 → Option ρ), f x k a1 a2 a3 = k b1 b2 b3) ∧ I (t + 1) b1 b2 b3) (a1 : A1) (a2 : A2) (a3 : A3) (h0 : I 0 a1 a2 a3) : ∃ b1 b2 b3, I N b1 b2 b3 ∧ ∀ (x : κ) (F : Nat), N < F → ∃ k, lk3 (f x) F a1 a2 a3 = f x k b1 b2 b3 := by
  have h : ∀ (m t : Nat) (a1 : A1) (a2 : A2) (a3 : A3), t + m = N → I t a1 a2 a3 → ∃ b1 b2 b3, I N b1 b2 b3 ∧ ∀ (x : κ) (F : Nat), m < F → ∃ k, lk3 (f x) F a1 a2 a3 = f x k b1 b2 b3 := by
    intro m
    induction m with
    | zero =>
      intro t a1 a2 a3 ht h
      have e : t = N := by omega
      subst e
      refine ⟨a1, a2, a3, h, fun x F hF => ?_⟩
      obtain ⟨F, rfl⟩ : ∃ F', F = F' + 1 := ⟨F - 1, by omega⟩
      exact ⟨_, rfl⟩
    | succ m ih =>
      intro t a1 a2 a3 ht h
      obtain ⟨b1, b2, b3, e, h1⟩ := hs t a1 a2 a3 (by omega) h
      obtain ⟨c1, c2, c3, h2, h3⟩ := ih (t + 1) b1 b2 b3 (by omega) h1
      refine ⟨c1, c2, c3, h2, fun x F hF => ?_⟩
      obtain ⟨F, rfl⟩ : ∃ F', F = F' + 1 := ⟨F - 1, by omega⟩
      obtain ⟨k, hk⟩ := h3 x F (by omega)
      exact ⟨k, (e x _).trans hk⟩
  exact h N 0 a1 a2 a3 (by omega) h0
theorem lk4_invK {κ A1 A2 A3 A4 ρ : Type} {f : κ → (A1 → A2 → A3 → A4 → Option ρ) → A1 → A2 → A3 → A4 → Option ρ} (I : Nat → A1 → A2 → A3 → A4 → Prop) (N : Nat) (hs : ∀ (t : Nat) (a1 : A1) (a2 : A2) (a3 : A3) (a4 : A4), t < N → I t a1 a2 a3 a4 → ∃ b1 b2 b3 b4, (∀ (x : κ) (k : A1 → A2 → A3 → A4 → Option ρ), f x k a1 a2 a3 a4 = k b1 b2 b3 b4) ∧ I (t + 1) b1 b2 b3 b4) (a1 : A1) (a2 : A2) (a3 : A3) (a4 : A4) (h0 : I 0 a1 a2 a3 a4) : ∃ b1 b2 b3 b4, I N b1 b2 b3 b4 ∧ ∀ (x : κ) (F : Nat), N < F → ∃ k, lk4 (f x) F a1 a2 a3 a4 = f x k b1 b2 b3 b4 := by
  have h : ∀ (m t : Nat) (a1 : A1) (a2 : A2) (a3 : A3) (a4 : A4), t + m = N → I t a1 a2 a3 a4 → ∃ b1 b2 b3 b4, I N b1 b2 b3 b4 ∧ ∀ (x : κ) (F : Nat), m < F → ∃ k, lk4 (f x) F a1 a2 a3 a4 = f x k b1 b2 b3 b4 := by
    intro m
    induction m with
    | zero =>
      intro t a1 a2 a3 a4 ht h
      have e : t = N := by omega
      subst e
      refine ⟨a1, a2, a3, a4, h, fun x F hF => ?_⟩
      obtain ⟨F, rfl⟩ : ∃ F', F = F' + 1 := ⟨F - 1, by omega⟩
      exact ⟨_, rfl⟩
    | succ m ih =>
      intro t a1 a2 a3 a4 ht h
      obtain ⟨b1, b2, b3, b4, e, h1⟩ := hs t a1 a2 a3 a4 (by omega) h
      obtain ⟨c1, c2, c3, c4, h2, h3⟩ := ih (t + 1) b1 b2 b3 b4 (by omega) h1
      refine ⟨c1, c2, c3, c4, h2, fun x F hF => ?_⟩
      obtain ⟨F, rfl⟩ : ∃ F', F = F' + 1 := ⟨F - 1, by omega⟩
      obtain ⟨k, hk⟩ := h3 x F (by omega)
      exact ⟨k, (e x _).trans hk⟩
  exact h N 0 a1 a2 a3 a4 (by omega) h0
theorem lk5_invK {κ A1 A2 A3 A4 A5 ρ : Type} {f : κ → (A1 → A2 → A3 → A4 → A5 → Option ρ) → A1 → A2 → A3 → A4 → A5 → Option ρ} (I : Nat → A1 → A2 → A3 → A4 → A5 → Prop) (N : Nat) (hs : ∀ (t : Nat) (a1 : A1) (a2 : A2) (a3 : A3) (a4 : A4) (a5 : A5), t < N → I t a1 a2 a3 a4 a5 → ∃ b1 b2 b3 b4 b5, (∀ (x : κ) (k : A1 → A2 → A3 → A4 → A5 → Option ρ), f x k a1 a2 a3 a4 a5 = k b1 b2 b3 b4 b5) ∧ I (t + 1) b1 b2 b3 b4 b5) (a1 : A1) (a2 : A2) (a3 : A3) (a4 : A4) (a5 : A5) (h0 : I 0 a1 a2 a3 a4 a5) : ∃ b1 b2 b3 b4 b5, I N b1 b2 b3 b4 b5 ∧ ∀ (x : κ) (F : Nat), N < F → ∃ k, lk5 (f x) F a1 a2 a3 a4 a5 = f x k b1 b2 b3 b4 b5 := by
  have h : ∀ (m t : Nat) (a1 : A1) (a2 : A2) (a3 : A3) (a4 : A4) (a5 : A5), t + m = N → I t a1 a2 a3 a4 a5 → ∃ b1 b2 b3 b4 b5, I N b1 b2 b3 b4 b5 ∧ ∀ (x : κ) (F : Nat), m < F → ∃ k, lk5 (f x) F a1 a2 a3 a4 a5 = f x k b1 b2 b3 b4 b5 := by
    intro m
    induction m with
    | zero =>
      intro t a1 a2 a3 a4 a5 ht h
      have e : t = N := by omega
      subst e
      refine ⟨a1, a2, a3, a4, a5, h, fun x F hF => ?_⟩
      obtain ⟨F, rfl⟩ : ∃ F', F = F' + 1 := ⟨F - 1, by omega⟩
      exact ⟨_, rfl⟩
    | succ m ih =>
      intro t a1 a2 a3 a4 a5 ht h
      obtain ⟨b1, b2, b3, b4, b5, e, h1⟩ := hs t a1 a2 a3 a4 a5 (by omega) h
      obtain ⟨c1, c2, c3, c4, c5, h2, h3⟩ := ih (t + 1) b1 b2 b3 b4 b5 (by omega) h1
      refine ⟨c1, c2, c3, c4, c5, h2, fun x F hF => ?_⟩
      obtain ⟨F, rfl⟩ : ∃ F', F = F' + 1 := ⟨F - 1, by omega⟩
      obtain ⟨k, hk⟩ := h3 x F (by omega)
      exact ⟨k, (e x _).trans hk⟩
  exact h N 0 a1 a2 a3 a4 a5 (by omega) h0
