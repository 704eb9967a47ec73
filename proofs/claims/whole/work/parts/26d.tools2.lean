theorem lk1_inv {A1 ρ : Type} {f : (A1 → Option ρ) → A1 → Option ρ} (I : Nat → A1 → Prop) (N : Nat) (hs : ∀ (t : Nat) (a1 : A1), t < N → I t a1 → ∃ b1, (∀ k : A1 → Option ρ, f k a1 = k b1) ∧ I (t + 1) b1) (a1 : A1) (h0 : I 0 a1) : ∃ b1, I N b1 ∧ ∀ F, N < F → ∃ k, lk1 f F a1 = f k b1 := by
  have h : ∀ (m t : Nat) (a1 : A1), t + m = N → I t a1 → ∃ b1, I N b1 ∧ ∀ F, m < F → ∃ k, lk1 f F a1 = f k b1 := by
    intro m
    induction m with
    | zero =>
      intro t a1 ht h
      have e : t = N := by omega
      subst e
      refine ⟨a1, h, fun F hF => ?_⟩
      obtain ⟨F, rfl⟩ : ∃ F', F = F' + 1 := ⟨F - 1, by omega⟩
      exact ⟨_, rfl⟩
    | succ m ih =>
      intro t a1 ht h
      obtain ⟨b1, e, h1⟩ := hs t a1 (by omega) h
      obtain ⟨c1, h2, h3⟩ := ih (t + 1) b1 (by omega) h1
      refine ⟨c1, h2, fun F hF => ?_⟩
      obtain ⟨F, rfl⟩ : ∃ F', F = F' + 1 := ⟨F - 1, by omega⟩
      obtain ⟨k, hk⟩ := h3 F (by omega)
      exact ⟨k, (e _).trans hk⟩
  exact h N 0 a1 (by omega) h0
theorem lk2_inv {A1 A2 ρ : Type} {f : (A1 → A2 → Option ρ) → A1 → A2 → Option ρ} (I : Nat → A1 → A2 → Prop) (N : Nat) (hs : ∀ (t : Nat) (a1 : A1) (a2 : A2), t < N → I t a1 a2 → ∃ b1 b2, (∀ k : A1 → A2 → Option ρ, f k a1 a2 = k b1 b2) ∧ I (t + 1) b1 b2) (a1 : A1) (a2 : A2) (h0 : I 0 a1 a2) : ∃ b1 b2, I N b1 b2 ∧ ∀ F, N < F → ∃ k, lk2 f F a1 a2 = f k b1 b2 := by
  have h : ∀ (m t : Nat) (a1 : A1) (a2 : A2), t + m = N → I t a1 a2 → ∃ b1 b2, I N b1 b2 ∧ ∀ F, m < F → ∃ k, lk2 f F a1 a2 = f k b1 b2 := by
    intro m
    induction m with
    | zero =>
      intro t a1 a2 ht h
      have e : t = N := by omega
      subst e
      refine ⟨a1, a2, h, fun F hF => ?_⟩
      obtain ⟨F, rfl⟩ : ∃ F', F = F' + 1 := ⟨F - 1, by omega⟩
      exact ⟨_, rfl⟩
    | succ m ih =>
      intro t a1 a2 ht h
      obtain ⟨b1, b2, e, h1⟩ := hs t a1 a2 (by omega) h
      obtain ⟨c1, c2, h2, h3⟩ := ih (t + 1) b1 b2 (by omega) h1
      refine ⟨c1, c2, h2, fun F hF => ?_⟩
      obtain ⟨F, rfl⟩ : ∃ F', F = F' + 1 := ⟨F - 1, by omega⟩
      obtain ⟨k, hk⟩ := h3 F (by omega)
      exact ⟨k, (e _).trans hk⟩
  exact h N 0 a1 a2 (by omega) h0
theorem lk3_inv {A1 A2 A3 ρ : Type} {f : (A1 → A2 → A3 → Option ρ) → A1 → A2 → A3 → Option ρ} (I : Nat → A1 → A2 → A3 → Prop) (N : Nat) (hs : ∀ (t : Nat) (a1 : A1) (a2 : A2) (a3 : A3), t < N → I t a1 a2 a3 → ∃ b1 b2 b3, (∀ k : A1 → A2 → A3 → Option ρ, f k a1 a2 a3 = k b1 b2 b3) ∧ I (t + 1) b1 b2 b3) (a1 : A1) (a2 : A2) (a3 : A3) (h0 : I 0 a1 a2 a3) : ∃ b1 b2 b3, I N b1 b2 b3 ∧ ∀ F, N < F → ∃ k, lk3 f F a1 a2 a3 = f k b1 b2 b3 := by
  have h : ∀ (m t : Nat) (a1 : A1) (a2 : A2) (a3 : A3), t + m = N → I t a1 a2 a3 → ∃ b1 b2 b3, I N b1 b2 b3 ∧ ∀ F, m < F → ∃ k, lk3 f F a1 a2 a3 = f k b1 b2 b3 := by
    intro m
    induction m with
    | zero =>
      intro t a1 a2 a3 ht h
      have e : t = N := by omega
      subst e
      refine ⟨a1, a2, a3, h, fun F hF => ?_⟩
      obtain ⟨F, rfl⟩ : ∃ F', F = F' + 1 := ⟨F - 1, by omega⟩
      exact ⟨_, rfl⟩
    | succ m ih =>
      intro t a1 a2 a3 ht h
      obtain ⟨b1, b2, b3, e, h1⟩ := hs t a1 a2 a3 (by omega) h
      obtain ⟨c1, c2, c3, h2, h3⟩ := ih (t + 1) b1 b2 b3 (by omega) h1
      refine ⟨c1, c2, c3, h2, fun F hF => ?_⟩
      obtain ⟨F, rfl⟩ : ∃ F', F = F' + 1 := ⟨F - 1, by omega⟩
      obtain ⟨k, hk⟩ := h3 F (by omega)
      exact ⟨k, (e _).trans hk⟩
  exact h N 0 a1 a2 a3 (by omega) h0
theorem lk4_inv {A1 A2 A3 A4 ρ : Type} {f : (A1 → A2 → A3 → A4 → Option ρ) → A1 → A2 → A3 → A4 → Option ρ} (I : Nat → A1 → A2 → A3 → A4 → Prop) (N : Nat) (hs : ∀ (t : Nat) (a1 : A1) (a2 : A2) (a3 : A3) (a4 : A4), t < N → I t a1 a2 a3 a4 → ∃ b1 b2 b3 b4, (∀ k : A1 → A2 → A3 → A4 → Option ρ, f k a1 a2 a3 a4 = k b1 b2 b3 b4) ∧ I (t + 1) b1 b2 b3 b4) (a1 : A1) (a2 : A2) (a3 : A3) (a4 : A4) (h0 : I 0 a1 a2 a3 a4) : ∃ b1 b2 b3 b4, I N b1 b2 b3 b4 ∧ ∀ F, N < F → ∃ k, lk4 f F a1 a2 a3 a4 = f k b1 b2 b3 b4 := by
  have h : ∀ (m t : Nat) (a1 : A1) (a2 : A2) (a3 : A3) (a4 : A4), t + m = N → I t a1 a2 a3 a4 → ∃ b1 b2 b3 b4, I N b1 b2 b3 b4 ∧ ∀ F, m < F → ∃ k, lk4 f F a1 a2 a3 a4 = f k b1 b2 b3 b4 := by
    intro m
    induction m with
    | zero =>
      intro t a1 a2 a3 a4 ht h
      have e : t = N := by omega
      subst e
      refine ⟨a1, a2, a3, a4, h, fun F hF => ?_⟩
      obtain ⟨F, rfl⟩ : ∃ F', F = F' + 1 := ⟨F - 1, by omega⟩
      exact ⟨_, rfl⟩
    | succ m ih =>
      intro t a1 a2 a3 a4 ht h
      obtain ⟨b1, b2, b3, b4, e, h1⟩ := hs t a1 a2 a3 a4 (by omega) h
      obtain ⟨c1, c2, c3, c4, h2, h3⟩ := ih (t + 1) b1 b2 b3 b4 (by omega) h1
      refine ⟨c1, c2, c3, c4, h2, fun F hF => ?_⟩
      obtain ⟨F, rfl⟩ : ∃ F', F = F' + 1 := ⟨F - 1, by omega⟩
      obtain ⟨k, hk⟩ := h3 F (by omega)
      exact ⟨k, (e _).trans hk⟩
  exact h N 0 a1 a2 a3 a4 (by omega) h0
theorem lk5_inv {A1 A2 A3 A4 A5 ρ : Type} {f : (A1 → A2 → A3 → A4 → A5 → Option ρ) → A1 → A2 → A3 → A4 → A5 → Option ρ} (I : Nat → A1 → A2 → A3 → A4 → A5 → Prop) (N : Nat) (hs : ∀ (t : Nat) (a1 : A1) (a2 : A2) (a3 : A3) (a4 : A4) (a5 : A5), t < N → I t a1 a2 a3 a4 a5 → ∃ b1 b2 b3 b4 b5, (∀ k : A1 → A2 → A3 → A4 → A5 → Option ρ, f k a1 a2 a3 a4 a5 = k b1 b2 b3 b4 b5) ∧ I (t + 1) b1 b2 b3 b4 b5) (a1 : A1) (a2 : A2) (a3 : A3) (a4 : A4) (a5 : A5) (h0 : I 0 a1 a2 a3 a4 a5) : ∃ b1 b2 b3 b4 b5, I N b1 b2 b3 b4 b5 ∧ ∀ F, N < F → ∃ k, lk5 f F a1 a2 a3 a4 a5 = f k b1 b2 b3 b4 b5 := by
  have h : ∀ (m t : Nat) (a1 : A1) (a2 : A2) (a3 : A3) (a4 : A4) (a5 : A5), t + m = N → I t a1 a2 a3 a4 a5 → ∃ b1 b2 b3 b4 b5, I N b1 b2 b3 b4 b5 ∧ ∀ F, m < F → ∃ k, lk5 f F a1 a2 a3 a4 a5 = f k b1 b2 b3 b4 b5 := by
    intro m
    induction m with
    | zero =>
      intro t a1 a2 a3 a4 a5 ht h
      have e : t = N := by omega
      subst e
      refine ⟨a1, a2, a3, a4, a5, h, fun F hF => ?_⟩
      obtain ⟨F, rfl⟩ : ∃ F', F = F' + 1 := ⟨F - 1, by omega⟩
      exact ⟨_, rfl⟩
    | succ m ih =>
      intro t a1 a2 a3 a4 a5 ht h
      obtain ⟨b1, b2, b3, b4, b5, e, h1⟩ := hs t a1 a2 a3 a4 a5 (by omega) h
      obtain ⟨c1, c2, c3, c4, c5, h2, h3⟩ := ih (t + 1) b1 b2 b3 b4 b5 (by omega) h1
      refine ⟨c1, c2, c3, c4, c5, h2, fun F hF => ?_⟩
      obtain ⟨F, rfl⟩ : ∃ F', F = F' + 1 := ⟨F - 1, by omega⟩
      obtain ⟨k, hk⟩ := h3 F (by omega)
      exact ⟨k, (e _).trans hk⟩
  exact h N 0 a1 a2 a3 a4 a5 (by omega) h0
theorem lk6_inv {A1 A2 A3 A4 A5 A6 ρ : Type} {f : (A1 → A2 → A3 → A4 → A5 → A6 → Option ρ) → A1 → A2 → A3 → A4 → A5 → A6 → Option ρ} (I : Nat → A1 → A2 → A3 → A4 → A5 → A6 → Prop) (N : Nat) (hs : ∀ (t : Nat) (a1 : A1) (a2 : A2) (a3 : A3) (a4 : A4) (a5 : A5) (a6 : A6), t < N → I t a1 a2 a3 a4 a5 a6 → ∃ b1 b2 b3 b4 b5 b6, (∀ k : A1 → A2 → A3 → A4 → A5 → A6 → Option ρ, f k a1 a2 a3 a4 a5 a6 = k b1 b2 b3 b4 b5 b6) ∧ I (t + 1) b1 b2 b3 b4 b5 b6) (a1 : A1) (a2 : A2) (a3 : A3) (a4 : A4) (a5 : A5) (a6 : A6) (h0 : I 0 a1 a2 a3 a4 a5 a6) : ∃ b1 b2 b3 b4 b5 b6, I N b1 b2 b3 b4 b5 b6 ∧ ∀ F, N < F → ∃ k, lk6 f F a1 a2 a3 a4 a5 a6 = f k b1 b2 b3 b4 b5 b6 := by
  have h : ∀ (m t : Nat) (a1 : A1) (a2 : A2) (a3 : A3) (a4 : A4) (a5 : A5) (a6 : A6), t + m = N → I t a1 a2 a3 a4 a5 a6 → ∃ b1 b2 b3 b4 b5 b6, I N b1 b2 b3 b4 b5 b6 ∧ ∀ F, m < F → ∃ k, lk6 f F a1 a2 a3 a4 a5 a6 = f k b1 b2 b3 b4 b5 b6 := by
    intro m
    induction m with
    | zero =>
      intro t a1 a2 a3 a4 a5 a6 ht h
      have e : t = N := by omega
      subst e
      refine ⟨a1, a2, a3, a4, a5, a6, h, fun F hF => ?_⟩
      obtain ⟨F, rfl⟩ : ∃ F', F = F' + 1 := ⟨F - 1, by omega⟩
      exact ⟨_, rfl⟩
    | succ m ih =>
      intro t a1 a2 a3 a4 a5 a6 ht h
      obtain ⟨b1, b2, b3, b4, b5, b6, e, h1⟩ := hs t a1 a2 a3 a4 a5 a6 (by omega) h
      obtain ⟨c1, c2, c3, c4, c5, c6, h2, h3⟩ := ih (t + 1) b1 b2 b3 b4 b5 b6 (by omega) h1
      refine ⟨c1, c2, c3, c4, c5, c6, h2, fun F hF => ?_⟩
      obtain ⟨F, rfl⟩ : ∃ F', F = F' + 1 := ⟨F - 1, by omega⟩
      obtain ⟨k, hk⟩ := h3 F (by omega)
      exact ⟨k, (e _).trans hk⟩
  exact h N 0 a1 a2 a3 a4 a5 a6 (by omega) h0
theorem fb_rng (x : Int32) : -2147483648 ≤ x.toInt ∧ x.toInt < 2147483648 := by
  have h1 := Int32.le_toInt x
  have h2 := Int32.toInt_lt x
  omega
theorem fb_bmod {z : Int} (h1 : -2147483648 ≤ z) (h2 : z < 2147483648) : z.bmod (2 ^ 32) = z := by
  rw [Int.bmod_eq_of_le (by omega) (by omega)]
theorem fb_addI {x y : Int32} (h1 : -2147483648 ≤ x.toInt + y.toInt) (h2 : x.toInt + y.toInt < 2147483648) : (x + y).toInt = x.toInt + y.toInt := by
  rw [Int32.toInt_add, fb_bmod h1 h2]
theorem fb_subI {x y : Int32} (h1 : -2147483648 ≤ x.toInt - y.toInt) (h2 : x.toInt - y.toInt < 2147483648) : (x - y).toInt = x.toInt - y.toInt := by
  rw [Int32.toInt_sub, fb_bmod h1 h2]
theorem fb_mulI {x y : Int32} (h1 : -2147483648 ≤ x.toInt * y.toInt) (h2 : x.toInt * y.toInt < 2147483648) : (x * y).toInt = x.toInt * y.toInt := by
  rw [Int32.toInt_mul, fb_bmod h1 h2]
theorem fb_negI {x : Int32} (h : x.toInt ≠ -2147483648) : (-x).toInt = -x.toInt := by
  have := fb_rng x
  rw [Int32.toInt_neg, fb_bmod (by omega) (by omega)]
theorem fb_bit_set (n j i : Nat) : (n ||| 2 ^ j).testBit i = (n.testBit i || decide (i = j)) := by
  rw [Nat.testBit_or]
  by_cases h : j = i
  · subst h; simp
  · have h2 : ¬ i = j := fun e => h e.symm
    first | (simp [Nat.testBit_two_pow, h, h2]; done) | (simp [Nat.testBit_two_pow_of_ne h, h2]; done)
theorem fa_and (a b : Nat) : nI a &&& nI b = nI (a &&& b) := by
  apply Int32.toBitVec_inj.1
  show BitVec.ofNat 32 a &&& BitVec.ofNat 32 b = BitVec.ofNat 32 (a &&& b)
  apply BitVec.eq_of_getLsbD_eq
  intro i hi
  simp [hi]
theorem fa_or (a b : Nat) : nI a ||| nI b = nI (a ||| b) := by
  apply Int32.toBitVec_inj.1
  show BitVec.ofNat 32 a ||| BitVec.ofNat 32 b = BitVec.ofNat 32 (a ||| b)
  apply BitVec.eq_of_getLsbD_eq
  intro i hi
  simp [hi]
theorem bt_or (x d i : Nat) : (x ||| 2 ^ d) / 2 ^ i % 2 = if i = d then 1 else x / 2 ^ i % 2 := by
  have h := fb_bit_set x d i
  rw [Nat.testBit_eq_decide_div_mod_eq, Nat.testBit_eq_decide_div_mod_eq] at h
  by_cases q : i = d
  · rw [if_pos q]
    rw [decide_eq_true q, Bool.or_true] at h
    exact of_decide_eq_true h
  · rw [if_neg q]
    rw [decide_eq_false q, Bool.or_false] at h
    by_cases c : x / 2 ^ i % 2 = 1
    · rw [decide_eq_true c] at h
      rw [c]; exact of_decide_eq_true h
    · rw [decide_eq_false c] at h
      have := of_decide_eq_false h
      omega
theorem or_lt {x d n : Nat} (h : x < 2 ^ n) (hd : d < n) : x ||| 2 ^ d < 2 ^ n := Nat.or_lt_two_pow h (Nat.pow_lt_pow_right (by omega) hd)
theorem or_0 (x : Int32) : x ||| nI 0 = x := Int32.or_zero
def zI (z : Int) : Int32 := Int32.ofInt z
theorem zI_n (n : Nat) : nI n = zI n := rfl
theorem zI_add (a b : Int) : zI a + zI b = zI (a + b) := (Int32.ofInt_add a b).symm
theorem zI_sub (a b : Int) : zI a - zI b = zI (a - b) := (Int32.ofInt_sub a b).symm
theorem zI_mul (a b : Int) : zI a * zI b = zI (a * b) := (Int32.ofInt_mul a b).symm
theorem zI_neg (a : Int) : -zI a = zI (-a) := (Int32.ofInt_neg a).symm
theorem zI_ti {z : Int} (h1 : -2147483648 ≤ z) (h2 : z < 2147483648) : (zI z).toInt = z := by
  unfold zI
  rw [Int32.toInt_ofInt, fb_bmod h1 h2]
theorem zI_of (x : Int32) : x = zI x.toInt := (Int32.ofInt_toInt x).symm
theorem zI_lt {a b : Int} (h1 : -2147483648 ≤ a) (h2 : a < 2147483648) (h3 : -2147483648 ≤ b) (h4 : b < 2147483648) : (zI a < zI b) = (a < b) := by
  rw [i32_lt, zI_ti h1 h2, zI_ti h3 h4]
theorem zI_le {a b : Int} (h1 : -2147483648 ≤ a) (h2 : a < 2147483648) (h3 : -2147483648 ≤ b) (h4 : b < 2147483648) : (zI a ≤ zI b) = (a ≤ b) := by
  rw [i32_le, zI_ti h1 h2, zI_ti h3 h4]
theorem zI_eq {a b : Int} (h1 : -2147483648 ≤ a) (h2 : a < 2147483648) (h3 : -2147483648 ≤ b) (h4 : b < 2147483648) : (zI a = zI b) = (a = b) := by
  rw [i32_eq, zI_ti h1 h2, zI_ti h3 h4]
