/-! the words of the pure side: a block's ints, rows and long; steps that may not be taken -/
abbrev Bk : Type := (Nat → Int32) × (Nat → Nat → Int32) × Int64
def bI (s : Bk) (k : Nat) (v : Int32) : Bk := (upd s.1 k v, s.2)
def bA (s : Bk) (k : Nat) (r : Nat → Int32) : Bk := (s.1, va_up s.2.1 k r, s.2.2)
def bW (s : Bk) (k j : Nat) (v : Int32) : Bk := (s.1, va_up s.2.1 k (upd (s.2.1 k) j v), s.2.2)
def bO (s t : Bk) : Bk := (t.1, s.2.1, t.2.2)
def bJ (s : Bk) (v : Int64) : Bk := (s.1, s.2.1, v)
def inB {ρ : Type} (n : Nat) (i : Int32) (k : Option ρ) : Option ρ := if i < 0 ∨ n ≤ i.toNatClampNeg then none else k
theorem inB_s {ρ : Type} {n : Nat} {i : Int32} {k : Option ρ} {r : ρ} (h : inB n i k = some r) : vp_in i n ∧ k = some r := by
  unfold inB at h
  by_cases hc : i < 0 ∨ n ≤ i.toNatClampNeg
  · rw [if_pos hc] at h; cases h
  · rw [if_neg hc] at h; exact ⟨hc, h⟩
def nmV {α ρ : Type} (x : α) (k : α → Option ρ) : Option ρ := k x
theorem nmV_s {α ρ : Type} {x : α} {k : α → Option ρ} {r : ρ} (h : nmV x k = some r) : ∃ v, v = x ∧ k v = some r := ⟨x, rfl, h⟩
def nzA {ρ : Type} (d : Int32) (k : Option ρ) : Option ρ := if d = 0 then none else k
theorem nzA_s {ρ : Type} {d : Int32} {k : Option ρ} {r : ρ} (h : nzA d k = some r) : ¬ d = 0 ∧ k = some r := by
  unfold nzA at h
  by_cases hc : d = 0
  · rw [if_pos hc] at h; cases h
  · rw [if_neg hc] at h; exact ⟨hc, h⟩
def z01 {ρ : Type} (x : Int32) (k : Option ρ) : Option ρ := if x = 0 ∨ x = 1 then k else none
theorem z01_s {ρ : Type} {x : Int32} {k : Option ρ} {r : ρ} (h : z01 x k = some r) : (x = 0 ∨ x = 1) ∧ k = some r := by
  unfold z01 at h
  by_cases hc : x = 0 ∨ x = 1
  · rw [if_pos hc] at h; exact ⟨hc, h⟩
  · rw [if_neg hc] at h; cases h
theorem nar01 {x : Int32} (h : x = 0 ∨ x = 1) : narrow .boolean (.int x) = .int x := by rcases h with rfl | rfl <;> rfl
theorem fit01 {x : Int32} (h : x = 0 ∨ x = 1) : fits .boolean (.int x) = true := by rcases h with rfl | rfl <;> rfl
theorem itP {ρ : Type} {c : Prop} [Decidable c] {a b : Option ρ} {r : ρ} (h : c) (e : (if c then a else b) = some r) : a = some r := by rw [if_pos h] at e; exact e
theorem itN {ρ : Type} {c : Prop} [Decidable c] {a b : Option ρ} {r : ρ} (h : ¬ c) (e : (if c then a else b) = some r) : b = some r := by rw [if_neg h] at e; exact e
theorem bdS {α ρ : Type} {x : Option α} {k : α → Option ρ} {r : ρ} (h : x.bind k = some r) : ∃ v, x = some v ∧ k v = some r := by
  cases x with
  | none => cases h
  | some v => exact ⟨v, rfl, h⟩
def lk1 {A1 ρ : Type} (f : (A1 → Option ρ) → A1 → Option ρ) : Nat → A1 → Option ρ
  | 0 => fun _ => none
  | n + 1 => f (lk1 f n)
theorem lk1_w {A1 ρ : Type} {f : (A1 → Option ρ) → A1 → Option ρ} {res : ρ} (P : A1 → Prop) (h : ∀ k : A1 → Option ρ, (∀ a1, k a1 = some res → P a1) → ∀ a1, f k a1 = some res → P a1) : ∀ (n : Nat) (a1 : A1), lk1 f n a1 = some res → P a1
  | 0, _, h0 => by cases h0
  | n + 1, a1, h1 => h (lk1 f n) (fun b1 hb => lk1_w P h n b1 hb) a1 h1
def lk2 {A1 A2 ρ : Type} (f : (A1 → A2 → Option ρ) → A1 → A2 → Option ρ) : Nat → A1 → A2 → Option ρ
  | 0 => fun _ _ => none
  | n + 1 => f (lk2 f n)
theorem lk2_w {A1 A2 ρ : Type} {f : (A1 → A2 → Option ρ) → A1 → A2 → Option ρ} {res : ρ} (P : A1 → A2 → Prop) (h : ∀ k : A1 → A2 → Option ρ, (∀ a1 a2, k a1 a2 = some res → P a1 a2) → ∀ a1 a2, f k a1 a2 = some res → P a1 a2) : ∀ (n : Nat) (a1 : A1) (a2 : A2), lk2 f n a1 a2 = some res → P a1 a2
  | 0, _, _, h0 => by cases h0
  | n + 1, a1, a2, h1 => h (lk2 f n) (fun b1 b2 hb => lk2_w P h n b1 b2 hb) a1 a2 h1
def lk3 {A1 A2 A3 ρ : Type} (f : (A1 → A2 → A3 → Option ρ) → A1 → A2 → A3 → Option ρ) : Nat → A1 → A2 → A3 → Option ρ
  | 0 => fun _ _ _ => none
  | n + 1 => f (lk3 f n)
theorem lk3_w {A1 A2 A3 ρ : Type} {f : (A1 → A2 → A3 → Option ρ) → A1 → A2 → A3 → Option ρ} {res : ρ} (P : A1 → A2 → A3 → Prop) (h : ∀ k : A1 → A2 → A3 → Option ρ, (∀ a1 a2 a3, k a1 a2 a3 = some res → P a1 a2 a3) → ∀ a1 a2 a3, f k a1 a2 a3 = some res → P a1 a2 a3) : ∀ (n : Nat) (a1 : A1) (a2 : A2) (a3 : A3), lk3 f n a1 a2 a3 = some res → P a1 a2 a3
  | 0, _, _, _, h0 => by cases h0
  | n + 1, a1, a2, a3, h1 => h (lk3 f n) (fun b1 b2 b3 hb => lk3_w P h n b1 b2 b3 hb) a1 a2 a3 h1
def lk4 {A1 A2 A3 A4 ρ : Type} (f : (A1 → A2 → A3 → A4 → Option ρ) → A1 → A2 → A3 → A4 → Option ρ) : Nat → A1 → A2 → A3 → A4 → Option ρ
  | 0 => fun _ _ _ _ => none
  | n + 1 => f (lk4 f n)
theorem lk4_w {A1 A2 A3 A4 ρ : Type} {f : (A1 → A2 → A3 → A4 → Option ρ) → A1 → A2 → A3 → A4 → Option ρ} {res : ρ} (P : A1 → A2 → A3 → A4 → Prop) (h : ∀ k : A1 → A2 → A3 → A4 → Option ρ, (∀ a1 a2 a3 a4, k a1 a2 a3 a4 = some res → P a1 a2 a3 a4) → ∀ a1 a2 a3 a4, f k a1 a2 a3 a4 = some res → P a1 a2 a3 a4) : ∀ (n : Nat) (a1 : A1) (a2 : A2) (a3 : A3) (a4 : A4), lk4 f n a1 a2 a3 a4 = some res → P a1 a2 a3 a4
  | 0, _, _, _, _, h0 => by cases h0
  | n + 1, a1, a2, a3, a4, h1 => h (lk4 f n) (fun b1 b2 b3 b4 hb => lk4_w P h n b1 b2 b3 b4 hb) a1 a2 a3 a4 h1
def lk5 {A1 A2 A3 A4 A5 ρ : Type} (f : (A1 → A2 → A3 → A4 → A5 → Option ρ) → A1 → A2 → A3 → A4 → A5 → Option ρ) : Nat → A1 → A2 → A3 → A4 → A5 → Option ρ
  | 0 => fun _ _ _ _ _ => none
  | n + 1 => f (lk5 f n)
theorem lk5_w {A1 A2 A3 A4 A5 ρ : Type} {f : (A1 → A2 → A3 → A4 → A5 → Option ρ) → A1 → A2 → A3 → A4 → A5 → Option ρ} {res : ρ} (P : A1 → A2 → A3 → A4 → A5 → Prop) (h : ∀ k : A1 → A2 → A3 → A4 → A5 → Option ρ, (∀ a1 a2 a3 a4 a5, k a1 a2 a3 a4 a5 = some res → P a1 a2 a3 a4 a5) → ∀ a1 a2 a3 a4 a5, f k a1 a2 a3 a4 a5 = some res → P a1 a2 a3 a4 a5) : ∀ (n : Nat) (a1 : A1) (a2 : A2) (a3 : A3) (a4 : A4) (a5 : A5), lk5 f n a1 a2 a3 a4 a5 = some res → P a1 a2 a3 a4 a5
  | 0, _, _, _, _, _, h0 => by cases h0
  | n + 1, a1, a2, a3, a4, a5, h1 => h (lk5 f n) (fun b1 b2 b3 b4 b5 hb => lk5_w P h n b1 b2 b3 b4 b5 hb) a1 a2 a3 a4 a5 h1
def lk6 {A1 A2 A3 A4 A5 A6 ρ : Type} (f : (A1 → A2 → A3 → A4 → A5 → A6 → Option ρ) → A1 → A2 → A3 → A4 → A5 → A6 → Option ρ) : Nat → A1 → A2 → A3 → A4 → A5 → A6 → Option ρ
  | 0 => fun _ _ _ _ _ _ => none
  | n + 1 => f (lk6 f n)
theorem lk6_w {A1 A2 A3 A4 A5 A6 ρ : Type} {f : (A1 → A2 → A3 → A4 → A5 → A6 → Option ρ) → A1 → A2 → A3 → A4 → A5 → A6 → Option ρ} {res : ρ} (P : A1 → A2 → A3 → A4 → A5 → A6 → Prop) (h : ∀ k : A1 → A2 → A3 → A4 → A5 → A6 → Option ρ, (∀ a1 a2 a3 a4 a5 a6, k a1 a2 a3 a4 a5 a6 = some res → P a1 a2 a3 a4 a5 a6) → ∀ a1 a2 a3 a4 a5 a6, f k a1 a2 a3 a4 a5 a6 = some res → P a1 a2 a3 a4 a5 a6) : ∀ (n : Nat) (a1 : A1) (a2 : A2) (a3 : A3) (a4 : A4) (a5 : A5) (a6 : A6), lk6 f n a1 a2 a3 a4 a5 a6 = some res → P a1 a2 a3 a4 a5 a6
  | 0, _, _, _, _, _, _, h0 => by cases h0
  | n + 1, a1, a2, a3, a4, a5, a6, h1 => h (lk6 f n) (fun b1 b2 b3 b4 b5 b6 hb => lk6_w P h n b1 b2 b3 b4 b5 b6 hb) a1 a2 a3 a4 a5 a6 h1
def lk7 {A1 A2 A3 A4 A5 A6 A7 ρ : Type} (f : (A1 → A2 → A3 → A4 → A5 → A6 → A7 → Option ρ) → A1 → A2 → A3 → A4 → A5 → A6 → A7 → Option ρ) : Nat → A1 → A2 → A3 → A4 → A5 → A6 → A7 → Option ρ
  | 0 => fun _ _ _ _ _ _ _ => none
  | n + 1 => f (lk7 f n)
theorem lk7_w {A1 A2 A3 A4 A5 A6 A7 ρ : Type} {f : (A1 → A2 → A3 → A4 → A5 → A6 → A7 → Option ρ) → A1 → A2 → A3 → A4 → A5 → A6 → A7 → Option ρ} {res : ρ} (P : A1 → A2 → A3 → A4 → A5 → A6 → A7 → Prop) (h : ∀ k : A1 → A2 → A3 → A4 → A5 → A6 → A7 → Option ρ, (∀ a1 a2 a3 a4 a5 a6 a7, k a1 a2 a3 a4 a5 a6 a7 = some res → P a1 a2 a3 a4 a5 a6 a7) → ∀ a1 a2 a3 a4 a5 a6 a7, f k a1 a2 a3 a4 a5 a6 a7 = some res → P a1 a2 a3 a4 a5 a6 a7) : ∀ (n : Nat) (a1 : A1) (a2 : A2) (a3 : A3) (a4 : A4) (a5 : A5) (a6 : A6) (a7 : A7), lk7 f n a1 a2 a3 a4 a5 a6 a7 = some res → P a1 a2 a3 a4 a5 a6 a7
  | 0, _, _, _, _, _, _, _, h0 => by cases h0
  | n + 1, a1, a2, a3, a4, a5, a6, a7, h1 => h (lk7 f n) (fun b1 b2 b3 b4 b5 b6 b7 hb => lk7_w P h n b1 b2 b3 b4 b5 b6 b7 hb) a1 a2 a3 a4 a5 a6 a7 h1
def lk8 {A1 A2 A3 A4 A5 A6 A7 A8 ρ : Type} (f : (A1 → A2 → A3 → A4 → A5 → A6 → A7 → A8 → Option ρ) → A1 → A2 → A3 → A4 → A5 → A6 → A7 → A8 → Option ρ) : Nat → A1 → A2 → A3 → A4 → A5 → A6 → A7 → A8 → Option ρ
  | 0 => fun _ _ _ _ _ _ _ _ => none
  | n + 1 => f (lk8 f n)
theorem lk8_w {A1 A2 A3 A4 A5 A6 A7 A8 ρ : Type} {f : (A1 → A2 → A3 → A4 → A5 → A6 → A7 → A8 → Option ρ) → A1 → A2 → A3 → A4 → A5 → A6 → A7 → A8 → Option ρ} {res : ρ} (P : A1 → A2 → A3 → A4 → A5 → A6 → A7 → A8 → Prop) (h : ∀ k : A1 → A2 → A3 → A4 → A5 → A6 → A7 → A8 → Option ρ, (∀ a1 a2 a3 a4 a5 a6 a7 a8, k a1 a2 a3 a4 a5 a6 a7 a8 = some res → P a1 a2 a3 a4 a5 a6 a7 a8) → ∀ a1 a2 a3 a4 a5 a6 a7 a8, f k a1 a2 a3 a4 a5 a6 a7 a8 = some res → P a1 a2 a3 a4 a5 a6 a7 a8) : ∀ (n : Nat) (a1 : A1) (a2 : A2) (a3 : A3) (a4 : A4) (a5 : A5) (a6 : A6) (a7 : A7) (a8 : A8), lk8 f n a1 a2 a3 a4 a5 a6 a7 a8 = some res → P a1 a2 a3 a4 a5 a6 a7 a8
  | 0, _, _, _, _, _, _, _, _, h0 => by cases h0
  | n + 1, a1, a2, a3, a4, a5, a6, a7, a8, h1 => h (lk8 f n) (fun b1 b2 b3 b4 b5 b6 b7 b8 hb => lk8_w P h n b1 b2 b3 b4 b5 b6 b7 b8 hb) a1 a2 a3 a4 a5 a6 a7 a8 h1
def lk9 {A1 A2 A3 A4 A5 A6 A7 A8 A9 ρ : Type} (f : (A1 → A2 → A3 → A4 → A5 → A6 → A7 → A8 → A9 → Option ρ) → A1 → A2 → A3 → A4 → A5 → A6 → A7 → A8 → A9 → Option ρ) : Nat → A1 → A2 → A3 → A4 → A5 → A6 → A7 → A8 → A9 → Option ρ
  | 0 => fun _ _ _ _ _ _ _ _ _ => none
  | n + 1 => f (lk9 f n)
theorem lk9_w {A1 A2 A3 A4 A5 A6 A7 A8 A9 ρ : Type} {f : (A1 → A2 → A3 → A4 → A5 → A6 → A7 → A8 → A9 → Option ρ) → A1 → A2 → A3 → A4 → A5 → A6 → A7 → A8 → A9 → Option ρ} {res : ρ} (P : A1 → A2 → A3 → A4 → A5 → A6 → A7 → A8 → A9 → Prop) (h : ∀ k : A1 → A2 → A3 → A4 → A5 → A6 → A7 → A8 → A9 → Option ρ, (∀ a1 a2 a3 a4 a5 a6 a7 a8 a9, k a1 a2 a3 a4 a5 a6 a7 a8 a9 = some res → P a1 a2 a3 a4 a5 a6 a7 a8 a9) → ∀ a1 a2 a3 a4 a5 a6 a7 a8 a9, f k a1 a2 a3 a4 a5 a6 a7 a8 a9 = some res → P a1 a2 a3 a4 a5 a6 a7 a8 a9) : ∀ (n : Nat) (a1 : A1) (a2 : A2) (a3 : A3) (a4 : A4) (a5 : A5) (a6 : A6) (a7 : A7) (a8 : A8) (a9 : A9), lk9 f n a1 a2 a3 a4 a5 a6 a7 a8 a9 = some res → P a1 a2 a3 a4 a5 a6 a7 a8 a9
  | 0, _, _, _, _, _, _, _, _, _, h0 => by cases h0
  | n + 1, a1, a2, a3, a4, a5, a6, a7, a8, a9, h1 => h (lk9 f n) (fun b1 b2 b3 b4 b5 b6 b7 b8 b9 hb => lk9_w P h n b1 b2 b3 b4 b5 b6 b7 b8 b9 hb) a1 a2 a3 a4 a5 a6 a7 a8 a9 h1
def lk10 {A1 A2 A3 A4 A5 A6 A7 A8 A9 A10 ρ : Type} (f : (A1 → A2 → A3 → A4 → A5 → A6 → A7 → A8 → A9 → A10 → Option ρ) → A1 → A2 → A3 → A4 → A5 → A6 → A7 → A8 → A9 → A10 → Option ρ) : Nat → A1 → A2 → A3 → A4 → A5 → A6 → A7 → A8 → A9 → A10 → Option ρ
  | 0 => fun _ _ _ _ _ _ _ _ _ _ => none
  | n + 1 => f (lk10 f n)
theorem lk10_w {A1 A2 A3 A4 A5 A6 A7 A8 A9 A10 ρ : Type} {f : (A1 → A2 → A3 → A4 → A5 → A6 → A7 → A8 → A9 → A10 → Option ρ) → A1 → A2 → A3 → A4 → A5 → A6 → A7 → A8 → A9 → A10 → Option ρ} {res : ρ} (P : A1 → A2 → A3 → A4 → A5 → A6 → A7 → A8 → A9 → A10 → Prop) (h : ∀ k : A1 → A2 → A3 → A4 → A5 → A6 → A7 → A8 → A9 → A10 → Option ρ, (∀ a1 a2 a3 a4 a5 a6 a7 a8 a9 a10, k a1 a2 a3 a4 a5 a6 a7 a8 a9 a10 = some res → P a1 a2 a3 a4 a5 a6 a7 a8 a9 a10) → ∀ a1 a2 a3 a4 a5 a6 a7 a8 a9 a10, f k a1 a2 a3 a4 a5 a6 a7 a8 a9 a10 = some res → P a1 a2 a3 a4 a5 a6 a7 a8 a9 a10) : ∀ (n : Nat) (a1 : A1) (a2 : A2) (a3 : A3) (a4 : A4) (a5 : A5) (a6 : A6) (a7 : A7) (a8 : A8) (a9 : A9) (a10 : A10), lk10 f n a1 a2 a3 a4 a5 a6 a7 a8 a9 a10 = some res → P a1 a2 a3 a4 a5 a6 a7 a8 a9 a10
  | 0, _, _, _, _, _, _, _, _, _, _, h0 => by cases h0
  | n + 1, a1, a2, a3, a4, a5, a6, a7, a8, a9, a10, h1 => h (lk10 f n) (fun b1 b2 b3 b4 b5 b6 b7 b8 b9 b10 hb => lk10_w P h n b1 b2 b3 b4 b5 b6 b7 b8 b9 b10 hb) a1 a2 a3 a4 a5 a6 a7 a8 a9 a10 h1
def lk11 {A1 A2 A3 A4 A5 A6 A7 A8 A9 A10 A11 ρ : Type} (f : (A1 → A2 → A3 → A4 → A5 → A6 → A7 → A8 → A9 → A10 → A11 → Option ρ) → A1 → A2 → A3 → A4 → A5 → A6 → A7 → A8 → A9 → A10 → A11 → Option ρ) : Nat → A1 → A2 → A3 → A4 → A5 → A6 → A7 → A8 → A9 → A10 → A11 → Option ρ
  | 0 => fun _ _ _ _ _ _ _ _ _ _ _ => none
  | n + 1 => f (lk11 f n)
theorem lk11_w {A1 A2 A3 A4 A5 A6 A7 A8 A9 A10 A11 ρ : Type} {f : (A1 → A2 → A3 → A4 → A5 → A6 → A7 → A8 → A9 → A10 → A11 → Option ρ) → A1 → A2 → A3 → A4 → A5 → A6 → A7 → A8 → A9 → A10 → A11 → Option ρ} {res : ρ} (P : A1 → A2 → A3 → A4 → A5 → A6 → A7 → A8 → A9 → A10 → A11 → Prop) (h : ∀ k : A1 → A2 → A3 → A4 → A5 → A6 → A7 → A8 → A9 → A10 → A11 → Option ρ, (∀ a1 a2 a3 a4 a5 a6 a7 a8 a9 a10 a11, k a1 a2 a3 a4 a5 a6 a7 a8 a9 a10 a11 = some res → P a1 a2 a3 a4 a5 a6 a7 a8 a9 a10 a11) → ∀ a1 a2 a3 a4 a5 a6 a7 a8 a9 a10 a11, f k a1 a2 a3 a4 a5 a6 a7 a8 a9 a10 a11 = some res → P a1 a2 a3 a4 a5 a6 a7 a8 a9 a10 a11) : ∀ (n : Nat) (a1 : A1) (a2 : A2) (a3 : A3) (a4 : A4) (a5 : A5) (a6 : A6) (a7 : A7) (a8 : A8) (a9 : A9) (a10 : A10) (a11 : A11), lk11 f n a1 a2 a3 a4 a5 a6 a7 a8 a9 a10 a11 = some res → P a1 a2 a3 a4 a5 a6 a7 a8 a9 a10 a11
  | 0, _, _, _, _, _, _, _, _, _, _, _, h0 => by cases h0
  | n + 1, a1, a2, a3, a4, a5, a6, a7, a8, a9, a10, a11, h1 => h (lk11 f n) (fun b1 b2 b3 b4 b5 b6 b7 b8 b9 b10 b11 hb => lk11_w P h n b1 b2 b3 b4 b5 b6 b7 b8 b9 b10 b11 hb) a1 a2 a3 a4 a5 a6 a7 a8 a9 a10 a11 h1
def lk12 {A1 A2 A3 A4 A5 A6 A7 A8 A9 A10 A11 A12 ρ : Type} (f : (A1 → A2 → A3 → A4 → A5 → A6 → A7 → A8 → A9 → A10 → A11 → A12 → Option ρ) → A1 → A2 → A3 → A4 → A5 → A6 → A7 → A8 → A9 → A10 → A11 → A12 → Option ρ) : Nat → A1 → A2 → A3 → A4 → A5 → A6 → A7 → A8 → A9 → A10 → A11 → A12 → Option ρ
  | 0 => fun _ _ _ _ _ _ _ _ _ _ _ _ => none
  | n + 1 => f (lk12 f n)
theorem lk12_w {A1 A2 A3 A4 A5 A6 A7 A8 A9 A10 A11 A12 ρ : Type} {f : (A1 → A2 → A3 → A4 → A5 → A6 → A7 → A8 → A9 → A10 → A11 → A12 → Option ρ) → A1 → A2 → A3 → A4 → A5 → A6 → A7 → A8 → A9 → A10 → A11 → A12 → Option ρ} {res : ρ} (P : A1 → A2 → A3 → A4 → A5 → A6 → A7 → A8 → A9 → A10 → A11 → A12 → Prop) (h : ∀ k : A1 → A2 → A3 → A4 → A5 → A6 → A7 → A8 → A9 → A10 → A11 → A12 → Option ρ, (∀ a1 a2 a3 a4 a5 a6 a7 a8 a9 a10 a11 a12, k a1 a2 a3 a4 a5 a6 a7 a8 a9 a10 a11 a12 = some res → P a1 a2 a3 a4 a5 a6 a7 a8 a9 a10 a11 a12) → ∀ a1 a2 a3 a4 a5 a6 a7 a8 a9 a10 a11 a12, f k a1 a2 a3 a4 a5 a6 a7 a8 a9 a10 a11 a12 = some res → P a1 a2 a3 a4 a5 a6 a7 a8 a9 a10 a11 a12) : ∀ (n : Nat) (a1 : A1) (a2 : A2) (a3 : A3) (a4 : A4) (a5 : A5) (a6 : A6) (a7 : A7) (a8 : A8) (a9 : A9) (a10 : A10) (a11 : A11) (a12 : A12), lk12 f n a1 a2 a3 a4 a5 a6 a7 a8 a9 a10 a11 a12 = some res → P a1 a2 a3 a4 a5 a6 a7 a8 a9 a10 a11 a12
  | 0, _, _, _, _, _, _, _, _, _, _, _, _, h0 => by cases h0
  | n + 1, a1, a2, a3, a4, a5, a6, a7, a8, a9, a10, a11, a12, h1 => h (lk12 f n) (fun b1 b2 b3 b4 b5 b6 b7 b8 b9 b10 b11 b12 hb => lk12_w P h n b1 b2 b3 b4 b5 b6 b7 b8 b9 b10 b11 b12 hb) a1 a2 a3 a4 a5 a6 a7 a8 a9 a10 a11 a12 h1
/-! the two static rows, wherever nothing is written -/
def in3 : Nat → Int32 := fun j => ([0, 1, 3, 4, 9, 10, 12, 13, 27, 28, 30, 31, 36, 37, 39, 40] : List Int32).getD j 0
def tenTo : Nat → Int32 := fun j => ([1, 10, 100, 1000, 10000, 100000, 1000000] : List Int32).getD j 0
def Zs (A : Nat → Prop) (U : State) (H : Heap) : Prop := (∃ t : Nat, va_Z "EyeDrink$Trees" "IN_THREES" "[I" (.ref t) A U H ∧ va_T .int t 16 (fun j => .int (in3 j)) A U H) ∧ ∃ t : Nat, va_Z "EyeDrink" "TEN_TO" "[I" (.ref t) A U H ∧ va_T .int t 7 (fun j => .int (tenTo j)) A U H
theorem Zs.moved {A : Nat → Prop} {u U : State} {H : Heap} (hvm : u.vm.Alike U.vm) (h : Zs A u H) : Zs A U H := by
  obtain ⟨⟨t, a, b⟩, t2, c, d⟩ := h
  exact ⟨⟨t, a.moved hvm, b.moved hvm⟩, t2, c.moved hvm, d.moved hvm⟩
theorem Zs.kept {A : Nat → Prop} {U : State} {H H1 : Heap} (h : Zs A U H) (hq : ∀ a : Nat, a < H.size → ¬ A a → H1[a]? = H[a]?) : Zs A U H1 := by
  obtain ⟨⟨t, a, b⟩, t2, c, d⟩ := h
  exact ⟨⟨t, a.kept hq, b.kept hq⟩, t2, c.kept hq, d.kept hq⟩
theorem Zs.narrow {A B : Nat → Prop} {U : State} {H : Heap} (h : Zs A U H) (hAB : ∀ q, B q → A q) : Zs B U H := by
  obtain ⟨⟨t, a, b⟩, t2, c, d⟩ := h
  exact ⟨⟨t, a.narrow hAB, b.narrow hAB⟩, t2, c.narrow hAB, d.narrow hAB⟩
/-! contracts: R reads alone, W writes -/
abbrev tyL (cI cZ cO : ClassId) : List (ClassId × FieldType) := [(cI, .int), (cZ, .boolean), (cO, .object "EyeDrink$Stand")]
def cR (D : va_G) (T : List (ClassId × FieldType)) (ws : va_W) (U : State) : Prop := va_P D vwCl ws U.heap ∧ va_K D vwCl T U ∧ Zs (fun _ => False) U U.heap
def cW (D : va_G) (T : List (ClassId × FieldType)) (ws : va_W) (sz : Nat) (U : State) : Prop := U.heap.size = sz ∧ va_P D vwCl ws U.heap ∧ va_K D vwCl T U ∧ va_D (fun _ => True) ws ∧ Zs (va_A ws sz) U U.heap
def qW (D : va_G) (T : List (ClassId × FieldType)) (A : Nat → Prop) (ws : va_W) (t : State) : Prop := va_P D vwCl ws t.heap ∧ va_K D vwCl T t ∧ va_D A ws
theorem fb_R {av : List Value} {D : va_G} {T : List (ClassId × FieldType)} {ws : va_W} : FrameBlind (va_Pc av (cR D T ws)) := fun a U g mk q => by
  obtain ⟨q0, qP, qK, qZ⟩ := q
  exact ⟨q0, qP, va_K.moved (u := U) (U := U.calling g mk a) (Vm.Alike.refl U.vm) qK, Zs.moved (u := U) (U := U.calling g mk a) (Vm.Alike.refl U.vm) qZ⟩
theorem fb_W {av : List Value} {D : va_G} {T : List (ClassId × FieldType)} {ws : va_W} {sz : Nat} : FrameBlind (va_Pc av (cW D T ws sz)) := fun a U g mk q => by
  obtain ⟨q0, q1, qP, qK, qD, qZ⟩ := q
  exact ⟨q0, q1, qP, va_K.moved (u := U) (U := U.calling g mk a) (Vm.Alike.refl U.vm) qK, qD, Zs.moved (u := U) (U := U.calling g mk a) (Vm.Alike.refl U.vm) qZ⟩
abbrev rmF (fr lo : Nat) : Room := { frames := fr, cells := 0, slots := 0, locals := lo }
theorem gT {y : MethodName} {bytes : ByteArray} {maxL : Nat} {ret : Option FieldType} (h : Cond.code y bytes maxL ret ∈ wT) : GoodIn wT (Cond.code y bytes maxL ret :: wT) := fun w hw => (List.mem_cons.mp hw).elim (fun e => e ▸ ⟨h, wT_good h⟩) (fun h => ⟨h, wT_good h⟩)
def MI (y : MethodName) (bytes : ByteArray) (maxL : Nat) (ret : Option FieldType) (n : Nat) : Prop := Cond.initialized y.cls ∈ wT ∧ Cond.code y bytes maxL ret ∈ wT ∧ y.cls ≠ "java/lang/invoke/MethodHandle" ∧ y.cls ≠ "java/lang/invoke/VarHandle" ∧ (parseMethodDescriptor y.desc).map (fun d => d.parameters.length) = some n
theorem fm_map {α β : Type} {f : α → Option β} : ∀ {is : List α} {w : List β}, is.map f = w.map some → is.filterMap f = w
  | [], [], _ => rfl
  | [], _ :: _, h => by cases h
  | _ :: _, [], h => by cases h
  | i :: is, b :: w, h => by
    have h1 : f i = some b := (List.cons.inj h).1
    have h2 : is.map f = w.map some := (List.cons.inj h).2
    rw [List.filterMap_cons, h1]
    show b :: is.filterMap f = b :: w
    rw [fm_map h2]
theorem jn {D : va_G} {A : Nat → Prop} {ws wc wr w1 ws' : va_W} {H H1 : Heap} (hP : va_P D vwCl ws H) (hD : va_D A ws) (isC isR pm : List Nat) (hC : isC.map (fun i => ws[i]?) = wc.map some) (hR : isR.map (fun i => ws[i]?) = wr.map some) (hn : va_nd isR = true) (hdis : ∀ i ∈ isR, i ∉ isC) (hpn : va_nd pm = true) (hp : pm.map (fun i => (wr ++ w1)[i]?) = ws'.map some)
    (hk : ∀ q : Nat, q < H.size → ¬ va_A wc H.size q → H1[q]? = H[q]?) (hF : ∀ q, va_A wc H.size q → A q) (hP1 : va_P D vwCl w1 H1) (hD1 : va_D (va_A wc H.size) w1) : va_P D vwCl ws' H1 ∧ va_D A ws' := by
  obtain ⟨a, b⟩ := va_join hP hD isC isR hC hR hn hdis hk hF hP1 hD1
  exact ⟨a.sub pm (fm_map hp), b.sub pm hpn hp⟩
section KC
variable {p : Program} {l : Launch} {e : Env} {R : Room} {s : State} {m : MethodId} {args : Array Value} {below : List Frame} {meth : Method} {c : Code} {H : Heap} {locs : List Loc} {Q : State → Prop} {cc : ByteArray} {nL pc idx fr lo : Nat} {ls : Array Slot} {rest As st : List Value} {own : String} {y : MethodName} {bytes : ByteArray} {maxL n : Nat} {ret : Option FieldType} {D : va_G} {T : List (ClassId × FieldType)} {A : Nat → Prop} {b : Nat} {ws wc wr w1 ws' : va_W}
theorem kB (hC : CallFix p m c cc nL s args wT own) (hi : MI y bytes maxL ret n) (hlk : Cond.methodLink own idx y ∈ wT) (hR : fr + 1 ≤ R.frames ∧ 8 + (maxL + 11) + lo ≤ R.locals) : CallB R s args own idx y bytes maxL ret (Cond.code y bytes maxL ret :: wT) (rmF fr lo) 0 0 n := callB_of n hC.2.2.2.2 (gT hi.2.1) rfl rfl rfl (hC.2.2.2.2 _ hi.1) (hC.2.2.2.2 _ hlk) hi.2.2 hR
theorem zR {U : State} (hZ : Zs A s s.heap) (hS : va_S A s.heap H locs) (hU : U.heap = H) (hW : s.WarmedH U.vm) : Zs (fun _ => False) U U.heap := by
  rw [hU]
  exact ((hZ.kept hS.2.1).narrow (fun _ h => h.elim)).moved hW.alike
theorem zW {U : State} {B : Nat → Prop} (hZ : Zs A s s.heap) (hS : va_S A s.heap H locs) (hU : U.heap = H) (hW : s.WarmedH U.vm) (hB : ∀ q, B q → A q) : Zs B U U.heap := by
  rw [hU]
  exact ((hZ.kept hS.2.1).narrow hB).moved hW.alike
/-- a static method that looks at nothing -/
theorem k_pS {v : Int32} (hC : CallFix p m c cc nL s args wT own) (hi : MI y bytes maxL ret n) (hst : Cond.static y ∈ wT) (hlk : Cond.methodLink own idx y ∈ wT) (hM : Met l y (Cond.code y bytes maxL ret :: wT) (rmF fr lo) (va_Pc As (fun _ => True)) (vp_Si (fun r => r = v)) 0 0 (fun _ => False)) (hR : fr + 1 ≤ R.frames ∧ 8 + (maxL + 11) + lo ≤ R.locals) (hz : ls.size = nL) (hn : As.length = n) (hstk : st = As.reverse ++ rest) (hw : (rest.map fun v => v.category).sum ≤ 8) (hdg : decode cc pc = .ok (.invokestatic idx, 3))
    (kk : W p l e R s m args below meth c H locs 0 0 Q (F0 m (pc + 3) ls (.int v :: rest))) : W p l e R s m args below meth c H locs 0 0 Q (F0 m pc ls st) :=
  vp_callSi (W.runS hC hM ⟨kB hC hi hlk hR, hC.2.2.2.2 _ hst⟩ ⟨fun _ _ _ _ q => ⟨q.1, trivial⟩, fun _ _ _ => ⟨rfl, trivial⟩⟩ rfl hn hz hstk (lv_room (m := m) (pc := pc) (ls := ls) (rest := st) hw) hdg ⟨Nat.zero_le _, Nat.zero_le _⟩) (fun r h => by rw [h]; exact kk)
/-- a static method that reads -/
theorem k_rS {v : Int32} (hC : CallFix p m c cc nL s args wT own) (hi : MI y bytes maxL ret n) (hst : Cond.static y ∈ wT) (hlk : Cond.methodLink own idx y ∈ wT) (hM : Met l y (Cond.code y bytes maxL ret :: wT) (rmF fr lo) (va_Pc As (cR D T wc)) (vp_Si (fun r => r = v)) 0 0 (fun _ => False)) (hR : fr + 1 ≤ R.frames ∧ 8 + (maxL + 11) + lo ≤ R.locals) (hP : va_P D vwCl wc H) (hK : va_K D vwCl T s) (hZ : Zs A s s.heap) (hS : va_S A s.heap H locs) (hz : ls.size = nL) (hn : As.length = n) (hstk : st = As.reverse ++ rest) (hw : (rest.map fun v => v.category).sum ≤ 8) (hdg : decode cc pc = .ok (.invokestatic idx, 3))
    (kk : W p l e R s m args below meth c H locs 0 0 Q (F0 m (pc + 3) ls (.int v :: rest))) : W p l e R s m args below meth c H locs 0 0 Q (F0 m pc ls st) :=
  vp_callSi (W.runS hC hM ⟨kB hC hi hlk hR, hC.2.2.2.2 _ hst⟩ ⟨fb_R, fun U hU hW => ⟨rfl, by rw [hU]; exact hP, va_K.moved hW.alike hK, zR hZ hS hU hW⟩⟩ rfl hn hz hstk (lv_room (m := m) (pc := pc) (ls := ls) (rest := st) hw) hdg ⟨Nat.zero_le _, Nat.zero_le _⟩) (fun r h => by rw [h]; exact kk)
/-- a method of an object that reads -/
theorem k_rV {v : Int32} (hC : CallFix p m c cc nL s args wT own) (hi : MI y bytes maxL ret n) (him : Cond.instanceMethod y ∈ wT) (hse : Cond.selects y.cls y y ∈ wT) (hlk : Cond.methodLink own idx y ∈ wT) (hM : Met l y (Cond.code y bytes maxL ret :: wT) (rmF fr lo) (va_Pc (.ref b :: As) (cR D T wc)) (vp_Si (fun r => r = v)) 0 0 (fun _ => False)) (hR : fr + 1 ≤ R.frames ∧ 8 + (maxL + 11) + lo ≤ R.locals) (hP : va_P D vwCl wc H) (hK : va_K D vwCl T s) (hZ : Zs A s s.heap) (hS : va_S A s.heap H locs) (hrec : ∃ cell : Cell, H[b]? = some cell ∧ cell.vm.isStatics = false ∧ s.vm.findClass y.cls = some cell.cls) (hz : ls.size = nL) (hn : As.length = n) (hstk : st = As.reverse ++ .ref b :: rest) (hw : (rest.map fun v => v.category).sum ≤ 8) (hdg : decode cc pc = .ok (.invokevirtual idx, 3))
    (kk : W p l e R s m args below meth c H locs 0 0 Q (F0 m (pc + 3) ls (.int v :: rest))) : W p l e R s m args below meth c H locs 0 0 Q (F0 m pc ls st) :=
  vp_callSi (W.runV (C := y.cls) hC hM ⟨kB hC hi hlk hR, hC.2.2.2.2 _ him, hC.2.2.2.2 _ hse⟩ ⟨fb_R, hrec, fun U hU hW => ⟨rfl, by rw [hU]; exact hP, va_K.moved hW.alike hK, zR hZ hS hU hW⟩⟩ rfl hn hz hstk (lv_room (m := m) (pc := pc) (ls := ls) (rest := st) hw) hdg ⟨Nat.zero_le _, Nat.zero_le _⟩) (fun r h => by rw [h]; exact kk)
theorem k_wVi {v : Int32} (hC : CallFix p m c cc nL s args wT own) (hi : MI y bytes maxL ret n) (him : Cond.instanceMethod y ∈ wT) (hse : Cond.selects y.cls y y ∈ wT) (hlk : Cond.methodLink own idx y ∈ wT) (hM : Met l y (Cond.code y bytes maxL ret :: wT) (rmF fr lo) (va_Pc (.ref b :: As) (cW D T wc H.size)) (va_Qi (S := Unit) (fun r _ => r = v) (fun _ => qW D T (va_A wc H.size) w1) (va_A wc H.size)) 0 0 (va_A wc H.size)) (hR0 : fr + 1 ≤ R.frames ∧ 8 + (maxL + 11) + lo ≤ R.locals) (hP : va_P D vwCl ws H) (hD : va_D A ws) (hK : va_K D vwCl T s) (hZ : Zs A s s.heap) (hS : va_S A s.heap H locs) (hA : ∀ q, s.heap.size ≤ q → A q) (isC isR pm : List Nat) (hCC : isC.map (fun i => ws[i]?) = wc.map some) (hCn : va_nd isC = true) (hRR : isR.map (fun i => ws[i]?) = wr.map some) (hn : va_nd isR = true) (hdis : ∀ i ∈ isR, i ∉ isC) (hpn : va_nd pm = true) (hp : pm.map (fun i => (wr ++ w1)[i]?) = ws'.map some) (hrec : ∃ cell : Cell, H[b]? = some cell ∧ cell.vm.isStatics = false ∧ s.vm.findClass y.cls = some cell.cls) (hz : ls.size = nL) (hln : As.length = n) (hstk : st = As.reverse ++ .ref b :: rest) (hw : (rest.map fun v => v.category).sum ≤ 8) (hdg : decode cc pc = .ok (.invokevirtual idx, 3))
    (kk : ∀ (H1 : Heap) (locs1 : List Loc), va_P D vwCl ws' H1 → va_D A ws' → va_S A s.heap H1 locs1 → W p l e R s m args below meth c H1 locs1 0 0 Q (F0 m (pc + 3) ls (.int v :: rest))) : W p l e R s m args below meth c H locs 0 0 Q (F0 m pc ls st) := by
  have hF := va_free hD hS hA isC hCC
  have hPc := hP.sub isC (fm_map hCC)
  have hDc := hD.sub isC hCn hCC
  refine va_calli (va_runV (C := y.cls) hC hM ⟨kB hC hi hlk hR0, hC.2.2.2.2 _ him, hC.2.2.2.2 _ hse⟩ ⟨fb_W, hrec, fun U hU hW => ⟨rfl, by rw [hU], by rw [hU]; exact hPc, va_K.moved hW.alike hK, hDc.weaken (fun _ _ _ _ => trivial), zW hZ hS hU hW hF⟩⟩ rfl hln hz hstk (lv_room (m := m) (pc := pc) (ls := ls) (rest := st) hw) hdg ⟨Nat.zero_le _, Nat.zero_le _⟩) hS (fun q _ h => hF q h) hF (fun r u t H1 locs1 ht hvm hw1 hB hz1 hk1 hS1 => ?_)
  obtain ⟨hP1, hK1, hD1⟩ := hB
  rw [ht] at hP1
  obtain ⟨a1, a2⟩ := jn hP hD isC isR pm hCC hRR hn hdis hpn hp hk1 hF hP1 hD1
  rw [hw1]
  exact kk H1 locs1 a1 a2 hS1
theorem k_wVl {v : Int64} (hC : CallFix p m c cc nL s args wT own) (hi : MI y bytes maxL ret n) (him : Cond.instanceMethod y ∈ wT) (hse : Cond.selects y.cls y y ∈ wT) (hlk : Cond.methodLink own idx y ∈ wT) (hM : Met l y (Cond.code y bytes maxL ret :: wT) (rmF fr lo) (va_Pc (.ref b :: As) (cW D T wc H.size)) (va_Ql (S := Unit) (fun r _ => r = v) (fun _ => qW D T (va_A wc H.size) w1) (va_A wc H.size)) 0 0 (va_A wc H.size)) (hR0 : fr + 1 ≤ R.frames ∧ 8 + (maxL + 11) + lo ≤ R.locals) (hP : va_P D vwCl ws H) (hD : va_D A ws) (hK : va_K D vwCl T s) (hZ : Zs A s s.heap) (hS : va_S A s.heap H locs) (hA : ∀ q, s.heap.size ≤ q → A q) (isC isR pm : List Nat) (hCC : isC.map (fun i => ws[i]?) = wc.map some) (hCn : va_nd isC = true) (hRR : isR.map (fun i => ws[i]?) = wr.map some) (hn : va_nd isR = true) (hdis : ∀ i ∈ isR, i ∉ isC) (hpn : va_nd pm = true) (hp : pm.map (fun i => (wr ++ w1)[i]?) = ws'.map some) (hrec : ∃ cell : Cell, H[b]? = some cell ∧ cell.vm.isStatics = false ∧ s.vm.findClass y.cls = some cell.cls) (hz : ls.size = nL) (hln : As.length = n) (hstk : st = As.reverse ++ .ref b :: rest) (hw : (rest.map fun v => v.category).sum ≤ 8) (hdg : decode cc pc = .ok (.invokevirtual idx, 3))
    (kk : ∀ (H1 : Heap) (locs1 : List Loc), va_P D vwCl ws' H1 → va_D A ws' → va_S A s.heap H1 locs1 → W p l e R s m args below meth c H1 locs1 0 0 Q (F0 m (pc + 3) ls (.long v :: rest))) : W p l e R s m args below meth c H locs 0 0 Q (F0 m pc ls st) := by
  have hF := va_free hD hS hA isC hCC
  have hPc := hP.sub isC (fm_map hCC)
  have hDc := hD.sub isC hCn hCC
  refine va_calll (va_runV (C := y.cls) hC hM ⟨kB hC hi hlk hR0, hC.2.2.2.2 _ him, hC.2.2.2.2 _ hse⟩ ⟨fb_W, hrec, fun U hU hW => ⟨rfl, by rw [hU], by rw [hU]; exact hPc, va_K.moved hW.alike hK, hDc.weaken (fun _ _ _ _ => trivial), zW hZ hS hU hW hF⟩⟩ rfl hln hz hstk (lv_room (m := m) (pc := pc) (ls := ls) (rest := st) hw) hdg ⟨Nat.zero_le _, Nat.zero_le _⟩) hS (fun q _ h => hF q h) hF (fun r u t H1 locs1 ht hvm hw1 hB hz1 hk1 hS1 => ?_)
  obtain ⟨hP1, hK1, hD1⟩ := hB
  rw [ht] at hP1
  obtain ⟨a1, a2⟩ := jn hP hD isC isR pm hCC hRR hn hdis hpn hp hk1 hF hP1 hD1
  rw [hw1]
  exact kk H1 locs1 a1 a2 hS1
theorem k_wVv (hC : CallFix p m c cc nL s args wT own) (hi : MI y bytes maxL ret n) (him : Cond.instanceMethod y ∈ wT) (hse : Cond.selects y.cls y y ∈ wT) (hlk : Cond.methodLink own idx y ∈ wT) (hM : Met l y (Cond.code y bytes maxL ret :: wT) (rmF fr lo) (va_Pc (.ref b :: As) (cW D T wc H.size)) (va_Qv (S := Unit) (fun _ => True) (fun _ => qW D T (va_A wc H.size) w1) (va_A wc H.size)) 0 0 (va_A wc H.size)) (hR0 : fr + 1 ≤ R.frames ∧ 8 + (maxL + 11) + lo ≤ R.locals) (hP : va_P D vwCl ws H) (hD : va_D A ws) (hK : va_K D vwCl T s) (hZ : Zs A s s.heap) (hS : va_S A s.heap H locs) (hA : ∀ q, s.heap.size ≤ q → A q) (isC isR pm : List Nat) (hCC : isC.map (fun i => ws[i]?) = wc.map some) (hCn : va_nd isC = true) (hRR : isR.map (fun i => ws[i]?) = wr.map some) (hn : va_nd isR = true) (hdis : ∀ i ∈ isR, i ∉ isC) (hpn : va_nd pm = true) (hp : pm.map (fun i => (wr ++ w1)[i]?) = ws'.map some) (hrec : ∃ cell : Cell, H[b]? = some cell ∧ cell.vm.isStatics = false ∧ s.vm.findClass y.cls = some cell.cls) (hz : ls.size = nL) (hln : As.length = n) (hstk : st = As.reverse ++ .ref b :: rest) (hw : (rest.map fun v => v.category).sum ≤ 8) (hdg : decode cc pc = .ok (.invokevirtual idx, 3))
    (kk : ∀ (H1 : Heap) (locs1 : List Loc), va_P D vwCl ws' H1 → va_D A ws' → va_S A s.heap H1 locs1 → W p l e R s m args below meth c H1 locs1 0 0 Q (F0 m (pc + 3) ls (rest))) : W p l e R s m args below meth c H locs 0 0 Q (F0 m pc ls st) := by
  have hF := va_free hD hS hA isC hCC
  have hPc := hP.sub isC (fm_map hCC)
  have hDc := hD.sub isC hCn hCC
  refine va_callv (va_runV (C := y.cls) hC hM ⟨kB hC hi hlk hR0, hC.2.2.2.2 _ him, hC.2.2.2.2 _ hse⟩ ⟨fb_W, hrec, fun U hU hW => ⟨rfl, by rw [hU], by rw [hU]; exact hPc, va_K.moved hW.alike hK, hDc.weaken (fun _ _ _ _ => trivial), zW hZ hS hU hW hF⟩⟩ rfl hln hz hstk (lv_room (m := m) (pc := pc) (ls := ls) (rest := st) hw) hdg ⟨Nat.zero_le _, Nat.zero_le _⟩) hS (fun q _ h => hF q h) hF (fun u t H1 locs1 ht hvm hw1 hB hz1 hk1 hS1 => ?_)
  obtain ⟨hP1, hK1, hD1⟩ := hB
  rw [ht] at hP1
  obtain ⟨a1, a2⟩ := jn hP hD isC isR pm hCC hRR hn hdis hpn hp hk1 hF hP1 hD1
  exact kk H1 locs1 a1 a2 hS1
theorem k_wSv (hC : CallFix p m c cc nL s args wT own) (hi : MI y bytes maxL ret n) (hst : Cond.static y ∈ wT) (hlk : Cond.methodLink own idx y ∈ wT) (hM : Met l y (Cond.code y bytes maxL ret :: wT) (rmF fr lo) (va_Pc As (cW D T wc H.size)) (va_Qv (S := Unit) (fun _ => True) (fun _ => qW D T (va_A wc H.size) w1) (va_A wc H.size)) 0 0 (va_A wc H.size)) (hR0 : fr + 1 ≤ R.frames ∧ 8 + (maxL + 11) + lo ≤ R.locals) (hP : va_P D vwCl ws H) (hD : va_D A ws) (hK : va_K D vwCl T s) (hZ : Zs A s s.heap) (hS : va_S A s.heap H locs) (hA : ∀ q, s.heap.size ≤ q → A q) (isC isR pm : List Nat) (hCC : isC.map (fun i => ws[i]?) = wc.map some) (hCn : va_nd isC = true) (hRR : isR.map (fun i => ws[i]?) = wr.map some) (hn : va_nd isR = true) (hdis : ∀ i ∈ isR, i ∉ isC) (hpn : va_nd pm = true) (hp : pm.map (fun i => (wr ++ w1)[i]?) = ws'.map some) (hz : ls.size = nL) (hln : As.length = n) (hstk : st = As.reverse ++ rest) (hw : (rest.map fun v => v.category).sum ≤ 8) (hdg : decode cc pc = .ok (.invokestatic idx, 3))
    (kk : ∀ (H1 : Heap) (locs1 : List Loc), va_P D vwCl ws' H1 → va_D A ws' → va_S A s.heap H1 locs1 → W p l e R s m args below meth c H1 locs1 0 0 Q (F0 m (pc + 3) ls (rest))) : W p l e R s m args below meth c H locs 0 0 Q (F0 m pc ls st) := by
  have hF := va_free hD hS hA isC hCC
  have hPc := hP.sub isC (fm_map hCC)
  have hDc := hD.sub isC hCn hCC
  refine va_callv (va_runS hC hM ⟨kB hC hi hlk hR0, hC.2.2.2.2 _ hst⟩ ⟨fb_W, fun U hU hW => ⟨rfl, by rw [hU], by rw [hU]; exact hPc, va_K.moved hW.alike hK, hDc.weaken (fun _ _ _ _ => trivial), zW hZ hS hU hW hF⟩⟩ rfl hln hz hstk (lv_room (m := m) (pc := pc) (ls := ls) (rest := st) hw) hdg ⟨Nat.zero_le _, Nat.zero_le _⟩) hS (fun q _ h => hF q h) hF (fun u t H1 locs1 ht hvm hw1 hB hz1 hk1 hS1 => ?_)
  obtain ⟨hP1, hK1, hD1⟩ := hB
  rw [ht] at hP1
  obtain ⟨a1, a2⟩ := jn hP hD isC isR pm hCC hRR hn hdis hpn hp hk1 hF hP1 hD1
  exact kk H1 locs1 a1 a2 hS1
end KC
theorem met_p {l : Launch} {y : MethodName} {cc : ByteArray} {maxL fr lo : Nat} {ret : Option FieldType} {av : List Value} {Qc : Array Value → State → Outcome → State → Prop} (hy : plainName y.cls = true) (hlen : (lg_sl av).length ≤ maxL)
    (body : ∀ (p : Program) (e : Env) (s : State) (m : MethodId) (below : List Frame) (meth : Method) (c : Code), p.tables.exec = Jvm.exec → c.code = cc → meth.sig.returnType = ret → c.maxLocals = maxL → (∀ w ∈ wT, w.before av.toArray s = true) → s.vm.findClass y.cls = some m.cls → meth.locks = false → ∀ ls : Array Slot, lv_has ls maxL (lv_args 0 av) →  W p l e (rmF fr lo) s m av.toArray below meth c s.heap [] 0 0 (MQ below Qc av.toArray s 0 0 (fun _ => False)) (F0 m 0 ls [])) :
    Met l y (Cond.code y cc maxL ret :: wT) (rmF fr lo) (va_Pc av (fun _ => True)) Qc 0 0 (fun _ => False) := by
  refine Met.ofW (cc := cc) (maxL := maxL) (ret := ret) hy rfl ?_
  intro p e s m args below meth c s₁ B hml hv
  have h0 := hv.1
  subst h0
  have hts := atoms_spec (ws := Cond.code y cc maxL ret :: wT) B.pre
  rw [lg_entry_eq]
  exact body p e s m below meth c B.exec B.bytes B.returns hml (fun w h => hts w (List.mem_cons_of_mem _ h)) (findClass_of_methodNamed B.named) B.notSynchronized _ (lv_entry av hlen)
theorem met_r {l : Launch} {y : MethodName} {cc : ByteArray} {maxL fr lo : Nat} {ret : Option FieldType} {av : List Value} {Qc : Array Value → State → Outcome → State → Prop} {D : va_G} {T : List (ClassId × FieldType)} {ws : va_W} (hy : plainName y.cls = true) (hlen : (lg_sl av).length ≤ maxL)
    (body : ∀ (p : Program) (e : Env) (s : State) (m : MethodId) (below : List Frame) (meth : Method) (c : Code), p.tables.exec = Jvm.exec → c.code = cc → meth.sig.returnType = ret → c.maxLocals = maxL → (∀ w ∈ wT, w.before av.toArray s = true) → s.vm.findClass y.cls = some m.cls → meth.locks = false → ∀ ls : Array Slot, lv_has ls maxL (lv_args 0 av) → (va_P D vwCl ws s.heap) → (va_K D vwCl T s) → (Zs (fun _ => False) s s.heap) → W p l e (rmF fr lo) s m av.toArray below meth c s.heap [] 0 0 (MQ below Qc av.toArray s 0 0 (fun _ => False)) (F0 m 0 ls [])) :
    Met l y (Cond.code y cc maxL ret :: wT) (rmF fr lo) (va_Pc av (cR D T ws)) Qc 0 0 (fun _ => False) := by
  refine Met.ofW (cc := cc) (maxL := maxL) (ret := ret) hy rfl ?_
  intro p e s m args below meth c s₁ B hml hv
  have h0 := hv.1
  subst h0
  have hts := atoms_spec (ws := Cond.code y cc maxL ret :: wT) B.pre
  rw [lg_entry_eq]
  exact body p e s m below meth c B.exec B.bytes B.returns hml (fun w h => hts w (List.mem_cons_of_mem _ h)) (findClass_of_methodNamed B.named) B.notSynchronized _ (lv_entry av hlen) hv.2.1 hv.2.2.1 hv.2.2.2
theorem met_w {l : Launch} {y : MethodName} {cc : ByteArray} {maxL fr lo : Nat} {ret : Option FieldType} {av : List Value} {Qc : Array Value → State → Outcome → State → Prop} {D : va_G} {T : List (ClassId × FieldType)} {ws : va_W} {sz : Nat} {free : Addr → Prop} (hy : plainName y.cls = true) (hlen : (lg_sl av).length ≤ maxL)
    (body : ∀ (p : Program) (e : Env) (s : State) (m : MethodId) (below : List Frame) (meth : Method) (c : Code), p.tables.exec = Jvm.exec → c.code = cc → meth.sig.returnType = ret → c.maxLocals = maxL → (∀ w ∈ wT, w.before av.toArray s = true) → s.vm.findClass y.cls = some m.cls → meth.locks = false → ∀ ls : Array Slot, lv_has ls maxL (lv_args 0 av) → (s.heap.size = sz) → (va_P D vwCl ws s.heap) → (va_K D vwCl T s) → (va_D (fun _ => True) ws) → (Zs (va_A ws sz) s s.heap) → W p l e (rmF fr lo) s m av.toArray below meth c s.heap [] 0 0 (MQ below Qc av.toArray s 0 0 free) (F0 m 0 ls [])) :
    Met l y (Cond.code y cc maxL ret :: wT) (rmF fr lo) (va_Pc av (cW D T ws sz)) Qc 0 0 free := by
  refine Met.ofW (cc := cc) (maxL := maxL) (ret := ret) hy rfl ?_
  intro p e s m args below meth c s₁ B hml hv
  have h0 := hv.1
  subst h0
  have hts := atoms_spec (ws := Cond.code y cc maxL ret :: wT) B.pre
  rw [lg_entry_eq]
  exact body p e s m below meth c B.exec B.bytes B.returns hml (fun w h => hts w (List.mem_cons_of_mem _ h)) (findClass_of_methodNamed B.named) B.notSynchronized _ (lv_entry av hlen) hv.2.1 hv.2.2.1 hv.2.2.2.1 hv.2.2.2.2.1 hv.2.2.2.2.2
