theorem bI_i (s : Bk) (k j : Nat) (v : Int32) : (bI s k v).1 j = if j = k then v else s.1 j := rfl
theorem bI_r (s : Bk) (k : Nat) (v : Int32) : (bI s k v).2.1 = s.2.1 := rfl
theorem bI_j (s : Bk) (k : Nat) (v : Int32) : (bI s k v).2.2 = s.2.2 := rfl
theorem bW_i (s : Bk) (k j : Nat) (v : Int32) : (bW s k j v).1 = s.1 := rfl
theorem bW_r (s : Bk) (k j i : Nat) (v : Int32) : (bW s k j v).2.1 i = if i = k then upd (s.2.1 k) j v else s.2.1 i := rfl
theorem bW_j (s : Bk) (k j : Nat) (v : Int32) : (bW s k j v).2.2 = s.2.2 := rfl
theorem bA_i (s : Bk) (k : Nat) (r : Nat → Int32) : (bA s k r).1 = s.1 := rfl
theorem bA_r (s : Bk) (k i : Nat) (r : Nat → Int32) : (bA s k r).2.1 i = if i = k then r else s.2.1 i := rfl
theorem bA_j (s : Bk) (k : Nat) (r : Nat → Int32) : (bA s k r).2.2 = s.2.2 := rfl
theorem bO_i (s t : Bk) : (bO s t).1 = t.1 := rfl
theorem bO_r (s t : Bk) : (bO s t).2.1 = s.2.1 := rfl
theorem bO_j (s t : Bk) : (bO s t).2.2 = t.2.2 := rfl
theorem bJ_i (s : Bk) (v : Int64) : (bJ s v).1 = s.1 := rfl
theorem bJ_r (s : Bk) (v : Int64) : (bJ s v).2.1 = s.2.1 := rfl
theorem bJ_j (s : Bk) (v : Int64) : (bJ s v).2.2 = v := rfl
theorem upd_a (f : Nat → Int32) (k j : Nat) (v : Int32) : upd f k v j = if j = k then v else f j := rfl
theorem inB_in {ρ : Type} {n i : Nat} {k : Option ρ} (h : i < n) (hn : n < 2147483648) : inB n (nI i) k = k := by
  unfold inB
  rw [if_neg (nI_in h hn)]
theorem nmV_e {α ρ : Type} (x : α) (k : α → Option ρ) : nmV x k = k x := rfl
theorem bd_some {α ρ : Type} (x : α) (k : α → Option ρ) : (some x).bind k = k x := rfl
theorem nI_cl {n : Nat} (h : n < 2147483648) : (nI n).toNatClampNeg = n := nI_clamp h
theorem nI_leE {a b : Nat} (ha : a < 2147483648) (hb : b < 2147483648) : (nI a ≤ nI b) = (a ≤ b) := propext (nI_leI ha hb)
theorem nI_ltE {a b : Nat} (ha : a < 2147483648) (hb : b < 2147483648) : (nI a < nI b) = (a < b) := propext (nI_ltI ha hb)
theorem nI_eqE {a b : Nat} (ha : a < 2147483648) (hb : b < 2147483648) : (nI a = nI b) = (a = b) := propext (nI_eq ha hb)
theorem lit_e (n : Nat) : (OfNat.ofNat n : Int32) = nI n := rfl
theorem sm_l : ∀ n, n < 32 → ((nI n &&& 31).toBitVec.smod 32).toNat = n := by decide +kernel
theorem shr_e {a j : Nat} (ha : a < 2147483648) (hj : j < 31) : nI a >>> (nI j &&& 31) = nI (a / 2 ^ j) := pk_shrN ha _ j (sm_l j (by omega))
theorem and1_e {a : Nat} (ha : a < 4294967296) : nI a &&& 1 = nI (a % 2) := by
  have := pk_andN (n := a) ha (m := 1) 1 (by decide)
  exact this
theorem bit_e {a j : Nat} (ha : a < 2147483648) (hj : j < 31) : (nI a >>> (nI j &&& 31)) &&& 1 = nI (a / 2 ^ j % 2) := by
  rw [shr_e ha hj, and1_e (Nat.lt_of_le_of_lt (Nat.div_le_self _ _) (by omega))]
theorem shl1_e {j : Nat} (hj : j < 31) : (1 : Int32) <<< (nI j &&& 31) = nI (2 ^ j) := by
  have h := pk_shlN (n := 1) (nI j &&& 31) j (sm_l j (by omega)) (by rw [Nat.one_mul]; exact Nat.pow_lt_pow_right (by omega) (by omega))
  rw [Nat.one_mul] at h
  exact h
theorem p2 {j : Nat} (h : j ≤ 4) : 2 ^ j ≤ 16 := Nat.pow_le_pow_right (by omega) h
theorem i64_le (x y : Int64) : (x ≤ y) = (x.toInt ≤ y.toInt) := propext Int64.le_iff_toInt_le
theorem i64_lt (x y : Int64) : (x < y) = (x.toInt < y.toInt) := propext Int64.lt_iff_toInt_lt
theorem in_s (x y z : Int64) : fX8_in x y z = some (if y.toInt ≤ x.toInt ∧ x.toInt ≤ z.toInt then 1 else 0) := by
  unfold fX8_in lg_cmp
  by_cases h1 : y.toInt ≤ x.toInt
  · have e1 : ¬ ((if x > y then (1 : Int32) else if x = y then 0 else -1) < 0) := by
      by_cases q : x > y
      · rw [if_pos q]; decide
      · rw [if_neg q]
        have : x = y := Int64.toInt_inj.mp (by have := i64_lt y x; rw [gt_iff_lt, this] at q; omega)
        rw [if_pos this]; decide
    rw [if_neg e1]
    by_cases h2 : x.toInt ≤ z.toInt
    · have e2 : ¬ (0 < (if x > z then (1 : Int32) else if x = z then 0 else -1)) := by
        have q : ¬ x > z := by rw [gt_iff_lt, i64_lt]; omega
        rw [if_neg q]
        by_cases q2 : x = z
        · rw [if_pos q2]; decide
        · rw [if_neg q2]; decide
      rw [if_neg e2]
      exact congrArg some (if_pos (c := y.toInt ≤ x.toInt ∧ x.toInt ≤ z.toInt) ⟨h1, h2⟩).symm
    · have e2 : 0 < (if x > z then (1 : Int32) else if x = z then 0 else -1) := by
        have q : x > z := by rw [gt_iff_lt, i64_lt]; omega
        rw [if_pos q]; decide
      rw [if_pos e2]
      exact congrArg some (if_neg (c := y.toInt ≤ x.toInt ∧ x.toInt ≤ z.toInt) (fun h => h2 h.2)).symm
  · have e1 : (if x > y then (1 : Int32) else if x = y then 0 else -1) < 0 := by
      have q : ¬ x > y := by rw [gt_iff_lt, i64_lt]; omega
      have q2 : ¬ x = y := fun e => by rw [e] at h1; omega
      rw [if_neg q, if_neg q2]; decide
    rw [if_pos e1]
    exact congrArg some (if_neg (c := y.toInt ≤ x.toInt ∧ x.toInt ≤ z.toInt) (fun h => h1 h.1)).symm
theorem i32_64 (x : Int32) : x.toInt64.toInt = x.toInt := Int32.toInt_toInt64 x
theorem i32_le (x y : Int32) : (x ≤ y) = (x.toInt ≤ y.toInt) := propext Int32.le_iff_toInt_le
theorem i32_lt (x y : Int32) : (x < y) = (x.toInt < y.toInt) := propext Int32.lt_iff_toInt_lt
theorem nI_ti {n : Nat} (h : n < 2147483648) : (nI n).toInt = (n : Int) := nI_toInt h
theorem nI_p1 {n : Nat} (h : n < 1073741824) : (nI n - 1).toInt = (n : Int) - 1 := by
  have := pk_sub_toInt (a := n) (b := 1) h (by omega)
  exact this
/-- in(x, 0, n - 1) -/
theorem in_n (x : Int32) {n : Nat} (h : n < 1073741824) : fX8_in x.toInt64 (0 : Int64) ((nI n - 1).toInt64) = some (if 0 ≤ x.toInt ∧ x.toInt < n then 1 else 0) := by
  rw [in_s, i32_64, i32_64, nI_p1 h, show (0 : Int64).toInt = 0 from rfl]
  congr 2
  apply propext
  constructor <;> intro q <;> exact ⟨q.1, by omega⟩
/-- in(x, lo, hi) of constants -/
theorem in_c (x : Int32) (lo hi : Int64) {a b : Int} (ha : lo.toInt = a) (hb : hi.toInt = b) : fX8_in x.toInt64 lo hi = some (if a ≤ x.toInt ∧ x.toInt ≤ b then 1 else 0) := by
  rw [in_s, i32_64, ha, hb]
theorem ix (x : Int32) (n : Nat) (hn : n < 2147483648) : (x < 0 ∧ x.toInt < 0) ∨ (nI n ≤ x ∧ (n : Int) ≤ x.toInt) ∨ ∃ j : Nat, j < n ∧ x = nI j := by
  rcases pk_ix x hn with h | h | h
  · exact Or.inl ⟨h, by rw [i32_lt] at h; exact h⟩
  · exact Or.inr (Or.inl ⟨h, by rw [i32_le, nI_ti hn] at h; exact h⟩)
  · exact Or.inr (Or.inr h)
theorem lk1_run {A1 ρ : Type} {f : (A1 → Option ρ) → A1 → Option ρ} (a1 : Nat → A1) (N : Nat) {r : Option ρ} (hs : ∀ (k : A1 → Option ρ) (t : Nat), t < N → f k (a1 t) = k (a1 (t + 1))) (hx : ∀ k : A1 → Option ρ, f k (a1 N) = r) (F : Nat) (hF : N < F) : lk1 f F (a1 0) = r := by
  have h : ∀ (m t F : Nat), t + m = N → m < F → lk1 f F (a1 t) = r := by
    intro m
    induction m with
    | zero =>
      intro t F ht hF
      obtain ⟨F, rfl⟩ : ∃ F', F = F' + 1 := ⟨F - 1, by omega⟩
      have e : t = N := by omega
      subst e
      exact hx _
    | succ m ih =>
      intro t F ht hF
      obtain ⟨F, rfl⟩ : ∃ F', F = F' + 1 := ⟨F - 1, by omega⟩
      exact (hs _ t (by omega)).trans (ih (t + 1) F (by omega) (by omega))
  exact h N 0 F (by omega) hF
theorem lk2_run {A1 A2 ρ : Type} {f : (A1 → A2 → Option ρ) → A1 → A2 → Option ρ} (a1 : Nat → A1) (a2 : Nat → A2) (N : Nat) {r : Option ρ} (hs : ∀ (k : A1 → A2 → Option ρ) (t : Nat), t < N → f k (a1 t) (a2 t) = k (a1 (t + 1)) (a2 (t + 1))) (hx : ∀ k : A1 → A2 → Option ρ, f k (a1 N) (a2 N) = r) (F : Nat) (hF : N < F) : lk2 f F (a1 0) (a2 0) = r := by
  have h : ∀ (m t F : Nat), t + m = N → m < F → lk2 f F (a1 t) (a2 t) = r := by
    intro m
    induction m with
    | zero =>
      intro t F ht hF
      obtain ⟨F, rfl⟩ : ∃ F', F = F' + 1 := ⟨F - 1, by omega⟩
      have e : t = N := by omega
      subst e
      exact hx _
    | succ m ih =>
      intro t F ht hF
      obtain ⟨F, rfl⟩ : ∃ F', F = F' + 1 := ⟨F - 1, by omega⟩
      exact (hs _ t (by omega)).trans (ih (t + 1) F (by omega) (by omega))
  exact h N 0 F (by omega) hF
theorem lk3_run {A1 A2 A3 ρ : Type} {f : (A1 → A2 → A3 → Option ρ) → A1 → A2 → A3 → Option ρ} (a1 : Nat → A1) (a2 : Nat → A2) (a3 : Nat → A3) (N : Nat) {r : Option ρ} (hs : ∀ (k : A1 → A2 → A3 → Option ρ) (t : Nat), t < N → f k (a1 t) (a2 t) (a3 t) = k (a1 (t + 1)) (a2 (t + 1)) (a3 (t + 1))) (hx : ∀ k : A1 → A2 → A3 → Option ρ, f k (a1 N) (a2 N) (a3 N) = r) (F : Nat) (hF : N < F) : lk3 f F (a1 0) (a2 0) (a3 0) = r := by
  have h : ∀ (m t F : Nat), t + m = N → m < F → lk3 f F (a1 t) (a2 t) (a3 t) = r := by
    intro m
    induction m with
    | zero =>
      intro t F ht hF
      obtain ⟨F, rfl⟩ : ∃ F', F = F' + 1 := ⟨F - 1, by omega⟩
      have e : t = N := by omega
      subst e
      exact hx _
    | succ m ih =>
      intro t F ht hF
      obtain ⟨F, rfl⟩ : ∃ F', F = F' + 1 := ⟨F - 1, by omega⟩
      exact (hs _ t (by omega)).trans (ih (t + 1) F (by omega) (by omega))
  exact h N 0 F (by omega) hF
theorem lk4_run {A1 A2 A3 A4 ρ : Type} {f : (A1 → A2 → A3 → A4 → Option ρ) → A1 → A2 → A3 → A4 → Option ρ} (a1 : Nat → A1) (a2 : Nat → A2) (a3 : Nat → A3) (a4 : Nat → A4) (N : Nat) {r : Option ρ} (hs : ∀ (k : A1 → A2 → A3 → A4 → Option ρ) (t : Nat), t < N → f k (a1 t) (a2 t) (a3 t) (a4 t) = k (a1 (t + 1)) (a2 (t + 1)) (a3 (t + 1)) (a4 (t + 1))) (hx : ∀ k : A1 → A2 → A3 → A4 → Option ρ, f k (a1 N) (a2 N) (a3 N) (a4 N) = r) (F : Nat) (hF : N < F) : lk4 f F (a1 0) (a2 0) (a3 0) (a4 0) = r := by
  have h : ∀ (m t F : Nat), t + m = N → m < F → lk4 f F (a1 t) (a2 t) (a3 t) (a4 t) = r := by
    intro m
    induction m with
    | zero =>
      intro t F ht hF
      obtain ⟨F, rfl⟩ : ∃ F', F = F' + 1 := ⟨F - 1, by omega⟩
      have e : t = N := by omega
      subst e
      exact hx _
    | succ m ih =>
      intro t F ht hF
      obtain ⟨F, rfl⟩ : ∃ F', F = F' + 1 := ⟨F - 1, by omega⟩
      exact (hs _ t (by omega)).trans (ih (t + 1) F (by omega) (by omega))
  exact h N 0 F (by omega) hF
theorem lk5_run {A1 A2 A3 A4 A5 ρ : Type} {f : (A1 → A2 → A3 → A4 → A5 → Option ρ) → A1 → A2 → A3 → A4 → A5 → Option ρ} (a1 : Nat → A1) (a2 : Nat → A2) (a3 : Nat → A3) (a4 : Nat → A4) (a5 : Nat → A5) (N : Nat) {r : Option ρ} (hs : ∀ (k : A1 → A2 → A3 → A4 → A5 → Option ρ) (t : Nat), t < N → f k (a1 t) (a2 t) (a3 t) (a4 t) (a5 t) = k (a1 (t + 1)) (a2 (t + 1)) (a3 (t + 1)) (a4 (t + 1)) (a5 (t + 1))) (hx : ∀ k : A1 → A2 → A3 → A4 → A5 → Option ρ, f k (a1 N) (a2 N) (a3 N) (a4 N) (a5 N) = r) (F : Nat) (hF : N < F) : lk5 f F (a1 0) (a2 0) (a3 0) (a4 0) (a5 0) = r := by
  have h : ∀ (m t F : Nat), t + m = N → m < F → lk5 f F (a1 t) (a2 t) (a3 t) (a4 t) (a5 t) = r := by
    intro m
    induction m with
    | zero =>
      intro t F ht hF
      obtain ⟨F, rfl⟩ : ∃ F', F = F' + 1 := ⟨F - 1, by omega⟩
      have e : t = N := by omega
      subst e
      exact hx _
    | succ m ih =>
      intro t F ht hF
      obtain ⟨F, rfl⟩ : ∃ F', F = F' + 1 := ⟨F - 1, by omega⟩
      exact (hs _ t (by omega)).trans (ih (t + 1) F (by omega) (by omega))
  exact h N 0 F (by omega) hF
theorem lk6_run {A1 A2 A3 A4 A5 A6 ρ : Type} {f : (A1 → A2 → A3 → A4 → A5 → A6 → Option ρ) → A1 → A2 → A3 → A4 → A5 → A6 → Option ρ} (a1 : Nat → A1) (a2 : Nat → A2) (a3 : Nat → A3) (a4 : Nat → A4) (a5 : Nat → A5) (a6 : Nat → A6) (N : Nat) {r : Option ρ} (hs : ∀ (k : A1 → A2 → A3 → A4 → A5 → A6 → Option ρ) (t : Nat), t < N → f k (a1 t) (a2 t) (a3 t) (a4 t) (a5 t) (a6 t) = k (a1 (t + 1)) (a2 (t + 1)) (a3 (t + 1)) (a4 (t + 1)) (a5 (t + 1)) (a6 (t + 1))) (hx : ∀ k : A1 → A2 → A3 → A4 → A5 → A6 → Option ρ, f k (a1 N) (a2 N) (a3 N) (a4 N) (a5 N) (a6 N) = r) (F : Nat) (hF : N < F) : lk6 f F (a1 0) (a2 0) (a3 0) (a4 0) (a5 0) (a6 0) = r := by
  have h : ∀ (m t F : Nat), t + m = N → m < F → lk6 f F (a1 t) (a2 t) (a3 t) (a4 t) (a5 t) (a6 t) = r := by
    intro m
    induction m with
    | zero =>
      intro t F ht hF
      obtain ⟨F, rfl⟩ : ∃ F', F = F' + 1 := ⟨F - 1, by omega⟩
      have e : t = N := by omega
      subst e
      exact hx _
    | succ m ih =>
      intro t F ht hF
      obtain ⟨F, rfl⟩ : ∃ F', F = F' + 1 := ⟨F - 1, by omega⟩
      exact (hs _ t (by omega)).trans (ih (t + 1) F (by omega) (by omega))
  exact h N 0 F (by omega) hF
theorem lk7_run {A1 A2 A3 A4 A5 A6 A7 ρ : Type} {f : (A1 → A2 → A3 → A4 → A5 → A6 → A7 → Option ρ) → A1 → A2 → A3 → A4 → A5 → A6 → A7 → Option ρ} (a1 : Nat → A1) (a2 : Nat → A2) (a3 : Nat → A3) (a4 : Nat → A4) (a5 : Nat → A5) (a6 : Nat → A6) (a7 : Nat → A7) (N : Nat) {r : Option ρ} (hs : ∀ (k : A1 → A2 → A3 → A4 → A5 → A6 → A7 → Option ρ) (t : Nat), t < N → f k (a1 t) (a2 t) (a3 t) (a4 t) (a5 t) (a6 t) (a7 t) = k (a1 (t + 1)) (a2 (t + 1)) (a3 (t + 1)) (a4 (t + 1)) (a5 (t + 1)) (a6 (t + 1)) (a7 (t + 1))) (hx : ∀ k : A1 → A2 → A3 → A4 → A5 → A6 → A7 → Option ρ, f k (a1 N) (a2 N) (a3 N) (a4 N) (a5 N) (a6 N) (a7 N) = r) (F : Nat) (hF : N < F) : lk7 f F (a1 0) (a2 0) (a3 0) (a4 0) (a5 0) (a6 0) (a7 0) = r := by
  have h : ∀ (m t F : Nat), t + m = N → m < F → lk7 f F (a1 t) (a2 t) (a3 t) (a4 t) (a5 t) (a6 t) (a7 t) = r := by
    intro m
    induction m with
    | zero =>
      intro t F ht hF
      obtain ⟨F, rfl⟩ : ∃ F', F = F' + 1 := ⟨F - 1, by omega⟩
      have e : t = N := by omega
      subst e
      exact hx _
    | succ m ih =>
      intro t F ht hF
      obtain ⟨F, rfl⟩ : ∃ F', F = F' + 1 := ⟨F - 1, by omega⟩
      exact (hs _ t (by omega)).trans (ih (t + 1) F (by omega) (by omega))
  exact h N 0 F (by omega) hF
theorem lk8_run {A1 A2 A3 A4 A5 A6 A7 A8 ρ : Type} {f : (A1 → A2 → A3 → A4 → A5 → A6 → A7 → A8 → Option ρ) → A1 → A2 → A3 → A4 → A5 → A6 → A7 → A8 → Option ρ} (a1 : Nat → A1) (a2 : Nat → A2) (a3 : Nat → A3) (a4 : Nat → A4) (a5 : Nat → A5) (a6 : Nat → A6) (a7 : Nat → A7) (a8 : Nat → A8) (N : Nat) {r : Option ρ} (hs : ∀ (k : A1 → A2 → A3 → A4 → A5 → A6 → A7 → A8 → Option ρ) (t : Nat), t < N → f k (a1 t) (a2 t) (a3 t) (a4 t) (a5 t) (a6 t) (a7 t) (a8 t) = k (a1 (t + 1)) (a2 (t + 1)) (a3 (t + 1)) (a4 (t + 1)) (a5 (t + 1)) (a6 (t + 1)) (a7 (t + 1)) (a8 (t + 1))) (hx : ∀ k : A1 → A2 → A3 → A4 → A5 → A6 → A7 → A8 → Option ρ, f k (a1 N) (a2 N) (a3 N) (a4 N) (a5 N) (a6 N) (a7 N) (a8 N) = r) (F : Nat) (hF : N < F) : lk8 f F (a1 0) (a2 0) (a3 0) (a4 0) (a5 0) (a6 0) (a7 0) (a8 0) = r := by
  have h : ∀ (m t F : Nat), t + m = N → m < F → lk8 f F (a1 t) (a2 t) (a3 t) (a4 t) (a5 t) (a6 t) (a7 t) (a8 t) = r := by
    intro m
    induction m with
    | zero =>
      intro t F ht hF
      obtain ⟨F, rfl⟩ : ∃ F', F = F' + 1 := ⟨F - 1, by omega⟩
      have e : t = N := by omega
      subst e
      exact hx _
    | succ m ih =>
      intro t F ht hF
      obtain ⟨F, rfl⟩ : ∃ F', F = F' + 1 := ⟨F - 1, by omega⟩
      exact (hs _ t (by omega)).trans (ih (t + 1) F (by omega) (by omega))
  exact h N 0 F (by omega) hF
theorem lk9_run {A1 A2 A3 A4 A5 A6 A7 A8 A9 ρ : Type} {f : (A1 → A2 → A3 → A4 → A5 → A6 → A7 → A8 → A9 → Option ρ) → A1 → A2 → A3 → A4 → A5 → A6 → A7 → A8 → A9 → Option ρ} (a1 : Nat → A1) (a2 : Nat → A2) (a3 : Nat → A3) (a4 : Nat → A4) (a5 : Nat → A5) (a6 : Nat → A6) (a7 : Nat → A7) (a8 : Nat → A8) (a9 : Nat → A9) (N : Nat) {r : Option ρ} (hs : ∀ (k : A1 → A2 → A3 → A4 → A5 → A6 → A7 → A8 → A9 → Option ρ) (t : Nat), t < N → f k (a1 t) (a2 t) (a3 t) (a4 t) (a5 t) (a6 t) (a7 t) (a8 t) (a9 t) = k (a1 (t + 1)) (a2 (t + 1)) (a3 (t + 1)) (a4 (t + 1)) (a5 (t + 1)) (a6 (t + 1)) (a7 (t + 1)) (a8 (t + 1)) (a9 (t + 1))) (hx : ∀ k : A1 → A2 → A3 → A4 → A5 → A6 → A7 → A8 → A9 → Option ρ, f k (a1 N) (a2 N) (a3 N) (a4 N) (a5 N) (a6 N) (a7 N) (a8 N) (a9 N) = r) (F : Nat) (hF : N < F) : lk9 f F (a1 0) (a2 0) (a3 0) (a4 0) (a5 0) (a6 0) (a7 0) (a8 0) (a9 0) = r := by
  have h : ∀ (m t F : Nat), t + m = N → m < F → lk9 f F (a1 t) (a2 t) (a3 t) (a4 t) (a5 t) (a6 t) (a7 t) (a8 t) (a9 t) = r := by
    intro m
    induction m with
    | zero =>
      intro t F ht hF
      obtain ⟨F, rfl⟩ : ∃ F', F = F' + 1 := ⟨F - 1, by omega⟩
      have e : t = N := by omega
      subst e
      exact hx _
    | succ m ih =>
      intro t F ht hF
      obtain ⟨F, rfl⟩ : ∃ F', F = F' + 1 := ⟨F - 1, by omega⟩
      exact (hs _ t (by omega)).trans (ih (t + 1) F (by omega) (by omega))
  exact h N 0 F (by omega) hF
theorem in_0_1 (x : Int32) : fX8_in x.toInt64 (0 : Int64) (1 : Int64) = some (if (0 : Int) ≤ x.toInt ∧ x.toInt ≤ 1 then 1 else 0) := in_c x 0 1 (a := 0) (b := 1) rfl rfl
theorem in_0_2 (x : Int32) : fX8_in x.toInt64 (0 : Int64) (2 : Int64) = some (if (0 : Int) ≤ x.toInt ∧ x.toInt ≤ 2 then 1 else 0) := in_c x 0 2 (a := 0) (b := 2) rfl rfl
theorem in_0_4 (x : Int32) : fX8_in x.toInt64 (0 : Int64) (4 : Int64) = some (if (0 : Int) ≤ x.toInt ∧ x.toInt ≤ 4 then 1 else 0) := in_c x 0 4 (a := 0) (b := 4) rfl rfl
theorem in_0_9 (x : Int32) : fX8_in x.toInt64 (0 : Int64) (9 : Int64) = some (if (0 : Int) ≤ x.toInt ∧ x.toInt ≤ 9 then 1 else 0) := in_c x 0 9 (a := 0) (b := 9) rfl rfl
theorem in_1_9 (x : Int32) : fX8_in x.toInt64 (1 : Int64) (9 : Int64) = some (if (1 : Int) ≤ x.toInt ∧ x.toInt ≤ 9 then 1 else 0) := in_c x 1 9 (a := 1) (b := 9) rfl rfl
theorem in_1_6 (x : Int32) : fX8_in x.toInt64 (1 : Int64) (6 : Int64) = some (if (1 : Int) ≤ x.toInt ∧ x.toInt ≤ 6 then 1 else 0) := in_c x 1 6 (a := 1) (b := 6) rfl rfl
theorem in_1_30 (x : Int32) : fX8_in x.toInt64 (1 : Int64) (30 : Int64) = some (if (1 : Int) ≤ x.toInt ∧ x.toInt ≤ 30 then 1 else 0) := in_c x 1 30 (a := 1) (b := 30) rfl rfl
theorem in_0_255 (x : Int32) : fX8_in x.toInt64 (0 : Int64) (255 : Int64) = some (if (0 : Int) ≤ x.toInt ∧ x.toInt ≤ 255 then 1 else 0) := in_c x 0 255 (a := 0) (b := 255) rfl rfl
theorem bit_n {a j : Nat} (ha : a < 2147483648) (hj : j < 31) : (nI a >>> (nI j &&& nI 31)) &&& nI 1 = nI (a / 2 ^ j % 2) := bit_e ha hj
theorem shl_n {j : Nat} (hj : j < 31) : nI 1 <<< (nI j &&& nI 31) = nI (2 ^ j) := shl1_e hj
