abbrev bi (x i : Nat) : Nat := x / 2 ^ i % 2
def sI (f : Nat → Int) : Nat → Int
  | 0 => 0
  | n + 1 => sI f n + f n
theorem sI_cg {f g : Nat → Int} : ∀ {n : Nat}, (∀ i, i < n → f i = g i) → sI f n = sI g n
  | 0, _ => rfl
  | n + 1, h => by
    unfold sI
    rw [sI_cg (fun i hi => h i (by omega)), h n (by omega)]
theorem sI_up {f g : Nat → Int} {q : Nat} (h : ∀ i, i ≠ q → g i = f i) : ∀ {n : Nat}, sI g n = sI f n + if q < n then g q - f q else 0
  | 0 => by unfold sI; rw [if_neg (by omega)]; omega
  | n + 1 => by
    have i := sI_up h (n := n)
    unfold sI
    rw [i]
    by_cases c : n = q
    · subst c
      rw [if_neg (by omega), if_pos (by omega)]; omega
    · rw [h n c]
      by_cases c2 : q < n
      · rw [if_pos c2, if_pos (by omega)]; omega
      · rw [if_neg c2, if_neg (by omega)]; omega
theorem sI_b {f : Nat → Int} {c : Int} (hc : 0 ≤ c) : ∀ {n : Nat}, (∀ i, i < n → -c ≤ f i ∧ f i ≤ c) → -(n * c) ≤ sI f n ∧ sI f n ≤ n * c
  | 0, _ => by unfold sI; omega
  | n + 1, h => by
    have i := sI_b hc (n := n) (fun i hi => h i (by omega))
    have j := h n (by omega)
    unfold sI
    have e : ((n + 1 : Nat) : Int) * c = n * c + c := by rw [Int.natCast_add, Int.add_mul]; omega
    rw [e]
    omega
theorem sI_add (f g : Nat → Int) : ∀ (n : Nat), sI (fun i => f i + g i) n = sI f n + sI g n
  | 0 => rfl
  | n + 1 => by
    unfold sI
    rw [sI_add f g n]; omega
theorem sI_mul (f : Nat → Int) (c : Int) : ∀ (n : Nat), sI (fun i => f i * c) n = sI f n * c
  | 0 => by unfold sI; omega
  | n + 1 => by
    unfold sI
    rw [sI_mul f c n, Int.add_mul]
/-- the greatest of a base and of what may be -/
def mx (b : Int) (f : Nat → Int) (p : Nat → Prop) [DecidablePred p] : Nat → Int
  | 0 => b
  | n + 1 => if p n ∧ mx b f p n < f n then f n else mx b f p n
theorem mx_no {b : Int} {f : Nat → Int} {p : Nat → Prop} [DecidablePred p] : ∀ {n : Nat}, (∀ i, i < n → ¬ p i) → mx b f p n = b
  | 0, _ => rfl
  | n + 1, h => by
    unfold mx
    rw [if_neg (fun q => h n (by omega) q.1)]
    exact mx_no (fun i hi => h i (by omega))
theorem mx_cg {b : Int} {f g : Nat → Int} {p : Nat → Prop} [DecidablePred p] : ∀ {n : Nat}, (∀ i, i < n → p i → f i = g i) → mx b f p n = mx b g p n
  | 0, _ => rfl
  | n + 1, h => by
    unfold mx
    rw [mx_cg (fun i hi => h i (by omega))]
    by_cases c : p n
    · rw [h n (by omega) c]
    · rw [if_neg (fun q => c q.1), if_neg (fun q => c q.1)]
theorem mx_ge {b : Int} {f : Nat → Int} {p : Nat → Prop} [DecidablePred p] : ∀ (n : Nat), b ≤ mx b f p n
  | 0 => Int.le_refl b
  | n + 1 => by
    have := mx_ge (b := b) (f := f) (p := p) n
    unfold mx
    split <;> omega
theorem mx_b {b c : Int} {f : Nat → Int} {p : Nat → Prop} [DecidablePred p] (hb : -c ≤ b ∧ b ≤ c) : ∀ {n : Nat}, (∀ i, i < n → p i → f i ≤ c) → -c ≤ mx b f p n ∧ mx b f p n ≤ c
  | 0, _ => hb
  | n + 1, h => by
    have i := mx_b hb (n := n) (f := f) (p := p) (fun i hi => h i (by omega))
    unfold mx
    by_cases q : p n ∧ mx b f p n < f n
    · rw [if_pos q]
      have := h n (by omega) q.1
      omega
    · rw [if_neg q]; exact i
theorem mx_sc {b : Int} {f g : Nat → Int} {p p' : Nat → Prop} [DecidablePred p] [DecidablePred p'] {s : Int} (hs : 0 < s) (hb : 0 < b) : ∀ {n : Nat}, (∀ i, i < n → p i → p' i ∧ g i = s * f i) → (∀ i, i < n → p' i → ¬ p i → g i = 0) → mx (s * b) g p' n = s * mx b f p n
  | 0, _, _ => rfl
  | n + 1, h1, h2 => by
    have i := mx_sc (n := n) (f := f) (g := g) (p := p) (p' := p') hs hb (fun i hi => h1 i (by omega)) (fun i hi => h2 i (by omega))
    have ge := mx_ge (b := b) (f := f) (p := p) n
    unfold mx
    rw [i]
    by_cases c : p n
    · obtain ⟨c1, c2⟩ := h1 n (by omega) c
      rw [c2]
      by_cases c3 : mx b f p n < f n
      · rw [if_pos ⟨c1, Int.mul_lt_mul_of_pos_left c3 hs⟩, if_pos ⟨c, c3⟩]
      · rw [if_neg (fun q => c3 (Int.lt_of_mul_lt_mul_left q.2 (Int.le_of_lt hs))), if_neg (fun q => c3 q.2)]
    · rw [if_neg (show ¬ (p n ∧ mx b f p n < f n) from fun q => c q.1)]
      by_cases c1 : p' n
      · rw [h2 n (by omega) c1 c]
        have : 0 < s * mx b f p n := Int.mul_pos hs (by omega)
        rw [if_neg (show ¬ (p' n ∧ s * mx b f p n < 0) from fun q => by omega)]
      · rw [if_neg (show ¬ (p' n ∧ s * mx b f p n < g n) from fun q => c1 q.1)]
def pc (x : Nat) : Nat := x % 2 + x / 2 % 2 + x / 4 % 2 + x / 8 % 2
def t3 (x : Nat) : Nat := x % 2 + 3 * (x / 2 % 2) + 9 * (x / 4 % 2) + 27 * (x / 8 % 2)
theorem pc_or : ∀ x, x < 16 → ∀ q, q < 4 → bi x q = 0 → pc (x ||| 2 ^ q) = pc x + 1 := by decide +kernel
theorem pc_le : ∀ n, n ≤ 4 → ∀ x, x < 2 ^ n → pc x ≤ n := by decide +kernel
theorem pc_lt : ∀ n, n ≤ 4 → ∀ x, x < 2 ^ n → ∀ q, q < n → bi x q = 0 → pc x < n := by decide +kernel
theorem or16 : ∀ x, x < 16 → ∀ q, q < 4 → x ||| 2 ^ q < 16 := by decide +kernel
theorem bz : ∀ x, x < 16 → ∀ i, i < 4 → bi x i = 0 ∨ bi x i = 1 := by decide +kernel
theorem sub_c1 : ∀ K, K < 16 → ∀ k, k < 16 → K &&& k = k → ∀ q, q < 4 → (K ||| 2 ^ q) &&& k = k ∧ (bi K q = 0 → bi k q = 0) := by decide +kernel
theorem sub_c2 : ∀ O, O < 16 → ∀ K, K < 16 → ∀ q, q < 4 → O &&& K = O → O &&& (K ||| 2 ^ q) = O ∧ (O ||| 2 ^ q) &&& (K ||| 2 ^ q) = (O ||| 2 ^ q) := by decide +kernel
theorem sub_c4 : ∀ O, O < 16 → ∀ K, K < 16 → ∀ q, q < 4 → O &&& K = O → bi K q = 0 → bi O q = 0 := by decide +kernel
theorem sub_c3 : ∀ O, O < 16 → ∀ k, k < 16 → ∀ q, q < 4 → bi k q = 0 → (O ||| 2 ^ q) &&& k = O &&& k := by decide +kernel
theorem df_or : ∀ K, K < 16 → ∀ k, k < 16 → ∀ q, q < 4 → bi k q = 0 → (K ||| 2 ^ q) &&& (15 ^^^ k) = (K &&& (15 ^^^ k)) ||| 2 ^ q ∧ (bi K q = 0 → bi (K &&& (15 ^^^ k)) q = 0) := by decide +kernel
theorem t3_or : ∀ x, x < 16 → ∀ q, q < 4 → bi x q = 0 → t3 (x ||| 2 ^ q) = t3 x + 3 ^ q := by decide +kernel
theorem t3_d : ∀ K, K < 16 → ∀ O, O < 16 → ∀ q, q < 4 → (t3 K + t3 O) / 3 ^ q % 3 = bi K q + bi O q := by decide +kernel
theorem t3_l : ∀ K, K < 16 → t3 K ≤ 40 := by decide +kernel
def kOf (c : Nat) : Nat := (if c % 3 = 0 then 0 else 1) + (if c / 3 % 3 = 0 then 0 else 2) + (if c / 9 % 3 = 0 then 0 else 4) + if c / 27 % 3 = 0 then 0 else 8
def oOf (c : Nat) : Nat := (if c % 3 = 2 then 1 else 0) + (if c / 3 % 3 = 2 then 2 else 0) + (if c / 9 % 3 = 2 then 4 else 0) + if c / 27 % 3 = 2 then 8 else 0
theorem of_t3 : ∀ K, K < 16 → ∀ O, O < 16 → O &&& K = O → kOf (t3 K + t3 O) = K ∧ oOf (t3 K + t3 O) = O := by decide +kernel
theorem t3_of : ∀ c, c < 81 → kOf c < 16 ∧ oOf c < 16 ∧ oOf c &&& kOf c = oOf c ∧ t3 (kOf c) + t3 (oOf c) = c := by decide +kernel
section
variable (nt nq nd : Nat) (wd : Nat → Nat → Nat) (th : Nat → Nat) (won : Int)
def lfq (x t : Nat) (n : Nat) : Int := sI (fun q => if bi x q = 1 ∧ wd 3 q = t then (wd 4 q : Int) else 0) n
def lfd (y t : Nat) (n : Nat) : Int := sI (fun d => if bi y d = 1 ∧ wd 9 d = t then (wd 10 d : Int) else 0) n
def lf (x y t : Nat) : Int := th t - lfq wd x t nq - lfd wd y t nd
def sg (d : Nat) : Int := if wd 7 d = 1 then (wd 8 d : Int) else -(wd 8 d : Int)
def sw (y q : Nat) (n : Nat) : Int := sI (fun d => if bi y d = 1 ∧ wd 6 d = q then sg wd d else 0) n
def wI (l : Nat → Int) (n : Nat) : Int := sI (fun t => if wd 2 t = 3 ∧ l t < (wd 0 t : Int) then 0 else l t * (wd 1 t : Int)) n
def bse (x y : Nat) : Int := 1000 + won + wI wd (lf nq nd wd th x y) nt
def rch (x y : Nat) : Prop := ∀ t, t < nt → 0 ≤ lf nq nd wd th x y t
def sgn (O : Nat) (s : Int) (q : Nat) : Int := if bi O q = 1 then s else -s
/-- what one has if it ends: the reference's -/
def eR (me : Bool) (x K O y : Nat) : Int := if me = true then bse nt nq nd wd th won x y * 10 ^ (nq - pc K) + sI (fun q => if bi K q = 1 then sgn O (sw wd y q nd) q * 10 ^ (nq - pc K) else sw wd y q nd * (2 * (wd 5 q : Int) - 10) * 10 ^ (nq - pc K - 1)) nq else bse nt nq nd wd th won x y + sI (fun q => if bi K q = 1 then sgn O (sw wd y q nd) q else if sw wd y q nd < 0 then sw wd y q nd else -sw wd y q nd) nq
def bh (me : Bool) (q : Nat) (a b : Int) : Int := if me = true then (10 - (wd 5 q : Int)) * a + (wd 5 q : Int) * b else if a < b then a else b
end
