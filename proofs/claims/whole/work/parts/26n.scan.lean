def fl (tx : Nat → Int32) (n : Nat) (lo hi : Nat → Nat) : Nat → Nat → Nat → Option Nat
  | 0, _, _ => none
  | r + 1, k, j => if j < n ∧ (lo k : Int) ≤ (tx j - nI 48).toInt ∧ (tx j - nI 48).toInt ≤ (hi k : Int) then fl tx n lo hi r (k + 1) (j + 1) else some j
theorem fl_cg {tx tx' : Nat → Int32} {n : Nat} {lo hi : Nat → Nat} (h : ∀ j, j < n → tx j = tx' j) : ∀ (r k j : Nat), fl tx n lo hi r k j = fl tx' n lo hi r k j
  | 0, _, _ => rfl
  | r + 1, k, j => by
    unfold fl
    rw [fl_cg h r (k + 1) (j + 1)]
    by_cases c : j < n
    · rw [h j c]
    · rw [if_neg (fun q => c q.1), if_neg (fun q => c q.1)]
theorem fl_s {tx : Nat → Int32} {n : Nat} {lo hi : Nat → Nat} {p : Nat} : ∀ {r k j : Nat}, j ≤ n → fl tx n lo hi r k j = some p → j ≤ p ∧ p ≤ n
  | 0, _, _, _, h => absurd h (by unfold fl; intro e; cases e)
  | r + 1, k, j, hj, h => by
    unfold fl at h
    by_cases c : j < n ∧ (lo k : Int) ≤ (tx j - nI 48).toInt ∧ (tx j - nI 48).toInt ≤ (hi k : Int)
    · rw [if_pos c] at h
      have := fl_s (r := r) (k := k + 1) (j := j + 1) (by omega) h
      omega
    · rw [if_neg c] at h
      have := Option.some.inj h
      omega
theorem fl_n {tx : Nat → Int32} {n : Nat} {lo hi : Nat → Nat} : ∀ {r k j : Nat}, fl tx n lo hi r k j = none → ∀ i, i < r → j + i < n ∧ (lo (k + i) : Int) ≤ (tx (j + i) - nI 48).toInt ∧ (tx (j + i) - nI 48).toInt ≤ (hi (k + i) : Int)
  | 0, _, _, _, i, hq => absurd hq (by omega)
  | r + 1, k, j, h, i, hq => by
    unfold fl at h
    by_cases c : j < n ∧ (lo k : Int) ≤ (tx j - nI 48).toInt ∧ (tx j - nI 48).toInt ≤ (hi k : Int)
    · rw [if_pos c] at h
      cases i with
      | zero => exact c
      | succ i =>
        have := fl_n (r := r) (k := k + 1) (j := j + 1) h i (by omega)
        rw [show k + (i + 1) = k + 1 + i by omega, show j + (i + 1) = j + 1 + i by omega]
        exact this
    · rw [if_neg c] at h
      cases h
section
variable {n L m : Nat} {lo hi : Nat → Nat} {Sw Sx : Bk} {k11 : Int32 → Int32 → Int32 → Bk → Bk → Option (Int32 × Bk × Bk)}
theorem c_bad (hn : n ≤ 64) (hL : 0 < L ∧ L < 100) (hm : m ≤ 5) (hlo : ∀ k, k < m → fX6_lowest (nI L) (nI k) = some (nI (lo k)) ∧ lo k ≤ 9) (hhi : ∀ k, k < m → fX6_highest Sw (nI L) (nI k) = some (nI (hi k)) ∧ hi k ≤ 9) (hx : Sx.1 0 = nI n) {k j : Nat} (hk : k < m) (hj : 1 ≤ j ∧ j ≤ n) (c : ¬ (j < n ∧ (lo k : Int) ≤ (Sx.2.1 0 j - nI 48).toInt ∧ (Sx.2.1 0 j - nI 48).toInt ≤ (hi k : Int))) : sX4_readInto_11 k11 (nI L) (nI k) (nI j) Sx Sw = some (nI j, Sx, Sw) := by
  obtain ⟨l1, l2⟩ := hlo k hk
  obtain ⟨h1, h2⟩ := hhi k hk
  unfold sX4_readInto_11 gX4_readInto_162
  by_cases c1 : j < n
  · by_cases c2 : (lo k : Int) ≤ (Sx.2.1 0 j - nI 48).toInt
    · have c3 : ¬ (Sx.2.1 0 j - nI 48).toInt ≤ (hi k : Int) := fun h => c ⟨c1, c2, h⟩
      simp (disch := omega) only [↓reduceIte, if_pos, if_neg, bd_some, nmV_e, inB_in, nI_cl, nI_leE, nI_ltE, nI_eqE, nI_add, pk_mul, lit_e, in_0_1, in_0_2, in_0_4, in_0_9, in_1_9, in_1_6, in_1_30, in_0_255, nI_ti, bI_i, bI_r, bI_j, bW_i, bW_j, bA_i, bA_j, bO_i, bO_r, bO_j, bJ_i, bJ_r, bJ_j, hx, l1, h1, i32_lt, i32_le]
    · simp (disch := omega) only [↓reduceIte, if_pos, if_neg, bd_some, nmV_e, inB_in, nI_cl, nI_leE, nI_ltE, nI_eqE, nI_add, pk_mul, lit_e, in_0_1, in_0_2, in_0_4, in_0_9, in_1_9, in_1_6, in_1_30, in_0_255, nI_ti, bI_i, bI_r, bI_j, bW_i, bW_j, bA_i, bA_j, bO_i, bO_r, bO_j, bJ_i, bJ_r, bJ_j, hx, l1, h1, i32_lt, i32_le]
  · have e : j = n := by omega
    subst e
    simp (disch := omega) only [↓reduceIte, if_pos, if_neg, bd_some, nmV_e, inB_in, nI_cl, nI_leE, nI_ltE, nI_eqE, nI_add, pk_mul, lit_e, in_0_1, in_0_2, in_0_4, in_0_9, in_1_9, in_1_6, in_1_30, in_0_255, nI_ti, bI_i, bI_r, bI_j, bW_i, bW_j, bA_i, bA_j, bO_i, bO_r, bO_j, bJ_i, bJ_r, bJ_j, hx]
theorem c_ok (hn : n ≤ 64) (hL : 0 < L ∧ L < 100) (hm : m ≤ 5) (hlo : ∀ k, k < m → fX6_lowest (nI L) (nI k) = some (nI (lo k)) ∧ lo k ≤ 9) (hhi : ∀ k, k < m → fX6_highest Sw (nI L) (nI k) = some (nI (hi k)) ∧ hi k ≤ 9) (hfo : fX6_figuresOf (nI L) = some (nI m)) (hx : Sx.1 0 = nI n) {k j : Nat} (hk : k < m) (hj : 1 ≤ j ∧ j ≤ n) (c : j < n ∧ (lo k : Int) ≤ (Sx.2.1 0 j - nI 48).toInt ∧ (Sx.2.1 0 j - nI 48).toInt ≤ (hi k : Int)) : sX4_readInto_11 k11 (nI L) (nI k) (nI j) Sx Sw = if k + 1 = m then (fX6_add Sw ((bW Sx 1 k (Sx.2.1 0 j - nI 48)).2.1 1) 5 (nI L)).bind (fun u => k11 (nI 0) (nI (k + 1)) (nI (j + 1)) (bW Sx 1 k (Sx.2.1 0 j - nI 48)) u) else k11 (nI L) (nI (k + 1)) (nI (j + 1)) (bW Sx 1 k (Sx.2.1 0 j - nI 48)) Sw := by
  obtain ⟨l1, l2⟩ := hlo k hk
  obtain ⟨h1, h2⟩ := hhi k hk
  obtain ⟨c1, c2, c3⟩ := c
  have e1 : (bW Sx 1 k (Sx.2.1 0 j - nI 48)).2.1 1 = upd (Sx.2.1 1) k (Sx.2.1 0 j - nI 48) := rfl
  rw [e1]
  unfold sX4_readInto_11 gX4_readInto_145
  by_cases c4 : k + 1 = m
  · simp (disch := omega) only [↓reduceIte, if_pos, if_neg, bd_some, nmV_e, inB_in, nI_cl, nI_leE, nI_ltE, nI_eqE, nI_add, pk_mul, lit_e, in_0_1, in_0_2, in_0_4, in_0_9, in_1_9, in_1_6, in_1_30, in_0_255, nI_ti, bI_i, bI_r, bI_j, bW_i, bW_j, bA_i, bA_j, bO_i, bO_r, bO_j, bJ_i, bJ_r, bJ_j, hx, l1, h1, hfo, i32_lt, i32_le]
  · simp (disch := omega) only [↓reduceIte, if_pos, if_neg, bd_some, nmV_e, inB_in, nI_cl, nI_leE, nI_ltE, nI_eqE, nI_add, pk_mul, lit_e, in_0_1, in_0_2, in_0_4, in_0_9, in_1_9, in_1_6, in_1_30, in_0_255, nI_ti, bI_i, bI_r, bI_j, bW_i, bW_j, bA_i, bA_j, bO_i, bO_r, bO_j, bJ_i, bJ_r, bJ_j, hx, l1, h1, hfo, i32_lt, i32_le]
theorem cscan (hn : n ≤ 64) (hL : 0 < L ∧ L < 100) (hm : m ≤ 5) (hlo : ∀ k, k < m → fX6_lowest (nI L) (nI k) = some (nI (lo k)) ∧ lo k ≤ 9) (hhi : ∀ k, k < m → fX6_highest Sw (nI L) (nI k) = some (nI (hi k)) ∧ hi k ≤ 9) (hfo : fX6_figuresOf (nI L) = some (nI m)) : ∀ (r k j F : Nat) (Sx : Bk), k + (r + 1) = m → 1 ≤ j → j ≤ n → r + 1 < F → Sx.1 0 = nI n → ∃ Sx' : Bk, Sx'.1 = Sx.1 ∧ Sx'.2.1 0 = Sx.2.1 0 ∧ (∀ k', k' < k → Sx'.2.1 1 k' = Sx.2.1 1 k') ∧ ((∃ p, fl (Sx.2.1 0) n lo hi (r + 1) k j = some p ∧ lk5 sX4_readInto_11 F (nI L) (nI k) (nI j) Sx Sw = some (nI p, Sx', Sw)) ∨ (fl (Sx.2.1 0) n lo hi (r + 1) k j = none ∧ (∀ i, i < r + 1 → Sx'.2.1 1 (k + i) = Sx.2.1 0 (j + i) - nI 48) ∧ lk5 sX4_readInto_11 F (nI L) (nI k) (nI j) Sx Sw = (fX6_add Sw (Sx'.2.1 1) 5 (nI L)).bind (fun u => lk5 sX4_readInto_11 (F - (r + 1)) (nI 0) (nI m) (nI (j + (r + 1))) Sx' u))) := by
  intro r
  induction r with
  | zero =>
    intro k j F Sx hk hj1 hj2 hF hx
    obtain ⟨F, rfl⟩ : ∃ F', F = F' + 1 := ⟨F - 1, by omega⟩
    by_cases c : j < n ∧ (lo k : Int) ≤ (Sx.2.1 0 j - nI 48).toInt ∧ (Sx.2.1 0 j - nI 48).toInt ≤ (hi k : Int)
    · refine ⟨bW Sx 1 k (Sx.2.1 0 j - nI 48), rfl, rfl, fun k' hk' => ?_, Or.inr ⟨?_, fun i hi => ?_, ?_⟩⟩
      · show (if k' = k then _ else Sx.2.1 1 k') = _
        rw [if_neg (by omega)]
      · unfold fl
        rw [if_pos c]; rfl
      · have e : i = 0 := by omega
        subst e
        exact if_pos rfl
      · refine (c_ok hn hL hm hlo hhi hfo hx (by omega) ⟨hj1, hj2⟩ c).trans ?_
        rw [if_pos (by omega), show k + 1 = m by omega, show F + 1 - (0 + 1) = F by omega]
    · refine ⟨Sx, rfl, rfl, fun _ _ => rfl, Or.inl ⟨j, ?_, ?_⟩⟩
      · unfold fl
        rw [if_neg c]
      · exact c_bad hn hL hm hlo hhi hx (by omega) ⟨hj1, hj2⟩ c
  | succ r ih =>
    intro k j F Sx hk hj1 hj2 hF hx
    obtain ⟨F, rfl⟩ : ∃ F', F = F' + 1 := ⟨F - 1, by omega⟩
    by_cases c : j < n ∧ (lo k : Int) ≤ (Sx.2.1 0 j - nI 48).toInt ∧ (Sx.2.1 0 j - nI 48).toInt ≤ (hi k : Int)
    · have st := c_ok (k11 := lk5 sX4_readInto_11 F) hn hL hm hlo hhi hfo hx (show k < m by omega) ⟨hj1, hj2⟩ c
      rw [if_neg (show ¬ k + 1 = m by omega)] at st
      obtain ⟨Sx', x1, x2, x3, x4⟩ := ih (k + 1) (j + 1) F (bW Sx 1 k (Sx.2.1 0 j - nI 48)) (by omega) (by omega) (by omega) (by omega) hx
      have ef : fl (Sx.2.1 0) n lo hi (r + 1 + 1) k j = fl (Sx.2.1 0) n lo hi (r + 1) (k + 1) (j + 1) := by
        show (if _ then _ else _) = _
        rw [if_pos c]
      refine ⟨Sx', x1, x2, fun k' hk' => ?_, ?_⟩
      · rw [x3 k' (by omega)]
        show (if k' = k then _ else Sx.2.1 1 k') = _
        rw [if_neg (by omega)]
      · rcases x4 with ⟨p, y1, y2⟩ | ⟨y1, y2, y3⟩
        · exact Or.inl ⟨p, ef.trans y1, st.trans y2⟩
        · refine Or.inr ⟨ef.trans y1, fun i hi => ?_, ?_⟩
          · cases i with
            | zero =>
              rw [Nat.add_zero, Nat.add_zero, x3 k (by omega)]
              exact if_pos rfl
            | succ i =>
              rw [show k + (i + 1) = k + 1 + i by omega, show j + (i + 1) = j + 1 + i by omega]
              exact y2 i (by omega)
          · refine st.trans (y3.trans ?_)
            rw [show j + 1 + (r + 1) = j + (r + 1 + 1) by omega, show F + 1 - (r + 1 + 1) = F - (r + 1) by omega]
    · refine ⟨Sx, rfl, rfl, fun _ _ => rfl, Or.inl ⟨j, ?_, ?_⟩⟩
      · show (if _ then _ else _) = _
        rw [if_neg c]
      · exact c_bad hn hL hm hlo hhi hx (by omega) ⟨hj1, hj2⟩ c
end
/-- the reference's block while a part is read -/
def gd (S0 : Bk) (ρ : Nat) (Sm : Bk) (j : Nat) : Prop := Sm.1 2 = nI j ∧ (∀ i, i ≠ 2 → Sm.1 i = S0.1 i) ∧ (∀ r, r ≠ ρ → Sm.2.1 r = S0.2.1 r) ∧ Sm.2.2 = S0.2.2
theorem fig8 {Sm : Bk} {n j lo hi : Nat} (hn : n ≤ 64) (h1 : Sm.1 1 = nI n) (h2 : Sm.1 2 = nI j) (hj : j ≤ n) (hl : lo ≤ 9) (hh : hi ≤ 9) : fX8_figure Sm (nI lo) (nI hi) = if j < n ∧ (lo : Int) ≤ (Sm.2.1 0 j - nI 48).toInt ∧ (Sm.2.1 0 j - nI 48).toInt ≤ (hi : Int) then some (Sm.2.1 0 j - nI 48, bI Sm 2 (nI (j + 1))) else some (-nI 9, Sm) := by
  have hin := in_s (Sm.2.1 0 j - nI 48).toInt64 (nI lo).toInt64 (nI hi).toInt64
  rw [i32_64, i32_64, i32_64, nI_ti (show lo < _ by omega), nI_ti (show hi < _ by omega)] at hin
  have e1 : nI (j + 1) - nI 1 = nI j := nI_pred j
  unfold fX8_figure
  by_cases c1 : j < n
  · by_cases c2 : (lo : Int) ≤ (Sm.2.1 0 j - nI 48).toInt ∧ (Sm.2.1 0 j - nI 48).toInt ≤ (hi : Int)
    · simp (disch := omega) only [↓reduceIte, if_pos, if_neg, bd_some, nmV_e, inB_in, nI_cl, nI_leE, nI_ltE, nI_eqE, nI_add, pk_mul, lit_e, in_0_1, in_0_2, in_0_4, in_0_9, in_1_9, in_1_6, in_1_30, in_0_255, nI_ti, bI_i, bI_r, bI_j, bW_i, bW_j, bA_i, bA_j, bO_i, bO_r, bO_j, bJ_i, bJ_r, bJ_j, h1, h2, hin, e1]
    · simp (disch := omega) only [↓reduceIte, if_pos, if_neg, bd_some, nmV_e, inB_in, nI_cl, nI_leE, nI_ltE, nI_eqE, nI_add, pk_mul, lit_e, in_0_1, in_0_2, in_0_4, in_0_9, in_1_9, in_1_6, in_1_30, in_0_255, nI_ti, bI_i, bI_r, bI_j, bW_i, bW_j, bA_i, bA_j, bO_i, bO_r, bO_j, bJ_i, bJ_r, bJ_j, h1, h2, hin, e1]
  · simp (disch := omega) only [↓reduceIte, if_pos, if_neg, bd_some, nmV_e, inB_in, nI_cl, nI_leE, nI_ltE, nI_eqE, nI_add, pk_mul, lit_e, in_0_1, in_0_2, in_0_4, in_0_9, in_1_9, in_1_6, in_1_30, in_0_255, nI_ti, bI_i, bI_r, bI_j, bW_i, bW_j, bA_i, bA_j, bO_i, bO_r, bO_j, bJ_i, bJ_r, bJ_j, h1, h2]
theorem bAs {S : Bk} {v : Int32} : bA (bO S (bI S 2 v)) 0 (S.2.1 0) = bI S 2 v := by
  refine Prod.ext rfl (Prod.ext (funext fun i => ?_) rfl)
  show (if i = 0 then S.2.1 0 else S.2.1 i) = S.2.1 i
  by_cases c : i = 0
  · rw [if_pos c, c]
  · rw [if_neg c]
theorem bA0 {S : Bk} : bA (bO S S) 0 (S.2.1 0) = S := by
  refine Prod.ext rfl (Prod.ext (funext fun i => ?_) rfl)
  show (if i = 0 then S.2.1 0 else S.2.1 i) = S.2.1 i
  by_cases c : i = 0
  · rw [if_pos c, c]
  · rw [if_neg c]
theorem rscan {n m ρ c base cnt : Nat} {lo hi : Nat → Nat} {S0 : Bk} {f : (Int32 → Bk → Option (Int32 × Bk)) → Int32 → Bk → Option (Int32 × Bk)} (hρ : ρ ≠ 0) (hc : c ≠ 2) (hok : ∀ k2 k j Sm, k < m → j ≤ n → gd S0 ρ Sm j → j < n ∧ (lo k : Int) ≤ (S0.2.1 0 j - nI 48).toInt ∧ (S0.2.1 0 j - nI 48).toInt ≤ (hi k : Int) → f k2 (nI k) Sm = k2 (nI (k + 1)) (bW (bI Sm 2 (nI (j + 1))) ρ (base + k) (S0.2.1 0 j - nI 48))) (hbad : ∀ k2 k j Sm, k < m → j ≤ n → gd S0 ρ Sm j → ¬ (j < n ∧ (lo k : Int) ≤ (S0.2.1 0 j - nI 48).toInt ∧ (S0.2.1 0 j - nI 48).toInt ≤ (hi k : Int)) → f k2 (nI k) Sm = some (nI 0, Sm)) (hend : ∀ k2 j Sm, gd S0 ρ Sm j → f k2 (nI m) Sm = some (nI 1, bI Sm c (nI (cnt + 1)))) : ∀ (r k j F : Nat) (Sm : Bk), k + r = m → j ≤ n → r < F → gd S0 ρ Sm j → ∃ Sm' : Bk, (∀ x, x < base + k ∨ base + m ≤ x → Sm'.2.1 ρ x = Sm.2.1 ρ x) ∧ ((∃ p, fl (S0.2.1 0) n lo hi r k j = some p ∧ lk2 f F (nI k) Sm = some (nI 0, Sm') ∧ gd S0 ρ Sm' p) ∨ (fl (S0.2.1 0) n lo hi r k j = none ∧ lk2 f F (nI k) Sm = some (nI 1, bI Sm' c (nI (cnt + 1))) ∧ gd S0 ρ Sm' (j + r) ∧ ∀ i, i < r → Sm'.2.1 ρ (base + (k + i)) = S0.2.1 0 (j + i) - nI 48)) := by
  intro r
  induction r with
  | zero =>
    intro k j F Sm hk hj hF hg
    obtain ⟨F, rfl⟩ : ∃ F', F = F' + 1 := ⟨F - 1, by omega⟩
    have e : k = m := by omega
    subst e
    exact ⟨Sm, fun _ _ => rfl, Or.inr ⟨rfl, hend _ j Sm hg, hg, fun i hi => absurd hi (by omega)⟩⟩
  | succ r ih =>
    intro k j F Sm hk hj hF hg
    obtain ⟨F, rfl⟩ : ∃ F', F = F' + 1 := ⟨F - 1, by omega⟩
    by_cases q : j < n ∧ (lo k : Int) ≤ (S0.2.1 0 j - nI 48).toInt ∧ (S0.2.1 0 j - nI 48).toInt ≤ (hi k : Int)
    · have st := hok (lk2 f F) k j Sm (by omega) hj hg q
      have ef : fl (S0.2.1 0) n lo hi (r + 1) k j = fl (S0.2.1 0) n lo hi r (k + 1) (j + 1) := by
        show (if _ then _ else _) = _
        rw [if_pos q]
      obtain ⟨g1, g2, g3, g4⟩ := hg
      have hrow : ∀ x, (bW (bI Sm 2 (nI (j + 1))) ρ (base + k) (S0.2.1 0 j - nI 48)).2.1 ρ x = if x = base + k then S0.2.1 0 j - nI 48 else Sm.2.1 ρ x := fun x => by
        rw [bW_r, if_pos rfl]; rfl
      obtain ⟨Sm', y1, y2⟩ := ih (k + 1) (j + 1) F (bW (bI Sm 2 (nI (j + 1))) ρ (base + k) (S0.2.1 0 j - nI 48)) (by omega) (by omega) (by omega) ⟨rfl, fun i hi => (if_neg hi).trans (g2 i hi), fun r hr => (if_neg hr).trans (g3 r hr), g4⟩
      refine ⟨Sm', fun x hx => ?_, ?_⟩
      · rw [y1 x (by omega), hrow, if_neg (by omega)]
      · rcases y2 with ⟨p, z1, z2, z3⟩ | ⟨z1, z2, z3, z4⟩
        · exact Or.inl ⟨p, ef.trans z1, st.trans z2, z3⟩
        · refine Or.inr ⟨ef.trans z1, st.trans z2, by rw [show j + (r + 1) = j + 1 + r by omega]; exact z3, fun i hi => ?_⟩
          cases i with
          | zero =>
            rw [Nat.add_zero, Nat.add_zero, y1 (base + k) (by omega), hrow, if_pos rfl]
          | succ i =>
            rw [show k + (i + 1) = k + 1 + i by omega, show j + (i + 1) = j + 1 + i by omega]
            exact z4 i (by omega)
    · refine ⟨Sm, fun _ _ => rfl, Or.inl ⟨j, ?_, hbad _ k j Sm (by omega) hj hg q, hg⟩⟩
      show (if _ then _ else _) = _
      rw [if_neg q]
