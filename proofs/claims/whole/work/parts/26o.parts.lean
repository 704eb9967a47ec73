def loT (k : Nat) : Nat := if k = 0 then 1 else 0
def hiT (k : Nat) : Nat := if k = 2 then 3 else 9
def loQ (k : Nat) : Nat := if k = 1 then 1 else 0
def hiQ (nt k : Nat) : Nat := if k = 0 then nt - 1 else if k = 2 then 1 else 9
def loD (_ : Nat) : Nat := 0
def hiD (nt nq k : Nat) : Nat := if k = 0 then nq - 1 else if k = 1 then 1 else if k = 3 then nt - 1 else 9
theorem lT : ∀ k, k < 3 → fX6_lowest (nI 84) (nI k) = some (nI (loT k)) ∧ loT k ≤ 9 := by decide +kernel
theorem lQ : ∀ k, k < 4 → fX6_lowest (nI 81) (nI k) = some (nI (loQ k)) ∧ loQ k ≤ 9 := by decide +kernel
theorem lD : ∀ k, k < 5 → fX6_lowest (nI 68) (nI k) = some (nI (loD k)) ∧ loD k ≤ 9 := by decide +kernel
section
variable {nt nq nd : Nat} {Sw : Bk}
theorem hT : ∀ k, k < 3 → fX6_highest Sw (nI 84) (nI k) = some (nI (hiT k)) ∧ hiT k ≤ 9 := fun k hk => by
  refine ⟨?_, by unfold hiT; (repeat' split) <;> omega⟩
  unfold fX6_highest hiT
  by_cases c : k = 2
  · simp (disch := omega) only [↓reduceIte, if_pos, if_neg, bd_some, nmV_e, inB_in, nI_cl, nI_leE, nI_ltE, nI_eqE, nI_add, pk_mul, lit_e, in_0_1, in_0_2, in_0_4, in_0_9, in_1_9, in_1_6, in_1_30, in_0_255, nI_ti, bI_i, bI_r, bI_j, bW_i, bW_j, bA_i, bA_j, bO_i, bO_r, bO_j, bJ_i, bJ_r, bJ_j]
  · simp (disch := omega) only [↓reduceIte, if_pos, if_neg, bd_some, nmV_e, inB_in, nI_cl, nI_leE, nI_ltE, nI_eqE, nI_add, pk_mul, lit_e, in_0_1, in_0_2, in_0_4, in_0_9, in_1_9, in_1_6, in_1_30, in_0_255, nI_ti, bI_i, bI_r, bI_j, bW_i, bW_j, bA_i, bA_j, bO_i, bO_r, bO_j, bJ_i, bJ_r, bJ_j]
theorem hQ (h0 : Sw.1 0 = nI nt) (hn : 1 ≤ nt ∧ nt ≤ 4) : ∀ k, k < 4 → fX6_highest Sw (nI 81) (nI k) = some (nI (hiQ nt k)) ∧ hiQ nt k ≤ 9 := fun k hk => by
  have e : nI nt - nI 1 = nI (nt - 1) := pk_sub (by omega)
  refine ⟨?_, by unfold hiQ; (repeat' split) <;> omega⟩
  unfold fX6_highest hiQ
  by_cases c : k = 0
  · simp (disch := omega) only [↓reduceIte, if_pos, if_neg, bd_some, nmV_e, inB_in, nI_cl, nI_leE, nI_ltE, nI_eqE, nI_add, pk_mul, lit_e, in_0_1, in_0_2, in_0_4, in_0_9, in_1_9, in_1_6, in_1_30, in_0_255, nI_ti, bI_i, bI_r, bI_j, bW_i, bW_j, bA_i, bA_j, bO_i, bO_r, bO_j, bJ_i, bJ_r, bJ_j, h0, e]
  · by_cases c2 : k = 2
    · simp (disch := omega) only [↓reduceIte, if_pos, if_neg, bd_some, nmV_e, inB_in, nI_cl, nI_leE, nI_ltE, nI_eqE, nI_add, pk_mul, lit_e, in_0_1, in_0_2, in_0_4, in_0_9, in_1_9, in_1_6, in_1_30, in_0_255, nI_ti, bI_i, bI_r, bI_j, bW_i, bW_j, bA_i, bA_j, bO_i, bO_r, bO_j, bJ_i, bJ_r, bJ_j]
    · simp (disch := omega) only [↓reduceIte, if_pos, if_neg, bd_some, nmV_e, inB_in, nI_cl, nI_leE, nI_ltE, nI_eqE, nI_add, pk_mul, lit_e, in_0_1, in_0_2, in_0_4, in_0_9, in_1_9, in_1_6, in_1_30, in_0_255, nI_ti, bI_i, bI_r, bI_j, bW_i, bW_j, bA_i, bA_j, bO_i, bO_r, bO_j, bJ_i, bJ_r, bJ_j]
theorem hD (h0 : Sw.1 0 = nI nt) (h1 : Sw.1 1 = nI nq) (hn : 1 ≤ nt ∧ nt ≤ 4) (hq : 1 ≤ nq ∧ nq ≤ 4) : ∀ k, k < 5 → fX6_highest Sw (nI 68) (nI k) = some (nI (hiD nt nq k)) ∧ hiD nt nq k ≤ 9 := fun k hk => by
  have e : nI nt - nI 1 = nI (nt - 1) := pk_sub (by omega)
  have e2 : nI nq - nI 1 = nI (nq - 1) := pk_sub (by omega)
  refine ⟨?_, by unfold hiD; (repeat' split) <;> omega⟩
  unfold fX6_highest hiD
  by_cases c : k = 0
  · simp (disch := omega) only [↓reduceIte, if_pos, if_neg, bd_some, nmV_e, inB_in, nI_cl, nI_leE, nI_ltE, nI_eqE, nI_add, pk_mul, lit_e, in_0_1, in_0_2, in_0_4, in_0_9, in_1_9, in_1_6, in_1_30, in_0_255, nI_ti, bI_i, bI_r, bI_j, bW_i, bW_j, bA_i, bA_j, bO_i, bO_r, bO_j, bJ_i, bJ_r, bJ_j, h1, e2]
  · by_cases c1 : k = 1
    · simp (disch := omega) only [↓reduceIte, if_pos, if_neg, bd_some, nmV_e, inB_in, nI_cl, nI_leE, nI_ltE, nI_eqE, nI_add, pk_mul, lit_e, in_0_1, in_0_2, in_0_4, in_0_9, in_1_9, in_1_6, in_1_30, in_0_255, nI_ti, bI_i, bI_r, bI_j, bW_i, bW_j, bA_i, bA_j, bO_i, bO_r, bO_j, bJ_i, bJ_r, bJ_j]
    · by_cases c3 : k = 3
      · simp (disch := omega) only [↓reduceIte, if_pos, if_neg, bd_some, nmV_e, inB_in, nI_cl, nI_leE, nI_ltE, nI_eqE, nI_add, pk_mul, lit_e, in_0_1, in_0_2, in_0_4, in_0_9, in_1_9, in_1_6, in_1_30, in_0_255, nI_ti, bI_i, bI_r, bI_j, bW_i, bW_j, bA_i, bA_j, bO_i, bO_r, bO_j, bJ_i, bJ_r, bJ_j, h0, e]
      · simp (disch := omega) only [↓reduceIte, if_pos, if_neg, bd_some, nmV_e, inB_in, nI_cl, nI_leE, nI_ltE, nI_eqE, nI_add, pk_mul, lit_e, in_0_1, in_0_2, in_0_4, in_0_9, in_1_9, in_1_6, in_1_30, in_0_255, nI_ti, bI_i, bI_r, bI_j, bW_i, bW_j, bA_i, bA_j, bO_i, bO_r, bO_j, bJ_i, bJ_r, bJ_j]
end
theorem ne9 {x : Int32} (h : 0 ≤ x.toInt) : ¬ x = -nI 9 := by
  intro e
  rw [e] at h
  exact absurd h (by decide)
section
variable {n nt nq nd : Nat} {S0 : Bk}
theorem okT (hn : n ≤ 64) (h1 : S0.1 1 = nI n) (h6 : S0.1 6 = nI nt) (hnt : nt < 4) (k2) (k j : Nat) (Sm : Bk) (hk : k < 3) (hj : j ≤ n) (hg : gd S0 4 Sm j) (c : j < n ∧ (loT k : Int) ≤ (S0.2.1 0 j - nI 48).toInt ∧ (S0.2.1 0 j - nI 48).toInt ≤ (hiT k : Int)) : sX8_readThing_2 k2 (nI k) Sm = k2 (nI (k + 1)) (bW (bI Sm 2 (nI (j + 1))) 4 (3 * nt + k) (S0.2.1 0 j - nI 48)) := by
  obtain ⟨g1, g2, g3, g4⟩ := hg
  have e1 := (g2 1 (by omega)).trans h1
  have e6 := (g2 6 (by omega)).trans h6
  have e0 := g3 0 (by omega)
  rw [← e0] at c ⊢
  have n9 := ne9 (x := Sm.2.1 0 j - nI 48) (by omega)
  have b1 := (lT k hk).2
  have b2 := (hT (Sw := S0) k hk).2
  have fg := fig8 (lo := loT k) (hi := hiT k) hn e1 g1 hj b1 b2
  rw [if_pos c] at fg
  unfold sX8_readThing_2 gX8_readThing_34 gX8_readThing_37
  rcases (show k = 0 ∨ k = 1 ∨ k = 2 by omega) with rfl | rfl | rfl
  · have fg' : fX8_figure Sm (nI 1) (nI 9) = _ := fg
    simp (disch := omega) only [↓reduceIte, if_pos, if_neg, bd_some, nmV_e, inB_in, nI_cl, nI_leE, nI_ltE, nI_eqE, nI_add, pk_mul, lit_e, in_0_1, in_0_2, in_0_4, in_0_9, in_1_9, in_1_6, in_1_30, in_0_255, nI_ti, bI_i, bI_r, bI_j, bW_i, bW_j, bA_i, bA_j, bO_i, bO_r, bO_j, bJ_i, bJ_r, bJ_j, fg', n9, e6, bAs]
  · have fg' : fX8_figure Sm (nI 0) (nI 9) = _ := fg
    simp (disch := omega) only [↓reduceIte, if_pos, if_neg, bd_some, nmV_e, inB_in, nI_cl, nI_leE, nI_ltE, nI_eqE, nI_add, pk_mul, lit_e, in_0_1, in_0_2, in_0_4, in_0_9, in_1_9, in_1_6, in_1_30, in_0_255, nI_ti, bI_i, bI_r, bI_j, bW_i, bW_j, bA_i, bA_j, bO_i, bO_r, bO_j, bJ_i, bJ_r, bJ_j, fg', n9, e6, bAs]
  · have fg' : fX8_figure Sm (nI 0) (nI 3) = _ := fg
    simp (disch := omega) only [↓reduceIte, if_pos, if_neg, bd_some, nmV_e, inB_in, nI_cl, nI_leE, nI_ltE, nI_eqE, nI_add, pk_mul, lit_e, in_0_1, in_0_2, in_0_4, in_0_9, in_1_9, in_1_6, in_1_30, in_0_255, nI_ti, bI_i, bI_r, bI_j, bW_i, bW_j, bA_i, bA_j, bO_i, bO_r, bO_j, bJ_i, bJ_r, bJ_j, fg', n9, e6, bAs]
theorem badT (hn : n ≤ 64) (h1 : S0.1 1 = nI n) (k2) (k j : Nat) (Sm : Bk) (hk : k < 3) (hj : j ≤ n) (hg : gd S0 4 Sm j) (c : ¬ (j < n ∧ (loT k : Int) ≤ (S0.2.1 0 j - nI 48).toInt ∧ (S0.2.1 0 j - nI 48).toInt ≤ (hiT k : Int))) : sX8_readThing_2 k2 (nI k) Sm = some (nI 0, Sm) := by
  obtain ⟨g1, g2, g3, g4⟩ := hg
  have e1 := (g2 1 (by omega)).trans h1
  have e0 := g3 0 (by omega)
  rw [← e0] at c
  have b1 := (lT k hk).2
  have b2 := (hT (Sw := S0) k hk).2
  have fg := fig8 (lo := loT k) (hi := hiT k) hn e1 g1 hj b1 b2
  rw [if_neg c] at fg
  unfold sX8_readThing_2 gX8_readThing_34 gX8_readThing_37
  rcases (show k = 0 ∨ k = 1 ∨ k = 2 by omega) with rfl | rfl | rfl
  · have fg' : fX8_figure Sm (nI 1) (nI 9) = _ := fg
    simp (disch := omega) only [↓reduceIte, if_pos, if_neg, bd_some, nmV_e, inB_in, nI_cl, nI_leE, nI_ltE, nI_eqE, nI_add, pk_mul, lit_e, in_0_1, in_0_2, in_0_4, in_0_9, in_1_9, in_1_6, in_1_30, in_0_255, nI_ti, bI_i, bI_r, bI_j, bW_i, bW_j, bA_i, bA_j, bO_i, bO_r, bO_j, bJ_i, bJ_r, bJ_j, fg', bA0]
  · have fg' : fX8_figure Sm (nI 0) (nI 9) = _ := fg
    simp (disch := omega) only [↓reduceIte, if_pos, if_neg, bd_some, nmV_e, inB_in, nI_cl, nI_leE, nI_ltE, nI_eqE, nI_add, pk_mul, lit_e, in_0_1, in_0_2, in_0_4, in_0_9, in_1_9, in_1_6, in_1_30, in_0_255, nI_ti, bI_i, bI_r, bI_j, bW_i, bW_j, bA_i, bA_j, bO_i, bO_r, bO_j, bJ_i, bJ_r, bJ_j, fg', bA0]
  · have fg' : fX8_figure Sm (nI 0) (nI 3) = _ := fg
    simp (disch := omega) only [↓reduceIte, if_pos, if_neg, bd_some, nmV_e, inB_in, nI_cl, nI_leE, nI_ltE, nI_eqE, nI_add, pk_mul, lit_e, in_0_1, in_0_2, in_0_4, in_0_9, in_1_9, in_1_6, in_1_30, in_0_255, nI_ti, bI_i, bI_r, bI_j, bW_i, bW_j, bA_i, bA_j, bO_i, bO_r, bO_j, bJ_i, bJ_r, bJ_j, fg', bA0]
theorem endT (h6 : S0.1 6 = nI nt) (k2) (j : Nat) (Sm : Bk) (hg : gd S0 4 Sm j) : sX8_readThing_2 k2 (nI 3) Sm = some (nI 1, bI Sm 6 (nI (nt + 1))) := by
  have e6 := (hg.2.1 6 (by omega)).trans h6
  unfold sX8_readThing_2
  simp (disch := omega) only [↓reduceIte, if_pos, if_neg, bd_some, nmV_e, inB_in, nI_cl, nI_leE, nI_ltE, nI_eqE, nI_add, pk_mul, lit_e, in_0_1, in_0_2, in_0_4, in_0_9, in_1_9, in_1_6, in_1_30, in_0_255, nI_ti, bI_i, bI_r, bI_j, bW_i, bW_j, bA_i, bA_j, bO_i, bO_r, bO_j, bJ_i, bJ_r, bJ_j, e6]
theorem okQ (hn : n ≤ 64) (h1 : S0.1 1 = nI n) (h6 : S0.1 6 = nI nt) (h7 : S0.1 7 = nI nq) (hnt : 1 ≤ nt ∧ nt ≤ 4) (hnq : nq < 4) (k2) (k j : Nat) (Sm : Bk) (hk : k < 4) (hj : j ≤ n) (hg : gd S0 5 Sm j) (c : j < n ∧ (loQ k : Int) ≤ (S0.2.1 0 j - nI 48).toInt ∧ (S0.2.1 0 j - nI 48).toInt ≤ (hiQ nt k : Int)) : sX8_readQuestion_2 k2 (nI k) Sm = k2 (nI (k + 1)) (bW (bI Sm 2 (nI (j + 1))) 5 (4 * nq + k) (S0.2.1 0 j - nI 48)) := by
  obtain ⟨g1, g2, g3, g4⟩ := hg
  have e1 := (g2 1 (by omega)).trans h1
  have e6 := (g2 6 (by omega)).trans h6
  have e7 := (g2 7 (by omega)).trans h7
  have e0 := g3 0 (by omega)
  have em : nI nt - nI 1 = nI (nt - 1) := pk_sub (by omega)
  rw [← e0] at c ⊢
  have n9 := ne9 (x := Sm.2.1 0 j - nI 48) (by omega)
  have b1 := (lQ k hk).2
  have b2 := (hQ (Sw := (fun _ => nI nt, S0.2)) rfl hnt k hk).2
  have fg := fig8 (lo := loQ k) (hi := hiQ nt k) hn e1 g1 hj b1 b2
  rw [if_pos c] at fg
  unfold sX8_readQuestion_2 gX8_readQuestion_61
  rcases (show k = 0 ∨ k = 1 ∨ k = 2 ∨ k = 3 by omega) with rfl | rfl | rfl | rfl
  · have fg' : fX8_figure Sm (nI 0) (nI (nt - 1)) = _ := fg
    simp (disch := omega) only [↓reduceIte, if_pos, if_neg, bd_some, nmV_e, inB_in, nI_cl, nI_leE, nI_ltE, nI_eqE, nI_add, pk_mul, lit_e, in_0_1, in_0_2, in_0_4, in_0_9, in_1_9, in_1_6, in_1_30, in_0_255, nI_ti, bI_i, bI_r, bI_j, bW_i, bW_j, bA_i, bA_j, bO_i, bO_r, bO_j, bJ_i, bJ_r, bJ_j, e6, em, fg', n9, e7, bAs]
  · have fg' : fX8_figure Sm (nI 1) (nI 9) = _ := fg
    simp (disch := omega) only [↓reduceIte, if_pos, if_neg, bd_some, nmV_e, inB_in, nI_cl, nI_leE, nI_ltE, nI_eqE, nI_add, pk_mul, lit_e, in_0_1, in_0_2, in_0_4, in_0_9, in_1_9, in_1_6, in_1_30, in_0_255, nI_ti, bI_i, bI_r, bI_j, bW_i, bW_j, bA_i, bA_j, bO_i, bO_r, bO_j, bJ_i, bJ_r, bJ_j, fg', n9, e7, bAs]
  · have fg' : fX8_figure Sm (nI 0) (nI 1) = _ := fg
    simp (disch := omega) only [↓reduceIte, if_pos, if_neg, bd_some, nmV_e, inB_in, nI_cl, nI_leE, nI_ltE, nI_eqE, nI_add, pk_mul, lit_e, in_0_1, in_0_2, in_0_4, in_0_9, in_1_9, in_1_6, in_1_30, in_0_255, nI_ti, bI_i, bI_r, bI_j, bW_i, bW_j, bA_i, bA_j, bO_i, bO_r, bO_j, bJ_i, bJ_r, bJ_j, fg', n9, e7, bAs]
  · have fg' : fX8_figure Sm (nI 0) (nI 9) = _ := fg
    simp (disch := omega) only [↓reduceIte, if_pos, if_neg, bd_some, nmV_e, inB_in, nI_cl, nI_leE, nI_ltE, nI_eqE, nI_add, pk_mul, lit_e, in_0_1, in_0_2, in_0_4, in_0_9, in_1_9, in_1_6, in_1_30, in_0_255, nI_ti, bI_i, bI_r, bI_j, bW_i, bW_j, bA_i, bA_j, bO_i, bO_r, bO_j, bJ_i, bJ_r, bJ_j, fg', n9, e7, bAs]
theorem badQ (hn : n ≤ 64) (h1 : S0.1 1 = nI n) (h6 : S0.1 6 = nI nt) (hnt : 1 ≤ nt ∧ nt ≤ 4) (k2) (k j : Nat) (Sm : Bk) (hk : k < 4) (hj : j ≤ n) (hg : gd S0 5 Sm j) (c : ¬ (j < n ∧ (loQ k : Int) ≤ (S0.2.1 0 j - nI 48).toInt ∧ (S0.2.1 0 j - nI 48).toInt ≤ (hiQ nt k : Int))) : sX8_readQuestion_2 k2 (nI k) Sm = some (nI 0, Sm) := by
  obtain ⟨g1, g2, g3, g4⟩ := hg
  have e1 := (g2 1 (by omega)).trans h1
  have e6 := (g2 6 (by omega)).trans h6
  have e0 := g3 0 (by omega)
  have em : nI nt - nI 1 = nI (nt - 1) := pk_sub (by omega)
  rw [← e0] at c
  have b1 := (lQ k hk).2
  have b2 := (hQ (Sw := (fun _ => nI nt, S0.2)) rfl hnt k hk).2
  have fg := fig8 (lo := loQ k) (hi := hiQ nt k) hn e1 g1 hj b1 b2
  rw [if_neg c] at fg
  unfold sX8_readQuestion_2 gX8_readQuestion_61
  rcases (show k = 0 ∨ k = 1 ∨ k = 2 ∨ k = 3 by omega) with rfl | rfl | rfl | rfl
  · have fg' : fX8_figure Sm (nI 0) (nI (nt - 1)) = _ := fg
    simp (disch := omega) only [↓reduceIte, if_pos, if_neg, bd_some, nmV_e, inB_in, nI_cl, nI_leE, nI_ltE, nI_eqE, nI_add, pk_mul, lit_e, in_0_1, in_0_2, in_0_4, in_0_9, in_1_9, in_1_6, in_1_30, in_0_255, nI_ti, bI_i, bI_r, bI_j, bW_i, bW_j, bA_i, bA_j, bO_i, bO_r, bO_j, bJ_i, bJ_r, bJ_j, e6, em, fg', bA0]
  · have fg' : fX8_figure Sm (nI 1) (nI 9) = _ := fg
    simp (disch := omega) only [↓reduceIte, if_pos, if_neg, bd_some, nmV_e, inB_in, nI_cl, nI_leE, nI_ltE, nI_eqE, nI_add, pk_mul, lit_e, in_0_1, in_0_2, in_0_4, in_0_9, in_1_9, in_1_6, in_1_30, in_0_255, nI_ti, bI_i, bI_r, bI_j, bW_i, bW_j, bA_i, bA_j, bO_i, bO_r, bO_j, bJ_i, bJ_r, bJ_j, fg', bA0]
  · have fg' : fX8_figure Sm (nI 0) (nI 1) = _ := fg
    simp (disch := omega) only [↓reduceIte, if_pos, if_neg, bd_some, nmV_e, inB_in, nI_cl, nI_leE, nI_ltE, nI_eqE, nI_add, pk_mul, lit_e, in_0_1, in_0_2, in_0_4, in_0_9, in_1_9, in_1_6, in_1_30, in_0_255, nI_ti, bI_i, bI_r, bI_j, bW_i, bW_j, bA_i, bA_j, bO_i, bO_r, bO_j, bJ_i, bJ_r, bJ_j, fg', bA0]
  · have fg' : fX8_figure Sm (nI 0) (nI 9) = _ := fg
    simp (disch := omega) only [↓reduceIte, if_pos, if_neg, bd_some, nmV_e, inB_in, nI_cl, nI_leE, nI_ltE, nI_eqE, nI_add, pk_mul, lit_e, in_0_1, in_0_2, in_0_4, in_0_9, in_1_9, in_1_6, in_1_30, in_0_255, nI_ti, bI_i, bI_r, bI_j, bW_i, bW_j, bA_i, bA_j, bO_i, bO_r, bO_j, bJ_i, bJ_r, bJ_j, fg', bA0]
theorem endQ (h7 : S0.1 7 = nI nq) (k2) (j : Nat) (Sm : Bk) (hg : gd S0 5 Sm j) : sX8_readQuestion_2 k2 (nI 4) Sm = some (nI 1, bI Sm 7 (nI (nq + 1))) := by
  have e7 := (hg.2.1 7 (by omega)).trans h7
  unfold sX8_readQuestion_2
  simp (disch := omega) only [↓reduceIte, if_pos, if_neg, bd_some, nmV_e, inB_in, nI_cl, nI_leE, nI_ltE, nI_eqE, nI_add, pk_mul, lit_e, in_0_1, in_0_2, in_0_4, in_0_9, in_1_9, in_1_6, in_1_30, in_0_255, nI_ti, bI_i, bI_r, bI_j, bW_i, bW_j, bA_i, bA_j, bO_i, bO_r, bO_j, bJ_i, bJ_r, bJ_j, e7]
theorem okD (hn : n ≤ 64) (h1 : S0.1 1 = nI n) (h6 : S0.1 6 = nI nt) (h7 : S0.1 7 = nI nq) (h8 : S0.1 8 = nI nd) (hnt : 1 ≤ nt ∧ nt ≤ 4) (hnq : 1 ≤ nq ∧ nq ≤ 4) (hnd : nd < 4) (k2) (k j : Nat) (Sm : Bk) (hk : k < 5) (hj : j ≤ n) (hg : gd S0 6 Sm j) (c : j < n ∧ (loD k : Int) ≤ (S0.2.1 0 j - nI 48).toInt ∧ (S0.2.1 0 j - nI 48).toInt ≤ (hiD nt nq k : Int)) : sX8_readDeed_2 k2 (nI k) Sm = k2 (nI (k + 1)) (bW (bI Sm 2 (nI (j + 1))) 6 (5 * nd + k) (S0.2.1 0 j - nI 48)) := by
  obtain ⟨g1, g2, g3, g4⟩ := hg
  have e1 := (g2 1 (by omega)).trans h1
  have e6 := (g2 6 (by omega)).trans h6
  have e7 := (g2 7 (by omega)).trans h7
  have e8 := (g2 8 (by omega)).trans h8
  have e0 := g3 0 (by omega)
  have em : nI nt - nI 1 = nI (nt - 1) := pk_sub (by omega)
  have em2 : nI nq - nI 1 = nI (nq - 1) := pk_sub (by omega)
  rw [← e0] at c ⊢
  have n9 := ne9 (x := Sm.2.1 0 j - nI 48) (by unfold loD at c; omega)
  have b1 := (lD k hk).2
  have b2 := (hD (Sw := (fun i => if i = 0 then nI nt else nI nq, S0.2)) rfl rfl hnt hnq k hk).2
  have fg := fig8 (lo := loD k) (hi := hiD nt nq k) hn e1 g1 hj b1 b2
  rw [if_pos c] at fg
  unfold sX8_readDeed_2 gX8_readDeed_65
  rcases (show k = 0 ∨ k = 1 ∨ k = 2 ∨ k = 3 ∨ k = 4 by omega) with rfl | rfl | rfl | rfl | rfl
  · have fg' : fX8_figure Sm (nI 0) (nI (nq - 1)) = _ := fg
    simp (disch := omega) only [↓reduceIte, if_pos, if_neg, bd_some, nmV_e, inB_in, nI_cl, nI_leE, nI_ltE, nI_eqE, nI_add, pk_mul, lit_e, in_0_1, in_0_2, in_0_4, in_0_9, in_1_9, in_1_6, in_1_30, in_0_255, nI_ti, bI_i, bI_r, bI_j, bW_i, bW_j, bA_i, bA_j, bO_i, bO_r, bO_j, bJ_i, bJ_r, bJ_j, e7, em2, fg', n9, e8, bAs]
  · have fg' : fX8_figure Sm (nI 0) (nI 1) = _ := fg
    simp (disch := omega) only [↓reduceIte, if_pos, if_neg, bd_some, nmV_e, inB_in, nI_cl, nI_leE, nI_ltE, nI_eqE, nI_add, pk_mul, lit_e, in_0_1, in_0_2, in_0_4, in_0_9, in_1_9, in_1_6, in_1_30, in_0_255, nI_ti, bI_i, bI_r, bI_j, bW_i, bW_j, bA_i, bA_j, bO_i, bO_r, bO_j, bJ_i, bJ_r, bJ_j, fg', n9, e8, bAs]
  · have fg' : fX8_figure Sm (nI 0) (nI 9) = _ := fg
    simp (disch := omega) only [↓reduceIte, if_pos, if_neg, bd_some, nmV_e, inB_in, nI_cl, nI_leE, nI_ltE, nI_eqE, nI_add, pk_mul, lit_e, in_0_1, in_0_2, in_0_4, in_0_9, in_1_9, in_1_6, in_1_30, in_0_255, nI_ti, bI_i, bI_r, bI_j, bW_i, bW_j, bA_i, bA_j, bO_i, bO_r, bO_j, bJ_i, bJ_r, bJ_j, fg', n9, e8, bAs]
  · have fg' : fX8_figure Sm (nI 0) (nI (nt - 1)) = _ := fg
    simp (disch := omega) only [↓reduceIte, if_pos, if_neg, bd_some, nmV_e, inB_in, nI_cl, nI_leE, nI_ltE, nI_eqE, nI_add, pk_mul, lit_e, in_0_1, in_0_2, in_0_4, in_0_9, in_1_9, in_1_6, in_1_30, in_0_255, nI_ti, bI_i, bI_r, bI_j, bW_i, bW_j, bA_i, bA_j, bO_i, bO_r, bO_j, bJ_i, bJ_r, bJ_j, e6, em, fg', n9, e8, bAs]
  · have fg' : fX8_figure Sm (nI 0) (nI 9) = _ := fg
    simp (disch := omega) only [↓reduceIte, if_pos, if_neg, bd_some, nmV_e, inB_in, nI_cl, nI_leE, nI_ltE, nI_eqE, nI_add, pk_mul, lit_e, in_0_1, in_0_2, in_0_4, in_0_9, in_1_9, in_1_6, in_1_30, in_0_255, nI_ti, bI_i, bI_r, bI_j, bW_i, bW_j, bA_i, bA_j, bO_i, bO_r, bO_j, bJ_i, bJ_r, bJ_j, fg', n9, e8, bAs]
theorem badD (hn : n ≤ 64) (h1 : S0.1 1 = nI n) (h6 : S0.1 6 = nI nt) (h7 : S0.1 7 = nI nq) (hnt : 1 ≤ nt ∧ nt ≤ 4) (hnq : 1 ≤ nq ∧ nq ≤ 4) (k2) (k j : Nat) (Sm : Bk) (hk : k < 5) (hj : j ≤ n) (hg : gd S0 6 Sm j) (c : ¬ (j < n ∧ (loD k : Int) ≤ (S0.2.1 0 j - nI 48).toInt ∧ (S0.2.1 0 j - nI 48).toInt ≤ (hiD nt nq k : Int))) : sX8_readDeed_2 k2 (nI k) Sm = some (nI 0, Sm) := by
  obtain ⟨g1, g2, g3, g4⟩ := hg
  have e1 := (g2 1 (by omega)).trans h1
  have e6 := (g2 6 (by omega)).trans h6
  have e7 := (g2 7 (by omega)).trans h7
  have e0 := g3 0 (by omega)
  have em : nI nt - nI 1 = nI (nt - 1) := pk_sub (by omega)
  have em2 : nI nq - nI 1 = nI (nq - 1) := pk_sub (by omega)
  rw [← e0] at c
  have b1 := (lD k hk).2
  have b2 := (hD (Sw := (fun i => if i = 0 then nI nt else nI nq, S0.2)) rfl rfl hnt hnq k hk).2
  have fg := fig8 (lo := loD k) (hi := hiD nt nq k) hn e1 g1 hj b1 b2
  rw [if_neg c] at fg
  unfold sX8_readDeed_2 gX8_readDeed_65
  rcases (show k = 0 ∨ k = 1 ∨ k = 2 ∨ k = 3 ∨ k = 4 by omega) with rfl | rfl | rfl | rfl | rfl
  · have fg' : fX8_figure Sm (nI 0) (nI (nq - 1)) = _ := fg
    simp (disch := omega) only [↓reduceIte, if_pos, if_neg, bd_some, nmV_e, inB_in, nI_cl, nI_leE, nI_ltE, nI_eqE, nI_add, pk_mul, lit_e, in_0_1, in_0_2, in_0_4, in_0_9, in_1_9, in_1_6, in_1_30, in_0_255, nI_ti, bI_i, bI_r, bI_j, bW_i, bW_j, bA_i, bA_j, bO_i, bO_r, bO_j, bJ_i, bJ_r, bJ_j, e7, em2, fg', bA0]
  · have fg' : fX8_figure Sm (nI 0) (nI 1) = _ := fg
    simp (disch := omega) only [↓reduceIte, if_pos, if_neg, bd_some, nmV_e, inB_in, nI_cl, nI_leE, nI_ltE, nI_eqE, nI_add, pk_mul, lit_e, in_0_1, in_0_2, in_0_4, in_0_9, in_1_9, in_1_6, in_1_30, in_0_255, nI_ti, bI_i, bI_r, bI_j, bW_i, bW_j, bA_i, bA_j, bO_i, bO_r, bO_j, bJ_i, bJ_r, bJ_j, fg', bA0]
  · have fg' : fX8_figure Sm (nI 0) (nI 9) = _ := fg
    simp (disch := omega) only [↓reduceIte, if_pos, if_neg, bd_some, nmV_e, inB_in, nI_cl, nI_leE, nI_ltE, nI_eqE, nI_add, pk_mul, lit_e, in_0_1, in_0_2, in_0_4, in_0_9, in_1_9, in_1_6, in_1_30, in_0_255, nI_ti, bI_i, bI_r, bI_j, bW_i, bW_j, bA_i, bA_j, bO_i, bO_r, bO_j, bJ_i, bJ_r, bJ_j, fg', bA0]
  · have fg' : fX8_figure Sm (nI 0) (nI (nt - 1)) = _ := fg
    simp (disch := omega) only [↓reduceIte, if_pos, if_neg, bd_some, nmV_e, inB_in, nI_cl, nI_leE, nI_ltE, nI_eqE, nI_add, pk_mul, lit_e, in_0_1, in_0_2, in_0_4, in_0_9, in_1_9, in_1_6, in_1_30, in_0_255, nI_ti, bI_i, bI_r, bI_j, bW_i, bW_j, bA_i, bA_j, bO_i, bO_r, bO_j, bJ_i, bJ_r, bJ_j, e6, em, fg', bA0]
  · have fg' : fX8_figure Sm (nI 0) (nI 9) = _ := fg
    simp (disch := omega) only [↓reduceIte, if_pos, if_neg, bd_some, nmV_e, inB_in, nI_cl, nI_leE, nI_ltE, nI_eqE, nI_add, pk_mul, lit_e, in_0_1, in_0_2, in_0_4, in_0_9, in_1_9, in_1_6, in_1_30, in_0_255, nI_ti, bI_i, bI_r, bI_j, bW_i, bW_j, bA_i, bA_j, bO_i, bO_r, bO_j, bJ_i, bJ_r, bJ_j, fg', bA0]
theorem endD (h8 : S0.1 8 = nI nd) (k2) (j : Nat) (Sm : Bk) (hg : gd S0 6 Sm j) : sX8_readDeed_2 k2 (nI 5) Sm = some (nI 1, bI Sm 8 (nI (nd + 1))) := by
  have e8 := (hg.2.1 8 (by omega)).trans h8
  unfold sX8_readDeed_2
  simp (disch := omega) only [↓reduceIte, if_pos, if_neg, bd_some, nmV_e, inB_in, nI_cl, nI_leE, nI_ltE, nI_eqE, nI_add, pk_mul, lit_e, in_0_1, in_0_2, in_0_4, in_0_9, in_1_9, in_1_6, in_1_30, in_0_255, nI_ti, bI_i, bI_r, bI_j, bW_i, bW_j, bA_i, bA_j, bO_i, bO_r, bO_j, bJ_i, bJ_r, bJ_j, e8]
end
/-- a part is read by the reference -/
def PART (n m ρ c cnt base : Nat) (lo hi : Nat → Nat) (Sm : Bk) (i : Nat) : Prop := ∃ Sm' : Bk, (∀ q, q ≠ 2 → q ≠ c → Sm'.1 q = Sm.1 q) ∧ (∀ r, r ≠ ρ → Sm'.2.1 r = Sm.2.1 r) ∧ Sm'.2.2 = Sm.2.2 ∧ (∀ x, x < base ∨ base + m ≤ x → Sm'.2.1 ρ x = Sm.2.1 ρ x) ∧ ((∃ p, fl (Sm.2.1 0) n lo hi m 0 (i + 1) = some p ∧ fX8_readPart Sm = some (nI 0, Sm') ∧ Sm'.1 2 = nI p) ∨ (fl (Sm.2.1 0) n lo hi m 0 (i + 1) = none ∧ fX8_readPart Sm = some (nI 1, Sm') ∧ Sm'.1 2 = nI (i + 1 + m) ∧ Sm'.1 c = nI (cnt + 1) ∧ ∀ k, k < m → Sm'.2.1 ρ (base + k) = Sm.2.1 0 (i + 1 + k) - nI 48))
theorem part_of {n m ρ c cnt base i : Nat} {lo hi : Nat → Nat} {Sm : Bk} {f : (Int32 → Bk → Option (Int32 × Bk)) → Int32 → Bk → Option (Int32 × Bk)} (hρ : ρ ≠ 0) (hc : c ≠ 2) (hi1 : i < n) (hm : m ≤ 5) (hok : ∀ k2 k j S, k < m → j ≤ n → gd (bI Sm 2 (nI (i + 1))) ρ S j → j < n ∧ (lo k : Int) ≤ (Sm.2.1 0 j - nI 48).toInt ∧ (Sm.2.1 0 j - nI 48).toInt ≤ (hi k : Int) → f k2 (nI k) S = k2 (nI (k + 1)) (bW (bI S 2 (nI (j + 1))) ρ (base + k) (Sm.2.1 0 j - nI 48))) (hbad : ∀ k2 k j S, k < m → j ≤ n → gd (bI Sm 2 (nI (i + 1))) ρ S j → ¬ (j < n ∧ (lo k : Int) ≤ (Sm.2.1 0 j - nI 48).toInt ∧ (Sm.2.1 0 j - nI 48).toInt ≤ (hi k : Int)) → f k2 (nI k) S = some (nI 0, S)) (hend : ∀ k2 j S, gd (bI Sm 2 (nI (i + 1))) ρ S j → f k2 (nI m) S = some (nI 1, bI S c (nI (cnt + 1)))) (hp : ∀ u : Int32 × Bk, (u.1 = nI 0 ∨ u.1 = nI 1) → lk2 f 1000 (nI 0) (bI Sm 2 (nI (i + 1))) = some u → fX8_readPart Sm = some (u.1, bA (bA (bO (bI Sm 2 (nI (i + 1))) u.2) 0 (u.2.2.1 0)) ρ (u.2.2.1 ρ))) : PART n m ρ c cnt base lo hi Sm i := by
  obtain ⟨S', y1, y2⟩ := rscan (S0 := bI Sm 2 (nI (i + 1))) (n := n) hρ hc hok hbad hend m 0 (i + 1) 1000 (bI Sm 2 (nI (i + 1))) (by omega) (by omega) (by omega) ⟨rfl, fun _ _ => rfl, fun _ _ => rfl, rfl⟩
  rcases y2 with ⟨p, z1, z2, z3, z4, z5, z6⟩ | ⟨z1, z2, ⟨z3, z4, z5, z6⟩, z7⟩
  · refine ⟨bA (bA (bO (bI Sm 2 (nI (i + 1))) S') 0 (S'.2.1 0)) ρ (S'.2.1 ρ), fun q h1 h2 => (z4 q h1).trans (if_neg h1), fun r hr => ?_, z6, fun x hx => ?_, Or.inl ⟨p, z1, hp _ (Or.inl rfl) z2, z3⟩⟩
    · rw [bA_r, if_neg hr, bA_r]
      by_cases c0 : r = 0
      · subst c0
        rw [if_pos rfl]; exact z5 0 hr
      · rw [if_neg c0]; rfl
    · rw [bA_r, if_pos rfl, y1 x (by omega)]; rfl
  · refine ⟨bA (bA (bO (bI Sm 2 (nI (i + 1))) (bI S' c (nI (cnt + 1)))) 0 (S'.2.1 0)) ρ (S'.2.1 ρ), fun q h1 h2 => (if_neg h2).trans ((z4 q h1).trans (if_neg h1)), fun r hr => ?_, z6, fun x hx => ?_, Or.inr ⟨z1, hp _ (Or.inr rfl) z2, (if_neg (fun e => hc e.symm)).trans z3, if_pos rfl, fun k hk => ?_⟩⟩
    · rw [bA_r, if_neg hr, bA_r]
      by_cases c0 : r = 0
      · subst c0
        rw [if_pos rfl]; exact z5 0 hr
      · rw [if_neg c0]; rfl
    · rw [bA_r, if_pos rfl, y1 x (by omega)]; rfl
    · rw [bA_r, if_pos rfl]
      have := z7 k hk
      rw [Nat.zero_add] at this
      exact this
