def dig (row : Nat) (i : Nat) : Nat := row / 10 ^ i % 10
def br (row p : Nat) : Nat → Nat
  | 0 => 0
  | i + 1 => br row p i + if dig row i < p then 0 else p
def bst (row n : Nat) : Nat → Nat
  | 0 => 1
  | p + 1 => if br row (bst row n p) n < br row (p + 2) n then p + 2 else bst row n p
theorem br_b {row p : Nat} (hp : p ≤ 9) : ∀ (n : Nat), br row p n ≤ 9 * n
  | 0 => by unfold br; omega
  | n + 1 => by
    have := br_b (row := row) hp n
    unfold br
    split <;> omega
theorem bst_b {row n : Nat} : ∀ (p : Nat), 1 ≤ bst row n p ∧ bst row n p ≤ p + 1
  | 0 => by unfold bst; omega
  | p + 1 => by
    have := bst_b (row := row) (n := n) p
    unfold bst
    split <;> omega
theorem ten_e : ∀ n, n < 7 → fX8_ten (nI n) = some (nI (10 ^ n)) := by decide +kernel
theorem tenTo_e : ∀ n, n < 7 → tenTo n = nI (10 ^ n) := by decide +kernel
theorem p10 {n : Nat} (h : n ≤ 6) : 10 ^ n ≤ 10 ^ 6 := Nat.pow_le_pow_right (by omega) h
theorem brg {row p n : Nat} (hr : row < 1000000) (hp : p ≤ 9) (hn : n ≤ 6) : fX1_brings (nI p) (nI n) (nI row) = some (nI (br row p n)) := by
  unfold fX1_brings
  have e0 : nI row = nI (row / 10 ^ 0) := by rw [Nat.pow_zero, Nat.div_one]
  refine (congrArg (fun z => lk3 (sX1_brings_8 (nI p) (nI n) (nI row)) 1000 (0 : Int32) z (0 : Int32)) e0).trans ?_
  refine lk3_run (fun t => nI (br row p t)) (fun t => nI (row / 10 ^ t)) (fun t => nI t) n (fun k t ht => ?_) (fun k => ?_) 1000 (by omega)
  · have hd : row / 10 ^ t ≤ row := Nat.div_le_self _ _
    have hd2 : row / 10 ^ t / 10 = row / 10 ^ (t + 1) := by rw [Nat.div_div_eq_div_mul, Nat.pow_succ]
    unfold sX1_brings_8 gX1_brings_27
    show _ = k (nI (br row p t + if row / 10 ^ t % 10 < p then 0 else p)) (nI (row / 10 ^ (t + 1))) (nI (t + 1))
    rw [← hd2]
    by_cases c : row / 10 ^ t % 10 < p
    · simp (disch := omega) only [↓reduceIte, if_pos, if_neg, bd_some, nmV_e, inB_in, nI_cl, nI_leE, nI_ltE, nI_eqE, nI_add, pk_mul, lit_e, in_0_1, in_0_2, in_0_4, in_0_9, in_1_9, in_1_6, in_1_30, in_0_255, nI_ti, bI_i, bI_r, bI_j, bW_i, bW_j, bA_i, bA_j, bO_i, bO_r, bO_j, bJ_i, bJ_r, bJ_j, nI_div, nI_rem2, Nat.add_zero]
    · simp (disch := omega) only [↓reduceIte, if_pos, if_neg, bd_some, nmV_e, inB_in, nI_cl, nI_leE, nI_ltE, nI_eqE, nI_add, pk_mul, lit_e, in_0_1, in_0_2, in_0_4, in_0_9, in_1_9, in_1_6, in_1_30, in_0_255, nI_ti, bI_i, bI_r, bI_j, bW_i, bW_j, bA_i, bA_j, bO_i, bO_r, bO_j, bJ_i, bJ_r, bJ_j, nI_div, nI_rem2]
  · unfold sX1_brings_8
    simp (disch := omega) only [↓reduceIte, if_pos, if_neg, bd_some, nmV_e, inB_in, nI_cl, nI_leE, nI_ltE, nI_eqE, nI_add, pk_mul, lit_e, in_0_1, in_0_2, in_0_4, in_0_9, in_1_9, in_1_6, in_1_30, in_0_255, nI_ti, bI_i, bI_r, bI_j, bW_i, bW_j, bA_i, bA_j, bO_i, bO_r, bO_j, bJ_i, bJ_r, bJ_j]
theorem bta {row n : Nat} (hr : row < 1000000) (hn : n ≤ 6) : fX1_bestToAsk (nI n) (nI row) = some (nI (bst row n 8)) := by
  unfold fX1_bestToAsk
  refine lk2_run (fun t => nI (bst row n t)) (fun t => nI (t + 2)) 8 (fun k t ht => ?_) (fun k => ?_) 1000 (by omega)
  · have bb := bst_b (row := row) (n := n) t
    have g1 := brg (p := t + 2) hr (by omega) hn
    have g2 := brg (p := bst row n t) hr (by omega) hn
    have q1 := br_b (row := row) (p := t + 2) (by omega) n
    have q2 := br_b (row := row) (p := bst row n t) (by omega) n
    unfold sX1_bestToAsk_4 gX1_bestToAsk_27
    show _ = k (nI (if _ then _ else _)) (nI (t + 1 + 2))
    by_cases c : br row (bst row n t) n < br row (t + 2) n
    · simp (disch := omega) only [↓reduceIte, if_pos, if_neg, bd_some, nmV_e, inB_in, nI_cl, nI_leE, nI_ltE, nI_eqE, nI_add, pk_mul, lit_e, in_0_1, in_0_2, in_0_4, in_0_9, in_1_9, in_1_6, in_1_30, in_0_255, nI_ti, bI_i, bI_r, bI_j, bW_i, bW_j, bA_i, bA_j, bO_i, bO_r, bO_j, bJ_i, bJ_r, bJ_j, g1, g2, show t + 1 + 2 = t + 2 + 1 by omega]
    · simp (disch := omega) only [↓reduceIte, if_pos, if_neg, bd_some, nmV_e, inB_in, nI_cl, nI_leE, nI_ltE, nI_eqE, nI_add, pk_mul, lit_e, in_0_1, in_0_2, in_0_4, in_0_9, in_1_9, in_1_6, in_1_30, in_0_255, nI_ti, bI_i, bI_r, bI_j, bW_i, bW_j, bA_i, bA_j, bO_i, bO_r, bO_j, bJ_i, bJ_r, bJ_j, g1, g2, show t + 1 + 2 = t + 2 + 1 by omega]
  · unfold sX1_bestToAsk_4
    simp (disch := omega) only [↓reduceIte, if_pos, if_neg, bd_some, nmV_e, inB_in, nI_cl, nI_leE, nI_ltE, nI_eqE, nI_add, pk_mul, lit_e, in_0_1, in_0_2, in_0_4, in_0_9, in_1_9, in_1_6, in_1_30, in_0_255, nI_ti, bI_i, bI_r, bI_j, bW_i, bW_j, bA_i, bA_j, bO_i, bO_r, bO_j, bJ_i, bJ_r, bJ_j]
theorem kp69 {row n w x : Nat} {a b : Int32} {k : Int32 → Int32 → Int32 → Bk → Option (Int32 × Bk)} {S : Bk} (hr : row < 1000000) (hn : n ≤ 6) (hx : x ≤ 9) : lk6 (sX8_keeper_69 (nI n) (nI row) (nI w) k) 1000 a b (nI x) (nI 0) (nI 0) S = if nI (br row x n) ≤ b then k a b (nI (x + 1)) S else k (nI x) (nI (br row x n)) (nI (x + 1)) S := by
  refine lk6_run (fun _ => a) (fun _ => b) (fun _ => nI x) (fun t => nI (br row x t)) (fun t => nI t) (fun _ => S) n (fun k2 t ht => ?_) (fun k2 => ?_) 1000 (by omega)
  · have hd : row / 10 ^ t ≤ row := Nat.div_le_self _ _
    have t1 := ten_e t (by omega)
    have t2 := p10 (n := t) (by omega)
    have t3 : 0 < 10 ^ t := Nat.pow_pos (by omega)
    have t4 : nzA (ρ := Int32 × Bk) (nI (10 ^ t)) = id := by
      funext z
      unfold nzA
      rw [if_neg (nI_ne0 t3 (by omega))]; rfl
    have t5 : nI row / nI (10 ^ t) = nI (row / 10 ^ t) := nI_div (by omega) t3 (by omega)
    unfold sX8_keeper_69 gX8_keeper_98
    show _ = k2 _ _ _ (nI (br row x t + if row / 10 ^ t % 10 < x then 0 else x)) (nI (t + 1)) _
    by_cases c : row / 10 ^ t % 10 < x
    · simp (disch := omega) only [↓reduceIte, if_pos, if_neg, bd_some, nmV_e, inB_in, nI_cl, nI_leE, nI_ltE, nI_eqE, nI_add, pk_mul, lit_e, in_0_1, in_0_2, in_0_4, in_0_9, in_1_9, in_1_6, in_1_30, in_0_255, nI_ti, bI_i, bI_r, bI_j, bW_i, bW_j, bA_i, bA_j, bO_i, bO_r, bO_j, bJ_i, bJ_r, bJ_j, t1, t4, id, t5, nI_div, nI_rem2, Nat.add_zero]
    · simp (disch := omega) only [↓reduceIte, if_pos, if_neg, bd_some, nmV_e, inB_in, nI_cl, nI_leE, nI_ltE, nI_eqE, nI_add, pk_mul, lit_e, in_0_1, in_0_2, in_0_4, in_0_9, in_1_9, in_1_6, in_1_30, in_0_255, nI_ti, bI_i, bI_r, bI_j, bW_i, bW_j, bA_i, bA_j, bO_i, bO_r, bO_j, bJ_i, bJ_r, bJ_j, t1, t4, id, t5, nI_div, nI_rem2]
  · unfold sX8_keeper_69 gX8_keeper_121 gX8_keeper_137
    by_cases c : nI (br row x n) ≤ b
    · simp (disch := omega) only [↓reduceIte, if_pos, if_neg, bd_some, nmV_e, inB_in, nI_cl, nI_leE, nI_ltE, nI_eqE, nI_add, pk_mul, lit_e, in_0_1, in_0_2, in_0_4, in_0_9, in_1_9, in_1_6, in_1_30, in_0_255, nI_ti, bI_i, bI_r, bI_j, bW_i, bW_j, bA_i, bA_j, bO_i, bO_r, bO_j, bJ_i, bJ_r, bJ_j, c, ite_true]
    · simp (disch := omega) only [↓reduceIte, if_pos, if_neg, bd_some, nmV_e, inB_in, nI_cl, nI_leE, nI_ltE, nI_eqE, nI_add, pk_mul, lit_e, in_0_1, in_0_2, in_0_4, in_0_9, in_1_9, in_1_6, in_1_30, in_0_255, nI_ti, bI_i, bI_r, bI_j, bW_i, bW_j, bA_i, bA_j, bO_i, bO_r, bO_j, bJ_i, bJ_r, bJ_j, c, ite_false]
theorem st_keeper {Se Sx Sw Ss Sy Sz Sc : Bk} {ro : Nat} {Sg : Bk} {Sp : Nat → Bk} {Sm : Bk} (hR : Rel Se Sx Sw Ss Sy Sz Sc ro Sg Sp Sm) (x1 : Int32) (x2 : Int32) (x3 : Int32) : ∃ (u7 : Int32) (u8 : Int32 × Bk), fX7_keeper x1 x2 x3 = some u7 ∧ fX8_keeper Sm x1 x2 x3 = some u8 ∧ u7 = u8.1 ∧ Rel Se Sx Sw Ss Sy Sz Sc ro Sg Sp (bO Sm u8.2) := by
  have hR0 := hR
  suffices hfin : ∃ r : Int32, fX7_keeper x1 x2 x3 = some r ∧ fX8_keeper Sm x1 x2 x3 = some (r, bI Sm 0 (nI 0)) from by
    obtain ⟨r, c7, c8⟩ := hfin
    exact ⟨r, (r, bI Sm 0 (nI 0)), c7, c8, rfl, rel_sm hR0 rfl rfl rfl rfl rfl rfl rfl rfl rfl rfl rfl rfl rfl rfl rfl rfl rfl⟩
  rcases (show x1.toInt < 1 ∨ 6 < x1.toInt ∨ (1 ≤ x1.toInt ∧ x1.toInt ≤ 6) by omega) with c | c | c
  · refine ⟨-nI 2, ?_, ?_⟩
    · unfold fX7_keeper
      simp (disch := omega) only [↓reduceIte, if_pos, if_neg, bd_some, nmV_e, inB_in, nI_cl, nI_leE, nI_ltE, nI_eqE, nI_add, pk_mul, lit_e, in_0_1, in_0_2, in_0_4, in_0_9, in_1_9, in_1_6, in_1_30, in_0_255, nI_ti, bI_i, bI_r, bI_j, bW_i, bW_j, bA_i, bA_j, bO_i, bO_r, bO_j, bJ_i, bJ_r, bJ_j, i32_lt]
    · unfold fX8_keeper
      simp (disch := omega) only [↓reduceIte, if_pos, if_neg, bd_some, nmV_e, inB_in, nI_cl, nI_leE, nI_ltE, nI_eqE, nI_add, pk_mul, lit_e, in_0_1, in_0_2, in_0_4, in_0_9, in_1_9, in_1_6, in_1_30, in_0_255, nI_ti, bI_i, bI_r, bI_j, bW_i, bW_j, bA_i, bA_j, bO_i, bO_r, bO_j, bJ_i, bJ_r, bJ_j]
  · refine ⟨-nI 2, ?_, ?_⟩
    · unfold fX7_keeper
      simp (disch := omega) only [↓reduceIte, if_pos, if_neg, bd_some, nmV_e, inB_in, nI_cl, nI_leE, nI_ltE, nI_eqE, nI_add, pk_mul, lit_e, in_0_1, in_0_2, in_0_4, in_0_9, in_1_9, in_1_6, in_1_30, in_0_255, nI_ti, bI_i, bI_r, bI_j, bW_i, bW_j, bA_i, bA_j, bO_i, bO_r, bO_j, bJ_i, bJ_r, bJ_j, i32_lt]
    · unfold fX8_keeper
      simp (disch := omega) only [↓reduceIte, if_pos, if_neg, bd_some, nmV_e, inB_in, nI_cl, nI_leE, nI_ltE, nI_eqE, nI_add, pk_mul, lit_e, in_0_1, in_0_2, in_0_4, in_0_9, in_1_9, in_1_6, in_1_30, in_0_255, nI_ti, bI_i, bI_r, bI_j, bW_i, bW_j, bA_i, bA_j, bO_i, bO_r, bO_j, bJ_i, bJ_r, bJ_j]
  obtain ⟨n, hn, rfl⟩ : ∃ n : Nat, n ≤ 6 ∧ x1 = nI n := by
    rcases ix x1 7 (by omega) with ⟨d, d'⟩ | ⟨d, d'⟩ | ⟨n, hn, rfl⟩
    · omega
    · omega
    · exact ⟨n, by omega, rfl⟩
  rw [nI_ti (by omega)] at c
  have t1 := ten_e n (by omega)
  have t2 := tenTo_e n (by omega)
  have t3 := p10 (n := n) (by omega)
  have t4 : 0 < 10 ^ n := Nat.pow_pos (by omega)
  have hin := in_n x2 (n := 10 ^ n) (by omega)
  have hin' : fX8_in x2.toInt64 (0 : Int64) ((nI (10 ^ n) - nI 1).toInt64) = some (if 0 ≤ x2.toInt ∧ x2.toInt < ((10 ^ n : Nat) : Int) then 1 else 0) := hin
  rcases ix x2 (10 ^ n) (by omega) with ⟨d, d'⟩ | ⟨d, d'⟩ | ⟨row, hrow, rfl⟩
  · refine ⟨-nI 2, ?_, ?_⟩
    · unfold fX7_keeper
      simp (disch := omega) only [↓reduceIte, if_pos, if_neg, bd_some, nmV_e, inB_in, nI_cl, nI_leE, nI_ltE, nI_eqE, nI_add, pk_mul, lit_e, in_0_1, in_0_2, in_0_4, in_0_9, in_1_9, in_1_6, in_1_30, in_0_255, nI_ti, bI_i, bI_r, bI_j, bW_i, bW_j, bA_i, bA_j, bO_i, bO_r, bO_j, bJ_i, bJ_r, bJ_j, i32_lt]
    · unfold fX8_keeper
      simp (disch := omega) only [↓reduceIte, if_pos, if_neg, bd_some, nmV_e, inB_in, nI_cl, nI_leE, nI_ltE, nI_eqE, nI_add, pk_mul, lit_e, in_0_1, in_0_2, in_0_4, in_0_9, in_1_9, in_1_6, in_1_30, in_0_255, nI_ti, bI_i, bI_r, bI_j, bW_i, bW_j, bA_i, bA_j, bO_i, bO_r, bO_j, bJ_i, bJ_r, bJ_j, t1, hin']
  · have d2 : ¬ x2.toInt < 0 := by omega
    refine ⟨-nI 2, ?_, ?_⟩
    · unfold fX7_keeper
      simp (disch := omega) only [↓reduceIte, if_pos, if_neg, bd_some, nmV_e, inB_in, nI_cl, nI_leE, nI_ltE, nI_eqE, nI_add, pk_mul, lit_e, in_0_1, in_0_2, in_0_4, in_0_9, in_1_9, in_1_6, in_1_30, in_0_255, nI_ti, bI_i, bI_r, bI_j, bW_i, bW_j, bA_i, bA_j, bO_i, bO_r, bO_j, bJ_i, bJ_r, bJ_j, i32_lt, t2, d]
    · unfold fX8_keeper
      simp (disch := omega) only [↓reduceIte, if_pos, if_neg, bd_some, nmV_e, inB_in, nI_cl, nI_leE, nI_ltE, nI_eqE, nI_add, pk_mul, lit_e, in_0_1, in_0_2, in_0_4, in_0_9, in_1_9, in_1_6, in_1_30, in_0_255, nI_ti, bI_i, bI_r, bI_j, bW_i, bW_j, bA_i, bA_j, bO_i, bO_r, bO_j, bJ_i, bJ_r, bJ_j, t1, hin']
  rw [nI_ti (by omega)] at hin'
  rcases (show x3.toInt < 0 ∨ 1 < x3.toInt ∨ (0 ≤ x3.toInt ∧ x3.toInt ≤ 1) by omega) with e | e | e
  · refine ⟨-nI 2, ?_, ?_⟩
    · unfold fX7_keeper
      simp (disch := omega) only [↓reduceIte, if_pos, if_neg, bd_some, nmV_e, inB_in, nI_cl, nI_leE, nI_ltE, nI_eqE, nI_add, pk_mul, lit_e, in_0_1, in_0_2, in_0_4, in_0_9, in_1_9, in_1_6, in_1_30, in_0_255, nI_ti, bI_i, bI_r, bI_j, bW_i, bW_j, bA_i, bA_j, bO_i, bO_r, bO_j, bJ_i, bJ_r, bJ_j, i32_lt, t2]
    · unfold fX8_keeper
      simp (disch := omega) only [↓reduceIte, if_pos, if_neg, bd_some, nmV_e, inB_in, nI_cl, nI_leE, nI_ltE, nI_eqE, nI_add, pk_mul, lit_e, in_0_1, in_0_2, in_0_4, in_0_9, in_1_9, in_1_6, in_1_30, in_0_255, nI_ti, bI_i, bI_r, bI_j, bW_i, bW_j, bA_i, bA_j, bO_i, bO_r, bO_j, bJ_i, bJ_r, bJ_j, t1, hin']
  · refine ⟨-nI 2, ?_, ?_⟩
    · unfold fX7_keeper
      simp (disch := omega) only [↓reduceIte, if_pos, if_neg, bd_some, nmV_e, inB_in, nI_cl, nI_leE, nI_ltE, nI_eqE, nI_add, pk_mul, lit_e, in_0_1, in_0_2, in_0_4, in_0_9, in_1_9, in_1_6, in_1_30, in_0_255, nI_ti, bI_i, bI_r, bI_j, bW_i, bW_j, bA_i, bA_j, bO_i, bO_r, bO_j, bJ_i, bJ_r, bJ_j, i32_lt, i32_le, t2]
    · unfold fX8_keeper
      simp (disch := omega) only [↓reduceIte, if_pos, if_neg, bd_some, nmV_e, inB_in, nI_cl, nI_leE, nI_ltE, nI_eqE, nI_add, pk_mul, lit_e, in_0_1, in_0_2, in_0_4, in_0_9, in_1_9, in_1_6, in_1_30, in_0_255, nI_ti, bI_i, bI_r, bI_j, bW_i, bW_j, bA_i, bA_j, bO_i, bO_r, bO_j, bJ_i, bJ_r, bJ_j, t1, hin']
  obtain ⟨w, hw, rfl⟩ : ∃ n : Nat, n ≤ 1 ∧ x3 = nI n := by
    rcases ix x3 2 (by omega) with ⟨d, d'⟩ | ⟨d, d'⟩ | ⟨n, hn, rfl⟩
    · omega
    · omega
    · exact ⟨n, by omega, rfl⟩
  have hr : row < 1000000 := by omega
  have bb := bst_b (row := row) (n := n) 8
  have g1 := bta hr hn
  have g2 := brg (p := bst row n 8) hr (by omega) hn
  have r8 : lk4 (sX8_keeper_56 (nI n) (nI row) (nI w)) 1000 (nI 1) (-nI 9) (nI 1) (bI Sm 0 (nI 0)) = some (if w = 0 then nI (bst row n 8) else nI (br row (bst row n 8) n), bI Sm 0 (nI 0)) := by
    refine lk4_run (fun t => nI (bst row n (t - 1))) (fun t => if t = 0 then -nI 9 else nI (br row (bst row n (t - 1)) n)) (fun t => nI (t + 1)) (fun _ => bI Sm 0 (nI 0)) 9 (fun k t ht => ?_) (fun k => ?_) 1000 (by omega)
    · unfold sX8_keeper_56
      rw [if_neg (by rw [i32_lt, nI_ti (by omega)]; show ¬ (9 : Int) < _; omega)]
      refine (kp69 hr hn (by omega)).trans ?_
      cases t with
      | zero =>
        rw [if_pos rfl, if_neg (by rw [i32_le, nI_ti (by have := br_b (row := row) (p := 0 + 1) (by omega) n; omega)]; show ¬ _ ≤ (-9 : Int); omega)]
        rfl
      | succ t =>
        have b1 := bst_b (row := row) (n := n) t
        have q1 := br_b (row := row) (p := t + 1 + 1) (by omega) n
        have q2 := br_b (row := row) (p := bst row n t) (by omega) n
        rw [if_neg (show ¬ t + 1 = 0 by omega), if_neg (show ¬ t + 1 + 1 = 0 by omega), show t + 1 - 1 = t by omega, show t + 1 + 1 - 1 = t + 1 by omega]
        show _ = k (nI (if _ then _ else _)) (nI (br row (if br row (bst row n t) n < br row (t + 2) n then _ else _) n)) _ _
        by_cases c : br row (bst row n t) n < br row (t + 2) n
        · rw [if_neg (by rw [nI_leE (by omega) (by omega)]; show ¬ br row (t + 2) n ≤ _; omega), if_pos c]
        · rw [if_pos (by rw [nI_leE (by omega) (by omega)]; show br row (t + 2) n ≤ _; omega), if_neg c]
    · unfold sX8_keeper_56
      by_cases c : w = 0
      · subst c
        simp (disch := omega) only [↓reduceIte, if_pos, if_neg, bd_some, nmV_e, inB_in, nI_cl, nI_leE, nI_ltE, nI_eqE, nI_add, pk_mul, lit_e, in_0_1, in_0_2, in_0_4, in_0_9, in_1_9, in_1_6, in_1_30, in_0_255, nI_ti, bI_i, bI_r, bI_j, bW_i, bW_j, bA_i, bA_j, bO_i, bO_r, bO_j, bJ_i, bJ_r, bJ_j]
      · simp (disch := omega) only [↓reduceIte, if_pos, if_neg, bd_some, nmV_e, inB_in, nI_cl, nI_leE, nI_ltE, nI_eqE, nI_add, pk_mul, lit_e, in_0_1, in_0_2, in_0_4, in_0_9, in_1_9, in_1_6, in_1_30, in_0_255, nI_ti, bI_i, bI_r, bI_j, bW_i, bW_j, bA_i, bA_j, bO_i, bO_r, bO_j, bJ_i, bJ_r, bJ_j]
  refine ⟨if w = 0 then nI (bst row n 8) else nI (br row (bst row n 8) n), ?_, ?_⟩
  · unfold fX7_keeper
    by_cases c : w = 0
    · subst c
      simp (disch := omega) only [↓reduceIte, if_pos, if_neg, bd_some, nmV_e, inB_in, nI_cl, nI_leE, nI_ltE, nI_eqE, nI_add, pk_mul, lit_e, in_0_1, in_0_2, in_0_4, in_0_9, in_1_9, in_1_6, in_1_30, in_0_255, nI_ti, bI_i, bI_r, bI_j, bW_i, bW_j, bA_i, bA_j, bO_i, bO_r, bO_j, bJ_i, bJ_r, bJ_j, t2, g1]
    · simp (disch := omega) only [↓reduceIte, if_pos, if_neg, bd_some, nmV_e, inB_in, nI_cl, nI_leE, nI_ltE, nI_eqE, nI_add, pk_mul, lit_e, in_0_1, in_0_2, in_0_4, in_0_9, in_1_9, in_1_6, in_1_30, in_0_255, nI_ti, bI_i, bI_r, bI_j, bW_i, bW_j, bA_i, bA_j, bO_i, bO_r, bO_j, bJ_i, bJ_r, bJ_j, t2, g1, g2]
  · unfold fX8_keeper
    simp (disch := omega) only [↓reduceIte, if_pos, if_neg, bd_some, nmV_e, inB_in, nI_cl, nI_leE, nI_ltE, nI_eqE, nI_add, pk_mul, lit_e, in_0_1, in_0_2, in_0_4, in_0_9, in_1_9, in_1_6, in_1_30, in_0_255, nI_ti, bI_i, bI_r, bI_j, bW_i, bW_j, bA_i, bA_j, bO_i, bO_r, bO_j, bJ_i, bJ_r, bJ_j, t1, hin']
    exact r8
