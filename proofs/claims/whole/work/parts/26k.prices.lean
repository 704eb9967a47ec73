def cntP (P : Nat → Prop) [DecidablePred P] : Nat → Nat
  | 0 => 0
  | t + 1 => cntP P t + if P t then 1 else 0
def fstP (P : Nat → Prop) [DecidablePred P] : Nat → Int32
  | 0 => -nI 9
  | t + 1 => if cntP P t = 0 ∧ P t then nI t else fstP P t
theorem cnt_0 {P : Nat → Prop} [DecidablePred P] : ∀ {n : Nat}, (∀ t, t < n → ¬ P t) → cntP P n = 0 ∧ fstP P n = -nI 9
  | 0, _ => ⟨rfl, rfl⟩
  | n + 1, h => by
    have i := cnt_0 (P := P) (n := n) (fun t ht => h t (by omega))
    unfold cntP fstP
    rw [if_neg (h n (by omega)), if_neg (fun c => h n (by omega) c.2)]
    exact ⟨by omega, i.2⟩
theorem cnt_1 {P : Nat → Prop} [DecidablePred P] {L : Nat} (hL : P L) (hm : ∀ t, t < L → ¬ P t) : ∀ {n : Nat}, L < n → 0 < cntP P n ∧ fstP P n = nI L
  | 0, h => absurd h (by omega)
  | n + 1, h => by
    unfold cntP fstP
    by_cases c : n = L
    · subst c
      have i := cnt_0 (P := P) (n := n) hm
      rw [if_pos hL, if_pos ⟨i.1, hL⟩]
      exact ⟨by omega, rfl⟩
    · have i := cnt_1 hL hm (n := n) (by omega)
      rw [if_neg (show ¬ (cntP P n = 0 ∧ P n) by omega)]
      exact ⟨by omega, i.2⟩
theorem cnt_le {P : Nat → Prop} [DecidablePred P] : ∀ (n : Nat), cntP P n ≤ n
  | 0 => Nat.le_refl 0
  | n + 1 => by
    have := cnt_le (P := P) n
    unfold cntP
    split <;> omega
theorem lk1_least {P : Nat → Prop} [DecidablePred P] {f : (Int32 → Option Int32) → Int32 → Option Int32} {N : Nat} (hs : ∀ k t, t < N → ¬ P t → f k (nI t) = k (nI (t + 1))) (hp : ∀ k t, t < N → P t → f k (nI t) = some (nI t)) (hx : ∀ k, f k (nI N) = some (-nI 9)) (F : Nat) (hF : N < F) : lk1 f F (nI 0) = some (fstP P N) := by
  by_cases c : ∃ t, t < N ∧ P t
  · obtain ⟨L, ⟨h1, h2⟩, h3⟩ := pk_least (fun t => t < N ∧ P t) c
    have hm : ∀ t, t < L → ¬ P t := fun t ht hP => h3 t ht ⟨by omega, hP⟩
    rw [(cnt_1 h2 hm h1).2]
    exact lk1_run (fun t => nI t) L (fun k t ht => hs k t (by omega) (hm t ht)) (fun k => hp k L h1 h2) F (by omega)
  · have hm : ∀ t, t < N → ¬ P t := fun t ht hP => c ⟨t, ht, hP⟩
    rw [(cnt_0 hm).2]
    exact lk1_run (fun t => nI t) N (fun k t ht => hs k t ht (hm t ht)) hx F hF
theorem nI_div {a d : Nat} (ha : a < 2147483648) (h0 : 0 < d) (hd : d < 2147483648) : nI a / nI d = nI (a / d) := pk_div ha h0 hd
theorem nI_rem {a d : Nat} (ha : a < 2147483648) (h0 : 0 < d) (hd : d < 2147483648) : nI a - nI (a / d) * nI d = nI (a % d) := by
  rw [← pk_div ha h0 hd]; exact pk_rem ha h0 hd
theorem nI_rem2 {a d : Nat} (ha : a < 2147483648) (h0 : 0 < d) (hd : d < 2147483648) : nI a - nI (a / d * d) = nI (a % d) := by
  rw [← nI_rem ha h0 hd, pk_mul]
abbrev suit (p a b x : Nat) : Prop := (p * x + 9) / 10 ≤ a ∧ p - (p * x + 9) / 10 ≤ b
theorem su {p a b x : Nat} (hp : p ≤ 9) (ha : a ≤ 9) (hb : b ≤ 9) (hx : x ≤ 10) : fX1_suits (nI x) (nI p) (nI a) (nI b) = some (if suit p a b x then nI 1 else nI 0) := by
  have hpx : p * x ≤ 9 * 10 := Nat.mul_le_mul hp hx
  have hpx2 : p * x ≤ p * 10 := Nat.mul_le_mul (Nat.le_refl p) hx
  unfold fX1_suits suit
  by_cases c1 : (p * x + 9) / 10 ≤ a
  · by_cases c2 : p - (p * x + 9) / 10 ≤ b
    · simp (disch := omega) only [↓reduceIte, if_pos, if_neg, bd_some, nmV_e, inB_in, nI_cl, nI_leE, nI_ltE, nI_eqE, nI_add, pk_mul, lit_e, in_0_1, in_0_2, in_0_4, in_0_9, in_1_9, in_1_6, in_1_30, in_0_255, nI_ti, bI_i, bI_r, bI_j, bW_i, bW_j, bA_i, bA_j, bO_i, bO_r, bO_j, bJ_i, bJ_r, bJ_j, nI_div, pk_sub]
    · simp (disch := omega) only [↓reduceIte, if_pos, if_neg, bd_some, nmV_e, inB_in, nI_cl, nI_leE, nI_ltE, nI_eqE, nI_add, pk_mul, lit_e, in_0_1, in_0_2, in_0_4, in_0_9, in_1_9, in_1_6, in_1_30, in_0_255, nI_ti, bI_i, bI_r, bI_j, bW_i, bW_j, bA_i, bA_j, bO_i, bO_r, bO_j, bJ_i, bJ_r, bJ_j, nI_div, pk_sub]
  · simp (disch := omega) only [↓reduceIte, if_pos, if_neg, bd_some, nmV_e, inB_in, nI_cl, nI_leE, nI_ltE, nI_eqE, nI_add, pk_mul, lit_e, in_0_1, in_0_2, in_0_4, in_0_9, in_1_9, in_1_6, in_1_30, in_0_255, nI_ti, bI_i, bI_r, bI_j, bW_i, bW_j, bA_i, bA_j, bO_i, bO_r, bO_j, bJ_i, bJ_r, bJ_j, nI_div, pk_sub]
theorem st_partners {Se Sx Sw Ss Sy Sz Sc : Bk} {ro : Nat} {Sg : Bk} {Sp : Nat → Bk} {Sm : Bk} (hR : Rel Se Sx Sw Ss Sy Sz Sc ro Sg Sp Sm) (x1 : Int32) (x2 : Int32) (x3 : Int32) (x4 : Int32) : ∃ (u7 : Int32) (u8 : Int32 × Bk), fX7_partners x1 x2 x3 x4 = some u7 ∧ fX8_partners Sm x1 x2 x3 x4 = some u8 ∧ u7 = u8.1 ∧ Rel Se Sx Sw Ss Sy Sz Sc ro Sg Sp (bO Sm u8.2) := by
  have hR0 := hR
  suffices hfin : ∃ r : Int32, fX7_partners x1 x2 x3 x4 = some r ∧ fX8_partners Sm x1 x2 x3 x4 = some (r, bI Sm 0 (nI 0)) from by
    obtain ⟨r, c7, c8⟩ := hfin
    exact ⟨r, (r, bI Sm 0 (nI 0)), c7, c8, rfl, rel_sm hR0 rfl rfl rfl rfl rfl rfl rfl rfl rfl rfl rfl rfl rfl rfl rfl rfl rfl⟩
  have bad : (x1.toInt < 1 ∨ 9 < x1.toInt ∨ x2.toInt < 0 ∨ 9 < x2.toInt ∨ x3.toInt < 0 ∨ 9 < x3.toInt ∨ x4.toInt < 0 ∨ 1 < x4.toInt) → ∃ r : Int32, fX7_partners x1 x2 x3 x4 = some r ∧ fX8_partners Sm x1 x2 x3 x4 = some (r, bI Sm 0 (nI 0)) := by
    intro hb
    refine ⟨-nI 2, ?_, ?_⟩
    · unfold fX7_partners fX7_isFigure
      by_cases c1 : x1.toInt < 1 ∨ 9 < x1.toInt
      · rcases c1 with c | c <;> simp (disch := omega) only [↓reduceIte, if_pos, if_neg, bd_some, nmV_e, inB_in, nI_cl, nI_leE, nI_ltE, nI_eqE, nI_add, pk_mul, lit_e, in_0_1, in_0_2, in_0_4, in_0_9, in_1_9, in_1_6, in_1_30, in_0_255, nI_ti, bI_i, bI_r, bI_j, bW_i, bW_j, bA_i, bA_j, bO_i, bO_r, bO_j, bJ_i, bJ_r, bJ_j, i32_lt]
      · by_cases c2 : x2.toInt < 0 ∨ 9 < x2.toInt
        · rcases c2 with c | c <;> simp (disch := omega) only [↓reduceIte, if_pos, if_neg, bd_some, nmV_e, inB_in, nI_cl, nI_leE, nI_ltE, nI_eqE, nI_add, pk_mul, lit_e, in_0_1, in_0_2, in_0_4, in_0_9, in_1_9, in_1_6, in_1_30, in_0_255, nI_ti, bI_i, bI_r, bI_j, bW_i, bW_j, bA_i, bA_j, bO_i, bO_r, bO_j, bJ_i, bJ_r, bJ_j, i32_lt]
        · by_cases c3 : x3.toInt < 0 ∨ 9 < x3.toInt
          · rcases c3 with c | c <;> simp (disch := omega) only [↓reduceIte, if_pos, if_neg, bd_some, nmV_e, inB_in, nI_cl, nI_leE, nI_ltE, nI_eqE, nI_add, pk_mul, lit_e, in_0_1, in_0_2, in_0_4, in_0_9, in_1_9, in_1_6, in_1_30, in_0_255, nI_ti, bI_i, bI_r, bI_j, bW_i, bW_j, bA_i, bA_j, bO_i, bO_r, bO_j, bJ_i, bJ_r, bJ_j, i32_lt]
          · rcases (show x4.toInt < 0 ∨ 1 < x4.toInt by omega) with c | c <;> simp (disch := omega) only [↓reduceIte, if_pos, if_neg, bd_some, nmV_e, inB_in, nI_cl, nI_leE, nI_ltE, nI_eqE, nI_add, pk_mul, lit_e, in_0_1, in_0_2, in_0_4, in_0_9, in_1_9, in_1_6, in_1_30, in_0_255, nI_ti, bI_i, bI_r, bI_j, bW_i, bW_j, bA_i, bA_j, bO_i, bO_r, bO_j, bJ_i, bJ_r, bJ_j, i32_lt, i32_le]
    · unfold fX8_partners
      by_cases c1 : 1 ≤ x1.toInt ∧ x1.toInt ≤ 9
      · by_cases c2 : 0 ≤ x2.toInt ∧ x2.toInt ≤ 9
        · by_cases c3 : 0 ≤ x3.toInt ∧ x3.toInt ≤ 9
          · simp (disch := omega) only [↓reduceIte, if_pos, if_neg, bd_some, nmV_e, inB_in, nI_cl, nI_leE, nI_ltE, nI_eqE, nI_add, pk_mul, lit_e, in_0_1, in_0_2, in_0_4, in_0_9, in_1_9, in_1_6, in_1_30, in_0_255, nI_ti, bI_i, bI_r, bI_j, bW_i, bW_j, bA_i, bA_j, bO_i, bO_r, bO_j, bJ_i, bJ_r, bJ_j]
          · simp (disch := omega) only [↓reduceIte, if_pos, if_neg, bd_some, nmV_e, inB_in, nI_cl, nI_leE, nI_ltE, nI_eqE, nI_add, pk_mul, lit_e, in_0_1, in_0_2, in_0_4, in_0_9, in_1_9, in_1_6, in_1_30, in_0_255, nI_ti, bI_i, bI_r, bI_j, bW_i, bW_j, bA_i, bA_j, bO_i, bO_r, bO_j, bJ_i, bJ_r, bJ_j]
        · simp (disch := omega) only [↓reduceIte, if_pos, if_neg, bd_some, nmV_e, inB_in, nI_cl, nI_leE, nI_ltE, nI_eqE, nI_add, pk_mul, lit_e, in_0_1, in_0_2, in_0_4, in_0_9, in_1_9, in_1_6, in_1_30, in_0_255, nI_ti, bI_i, bI_r, bI_j, bW_i, bW_j, bA_i, bA_j, bO_i, bO_r, bO_j, bJ_i, bJ_r, bJ_j]
      · simp (disch := omega) only [↓reduceIte, if_pos, if_neg, bd_some, nmV_e, inB_in, nI_cl, nI_leE, nI_ltE, nI_eqE, nI_add, pk_mul, lit_e, in_0_1, in_0_2, in_0_4, in_0_9, in_1_9, in_1_6, in_1_30, in_0_255, nI_ti, bI_i, bI_r, bI_j, bW_i, bW_j, bA_i, bA_j, bO_i, bO_r, bO_j, bJ_i, bJ_r, bJ_j]
  rcases ix x1 10 (by omega) with ⟨c, c'⟩ | ⟨c, c'⟩ | ⟨p, hp, rfl⟩
  · exact bad (by omega)
  · exact bad (by omega)
  rcases ix x2 10 (by omega) with ⟨c, c'⟩ | ⟨c, c'⟩ | ⟨a, ha, rfl⟩
  · exact bad (by omega)
  · exact bad (by omega)
  rcases ix x3 10 (by omega) with ⟨c, c'⟩ | ⟨c, c'⟩ | ⟨b, hb, rfl⟩
  · exact bad (by omega)
  · exact bad (by omega)
  rcases ix x4 2 (by omega) with ⟨c, c'⟩ | ⟨c, c'⟩ | ⟨w, hw, rfl⟩
  · exact bad (by omega)
  · exact bad (by omega)
  by_cases p0 : p = 0
  · subst p0
    exact bad (Or.inl (by rw [nI_ti (by omega)]; omega))
  have l7 : fX1_leastShare (nI p) (nI a) (nI b) = some (fstP (suit p a b) 11) := by
    unfold fX1_leastShare
    refine lk1_least (fun k t ht hP => ?_) (fun k t ht hP => ?_) (fun k => ?_) 1000 (by omega)
    · have s := su (p := p) (a := a) (b := b) (x := t) (by omega) (by omega) (by omega) (by omega)
      unfold sX1_leastShare_2
      simp (disch := omega) only [↓reduceIte, if_pos, if_neg, bd_some, nmV_e, inB_in, nI_cl, nI_leE, nI_ltE, nI_eqE, nI_add, pk_mul, lit_e, in_0_1, in_0_2, in_0_4, in_0_9, in_1_9, in_1_6, in_1_30, in_0_255, nI_ti, bI_i, bI_r, bI_j, bW_i, bW_j, bA_i, bA_j, bO_i, bO_r, bO_j, bJ_i, bJ_r, bJ_j, s, hP]
    · have s := su (p := p) (a := a) (b := b) (x := t) (by omega) (by omega) (by omega) (by omega)
      unfold sX1_leastShare_2
      simp (disch := omega) only [↓reduceIte, if_pos, if_neg, bd_some, nmV_e, inB_in, nI_cl, nI_leE, nI_ltE, nI_eqE, nI_add, pk_mul, lit_e, in_0_1, in_0_2, in_0_4, in_0_9, in_1_9, in_1_6, in_1_30, in_0_255, nI_ti, bI_i, bI_r, bI_j, bW_i, bW_j, bA_i, bA_j, bO_i, bO_r, bO_j, bJ_i, bJ_r, bJ_j, s, hP]
    · unfold sX1_leastShare_2
      simp (disch := omega) only [↓reduceIte, if_pos, if_neg, bd_some, nmV_e, inB_in, nI_cl, nI_leE, nI_ltE, nI_eqE, nI_add, pk_mul, lit_e, in_0_1, in_0_2, in_0_4, in_0_9, in_1_9, in_1_6, in_1_30, in_0_255, nI_ti, bI_i, bI_r, bI_j, bW_i, bW_j, bA_i, bA_j, bO_i, bO_r, bO_j, bJ_i, bJ_r, bJ_j]
  have s7 : fX1_sharesThatSuit (nI p) (nI a) (nI b) = some (nI (cntP (suit p a b) 11)) := by
    unfold fX1_sharesThatSuit
    refine lk2_run (fun t => nI (cntP (suit p a b) t)) (fun t => nI t) 11 (fun k t ht => ?_) (fun k => ?_) 1000 (by omega)
    · have s := su (p := p) (a := a) (b := b) (x := t) (by omega) (by omega) (by omega) (by omega)
      unfold sX1_sharesThatSuit_5 gX1_sharesThatSuit_26
      show _ = k (nI (cntP (suit p a b) t + if _ then 1 else 0)) (nI (t + 1))
      by_cases c : suit p a b t
      · simp (disch := omega) only [↓reduceIte, if_pos, if_neg, bd_some, nmV_e, inB_in, nI_cl, nI_leE, nI_ltE, nI_eqE, nI_add, pk_mul, lit_e, in_0_1, in_0_2, in_0_4, in_0_9, in_1_9, in_1_6, in_1_30, in_0_255, nI_ti, bI_i, bI_r, bI_j, bW_i, bW_j, bA_i, bA_j, bO_i, bO_r, bO_j, bJ_i, bJ_r, bJ_j, s, c]
      · simp (disch := omega) only [↓reduceIte, if_pos, if_neg, bd_some, nmV_e, inB_in, nI_cl, nI_leE, nI_ltE, nI_eqE, nI_add, pk_mul, lit_e, in_0_1, in_0_2, in_0_4, in_0_9, in_1_9, in_1_6, in_1_30, in_0_255, nI_ti, bI_i, bI_r, bI_j, bW_i, bW_j, bA_i, bA_j, bO_i, bO_r, bO_j, bJ_i, bJ_r, bJ_j, s, c, Nat.add_zero]
    · unfold sX1_sharesThatSuit_5
      simp (disch := omega) only [↓reduceIte, if_pos, if_neg, bd_some, nmV_e, inB_in, nI_cl, nI_leE, nI_ltE, nI_eqE, nI_add, pk_mul, lit_e, in_0_1, in_0_2, in_0_4, in_0_9, in_1_9, in_1_6, in_1_30, in_0_255, nI_ti, bI_i, bI_r, bI_j, bW_i, bW_j, bA_i, bA_j, bO_i, bO_r, bO_j, bJ_i, bJ_r, bJ_j]
  have r8 : lk4 (sX8_partners_65 (nI p) (nI a) (nI b) (nI w)) 1000 (nI 0) (-nI 9) (nI 0) (bI Sm 0 (nI 0)) = some (if w = 0 then nI (cntP (suit p a b) 11) else fstP (suit p a b) 11, bI Sm 0 (nI 0)) := by
    refine lk4_run (fun t => nI (cntP (suit p a b) t)) (fun t => fstP (suit p a b) t) (fun t => nI t) (fun _ => bI Sm 0 (nI 0)) 11 (fun k t ht => ?_) (fun k => ?_) 1000 (by omega)
    · have hpx : p * t ≤ 9 * 10 := Nat.mul_le_mul (by omega) (by omega)
      have hpx2 : p * t ≤ p * 10 := Nat.mul_le_mul (Nat.le_refl p) (by omega)
      have cl := cnt_le (P := suit p a b) t
      unfold sX8_partners_65 gX8_partners_110 gX8_partners_115
      show _ = k (nI (cntP (suit p a b) t + if suit p a b t then 1 else 0)) (if cntP (suit p a b) t = 0 ∧ suit p a b t then nI t else fstP (suit p a b) t) (nI (t + 1)) _
      by_cases c : suit p a b t
      · have c1 := c.1
        have c2 := c.2
        by_cases c3 : cntP (suit p a b) t = 0
        · simp (disch := omega) only [↓reduceIte, if_pos, if_neg, bd_some, nmV_e, inB_in, nI_cl, nI_leE, nI_ltE, nI_eqE, nI_add, pk_mul, lit_e, in_0_1, in_0_2, in_0_4, in_0_9, in_1_9, in_1_6, in_1_30, in_0_255, nI_ti, bI_i, bI_r, bI_j, bW_i, bW_j, bA_i, bA_j, bO_i, bO_r, bO_j, bJ_i, bJ_r, bJ_j, nI_div, pk_sub, c, c3, true_and, ite_true, and_self]
        · simp (disch := omega) only [↓reduceIte, if_pos, if_neg, bd_some, nmV_e, inB_in, nI_cl, nI_leE, nI_ltE, nI_eqE, nI_add, pk_mul, lit_e, in_0_1, in_0_2, in_0_4, in_0_9, in_1_9, in_1_6, in_1_30, in_0_255, nI_ti, bI_i, bI_r, bI_j, bW_i, bW_j, bA_i, bA_j, bO_i, bO_r, bO_j, bJ_i, bJ_r, bJ_j, nI_div, pk_sub, c, c3, false_and]
      · by_cases c1 : (p * t + 9) / 10 ≤ a
        · have c2 : ¬ p - (p * t + 9) / 10 ≤ b := fun h => c ⟨c1, h⟩
          simp (disch := omega) only [↓reduceIte, if_pos, if_neg, bd_some, nmV_e, inB_in, nI_cl, nI_leE, nI_ltE, nI_eqE, nI_add, pk_mul, lit_e, in_0_1, in_0_2, in_0_4, in_0_9, in_1_9, in_1_6, in_1_30, in_0_255, nI_ti, bI_i, bI_r, bI_j, bW_i, bW_j, bA_i, bA_j, bO_i, bO_r, bO_j, bJ_i, bJ_r, bJ_j, nI_div, pk_sub, c, and_false, Nat.add_zero]
        · simp (disch := omega) only [↓reduceIte, if_pos, if_neg, bd_some, nmV_e, inB_in, nI_cl, nI_leE, nI_ltE, nI_eqE, nI_add, pk_mul, lit_e, in_0_1, in_0_2, in_0_4, in_0_9, in_1_9, in_1_6, in_1_30, in_0_255, nI_ti, bI_i, bI_r, bI_j, bW_i, bW_j, bA_i, bA_j, bO_i, bO_r, bO_j, bJ_i, bJ_r, bJ_j, nI_div, pk_sub, c, and_false, Nat.add_zero]
    · unfold sX8_partners_65
      by_cases c : w = 0
      · simp (disch := omega) only [↓reduceIte, if_pos, if_neg, bd_some, nmV_e, inB_in, nI_cl, nI_leE, nI_ltE, nI_eqE, nI_add, pk_mul, lit_e, in_0_1, in_0_2, in_0_4, in_0_9, in_1_9, in_1_6, in_1_30, in_0_255, nI_ti, bI_i, bI_r, bI_j, bW_i, bW_j, bA_i, bA_j, bO_i, bO_r, bO_j, bJ_i, bJ_r, bJ_j, c]
      · simp (disch := omega) only [↓reduceIte, if_pos, if_neg, bd_some, nmV_e, inB_in, nI_cl, nI_leE, nI_ltE, nI_eqE, nI_add, pk_mul, lit_e, in_0_1, in_0_2, in_0_4, in_0_9, in_1_9, in_1_6, in_1_30, in_0_255, nI_ti, bI_i, bI_r, bI_j, bW_i, bW_j, bA_i, bA_j, bO_i, bO_r, bO_j, bJ_i, bJ_r, bJ_j, c]
  refine ⟨if w = 0 then nI (cntP (suit p a b) 11) else fstP (suit p a b) 11, ?_, ?_⟩
  · unfold fX7_partners fX7_isFigure
    by_cases c : w = 0
    · subst c
      simp (disch := omega) only [↓reduceIte, if_pos, if_neg, bd_some, nmV_e, inB_in, nI_cl, nI_leE, nI_ltE, nI_eqE, nI_add, pk_mul, lit_e, in_0_1, in_0_2, in_0_4, in_0_9, in_1_9, in_1_6, in_1_30, in_0_255, nI_ti, bI_i, bI_r, bI_j, bW_i, bW_j, bA_i, bA_j, bO_i, bO_r, bO_j, bJ_i, bJ_r, bJ_j, s7]
    · simp (disch := omega) only [↓reduceIte, if_pos, if_neg, bd_some, nmV_e, inB_in, nI_cl, nI_leE, nI_ltE, nI_eqE, nI_add, pk_mul, lit_e, in_0_1, in_0_2, in_0_4, in_0_9, in_1_9, in_1_6, in_1_30, in_0_255, nI_ti, bI_i, bI_r, bI_j, bW_i, bW_j, bA_i, bA_j, bO_i, bO_r, bO_j, bJ_i, bJ_r, bJ_j, l7]
  · unfold fX8_partners
    simp (disch := omega) only [↓reduceIte, if_pos, if_neg, bd_some, nmV_e, inB_in, nI_cl, nI_leE, nI_ltE, nI_eqE, nI_add, pk_mul, lit_e, in_0_1, in_0_2, in_0_4, in_0_9, in_1_9, in_1_6, in_1_30, in_0_255, nI_ti, bI_i, bI_r, bI_j, bW_i, bW_j, bA_i, bA_j, bO_i, bO_r, bO_j, bJ_i, bJ_r, bJ_j]
    exact r8
theorem im {c : Prop} [Decidable c] {α β : Type} {A B : Option β} {A' B' : Option α} {g : α → β} (h1 : c → A = A'.map g) (h2 : ¬ c → B = B'.map g) : (if c then A else B) = (if c then A' else B').map g := by
  by_cases q : c
  · rw [if_pos q, if_pos q]; exact h1 q
  · rw [if_neg q, if_neg q]; exact h2 q
theorem by8 {x1 x2 : Int32} {k k' : Int32 → Int32 → Int32 → Int32 → Bk → Option (Int32 × Bk)} {S S' : Bk} (hk : ∀ a b c d, k a b c d S = (k' a b c d S').map (fun p => (p.1, S))) : ∀ (F : Nat) (x3 x4 x5 x6 x7 x8 x9 : Int32), lk8 (sX8_byTurns_73 x1 x2 k) F x3 x4 x5 x6 x7 x8 x9 S = (lk8 (sX8_byTurns_73 x1 x2 k') F x3 x4 x5 x6 x7 x8 x9 S').map (fun p => (p.1, S)) := by
  intro F
  induction F with
  | zero => intro x3 x4 x5 x6 x7 x8 x9; rfl
  | succ F ih =>
    intro x3 x4 x5 x6 x7 x8 x9
    show sX8_byTurns_73 x1 x2 k _ x3 x4 x5 x6 x7 x8 x9 S = (sX8_byTurns_73 x1 x2 k' _ x3 x4 x5 x6 x7 x8 x9 S').map _
    unfold sX8_byTurns_73 gX8_byTurns_116 gX8_byTurns_132 gX8_byTurns_137 gX8_byTurns_154 gX8_byTurns_156 gX8_byTurns_197 gX8_byTurns_201 gX8_byTurns_202 gX8_byTurns_223
    repeat' (first | exact hk _ _ _ _ | exact ih _ _ _ _ _ _ _ | (refine im (fun _ => ?_) (fun _ => ?_)))
theorem by5 {x1 x2 : Int32} {S S' : Bk} : ∀ (F : Nat) (x3 x4 x5 x6 : Int32), lk5 (sX8_byTurns_45 x1 x2) F x3 x4 x5 x6 S = (lk5 (sX8_byTurns_45 x1 x2) F x3 x4 x5 x6 S').map (fun p => (p.1, S)) := by
  intro F
  induction F with
  | zero => intro x3 x4 x5 x6; rfl
  | succ F ih =>
    intro x3 x4 x5 x6
    show sX8_byTurns_45 x1 x2 _ x3 x4 x5 x6 S = (sX8_byTurns_45 x1 x2 _ x3 x4 x5 x6 S').map _
    unfold sX8_byTurns_45 gX8_byTurns_64
    exact im (fun _ => rfl) (fun _ => im (fun _ => by8 ih _ _ _ _ _ _ _ _) (fun _ => by8 ih _ _ _ _ _ _ _ _))
def S00 : Bk := (fun _ => 0, fun _ _ => 0, 0)
theorem by60 : ∀ w, w < 10 → ∀ n, n < 6 → (lk5 (sX8_byTurns_45 (nI w) (nI (n + 1))) 1000 (0 : Int32) (0 : Int32) (0 : Int32) (nI n) S00).map (fun p => p.1) = fX1_agreedByTurns (nI w) (nI (n + 1)) ∧ (fX1_agreedByTurns (nI w) (nI (n + 1))).isSome = true := by decide +kernel
theorem st_byTurns {Se Sx Sw Ss Sy Sz Sc : Bk} {ro : Nat} {Sg : Bk} {Sp : Nat → Bk} {Sm : Bk} (hR : Rel Se Sx Sw Ss Sy Sz Sc ro Sg Sp Sm) (x1 : Int32) (x2 : Int32) : ∃ (u7 : Int32) (u8 : Int32 × Bk), fX7_byTurns x1 x2 = some u7 ∧ fX8_byTurns Sm x1 x2 = some u8 ∧ u7 = u8.1 ∧ Rel Se Sx Sw Ss Sy Sz Sc ro Sg Sp (bO Sm u8.2) := by
  have hR0 := hR
  suffices hfin : ∃ r : Int32, fX7_byTurns x1 x2 = some r ∧ fX8_byTurns Sm x1 x2 = some (r, bI Sm 0 (nI 0)) from by
    obtain ⟨r, c7, c8⟩ := hfin
    exact ⟨r, (r, bI Sm 0 (nI 0)), c7, c8, rfl, rel_sm hR0 rfl rfl rfl rfl rfl rfl rfl rfl rfl rfl rfl rfl rfl rfl rfl rfl rfl⟩
  have bad : (x1.toInt < 0 ∨ 9 < x1.toInt ∨ x2.toInt < 1 ∨ 6 < x2.toInt) → ∃ r : Int32, fX7_byTurns x1 x2 = some r ∧ fX8_byTurns Sm x1 x2 = some (r, bI Sm 0 (nI 0)) := by
    intro hb
    refine ⟨-nI 2, ?_, ?_⟩
    · unfold fX7_byTurns fX7_isFigure
      by_cases c2 : x1.toInt < 0 ∨ 9 < x1.toInt
      · rcases c2 with c | c <;> simp (disch := omega) only [↓reduceIte, if_pos, if_neg, bd_some, nmV_e, inB_in, nI_cl, nI_leE, nI_ltE, nI_eqE, nI_add, pk_mul, lit_e, in_0_1, in_0_2, in_0_4, in_0_9, in_1_9, in_1_6, in_1_30, in_0_255, nI_ti, bI_i, bI_r, bI_j, bW_i, bW_j, bA_i, bA_j, bO_i, bO_r, bO_j, bJ_i, bJ_r, bJ_j, i32_lt]
      · rcases (show x2.toInt < 1 ∨ 6 < x2.toInt by omega) with c | c <;> simp (disch := omega) only [↓reduceIte, if_pos, if_neg, bd_some, nmV_e, inB_in, nI_cl, nI_leE, nI_ltE, nI_eqE, nI_add, pk_mul, lit_e, in_0_1, in_0_2, in_0_4, in_0_9, in_1_9, in_1_6, in_1_30, in_0_255, nI_ti, bI_i, bI_r, bI_j, bW_i, bW_j, bA_i, bA_j, bO_i, bO_r, bO_j, bJ_i, bJ_r, bJ_j, i32_lt, i32_le]
    · unfold fX8_byTurns
      by_cases c1 : 0 ≤ x1.toInt ∧ x1.toInt ≤ 9
      · simp (disch := omega) only [↓reduceIte, if_pos, if_neg, bd_some, nmV_e, inB_in, nI_cl, nI_leE, nI_ltE, nI_eqE, nI_add, pk_mul, lit_e, in_0_1, in_0_2, in_0_4, in_0_9, in_1_9, in_1_6, in_1_30, in_0_255, nI_ti, bI_i, bI_r, bI_j, bW_i, bW_j, bA_i, bA_j, bO_i, bO_r, bO_j, bJ_i, bJ_r, bJ_j]
      · simp (disch := omega) only [↓reduceIte, if_pos, if_neg, bd_some, nmV_e, inB_in, nI_cl, nI_leE, nI_ltE, nI_eqE, nI_add, pk_mul, lit_e, in_0_1, in_0_2, in_0_4, in_0_9, in_1_9, in_1_6, in_1_30, in_0_255, nI_ti, bI_i, bI_r, bI_j, bW_i, bW_j, bA_i, bA_j, bO_i, bO_r, bO_j, bJ_i, bJ_r, bJ_j]
  rcases ix x1 10 (by omega) with ⟨c, c'⟩ | ⟨c, c'⟩ | ⟨w, hw, rfl⟩
  · exact bad (by omega)
  · exact bad (by omega)
  rcases ix x2 7 (by omega) with ⟨c, c'⟩ | ⟨c, c'⟩ | ⟨m, hm, rfl⟩
  · exact bad (by omega)
  · exact bad (by omega)
  by_cases p0 : m = 0
  · subst p0
    exact bad (Or.inr (Or.inr (Or.inl (by rw [nI_ti (by omega)]; omega))))
  obtain ⟨n, rfl⟩ : ∃ n, m = n + 1 := ⟨m - 1, by omega⟩
  obtain ⟨h1, h2⟩ := by60 w hw n (by omega)
  obtain ⟨r, hr⟩ := Option.isSome_iff_exists.mp h2
  rw [hr] at h1
  have e1 : nI (n + 1) - nI 1 = nI n := nI_pred n
  refine ⟨r, ?_, ?_⟩
  · unfold fX7_byTurns fX7_isFigure
    simp (disch := omega) only [↓reduceIte, if_pos, if_neg, bd_some, nmV_e, inB_in, nI_cl, nI_leE, nI_ltE, nI_eqE, nI_add, pk_mul, lit_e, in_0_1, in_0_2, in_0_4, in_0_9, in_1_9, in_1_6, in_1_30, in_0_255, nI_ti, bI_i, bI_r, bI_j, bW_i, bW_j, bA_i, bA_j, bO_i, bO_r, bO_j, bJ_i, bJ_r, bJ_j, hr]
  · unfold fX8_byTurns
    simp (disch := omega) only [↓reduceIte, if_pos, if_neg, bd_some, nmV_e, inB_in, nI_cl, nI_leE, nI_ltE, nI_eqE, nI_add, pk_mul, lit_e, in_0_1, in_0_2, in_0_4, in_0_9, in_1_9, in_1_6, in_1_30, in_0_255, nI_ti, bI_i, bI_r, bI_j, bW_i, bW_j, bA_i, bA_j, bO_i, bO_r, bO_j, bJ_i, bJ_r, bJ_j, e1]
    refine (by5 (S' := S00) 1000 _ _ _ _).trans ?_
    cases hq : lk5 (sX8_byTurns_45 (nI w) (nI (n + 1))) 1000 (nI 0) (nI 0) (nI 0) (nI n) S00 with
    | none =>
      rw [show lk5 (sX8_byTurns_45 (nI w) (nI (n + 1))) 1000 0 0 0 (nI n) S00 = none from hq] at h1
      exact absurd h1 (by intro h; cases h)
    | some q =>
      rw [show lk5 (sX8_byTurns_45 (nI w) (nI (n + 1))) 1000 0 0 0 (nI n) S00 = some q from hq] at h1
      have h3 : q.1 = r := Option.some.inj h1
      rw [← h3]; rfl
