/-- whether a way agrees with the sight i -/
abbrev okW (nd : Nat) (wd : Nat → Nat → Nat) (d b : Nat → Nat) (w i : Nat) : Prop := nd ≤ d i ∨ (if w / 2 ^ wd 6 (d i) % 2 = wd 7 (d i) then 1 else 0) = b i
def AR (nd : Nat) (wd : Nat → Nat → Nat) (d b : Nat → Nat) (w : Nat) : Nat → Nat → Nat
  | _, 0 => 1
  | t, m + 1 => if okW nd wd d b w t then AR nd wd d b w (t + 1) m else 0
theorem AR_b {nd : Nat} {wd : Nat → Nat → Nat} {d b : Nat → Nat} {w : Nat} : ∀ (m t : Nat), AR nd wd d b w t m ≤ 1
  | 0, _ => by unfold AR; omega
  | m + 1, t => by
    unfold AR
    split
    · exact AR_b m (t + 1)
    · omega
section
variable {nt nq nd : Nat} {wd : Nat → Nat → Nat} {Sw Sg Sm : Bk} {d b : Nat → Nat} {n : Nat}
theorem ag7 (hB : WB nt nq nd wd) (hwc : RWc nt nq nd wd Sw) (hn : n ≤ 6) (e1 : Sg.1 0 = nI n) (hg : ∀ i, i < n → d i < 4 ∧ b i ≤ 1 ∧ Sg.2.1 1 i = nI (d i) ∧ Sg.2.1 2 i = nI (b i)) {w : Nat} (hw : w < 2 ^ nq) : ∀ (m t F : Nat), t + m = n → m < F → lk1 (sX2_agree_2 Sw Sg (nI w)) F (nI t) = some (nI (AR nd wd d b w t m)) := by
  have hnq := hB.2.1
  have hnd := hB.2.2.1
  have hp := p2 hnq
  have w3 := hwc.2.2.1
  intro m
  induction m with
  | zero =>
    intro t F ht hF
    obtain ⟨F, rfl⟩ : ∃ F', F = F' + 1 := ⟨F - 1, by omega⟩
    show sX2_agree_2 Sw Sg (nI w) _ (nI t) = _
    unfold sX2_agree_2 AR
    simp (disch := omega) only [↓reduceIte, if_pos, if_neg, bd_some, nmV_e, inB_in, nI_cl, nI_leE, nI_ltE, nI_eqE, nI_add, pk_mul, lit_e, in_0_1, in_0_2, in_0_4, in_0_9, in_1_9, in_1_6, in_1_30, in_0_255, nI_ti, bI_i, bI_r, bI_j, bW_i, bW_j, bA_i, bA_j, bO_i, bO_r, bO_j, bJ_i, bJ_r, bJ_j, e1]
  | succ m ih =>
    intro t F ht hF
    obtain ⟨F, rfl⟩ : ∃ F', F = F' + 1 := ⟨F - 1, by omega⟩
    obtain ⟨h1, h2, h3, h4⟩ := hg t (by omega)
    have i := ih (t + 1) F (by omega) (by omega)
    show sX2_agree_2 Sw Sg (nI w) (lk1 (sX2_agree_2 Sw Sg (nI w)) F) (nI t) = _
    generalize lk1 (sX2_agree_2 Sw Sg (nI w)) F = K at i ⊢
    unfold sX2_agree_2 AR gX2_agree_58 gX2_agree_73
    by_cases c : nd ≤ d t
    · simp (disch := omega) only [↓reduceIte, if_pos, if_neg, bd_some, nmV_e, inB_in, nI_cl, nI_leE, nI_ltE, nI_eqE, nI_add, pk_mul, lit_e, in_0_1, in_0_2, in_0_4, in_0_9, in_1_9, in_1_6, in_1_30, in_0_255, nI_ti, bI_i, bI_r, bI_j, bW_i, bW_j, bA_i, bA_j, bO_i, bO_r, bO_j, bJ_i, bJ_r, bJ_j, e1, h3, h4, w3, i, show okW nd wd d b w t from Or.inl c, ite_true]
    · obtain ⟨b0, b1, b2, b3, b4⟩ := hB.2.2.2.2.2 (d t) (by omega)
      obtain ⟨g0, g1, g2, g3, g4⟩ := hwc.2.2.2.2.2.1 (d t) (by omega)
      by_cases c2 : w / 2 ^ wd 6 (d t) % 2 = wd 7 (d t)
      · by_cases c3 : b t = 1
        · simp (disch := omega) only [↓reduceIte, if_pos, if_neg, bd_some, nmV_e, inB_in, nI_cl, nI_leE, nI_ltE, nI_eqE, nI_add, pk_mul, lit_e, in_0_1, in_0_2, in_0_4, in_0_9, in_1_9, in_1_6, in_1_30, in_0_255, nI_ti, bI_i, bI_r, bI_j, bW_i, bW_j, bA_i, bA_j, bO_i, bO_r, bO_j, bJ_i, bJ_r, bJ_j, e1, h3, h4, w3, i, g0, g1, bit_n, c3, show okW nd wd d b w t from Or.inr (by rw [if_pos c2, c3]), ite_true]
        · have c4 : ¬ okW nd wd d b w t := by rintro (h | h); exact c h; rw [if_pos c2] at h; omega
          simp (disch := omega) only [↓reduceIte, if_pos, if_neg, bd_some, nmV_e, inB_in, nI_cl, nI_leE, nI_ltE, nI_eqE, nI_add, pk_mul, lit_e, in_0_1, in_0_2, in_0_4, in_0_9, in_1_9, in_1_6, in_1_30, in_0_255, nI_ti, bI_i, bI_r, bI_j, bW_i, bW_j, bA_i, bA_j, bO_i, bO_r, bO_j, bJ_i, bJ_r, bJ_j, e1, h3, h4, w3, i, g0, g1, bit_n, c4]
      · by_cases c3 : b t = 0
        · simp (disch := omega) only [↓reduceIte, if_pos, if_neg, bd_some, nmV_e, inB_in, nI_cl, nI_leE, nI_ltE, nI_eqE, nI_add, pk_mul, lit_e, in_0_1, in_0_2, in_0_4, in_0_9, in_1_9, in_1_6, in_1_30, in_0_255, nI_ti, bI_i, bI_r, bI_j, bW_i, bW_j, bA_i, bA_j, bO_i, bO_r, bO_j, bJ_i, bJ_r, bJ_j, e1, h3, h4, w3, i, g0, g1, bit_n, c3, show okW nd wd d b w t from Or.inr (by rw [if_neg c2, c3]), ite_true]
        · have c4 : ¬ okW nd wd d b w t := by rintro (h | h); exact c h; rw [if_neg c2] at h; omega
          simp (disch := omega) only [↓reduceIte, if_pos, if_neg, bd_some, nmV_e, inB_in, nI_cl, nI_leE, nI_ltE, nI_eqE, nI_add, pk_mul, lit_e, in_0_1, in_0_2, in_0_4, in_0_9, in_1_9, in_1_6, in_1_30, in_0_255, nI_ti, bI_i, bI_r, bI_j, bW_i, bW_j, bA_i, bA_j, bO_i, bO_r, bO_j, bJ_i, bJ_r, bJ_j, e1, h3, h4, w3, i, g0, g1, bit_n, c4]
theorem ag8k (hB : WB nt nq nd wd) (hwm : RWm nt nq nd wd Sm) (hn : n ≤ 6) (e1 : Sm.1 10 = nI n) (hg : ∀ i, i < n → d i < 4 ∧ b i ≤ 1 ∧ Sm.2.1 12 i = nI (d i) ∧ Sm.2.1 13 i = nI (b i)) {w : Nat} (hw : w < 2 ^ nq) (k) : ∀ (m t F : Nat), t + m = n → m + 1 < F → lk4 (sX8_findKnew_39 k) F (nI w) (nI 1) (nI t) Sm = gX8_findKnew_121 k (nI w) (nI (AR nd wd d b w t m)) Sm := by
  have hnq := hB.2.1
  have hnd := hB.2.2.1
  have hp := p2 hnq
  have w3 := hwm.2.2.1
  intro m
  induction m with
  | zero =>
    intro t F ht hF
    obtain ⟨F, rfl⟩ : ∃ F', F = F' + 1 := ⟨F - 1, by omega⟩
    show sX8_findKnew_39 k _ (nI w) (nI 1) (nI t) Sm = _
    unfold sX8_findKnew_39 AR
    simp (disch := omega) only [↓reduceIte, if_pos, if_neg, bd_some, nmV_e, inB_in, nI_cl, nI_leE, nI_ltE, nI_eqE, nI_add, pk_mul, lit_e, in_0_1, in_0_2, in_0_4, in_0_9, in_1_9, in_1_6, in_1_30, in_0_255, nI_ti, bI_i, bI_r, bI_j, bW_i, bW_j, bA_i, bA_j, bO_i, bO_r, bO_j, bJ_i, bJ_r, bJ_j, e1]
  | succ m ih =>
    intro t F ht hF
    obtain ⟨F, rfl⟩ : ∃ F', F = F' + 1 := ⟨F - 1, by omega⟩
    obtain ⟨h1, h2, h3, h4⟩ := hg t (by omega)
    have i := ih (t + 1) F (by omega) (by omega)
    have st : lk4 (sX8_findKnew_39 k) F (nI w) (nI 0) (nI (t + 1)) Sm = gX8_findKnew_121 k (nI w) (nI 0) Sm := by
      obtain ⟨F, rfl⟩ : ∃ F', F = F' + 1 := ⟨F - 1, by omega⟩
      show sX8_findKnew_39 k _ (nI w) (nI 0) (nI (t + 1)) Sm = _
      unfold sX8_findKnew_39
      by_cases c : n ≤ t + 1
      · simp (disch := omega) only [↓reduceIte, if_pos, if_neg, bd_some, nmV_e, inB_in, nI_cl, nI_leE, nI_ltE, nI_eqE, nI_add, pk_mul, lit_e, in_0_1, in_0_2, in_0_4, in_0_9, in_1_9, in_1_6, in_1_30, in_0_255, nI_ti, bI_i, bI_r, bI_j, bW_i, bW_j, bA_i, bA_j, bO_i, bO_r, bO_j, bJ_i, bJ_r, bJ_j, e1]
      · simp (disch := omega) only [↓reduceIte, if_pos, if_neg, bd_some, nmV_e, inB_in, nI_cl, nI_leE, nI_ltE, nI_eqE, nI_add, pk_mul, lit_e, in_0_1, in_0_2, in_0_4, in_0_9, in_1_9, in_1_6, in_1_30, in_0_255, nI_ti, bI_i, bI_r, bI_j, bW_i, bW_j, bA_i, bA_j, bO_i, bO_r, bO_j, bJ_i, bJ_r, bJ_j, e1]
    show sX8_findKnew_39 k (lk4 (sX8_findKnew_39 k) F) (nI w) (nI 1) (nI t) Sm = _
    generalize lk4 (sX8_findKnew_39 k) F = K at i st ⊢
    unfold sX8_findKnew_39 AR gX8_findKnew_100 gX8_findKnew_109 gX8_findKnew_114
    by_cases c : nd ≤ d t
    · simp (disch := omega) only [↓reduceIte, if_pos, if_neg, bd_some, nmV_e, inB_in, nI_cl, nI_leE, nI_ltE, nI_eqE, nI_add, pk_mul, lit_e, in_0_1, in_0_2, in_0_4, in_0_9, in_1_9, in_1_6, in_1_30, in_0_255, nI_ti, bI_i, bI_r, bI_j, bW_i, bW_j, bA_i, bA_j, bO_i, bO_r, bO_j, bJ_i, bJ_r, bJ_j, e1, h3, h4, w3, i, show okW nd wd d b w t from Or.inl c, ite_true]
    · obtain ⟨b0, b1, b2, b3, b4⟩ := hB.2.2.2.2.2 (d t) (by omega)
      obtain ⟨g0, g1, g2, g3, g4⟩ := hwm.2.2.2.2.2 (d t) (by omega)
      by_cases c2 : w / 2 ^ wd 6 (d t) % 2 = wd 7 (d t)
      · by_cases c3 : b t = 1
        · simp (disch := omega) only [↓reduceIte, if_pos, if_neg, bd_some, nmV_e, inB_in, nI_cl, nI_leE, nI_ltE, nI_eqE, nI_add, pk_mul, lit_e, in_0_1, in_0_2, in_0_4, in_0_9, in_1_9, in_1_6, in_1_30, in_0_255, nI_ti, bI_i, bI_r, bI_j, bW_i, bW_j, bA_i, bA_j, bO_i, bO_r, bO_j, bJ_i, bJ_r, bJ_j, e1, h3, h4, w3, i, g0, g1, bit_n, c3, show okW nd wd d b w t from Or.inr (by rw [if_pos c2, c3]), ite_true]
        · have c4 : ¬ okW nd wd d b w t := by rintro (h | h); exact c h; rw [if_pos c2] at h; omega
          simp (disch := omega) only [↓reduceIte, if_pos, if_neg, bd_some, nmV_e, inB_in, nI_cl, nI_leE, nI_ltE, nI_eqE, nI_add, pk_mul, lit_e, in_0_1, in_0_2, in_0_4, in_0_9, in_1_9, in_1_6, in_1_30, in_0_255, nI_ti, bI_i, bI_r, bI_j, bW_i, bW_j, bA_i, bA_j, bO_i, bO_r, bO_j, bJ_i, bJ_r, bJ_j, e1, h3, h4, w3, st, g0, g1, bit_n, c4]
      · by_cases c3 : b t = 0
        · simp (disch := omega) only [↓reduceIte, if_pos, if_neg, bd_some, nmV_e, inB_in, nI_cl, nI_leE, nI_ltE, nI_eqE, nI_add, pk_mul, lit_e, in_0_1, in_0_2, in_0_4, in_0_9, in_1_9, in_1_6, in_1_30, in_0_255, nI_ti, bI_i, bI_r, bI_j, bW_i, bW_j, bA_i, bA_j, bO_i, bO_r, bO_j, bJ_i, bJ_r, bJ_j, e1, h3, h4, w3, i, g0, g1, bit_n, c3, show okW nd wd d b w t from Or.inr (by rw [if_neg c2, c3]), ite_true]
        · have c4 : ¬ okW nd wd d b w t := by rintro (h | h); exact c h; rw [if_neg c2] at h; omega
          simp (disch := omega) only [↓reduceIte, if_pos, if_neg, bd_some, nmV_e, inB_in, nI_cl, nI_leE, nI_ltE, nI_eqE, nI_add, pk_mul, lit_e, in_0_1, in_0_2, in_0_4, in_0_9, in_1_9, in_1_6, in_1_30, in_0_255, nI_ti, bI_i, bI_r, bI_j, bW_i, bW_j, bA_i, bA_j, bO_i, bO_r, bO_j, bJ_i, bJ_r, bJ_j, e1, h3, h4, w3, st, g0, g1, bit_n, c4]
end
def allK (P : Nat → Prop) [DecidablePred P] (N : Nat) : Nat → Nat
  | 0 => N - 1
  | t + 1 => if P t then allK P N t &&& t else allK P N t
section
variable {nt nq nd : Nat} {wd : Nat → Nat → Nat} {Sw Sg Sm : Bk} {P : Nat → Prop}
theorem wy7 [DecidablePred P] (hnq : nq ≤ 4) (hwc : RWc nt nq nd wd Sw) (hA : ∀ w, w < 2 ^ nq → fX2_agree Sw Sg (nI w) = some (nI (if P w then 1 else 0))) : fX2_ways Sw Sg = some (nI (cntP P (2 ^ nq))) := by
  have hp := p2 hnq
  have w2 := hwc.2.1
  unfold fX2_ways
  refine lk2_run (fun t => nI (cntP P t)) (fun t => nI t) (2 ^ nq) (fun k t ht => ?_) (fun k => ?_) 1000 (by omega)
  · have a := hA t ht
    unfold sX2_ways_4 gX2_ways_28
    show _ = k (nI (cntP P t + if P t then 1 else 0)) (nI (t + 1))
    by_cases c : P t
    · simp (disch := omega) only [↓reduceIte, if_pos, if_neg, bd_some, nmV_e, inB_in, nI_cl, nI_leE, nI_ltE, nI_eqE, nI_add, pk_mul, lit_e, in_0_1, in_0_2, in_0_4, in_0_9, in_1_9, in_1_6, in_1_30, in_0_255, nI_ti, bI_i, bI_r, bI_j, bW_i, bW_j, bA_i, bA_j, bO_i, bO_r, bO_j, bJ_i, bJ_r, bJ_j, w2, shl_n, a, c, ite_true]
    · simp (disch := omega) only [↓reduceIte, if_pos, if_neg, bd_some, nmV_e, inB_in, nI_cl, nI_leE, nI_ltE, nI_eqE, nI_add, pk_mul, lit_e, in_0_1, in_0_2, in_0_4, in_0_9, in_1_9, in_1_6, in_1_30, in_0_255, nI_ti, bI_i, bI_r, bI_j, bW_i, bW_j, bA_i, bA_j, bO_i, bO_r, bO_j, bJ_i, bJ_r, bJ_j, w2, shl_n, a, c, ite_false, Nat.add_zero]
  · unfold sX2_ways_4
    simp (disch := omega) only [↓reduceIte, if_pos, if_neg, bd_some, nmV_e, inB_in, nI_cl, nI_leE, nI_ltE, nI_eqE, nI_add, pk_mul, lit_e, in_0_1, in_0_2, in_0_4, in_0_9, in_1_9, in_1_6, in_1_30, in_0_255, nI_ti, bI_i, bI_r, bI_j, bW_i, bW_j, bA_i, bA_j, bO_i, bO_r, bO_j, bJ_i, bJ_r, bJ_j, w2, shl_n]
theorem lw7 [DecidablePred P] (hnq : nq ≤ 4) (hwc : RWc nt nq nd wd Sw) (hA : ∀ w, w < 2 ^ nq → fX2_agree Sw Sg (nI w) = some (nI (if P w then 1 else 0))) : fX2_leastWay Sw Sg = some (fstP P (2 ^ nq)) := by
  have hp := p2 hnq
  have w2 := hwc.2.1
  unfold fX2_leastWay
  refine lk1_least (fun k t ht c => ?_) (fun k t ht c => ?_) (fun k => ?_) 1000 (by omega)
  · have a := hA t ht
    unfold sX2_leastWay_2
    simp (disch := omega) only [↓reduceIte, if_pos, if_neg, bd_some, nmV_e, inB_in, nI_cl, nI_leE, nI_ltE, nI_eqE, nI_add, pk_mul, lit_e, in_0_1, in_0_2, in_0_4, in_0_9, in_1_9, in_1_6, in_1_30, in_0_255, nI_ti, bI_i, bI_r, bI_j, bW_i, bW_j, bA_i, bA_j, bO_i, bO_r, bO_j, bJ_i, bJ_r, bJ_j, w2, shl_n, a, c, ite_false]
  · have a := hA t ht
    unfold sX2_leastWay_2
    simp (disch := omega) only [↓reduceIte, if_pos, if_neg, bd_some, nmV_e, inB_in, nI_cl, nI_leE, nI_ltE, nI_eqE, nI_add, pk_mul, lit_e, in_0_1, in_0_2, in_0_4, in_0_9, in_1_9, in_1_6, in_1_30, in_0_255, nI_ti, bI_i, bI_r, bI_j, bW_i, bW_j, bA_i, bA_j, bO_i, bO_r, bO_j, bJ_i, bJ_r, bJ_j, w2, shl_n, a, c, ite_true]
  · unfold sX2_leastWay_2
    simp (disch := omega) only [↓reduceIte, if_pos, if_neg, bd_some, nmV_e, inB_in, nI_cl, nI_leE, nI_ltE, nI_eqE, nI_add, pk_mul, lit_e, in_0_1, in_0_2, in_0_4, in_0_9, in_1_9, in_1_6, in_1_30, in_0_255, nI_ti, bI_i, bI_r, bI_j, bW_i, bW_j, bA_i, bA_j, bO_i, bO_r, bO_j, bJ_i, bJ_r, bJ_j, w2, shl_n]
theorem all_0 [DecidablePred P] {N : Nat} : ∀ {t : Nat}, (∀ w, w < t → ¬ P w) → allK P N t = N - 1
  | 0, _ => rfl
  | t + 1, h => by
    unfold allK
    rw [if_neg (h t (by omega))]
    exact all_0 (fun w hw => h w (by omega))
theorem oi7 [DecidablePred P] (hnq : nq ≤ 4) (hwc : RWc nt nq nd wd Sw) (hA : ∀ w, w < 2 ^ nq → fX2_agree Sw Sg (nI w) = some (nI (if P w then 1 else 0))) {L : Nat} (hL : L < 2 ^ nq) (hP : P L) (hm : ∀ t, t < L → ¬ P t) : fX2_onesInAllWays Sw Sg = some (nI (allK P (2 ^ nq) (2 ^ nq))) := by
  have hp := p2 hnq
  have w2 := hwc.2.1
  have l := lw7 hnq hwc hA
  rw [(cnt_1 hP hm hL).2] at l
  unfold fX2_onesInAllWays
  rw [l, bd_some, if_neg (by rw [i32_eq, nI_ti (by omega)]; show ¬ _ = (-9 : Int); omega)]
  have e : lk2 (sX2_onesInAllWays_18 Sw Sg) 1000 (nI L) (nI (L + 0)) = some (nI (allK P (2 ^ nq) (2 ^ nq))) := by
    refine lk2_run (fun t => if t = 0 then nI L else nI (allK P (2 ^ nq) (L + t))) (fun t => nI (L + t)) (2 ^ nq - L) (fun k t ht => ?_) (fun k => ?_) 1000 (by omega)
    · have a := hA (L + t) (by omega)
      unfold sX2_onesInAllWays_18 gX2_onesInAllWays_43
      by_cases c0 : t = 0
      · subst c0
        have e2 : allK P (2 ^ nq) (L + 1) = L := by
          show (if P L then _ else _) = L
          rw [if_pos hP, all_0 hm, Nat.and_comm, Nat.and_two_pow_sub_one_eq_mod, Nat.mod_eq_of_lt hL]
        rw [Nat.add_zero] at *
        simp (disch := omega) only [↓reduceIte, if_pos, if_neg, bd_some, nmV_e, inB_in, nI_cl, nI_leE, nI_ltE, nI_eqE, nI_add, pk_mul, lit_e, in_0_1, in_0_2, in_0_4, in_0_9, in_1_9, in_1_6, in_1_30, in_0_255, nI_ti, bI_i, bI_r, bI_j, bW_i, bW_j, bA_i, bA_j, bO_i, bO_r, bO_j, bJ_i, bJ_r, bJ_j, w2, shl_n, a, hP, ite_true, Nat.zero_add, e2]
        rw [fa_and, Nat.and_self]
      · show _ = k (if t + 1 = 0 then nI L else nI (if P (L + t) then _ else _)) _
        by_cases c : P (L + t)
        · simp (disch := omega) only [↓reduceIte, if_pos, if_neg, bd_some, nmV_e, inB_in, nI_cl, nI_leE, nI_ltE, nI_eqE, nI_add, pk_mul, lit_e, in_0_1, in_0_2, in_0_4, in_0_9, in_1_9, in_1_6, in_1_30, in_0_255, nI_ti, bI_i, bI_r, bI_j, bW_i, bW_j, bA_i, bA_j, bO_i, bO_r, bO_j, bJ_i, bJ_r, bJ_j, w2, shl_n, a, c, ite_true]
          rw [fa_and]
          rfl
        · simp (disch := omega) only [↓reduceIte, if_pos, if_neg, bd_some, nmV_e, inB_in, nI_cl, nI_leE, nI_ltE, nI_eqE, nI_add, pk_mul, lit_e, in_0_1, in_0_2, in_0_4, in_0_9, in_1_9, in_1_6, in_1_30, in_0_255, nI_ti, bI_i, bI_r, bI_j, bW_i, bW_j, bA_i, bA_j, bO_i, bO_r, bO_j, bJ_i, bJ_r, bJ_j, w2, shl_n, a, c, ite_false]
          rfl
    · unfold sX2_onesInAllWays_18
      rw [show L + (2 ^ nq - L) = 2 ^ nq by omega]
      simp (disch := omega) only [↓reduceIte, if_pos, if_neg, bd_some, nmV_e, inB_in, nI_cl, nI_leE, nI_ltE, nI_eqE, nI_add, pk_mul, lit_e, in_0_1, in_0_2, in_0_4, in_0_9, in_1_9, in_1_6, in_1_30, in_0_255, nI_ti, bI_i, bI_r, bI_j, bW_i, bW_j, bA_i, bA_j, bO_i, bO_r, bO_j, bJ_i, bJ_r, bJ_j, w2, shl_n]
  exact e
theorem fk8 [DecidablePred P] (hnq : nq ≤ 4) (hwm : RWm nt nq nd wd Sm) (hA : ∀ (S' : Bk), (∀ i, i ≠ 11 → i ≠ 12 → i ≠ 13 → S'.1 i = Sm.1 i) → S'.2 = Sm.2 → ∀ w, w < 2 ^ nq → ∀ k, lk4 (sX8_findKnew_39 k) 1000 (nI w) (nI 1) (nI 0) S' = gX8_findKnew_121 k (nI w) (nI (if P w then 1 else 0)) S') : ∃ u, fX8_findKnew Sm = some u ∧ (∀ i, i ≠ 11 → i ≠ 12 → i ≠ 13 → u.1 i = Sm.1 i) ∧ u.2 = Sm.2 ∧ u.1 11 = nI (cntP P (2 ^ nq)) ∧ u.1 12 = fstP P (2 ^ nq) ∧ u.1 13 = nI (allK P (2 ^ nq) (2 ^ nq)) := by
  have hp := p2 hnq
  have w2 := hwm.2.1
  have h1 : (1 : Nat) ≤ 2 ^ nq := Nat.one_le_two_pow
  obtain ⟨a, S', ⟨e1, e2, e3, e4, e5, e6⟩, hF⟩ := lk2_inv (f := sX8_findKnew_25) (fun t a S' => a = nI t ∧ (∀ i, i ≠ 11 → i ≠ 12 → i ≠ 13 → S'.1 i = Sm.1 i) ∧ S'.2 = Sm.2 ∧ S'.1 11 = nI (cntP P t) ∧ S'.1 12 = fstP P t ∧ S'.1 13 = nI (allK P (2 ^ nq) t)) (2 ^ nq) (fun t a S' ht hI => by
    obtain ⟨e1, e2, e3, e4, e5, e6⟩ := hI
    subst e1
    have l := hA S' e2 e3 t ht
    have v4 := (e2 4 (by omega) (by omega) (by omega)).trans w2
    have cl := cnt_le (P := P) t
    by_cases c : P t
    · rw [if_pos c] at l
      by_cases c2 : cntP P t = 0
      · refine ⟨nI (t + 1), bI (bI (bI S' 12 (nI t)) 11 (nI (cntP P t + 1))) 13 (nI (allK P (2 ^ nq) t &&& t)), fun k => ?_, rfl, fun i q1 q2 q3 => ?_, e3, ?_, ?_, ?_⟩
        · unfold sX8_findKnew_25
          simp (disch := omega) only [↓reduceIte, if_pos, if_neg, bd_some, nmV_e, inB_in, nI_cl, nI_leE, nI_ltE, nI_eqE, nI_add, pk_mul, lit_e, in_0_1, in_0_2, in_0_4, in_0_9, in_1_9, in_1_6, in_1_30, in_0_255, nI_ti, bI_i, bI_r, bI_j, bW_i, bW_j, bA_i, bA_j, bO_i, bO_r, bO_j, bJ_i, bJ_r, bJ_j, v4, shl_n]
          refine (l k).trans ?_
          unfold gX8_findKnew_121 gX8_findKnew_141 gX8_findKnew_164
          simp (disch := omega) only [↓reduceIte, if_pos, if_neg, bd_some, nmV_e, inB_in, nI_cl, nI_leE, nI_ltE, nI_eqE, nI_add, pk_mul, lit_e, in_0_1, in_0_2, in_0_4, in_0_9, in_1_9, in_1_6, in_1_30, in_0_255, nI_ti, bI_i, bI_r, bI_j, bW_i, bW_j, bA_i, bA_j, bO_i, bO_r, bO_j, bJ_i, bJ_r, bJ_j, e4, e6, fa_and]
        · simp (disch := omega) only [↓reduceIte, if_pos, if_neg, bd_some, nmV_e, inB_in, nI_cl, nI_leE, nI_ltE, nI_eqE, nI_add, pk_mul, lit_e, in_0_1, in_0_2, in_0_4, in_0_9, in_1_9, in_1_6, in_1_30, in_0_255, nI_ti, bI_i, bI_r, bI_j, bW_i, bW_j, bA_i, bA_j, bO_i, bO_r, bO_j, bJ_i, bJ_r, bJ_j]; exact e2 i q1 q2 q3
        · simp (disch := omega) only [↓reduceIte, if_pos, if_neg, bd_some, nmV_e, inB_in, nI_cl, nI_leE, nI_ltE, nI_eqE, nI_add, pk_mul, lit_e, in_0_1, in_0_2, in_0_4, in_0_9, in_1_9, in_1_6, in_1_30, in_0_255, nI_ti, bI_i, bI_r, bI_j, bW_i, bW_j, bA_i, bA_j, bO_i, bO_r, bO_j, bJ_i, bJ_r, bJ_j]; show _ = nI (cntP P t + if P t then 1 else 0); rw [if_pos c]
        · simp (disch := omega) only [↓reduceIte, if_pos, if_neg, bd_some, nmV_e, inB_in, nI_cl, nI_leE, nI_ltE, nI_eqE, nI_add, pk_mul, lit_e, in_0_1, in_0_2, in_0_4, in_0_9, in_1_9, in_1_6, in_1_30, in_0_255, nI_ti, bI_i, bI_r, bI_j, bW_i, bW_j, bA_i, bA_j, bO_i, bO_r, bO_j, bJ_i, bJ_r, bJ_j]; show _ = if cntP P t = 0 ∧ P t then nI t else fstP P t; rw [if_pos ⟨c2, c⟩]
        · simp (disch := omega) only [↓reduceIte, if_pos, if_neg, bd_some, nmV_e, inB_in, nI_cl, nI_leE, nI_ltE, nI_eqE, nI_add, pk_mul, lit_e, in_0_1, in_0_2, in_0_4, in_0_9, in_1_9, in_1_6, in_1_30, in_0_255, nI_ti, bI_i, bI_r, bI_j, bW_i, bW_j, bA_i, bA_j, bO_i, bO_r, bO_j, bJ_i, bJ_r, bJ_j]; show _ = nI (if P t then _ else _); rw [if_pos c]
      · refine ⟨nI (t + 1), bI (bI (bI S' 12 (fstP P t)) 11 (nI (cntP P t + 1))) 13 (nI (allK P (2 ^ nq) t &&& t)), fun k => ?_, rfl, fun i q1 q2 q3 => ?_, e3, ?_, ?_, ?_⟩
        · unfold sX8_findKnew_25
          simp (disch := omega) only [↓reduceIte, if_pos, if_neg, bd_some, nmV_e, inB_in, nI_cl, nI_leE, nI_ltE, nI_eqE, nI_add, pk_mul, lit_e, in_0_1, in_0_2, in_0_4, in_0_9, in_1_9, in_1_6, in_1_30, in_0_255, nI_ti, bI_i, bI_r, bI_j, bW_i, bW_j, bA_i, bA_j, bO_i, bO_r, bO_j, bJ_i, bJ_r, bJ_j, v4, shl_n]
          refine (l k).trans ?_
          unfold gX8_findKnew_121 gX8_findKnew_141 gX8_findKnew_164
          simp (disch := omega) only [↓reduceIte, if_pos, if_neg, bd_some, nmV_e, inB_in, nI_cl, nI_leE, nI_ltE, nI_eqE, nI_add, pk_mul, lit_e, in_0_1, in_0_2, in_0_4, in_0_9, in_1_9, in_1_6, in_1_30, in_0_255, nI_ti, bI_i, bI_r, bI_j, bW_i, bW_j, bA_i, bA_j, bO_i, bO_r, bO_j, bJ_i, bJ_r, bJ_j, e4, e5, e6, fa_and]
        · simp (disch := omega) only [↓reduceIte, if_pos, if_neg, bd_some, nmV_e, inB_in, nI_cl, nI_leE, nI_ltE, nI_eqE, nI_add, pk_mul, lit_e, in_0_1, in_0_2, in_0_4, in_0_9, in_1_9, in_1_6, in_1_30, in_0_255, nI_ti, bI_i, bI_r, bI_j, bW_i, bW_j, bA_i, bA_j, bO_i, bO_r, bO_j, bJ_i, bJ_r, bJ_j]; exact e2 i q1 q2 q3
        · simp (disch := omega) only [↓reduceIte, if_pos, if_neg, bd_some, nmV_e, inB_in, nI_cl, nI_leE, nI_ltE, nI_eqE, nI_add, pk_mul, lit_e, in_0_1, in_0_2, in_0_4, in_0_9, in_1_9, in_1_6, in_1_30, in_0_255, nI_ti, bI_i, bI_r, bI_j, bW_i, bW_j, bA_i, bA_j, bO_i, bO_r, bO_j, bJ_i, bJ_r, bJ_j]; show _ = nI (cntP P t + if P t then 1 else 0); rw [if_pos c]
        · simp (disch := omega) only [↓reduceIte, if_pos, if_neg, bd_some, nmV_e, inB_in, nI_cl, nI_leE, nI_ltE, nI_eqE, nI_add, pk_mul, lit_e, in_0_1, in_0_2, in_0_4, in_0_9, in_1_9, in_1_6, in_1_30, in_0_255, nI_ti, bI_i, bI_r, bI_j, bW_i, bW_j, bA_i, bA_j, bO_i, bO_r, bO_j, bJ_i, bJ_r, bJ_j]; show _ = if cntP P t = 0 ∧ P t then nI t else fstP P t; rw [if_neg (fun h => c2 h.1)]
        · simp (disch := omega) only [↓reduceIte, if_pos, if_neg, bd_some, nmV_e, inB_in, nI_cl, nI_leE, nI_ltE, nI_eqE, nI_add, pk_mul, lit_e, in_0_1, in_0_2, in_0_4, in_0_9, in_1_9, in_1_6, in_1_30, in_0_255, nI_ti, bI_i, bI_r, bI_j, bW_i, bW_j, bA_i, bA_j, bO_i, bO_r, bO_j, bJ_i, bJ_r, bJ_j]; show _ = nI (if P t then _ else _); rw [if_pos c]
    · rw [if_neg c] at l
      refine ⟨nI (t + 1), S', fun k => ?_, rfl, e2, e3, ?_, ?_, ?_⟩
      · unfold sX8_findKnew_25
        simp (disch := omega) only [↓reduceIte, if_pos, if_neg, bd_some, nmV_e, inB_in, nI_cl, nI_leE, nI_ltE, nI_eqE, nI_add, pk_mul, lit_e, in_0_1, in_0_2, in_0_4, in_0_9, in_1_9, in_1_6, in_1_30, in_0_255, nI_ti, bI_i, bI_r, bI_j, bW_i, bW_j, bA_i, bA_j, bO_i, bO_r, bO_j, bJ_i, bJ_r, bJ_j, v4, shl_n]
        refine (l k).trans ?_
        unfold gX8_findKnew_121 gX8_findKnew_164
        simp (disch := omega) only [↓reduceIte, if_pos, if_neg, bd_some, nmV_e, inB_in, nI_cl, nI_leE, nI_ltE, nI_eqE, nI_add, pk_mul, lit_e, in_0_1, in_0_2, in_0_4, in_0_9, in_1_9, in_1_6, in_1_30, in_0_255, nI_ti, bI_i, bI_r, bI_j, bW_i, bW_j, bA_i, bA_j, bO_i, bO_r, bO_j, bJ_i, bJ_r, bJ_j]
      · show _ = nI (cntP P t + if P t then 1 else 0); rw [if_neg c]; exact e4
      · show _ = if cntP P t = 0 ∧ P t then nI t else fstP P t; rw [if_neg (fun h => c h.2)]; exact e5
      · show _ = nI (if P t then _ else _); rw [if_neg c]; exact e6) (nI 0) (bI (bI (bI Sm 11 (nI 0)) 12 (-nI 9)) 13 (nI (2 ^ nq - 1))) ⟨rfl, fun i q1 q2 q3 => by simp (disch := omega) only [↓reduceIte, if_pos, if_neg, bd_some, nmV_e, inB_in, nI_cl, nI_leE, nI_ltE, nI_eqE, nI_add, pk_mul, lit_e, in_0_1, in_0_2, in_0_4, in_0_9, in_1_9, in_1_6, in_1_30, in_0_255, nI_ti, bI_i, bI_r, bI_j, bW_i, bW_j, bA_i, bA_j, bO_i, bO_r, bO_j, bJ_i, bJ_r, bJ_j], rfl, rfl, rfl, rfl⟩
  obtain ⟨k, hk⟩ := hF 1000 (by omega)
  refine ⟨S', ?_, e2, e3, e4, e5, e6⟩
  have v4 := (e2 4 (by omega) (by omega) (by omega)).trans w2
  unfold fX8_findKnew
  simp (disch := omega) only [↓reduceIte, if_pos, if_neg, bd_some, nmV_e, inB_in, nI_cl, nI_leE, nI_ltE, nI_eqE, nI_add, pk_mul, lit_e, in_0_1, in_0_2, in_0_4, in_0_9, in_1_9, in_1_6, in_1_30, in_0_255, nI_ti, bI_i, bI_r, bI_j, bW_i, bW_j, bA_i, bA_j, bO_i, bO_r, bO_j, bJ_i, bJ_r, bJ_j, w2, shl_n, pk_sub]
  refine hk.trans ?_
  subst e1
  unfold sX8_findKnew_25
  simp (disch := omega) only [↓reduceIte, if_pos, if_neg, bd_some, nmV_e, inB_in, nI_cl, nI_leE, nI_ltE, nI_eqE, nI_add, pk_mul, lit_e, in_0_1, in_0_2, in_0_4, in_0_9, in_1_9, in_1_6, in_1_30, in_0_255, nI_ti, bI_i, bI_r, bI_j, bW_i, bW_j, bA_i, bA_j, bO_i, bO_r, bO_j, bJ_i, bJ_r, bJ_j, v4, shl_n]
end
theorem st_knew {Se Sx Sw Ss Sy Sz Sc : Bk} {ro : Nat} {Sg : Bk} {Sp : Nat → Bk} {Sm : Bk} (hR : Rel Se Sx Sw Ss Sy Sz Sc ro Sg Sp Sm) (x1 : Int32) : ∃ (u7 : Int32) (u8 : Int32 × Bk), fX7_knew Se Sw Sg x1 = some u7 ∧ fX8_knew Sm x1 = some u8 ∧ u7 = u8.1 ∧ Rel Se Sx Sw Ss Sy Sz Sc ro Sg Sp (bA (bA (bA (bO Sm u8.2) 3 (u8.2.2.1 3)) 12 (u8.2.2.1 12)) 13 (u8.2.2.1 13)) := by
  have hR0 := hR
  obtain ⟨nt, nq, nd, wd, hB, hwc, hwm, hs, ht, ha, hk, ⟨n, hn, e1, e2, e3⟩, hj⟩ := hR
  have hnq := hB.2.1
  have hg7 : ∀ i, i < n → (Sg.2.1 1 i).toNatClampNeg < 4 ∧ (Sg.2.1 2 i).toNatClampNeg ≤ 1 ∧ Sg.2.1 1 i = nI (Sg.2.1 1 i).toNatClampNeg ∧ Sg.2.1 2 i = nI (Sg.2.1 2 i).toNatClampNeg := fun i hi => by
    obtain ⟨d, b, h1, h2, h3, h4, h5, h6⟩ := e3 i hi
    rw [h3, h5, nI_cl (by omega), nI_cl (by omega)]
    exact ⟨h1, h2, rfl, rfl⟩
  have hg8 : ∀ i, i < n → (Sg.2.1 1 i).toNatClampNeg < 4 ∧ (Sg.2.1 2 i).toNatClampNeg ≤ 1 ∧ Sm.2.1 12 i = nI (Sg.2.1 1 i).toNatClampNeg ∧ Sm.2.1 13 i = nI (Sg.2.1 2 i).toNatClampNeg := fun i hi => by
    obtain ⟨d, b, h1, h2, h3, h4, h5, h6⟩ := e3 i hi
    rw [h3, h5, h4, h6, nI_cl (by omega), nI_cl (by omega)]
    exact ⟨h1, h2, rfl, rfl⟩
  have hA7 : ∀ w, w < 2 ^ nq → fX2_agree Sw Sg (nI w) = some (nI (if AR nd wd (fun i => (Sg.2.1 1 i).toNatClampNeg) (fun i => (Sg.2.1 2 i).toNatClampNeg) w 0 n = 1 then 1 else 0)) := fun w hw => by
    have h := ag7 hB hwc hn e1 hg7 hw n 0 1000 (by omega) (by omega)
    have hb := AR_b (nd := nd) (wd := wd) (d := fun i => (Sg.2.1 1 i).toNatClampNeg) (b := fun i => (Sg.2.1 2 i).toNatClampNeg) (w := w) n 0
    unfold fX2_agree
    refine h.trans ?_
    by_cases c : AR nd wd (fun i => (Sg.2.1 1 i).toNatClampNeg) (fun i => (Sg.2.1 2 i).toNatClampNeg) w 0 n = 1
    · rw [if_pos c, c]
    · rw [if_neg c, show AR nd wd (fun i => (Sg.2.1 1 i).toNatClampNeg) (fun i => (Sg.2.1 2 i).toNatClampNeg) w 0 n = 0 by omega]
  have hA8 : ∀ (S' : Bk), (∀ i, i ≠ 11 → i ≠ 12 → i ≠ 13 → S'.1 i = (bI Sm 0 (nI 0)).1 i) → S'.2 = (bI Sm 0 (nI 0)).2 → ∀ w, w < 2 ^ nq → ∀ k, lk4 (sX8_findKnew_39 k) 1000 (nI w) (nI 1) (nI 0) S' = gX8_findKnew_121 k (nI w) (nI (if AR nd wd (fun i => (Sg.2.1 1 i).toNatClampNeg) (fun i => (Sg.2.1 2 i).toNatClampNeg) w 0 n = 1 then 1 else 0)) S' := fun S' q1 q2 w hw k => by
    have hw' : RWm nt nq nd wd S' := rwm_cg hwm (q1 3 (by omega) (by omega) (by omega)) (q1 4 (by omega) (by omega) (by omega)) (q1 5 (by omega) (by omega) (by omega)) (by rw [q2]; rfl) (by rw [q2]; rfl) (by rw [q2]; rfl)
    have h := ag8k hB hw' hn ((q1 10 (by omega) (by omega) (by omega)).trans e2) (by rw [q2]; exact hg8) hw k n 0 1000 (by omega) (by omega)
    have hb := AR_b (nd := nd) (wd := wd) (d := fun i => (Sg.2.1 1 i).toNatClampNeg) (b := fun i => (Sg.2.1 2 i).toNatClampNeg) (w := w) n 0
    refine h.trans ?_
    by_cases c : AR nd wd (fun i => (Sg.2.1 1 i).toNatClampNeg) (fun i => (Sg.2.1 2 i).toNatClampNeg) w 0 n = 1
    · rw [if_pos c, c]
    · rw [if_neg c, show AR nd wd (fun i => (Sg.2.1 1 i).toNatClampNeg) (fun i => (Sg.2.1 2 i).toNatClampNeg) w 0 n = 0 by omega]
  generalize AR nd wd (fun i => (Sg.2.1 1 i).toNatClampNeg) (fun i => (Sg.2.1 2 i).toNatClampNeg) = A at hA7 hA8
  have k0 := wy7 (P := fun w => A w 0 n = 1) hnq hwc hA7
  have k1 := lw7 (P := fun w => A w 0 n = 1) hnq hwc hA7
  obtain ⟨u, q1, q2, q3, q4, q5, q6⟩ := fk8 (Sm := bI Sm 0 (nI 0)) (P := fun w => A w 0 n = 1) hnq hwm hA8
  have cl := cnt_le (P := fun w => A w 0 n = 1) (2 ^ nq)
  have hp := p2 hnq
  have fin : ∀ r : Int32, fX7_knew Se Sw Sg x1 = some r → fX8_knew Sm x1 = some (r, u) → ∃ (u7 : Int32) (u8 : Int32 × Bk), fX7_knew Se Sw Sg x1 = some u7 ∧ fX8_knew Sm x1 = some u8 ∧ u7 = u8.1 ∧ Rel Se Sx Sw Ss Sy Sz Sc ro Sg Sp (bA (bA (bA (bO Sm u8.2) 3 (u8.2.2.1 3)) 12 (u8.2.2.1 12)) 13 (u8.2.2.1 13)) := fun r c7 c8 => ⟨_, _, c7, c8, rfl, rel_sm hR0 (q2 1 (by omega) (by omega) (by omega)) (q2 3 (by omega) (by omega) (by omega)) (q2 4 (by omega) (by omega) (by omega)) (q2 5 (by omega) (by omega) (by omega)) (q2 9 (by omega) (by omega) (by omega)) (q2 10 (by omega) (by omega) (by omega)) rfl rfl rfl (by show u.2.1 3 = _; rw [q3]; rfl) rfl rfl rfl rfl (by show u.2.1 12 = _; rw [q3]; rfl) (by show u.2.1 13 = _; rw [q3]; rfl) (by show u.2.2 = _; rw [q3]; rfl)⟩
  rcases ix x1 3 (by omega) with ⟨c, c'⟩ | ⟨c, c'⟩ | ⟨i, hi, rfl⟩
  · have c7 : fX7_knew Se Sw Sg x1 = some (-nI 2) := by
      unfold fX7_knew
      simp (disch := omega) only [↓reduceIte, if_pos, if_neg, bd_some, nmV_e, inB_in, nI_cl, nI_leE, nI_ltE, nI_eqE, nI_add, pk_mul, lit_e, in_0_1, in_0_2, in_0_4, in_0_9, in_1_9, in_1_6, in_1_30, in_0_255, nI_ti, bI_i, bI_r, bI_j, bW_i, bW_j, bA_i, bA_j, bO_i, bO_r, bO_j, bJ_i, bJ_r, bJ_j, i32_eq]
    have c8 : fX8_knew Sm x1 = some (-nI 2, bI Sm 0 (nI 0)) := by
      unfold fX8_knew
      simp (disch := omega) only [↓reduceIte, if_pos, if_neg, bd_some, nmV_e, inB_in, nI_cl, nI_leE, nI_ltE, nI_eqE, nI_add, pk_mul, lit_e, in_0_1, in_0_2, in_0_4, in_0_9, in_1_9, in_1_6, in_1_30, in_0_255, nI_ti, bI_i, bI_r, bI_j, bW_i, bW_j, bA_i, bA_j, bO_i, bO_r, bO_j, bJ_i, bJ_r, bJ_j]
    exact ⟨_, _, c7, c8, rfl, rel_sm hR0 rfl rfl rfl rfl rfl rfl rfl rfl rfl rfl rfl rfl rfl rfl rfl rfl rfl⟩
  · have c7 : fX7_knew Se Sw Sg x1 = some (-nI 2) := by
      unfold fX7_knew
      simp (disch := omega) only [↓reduceIte, if_pos, if_neg, bd_some, nmV_e, inB_in, nI_cl, nI_leE, nI_ltE, nI_eqE, nI_add, pk_mul, lit_e, in_0_1, in_0_2, in_0_4, in_0_9, in_1_9, in_1_6, in_1_30, in_0_255, nI_ti, bI_i, bI_r, bI_j, bW_i, bW_j, bA_i, bA_j, bO_i, bO_r, bO_j, bJ_i, bJ_r, bJ_j, i32_eq]
    have c8 : fX8_knew Sm x1 = some (-nI 2, bI Sm 0 (nI 0)) := by
      unfold fX8_knew
      simp (disch := omega) only [↓reduceIte, if_pos, if_neg, bd_some, nmV_e, inB_in, nI_cl, nI_leE, nI_ltE, nI_eqE, nI_add, pk_mul, lit_e, in_0_1, in_0_2, in_0_4, in_0_9, in_1_9, in_1_6, in_1_30, in_0_255, nI_ti, bI_i, bI_r, bI_j, bW_i, bW_j, bA_i, bA_j, bO_i, bO_r, bO_j, bJ_i, bJ_r, bJ_j]
    exact ⟨_, _, c7, c8, rfl, rel_sm hR0 rfl rfl rfl rfl rfl rfl rfl rfl rfl rfl rfl rfl rfl rfl rfl rfl rfl⟩
  · rcases (show i = 0 ∨ i = 1 ∨ i = 2 by omega) with rfl | rfl | rfl
    · refine fin (nI (cntP (fun w => A w 0 n = 1) (2 ^ nq))) ?_ ?_
      · unfold fX7_knew
        simp (disch := omega) only [↓reduceIte, if_pos, if_neg, bd_some, nmV_e, inB_in, nI_cl, nI_leE, nI_ltE, nI_eqE, nI_add, pk_mul, lit_e, in_0_1, in_0_2, in_0_4, in_0_9, in_1_9, in_1_6, in_1_30, in_0_255, nI_ti, bI_i, bI_r, bI_j, bW_i, bW_j, bA_i, bA_j, bO_i, bO_r, bO_j, bJ_i, bJ_r, bJ_j, k0]
      · unfold fX8_knew
        simp (disch := omega) only [↓reduceIte, if_pos, if_neg, bd_some, nmV_e, inB_in, nI_cl, nI_leE, nI_ltE, nI_eqE, nI_add, pk_mul, lit_e, in_0_1, in_0_2, in_0_4, in_0_9, in_1_9, in_1_6, in_1_30, in_0_255, nI_ti, bI_i, bI_r, bI_j, bW_i, bW_j, bA_i, bA_j, bO_i, bO_r, bO_j, bJ_i, bJ_r, bJ_j, q1, q4]
    · by_cases ex : ∃ t, t < 2 ^ nq ∧ A t 0 n = 1
      · obtain ⟨L, ⟨g1, g2⟩, g3⟩ := pk_least (fun t => t < 2 ^ nq ∧ A t 0 n = 1) ex
        have z := cnt_1 (P := fun w => A w 0 n = 1) g2 (fun t ht hP => g3 t ht ⟨by omega, hP⟩) g1
        refine fin (nI L) ?_ ?_
        · unfold fX7_knew
          simp (disch := omega) only [↓reduceIte, if_pos, if_neg, bd_some, nmV_e, inB_in, nI_cl, nI_leE, nI_ltE, nI_eqE, nI_add, pk_mul, lit_e, in_0_1, in_0_2, in_0_4, in_0_9, in_1_9, in_1_6, in_1_30, in_0_255, nI_ti, bI_i, bI_r, bI_j, bW_i, bW_j, bA_i, bA_j, bO_i, bO_r, bO_j, bJ_i, bJ_r, bJ_j, k1, z.2]
        · unfold fX8_knew
          simp (disch := omega) only [↓reduceIte, if_pos, if_neg, bd_some, nmV_e, inB_in, nI_cl, nI_leE, nI_ltE, nI_eqE, nI_add, pk_mul, lit_e, in_0_1, in_0_2, in_0_4, in_0_9, in_1_9, in_1_6, in_1_30, in_0_255, nI_ti, bI_i, bI_r, bI_j, bW_i, bW_j, bA_i, bA_j, bO_i, bO_r, bO_j, bJ_i, bJ_r, bJ_j, q1, q4, q5, z.2]
      · have z := cnt_0 (P := fun w => A w 0 n = 1) (n := 2 ^ nq) (fun t ht hP => ex ⟨t, ht, hP⟩)
        refine fin (-nI 9) ?_ ?_
        · unfold fX7_knew
          simp (disch := omega) only [↓reduceIte, if_pos, if_neg, bd_some, nmV_e, inB_in, nI_cl, nI_leE, nI_ltE, nI_eqE, nI_add, pk_mul, lit_e, in_0_1, in_0_2, in_0_4, in_0_9, in_1_9, in_1_6, in_1_30, in_0_255, nI_ti, bI_i, bI_r, bI_j, bW_i, bW_j, bA_i, bA_j, bO_i, bO_r, bO_j, bJ_i, bJ_r, bJ_j, k1, z.2]
        · unfold fX8_knew
          simp (disch := omega) only [↓reduceIte, if_pos, if_neg, bd_some, nmV_e, inB_in, nI_cl, nI_leE, nI_ltE, nI_eqE, nI_add, pk_mul, lit_e, in_0_1, in_0_2, in_0_4, in_0_9, in_1_9, in_1_6, in_1_30, in_0_255, nI_ti, bI_i, bI_r, bI_j, bW_i, bW_j, bA_i, bA_j, bO_i, bO_r, bO_j, bJ_i, bJ_r, bJ_j, q1, q4, q5, z.1]
    · by_cases ex : ∃ t, t < 2 ^ nq ∧ A t 0 n = 1
      · obtain ⟨L, ⟨g1, g2⟩, g3⟩ := pk_least (fun t => t < 2 ^ nq ∧ A t 0 n = 1) ex
        have z := cnt_1 (P := fun w => A w 0 n = 1) g2 (fun t ht hP => g3 t ht ⟨by omega, hP⟩) g1
        have k2 := oi7 (P := fun w => A w 0 n = 1) hnq hwc hA7 g1 g2 (fun t ht hP => g3 t ht ⟨by omega, hP⟩)
        refine fin (nI (allK (fun w => A w 0 n = 1) (2 ^ nq) (2 ^ nq))) ?_ ?_
        · unfold fX7_knew
          simp (disch := omega) only [↓reduceIte, if_pos, if_neg, bd_some, nmV_e, inB_in, nI_cl, nI_leE, nI_ltE, nI_eqE, nI_add, pk_mul, lit_e, in_0_1, in_0_2, in_0_4, in_0_9, in_1_9, in_1_6, in_1_30, in_0_255, nI_ti, bI_i, bI_r, bI_j, bW_i, bW_j, bA_i, bA_j, bO_i, bO_r, bO_j, bJ_i, bJ_r, bJ_j, k2]
        · unfold fX8_knew
          simp (disch := omega) only [↓reduceIte, if_pos, if_neg, bd_some, nmV_e, inB_in, nI_cl, nI_leE, nI_ltE, nI_eqE, nI_add, pk_mul, lit_e, in_0_1, in_0_2, in_0_4, in_0_9, in_1_9, in_1_6, in_1_30, in_0_255, nI_ti, bI_i, bI_r, bI_j, bW_i, bW_j, bA_i, bA_j, bO_i, bO_r, bO_j, bJ_i, bJ_r, bJ_j, q1, q4, q6]
      · have z := cnt_0 (P := fun w => A w 0 n = 1) (n := 2 ^ nq) (fun t ht hP => ex ⟨t, ht, hP⟩)
        refine fin (-nI 9) ?_ ?_
        · unfold fX7_knew fX2_onesInAllWays
          simp (disch := omega) only [↓reduceIte, if_pos, if_neg, bd_some, nmV_e, inB_in, nI_cl, nI_leE, nI_ltE, nI_eqE, nI_add, pk_mul, lit_e, in_0_1, in_0_2, in_0_4, in_0_9, in_1_9, in_1_6, in_1_30, in_0_255, nI_ti, bI_i, bI_r, bI_j, bW_i, bW_j, bA_i, bA_j, bO_i, bO_r, bO_j, bJ_i, bJ_r, bJ_j, k1, z.2]
        · unfold fX8_knew
          simp (disch := omega) only [↓reduceIte, if_pos, if_neg, bd_some, nmV_e, inB_in, nI_cl, nI_leE, nI_ltE, nI_eqE, nI_add, pk_mul, lit_e, in_0_1, in_0_2, in_0_4, in_0_9, in_1_9, in_1_6, in_1_30, in_0_255, nI_ti, bI_i, bI_r, bI_j, bW_i, bW_j, bA_i, bA_j, bO_i, bO_r, bO_j, bJ_i, bJ_r, bJ_j, q1, q4, z.1]
