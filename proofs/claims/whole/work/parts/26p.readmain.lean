/-- the reference's rows that are being read, as if they were the well's -/
def sh (S : Bk) : Bk := (fun i => S.1 (i + 3), fun r => S.2.1 (r + 3), S.2.2)
section
variable {n nt nq nd i : Nat} {Sm : Bk}
theorem partT (hn : n ≤ 64) (hi : i < n) (h1 : Sm.1 1 = nI n) (h2 : Sm.1 2 = nI i) (h6 : Sm.1 6 = nI nt) (hnt : nt < 4) (hl : Sm.2.1 0 i = nI 84) : PART n 3 4 6 nt (3 * nt) loT hiT Sm i := by
  refine part_of (f := sX8_readThing_2) (by omega) (by omega) hi (by omega) (fun k2 k j S => okT (S0 := bI Sm 2 (nI (i + 1))) hn h1 h6 hnt k2 k j S) (fun k2 k j S => badT (S0 := bI Sm 2 (nI (i + 1))) hn h1 k2 k j S) (fun k2 j S => endT (S0 := bI Sm 2 (nI (i + 1))) h6 k2 j S) (fun u hu e => ?_)
  unfold fX8_readPart fX8_readThing z01
  rcases hu with q | q <;> simp (disch := omega) only [↓reduceIte, if_pos, if_neg, bd_some, nmV_e, inB_in, nI_cl, nI_leE, nI_ltE, nI_eqE, nI_add, pk_mul, lit_e, in_0_1, in_0_2, in_0_4, in_0_9, in_1_9, in_1_6, in_1_30, in_0_255, nI_ti, bI_i, bI_r, bI_j, bW_i, bW_j, bA_i, bA_j, bO_i, bO_r, bO_j, bJ_i, bJ_r, bJ_j, h2, hl, h6, e, q, true_or, or_true]
theorem partQ (hn : n ≤ 64) (hi : i < n) (h1 : Sm.1 1 = nI n) (h2 : Sm.1 2 = nI i) (h6 : Sm.1 6 = nI nt) (h7 : Sm.1 7 = nI nq) (hnt : 1 ≤ nt ∧ nt ≤ 4) (hnq : nq < 4) (hl : Sm.2.1 0 i = nI 81) : PART n 4 5 7 nq (4 * nq) loQ (hiQ nt) Sm i := by
  refine part_of (f := sX8_readQuestion_2) (by omega) (by omega) hi (by omega) (fun k2 k j S => okQ (S0 := bI Sm 2 (nI (i + 1))) hn h1 h6 h7 hnt hnq k2 k j S) (fun k2 k j S => badQ (S0 := bI Sm 2 (nI (i + 1))) hn h1 h6 hnt k2 k j S) (fun k2 j S => endQ (S0 := bI Sm 2 (nI (i + 1))) h7 k2 j S) (fun u hu e => ?_)
  unfold fX8_readPart gX8_readPart_39 fX8_readQuestion z01
  rcases hu with q | q <;> simp (disch := omega) only [↓reduceIte, if_pos, if_neg, bd_some, nmV_e, inB_in, nI_cl, nI_leE, nI_ltE, nI_eqE, nI_add, pk_mul, lit_e, in_0_1, in_0_2, in_0_4, in_0_9, in_1_9, in_1_6, in_1_30, in_0_255, nI_ti, bI_i, bI_r, bI_j, bW_i, bW_j, bA_i, bA_j, bO_i, bO_r, bO_j, bJ_i, bJ_r, bJ_j, h2, hl, h6, h7, e, q, true_or, or_true]
theorem partD (hn : n ≤ 64) (hi : i < n) (h1 : Sm.1 1 = nI n) (h2 : Sm.1 2 = nI i) (h6 : Sm.1 6 = nI nt) (h7 : Sm.1 7 = nI nq) (h8 : Sm.1 8 = nI nd) (hnt : 1 ≤ nt ∧ nt ≤ 4) (hnq : 1 ≤ nq ∧ nq ≤ 4) (hnd : nd < 4) (hl : Sm.2.1 0 i = nI 68) : PART n 5 6 8 nd (5 * nd) loD (hiD nt nq) Sm i := by
  refine part_of (f := sX8_readDeed_2) (by omega) (by omega) hi (by omega) (fun k2 k j S => okD (S0 := bI Sm 2 (nI (i + 1))) hn h1 h6 h7 h8 hnt hnq hnd k2 k j S) (fun k2 k j S => badD (S0 := bI Sm 2 (nI (i + 1))) hn h1 h6 h7 hnt hnq k2 k j S) (fun k2 j S => endD (S0 := bI Sm 2 (nI (i + 1))) h8 k2 j S) (fun u hu e => ?_)
  unfold fX8_readPart gX8_readPart_39 gX8_readPart_75 fX8_readDeed z01
  rcases hu with q | q <;> simp (disch := omega) only [↓reduceIte, if_pos, if_neg, bd_some, nmV_e, inB_in, nI_cl, nI_leE, nI_ltE, nI_eqE, nI_add, pk_mul, lit_e, in_0_1, in_0_2, in_0_4, in_0_9, in_1_9, in_1_6, in_1_30, in_0_255, nI_ti, bI_i, bI_r, bI_j, bW_i, bW_j, bA_i, bA_j, bO_i, bO_r, bO_j, bJ_i, bJ_r, bJ_j, h2, hl, h6, h7, h8, e, q, true_or, or_true]
end
/-- what has been read so far: the class's well, the reference's rows -/
def RD (nt nq nd : Nat) (wd : Nat → Nat → Nat) (Sw Sm : Bk) : Prop := WB nt nq nd wd ∧ RWc nt nq nd wd Sw ∧ RWm nt nq nd wd (sh Sm)
def wdT (wd : Nat → Nat → Nat) (nt : Nat) (g : Nat → Nat) : Nat → Nat → Nat := fun a t => if t = nt ∧ a < 3 then g a else wd a t
def wdQ (wd : Nat → Nat → Nat) (nq : Nat) (g : Nat → Nat) : Nat → Nat → Nat := fun a t => if t = nq ∧ a = 3 then g 0 else if t = nq ∧ a = 4 then g 1 else if t = nq ∧ a = 11 then g 2 else if t = nq ∧ a = 5 then g 3 else wd a t
def wdD (wd : Nat → Nat → Nat) (nd : Nat) (g : Nat → Nat) : Nat → Nat → Nat := fun a t => if t = nd ∧ 6 ≤ a ∧ a ≤ 10 then g (a - 6) else wd a t
section
variable {nt nq nd : Nat} {wd : Nat → Nat → Nat} {Sw Sm Sm' : Bk} {P : Nat → Int32} {g : Nat → Nat}
theorem addT (hR : RD nt nq nd wd Sw Sm) (hnt : nt < 4) (hg : ∀ k, k < 3 → P k = nI (g k) ∧ loT k ≤ g k ∧ g k ≤ hiT k) (q1 : ∀ q, q ≠ 2 → q ≠ 6 → Sm'.1 q = Sm.1 q) (q2 : ∀ r, r ≠ 4 → Sm'.2.1 r = Sm.2.1 r) (q3 : ∀ x, x < 3 * nt ∨ 3 * nt + 3 ≤ x → Sm'.2.1 4 x = Sm.2.1 4 x) (q4 : Sm'.1 6 = nI (nt + 1)) (q5 : ∀ k, k < 3 → Sm'.2.1 4 (3 * nt + k) = nI (g k)) : ∃ u, fX6_add Sw P 5 (nI 84) = some u ∧ RD (nt + 1) nq nd (wdT wd nt g) u Sm' := by
  obtain ⟨⟨b1, b2, b3, b4, b5, b6⟩, ⟨w1, w2, w3, w4, w5, w6, w7⟩, ⟨v1, v2, v3, v4, v5, v6⟩⟩ := hR
  obtain ⟨p0, l0, h0⟩ := hg 0 (by omega)
  obtain ⟨p1, l1, h1⟩ := hg 1 (by omega)
  obtain ⟨p2, l2, h2⟩ := hg 2 (by omega)
  have hadd : fX6_add Sw P 5 (nI 84) = some (bA (bA (bA (bO Sw (bI (bW (bW (bW Sw 0 nt (nI (g 0))) 1 nt (nI (g 1))) 2 nt (nI (g 2))) 0 (nI (nt + 1)))) 0 (upd (Sw.2.1 0) nt (nI (g 0)))) 1 (upd (Sw.2.1 1) nt (nI (g 1)))) 2 (upd (Sw.2.1 2) nt (nI (g 2)))) := by
    unfold fX6_add fX6_mayBegin fX6_figuresOf fX6_addThing
    rw [show Int32.ofNat 5 = nI 5 from rfl]
    simp (disch := omega) only [↓reduceIte, if_pos, if_neg, bd_some, nmV_e, inB_in, nI_cl, nI_leE, nI_ltE, nI_eqE, nI_add, pk_mul, lit_e, in_0_1, in_0_2, in_0_4, in_0_9, in_1_9, in_1_6, in_1_30, in_0_255, nI_ti, bI_i, bI_r, bI_j, bW_i, bW_j, bA_i, bA_j, bO_i, bO_r, bO_j, bJ_i, bJ_r, bJ_j, w1, p0, p1, p2, bW_r]
  have eo : ∀ a t, 3 ≤ a → wdT wd nt g a t = wd a t := fun a t ha => if_neg (by omega)
  have el : ∀ a t, t < nt → wdT wd nt g a t = wd a t := fun a t ha => if_neg (by omega)
  have en : ∀ a, a < 3 → wdT wd nt g a nt = g a := fun a ha => if_pos ⟨rfl, ha⟩
  refine ⟨_, hadd, ⟨by omega, b2, b3, fun t ht => ?_, fun q hq => ?_, fun d hd => ?_⟩, ⟨rfl, w2, w3, fun t ht => ?_, fun q hq => ?_, fun d hd => ?_, ?_⟩, ⟨q4, ?_, ?_, fun t ht => ?_, fun q hq => ?_, fun d hd => ?_⟩⟩
  · by_cases c : t = nt
    · subst c
      rw [en 0 (by omega), en 1 (by omega), en 2 (by omega)]
      unfold loT at l0; unfold hiT at h0 h1 h2
      simp (disch := omega) only [↓reduceIte, if_pos, if_neg, bd_some, nmV_e, inB_in, nI_cl, nI_leE, nI_ltE, nI_eqE, nI_add, pk_mul, lit_e, in_0_1, in_0_2, in_0_4, in_0_9, in_1_9, in_1_6, in_1_30, in_0_255, nI_ti, bI_i, bI_r, bI_j, bW_i, bW_j, bA_i, bA_j, bO_i, bO_r, bO_j, bJ_i, bJ_r, bJ_j] at l0 h0 h1 h2
      omega
    · rw [el _ _ (show t < nt by omega), el _ _ (show t < nt by omega), el _ _ (show t < nt by omega)]
      exact b4 t (by omega)
  · rw [eo 3 _ (by omega), eo 4 _ (by omega), eo 5 _ (by omega), eo 11 _ (by omega)]
    obtain ⟨x1, x2⟩ := b5 q hq
    exact ⟨by omega, x2⟩
  · rw [eo 6 _ (by omega), eo 7 _ (by omega), eo 8 _ (by omega), eo 9 _ (by omega), eo 10 _ (by omega)]
    obtain ⟨x1, x2, x3, x4, x5⟩ := b6 d hd
    exact ⟨x1, x2, x3, by omega, x5⟩
  · by_cases c : t = nt
    · subst c
      rw [en 0 (by omega), en 1 (by omega), en 2 (by omega)]
      exact ⟨if_pos rfl, if_pos rfl, if_pos rfl⟩
    · rw [el _ _ (show t < nt by omega), el _ _ (show t < nt by omega), el _ _ (show t < nt by omega)]
      obtain ⟨x1, x2, x3⟩ := w4 t (by omega)
      exact ⟨(if_neg c).trans x1, (if_neg c).trans x2, (if_neg c).trans x3⟩
  · rw [eo 3 _ (by omega), eo 4 _ (by omega), eo 5 _ (by omega)]
    exact w5 q hq
  · rw [eo 6 _ (by omega), eo 7 _ (by omega), eo 8 _ (by omega), eo 9 _ (by omega), eo 10 _ (by omega)]
    exact w6 d hd
  · obtain ⟨an, a1, a2, a3⟩ := w7
    exact ⟨an, a1, a2, fun q hq => (a3 q hq).trans (eo 11 q (by omega)).symm⟩
  · exact (q1 7 (by omega) (by omega)).trans v2
  · exact (q1 8 (by omega) (by omega)).trans v3
  · show Sm'.2.1 4 (3 * t) = _ ∧ Sm'.2.1 4 (3 * t + 1) = _ ∧ Sm'.2.1 4 (3 * t + 2) = _
    by_cases c : t = nt
    · subst c
      rw [en 0 (by omega), en 1 (by omega), en 2 (by omega)]
      exact ⟨q5 0 (by omega), q5 1 (by omega), q5 2 (by omega)⟩
    · rw [el _ _ (show t < nt by omega), el _ _ (show t < nt by omega), el _ _ (show t < nt by omega), q3 _ (by omega), q3 _ (by omega), q3 _ (by omega)]
      exact v4 t (by omega)
  · show Sm'.2.1 5 _ = _ ∧ Sm'.2.1 5 _ = _ ∧ Sm'.2.1 5 _ = _ ∧ Sm'.2.1 5 _ = _
    rw [eo 3 _ (by omega), eo 4 _ (by omega), eo 5 _ (by omega), eo 11 _ (by omega), q2 5 (by omega)]
    exact v5 q hq
  · show Sm'.2.1 6 _ = _ ∧ Sm'.2.1 6 _ = _ ∧ Sm'.2.1 6 _ = _ ∧ Sm'.2.1 6 _ = _ ∧ Sm'.2.1 6 _ = _
    rw [eo 6 _ (by omega), eo 7 _ (by omega), eo 8 _ (by omega), eo 9 _ (by omega), eo 10 _ (by omega), q2 6 (by omega)]
    exact v6 d hd
theorem addD (hR : RD nt nq nd wd Sw Sm) (hnt : 1 ≤ nt) (hnq : 1 ≤ nq) (hnd : nd < 4) (hg : ∀ k, k < 5 → P k = nI (g k) ∧ loD k ≤ g k ∧ g k ≤ hiD nt nq k) (q1 : ∀ q, q ≠ 2 → q ≠ 8 → Sm'.1 q = Sm.1 q) (q2 : ∀ r, r ≠ 6 → Sm'.2.1 r = Sm.2.1 r) (q3 : ∀ x, x < 5 * nd ∨ 5 * nd + 5 ≤ x → Sm'.2.1 6 x = Sm.2.1 6 x) (q4 : Sm'.1 8 = nI (nd + 1)) (q5 : ∀ k, k < 5 → Sm'.2.1 6 (5 * nd + k) = nI (g k)) : ∃ u, fX6_add Sw P 5 (nI 68) = some u ∧ RD nt nq (nd + 1) (wdD wd nd g) u Sm' := by
  obtain ⟨⟨b1, b2, b3, b4, b5, b6⟩, ⟨w1, w2, w3, w4, w5, w6, w7⟩, ⟨v1, v2, v3, v4, v5, v6⟩⟩ := hR
  obtain ⟨p0, l0, h0⟩ := hg 0 (by omega)
  obtain ⟨p1, l1, h1⟩ := hg 1 (by omega)
  obtain ⟨p2, l2, h2⟩ := hg 2 (by omega)
  obtain ⟨p3, l3, h3⟩ := hg 3 (by omega)
  obtain ⟨p4, l4, h4⟩ := hg 4 (by omega)
  have hadd : fX6_add Sw P 5 (nI 68) = some (bA (bA (bA (bA (bA (bO Sw (bI (bW (bW (bW (bW (bW Sw 6 nd (nI (g 0))) 7 nd (nI (g 1))) 8 nd (nI (g 2))) 9 nd (nI (g 3))) 10 nd (nI (g 4))) 3 (nI (nd + 1)))) 6 (upd (Sw.2.1 6) nd (nI (g 0)))) 7 (upd (Sw.2.1 7) nd (nI (g 1)))) 8 (upd (Sw.2.1 8) nd (nI (g 2)))) 9 (upd (Sw.2.1 9) nd (nI (g 3)))) 10 (upd (Sw.2.1 10) nd (nI (g 4)))) := by
    unfold fX6_add fX6_mayBegin fX6_figuresOf fX6_addDeed
    rw [show Int32.ofNat 5 = nI 5 from rfl]
    simp (disch := omega) only [↓reduceIte, if_pos, if_neg, bd_some, nmV_e, inB_in, nI_cl, nI_leE, nI_ltE, nI_eqE, nI_add, pk_mul, lit_e, in_0_1, in_0_2, in_0_4, in_0_9, in_1_9, in_1_6, in_1_30, in_0_255, nI_ti, bI_i, bI_r, bI_j, bW_i, bW_j, bA_i, bA_j, bO_i, bO_r, bO_j, bJ_i, bJ_r, bJ_j, w1, w2, w3, p0, p1, p2, p3, p4, bW_r]
  have eo : ∀ a t, (a < 6 ∨ 10 < a) → wdD wd nd g a t = wd a t := fun a t ha => if_neg (by omega)
  have el : ∀ a t, t < nd → wdD wd nd g a t = wd a t := fun a t ha => if_neg (by omega)
  have en : ∀ a, a < 5 → wdD wd nd g (a + 6) nd = g a := fun a ha => (if_pos (by omega)).trans (congrArg g (by omega))
  refine ⟨_, hadd, ⟨b1, b2, by omega, fun t ht => ?_, fun q hq => ?_, fun d hd => ?_⟩, ⟨w1, w2, rfl, fun t ht => ?_, fun q hq => ?_, fun d hd => ?_, ?_⟩, ⟨?_, ?_, q4, fun t ht => ?_, fun q hq => ?_, fun d hd => ?_⟩⟩
  · rw [eo 0 _ (by omega), eo 1 _ (by omega), eo 2 _ (by omega)]
    exact b4 t ht
  · rw [eo 3 _ (by omega), eo 4 _ (by omega), eo 5 _ (by omega), eo 11 _ (by omega)]
    exact b5 q hq
  · by_cases c : d = nd
    · subst c
      rw [en 0 (by omega), en 1 (by omega), en 2 (by omega), en 3 (by omega), en 4 (by omega)]
      unfold hiD at h0 h1 h2 h3 h4
      simp (disch := omega) only [↓reduceIte, if_pos, if_neg, bd_some, nmV_e, inB_in, nI_cl, nI_leE, nI_ltE, nI_eqE, nI_add, pk_mul, lit_e, in_0_1, in_0_2, in_0_4, in_0_9, in_1_9, in_1_6, in_1_30, in_0_255, nI_ti, bI_i, bI_r, bI_j, bW_i, bW_j, bA_i, bA_j, bO_i, bO_r, bO_j, bJ_i, bJ_r, bJ_j] at h0 h1 h2 h3 h4
      omega
    · rw [el _ _ (show d < nd by omega), el _ _ (show d < nd by omega), el _ _ (show d < nd by omega), el _ _ (show d < nd by omega), el _ _ (show d < nd by omega)]
      exact b6 d (by omega)
  · rw [eo 0 _ (by omega), eo 1 _ (by omega), eo 2 _ (by omega)]
    exact w4 t ht
  · rw [eo 3 _ (by omega), eo 4 _ (by omega), eo 5 _ (by omega)]
    exact w5 q hq
  · by_cases c : d = nd
    · subst c
      rw [en 0 (by omega), en 1 (by omega), en 2 (by omega), en 3 (by omega), en 4 (by omega)]
      exact ⟨if_pos rfl, if_pos rfl, if_pos rfl, if_pos rfl, if_pos rfl⟩
    · rw [el _ _ (show d < nd by omega), el _ _ (show d < nd by omega), el _ _ (show d < nd by omega), el _ _ (show d < nd by omega), el _ _ (show d < nd by omega)]
      obtain ⟨x1, x2, x3, x4, x5⟩ := w6 d (by omega)
      exact ⟨(if_neg c).trans x1, (if_neg c).trans x2, (if_neg c).trans x3, (if_neg c).trans x4, (if_neg c).trans x5⟩
  · obtain ⟨an, a1, a2, a3⟩ := w7
    exact ⟨an, a1, a2, fun q hq => (a3 q hq).trans (eo 11 q (by omega)).symm⟩
  · exact (q1 6 (by omega) (by omega)).trans v1
  · exact (q1 7 (by omega) (by omega)).trans v2
  · show Sm'.2.1 4 _ = _ ∧ Sm'.2.1 4 _ = _ ∧ Sm'.2.1 4 _ = _
    rw [eo 0 _ (by omega), eo 1 _ (by omega), eo 2 _ (by omega), q2 4 (by omega)]
    exact v4 t ht
  · show Sm'.2.1 5 _ = _ ∧ Sm'.2.1 5 _ = _ ∧ Sm'.2.1 5 _ = _ ∧ Sm'.2.1 5 _ = _
    rw [eo 3 _ (by omega), eo 4 _ (by omega), eo 5 _ (by omega), eo 11 _ (by omega), q2 5 (by omega)]
    exact v5 q hq
  · show Sm'.2.1 6 (5 * d) = _ ∧ Sm'.2.1 6 (5 * d + 1) = _ ∧ Sm'.2.1 6 (5 * d + 2) = _ ∧ Sm'.2.1 6 (5 * d + 3) = _ ∧ Sm'.2.1 6 (5 * d + 4) = _
    by_cases c : d = nd
    · subst c
      rw [en 0 (by omega), en 1 (by omega), en 2 (by omega), en 3 (by omega), en 4 (by omega)]
      exact ⟨q5 0 (by omega), q5 1 (by omega), q5 2 (by omega), q5 3 (by omega), q5 4 (by omega)⟩
    · rw [el _ _ (show d < nd by omega), el _ _ (show d < nd by omega), el _ _ (show d < nd by omega), el _ _ (show d < nd by omega), el _ _ (show d < nd by omega), q3 _ (by omega), q3 _ (by omega), q3 _ (by omega), q3 _ (by omega), q3 _ (by omega)]
      exact v6 d (by omega)
theorem addQ (hR : RD nt nq nd wd Sw Sm) (hnt : 1 ≤ nt) (hnq : nq < 4) (hg : ∀ k, k < 4 → P k = nI (g k) ∧ loQ k ≤ g k ∧ g k ≤ hiQ nt k) (q1 : ∀ q, q ≠ 2 → q ≠ 7 → Sm'.1 q = Sm.1 q) (q2 : ∀ r, r ≠ 5 → Sm'.2.1 r = Sm.2.1 r) (q3 : ∀ x, x < 4 * nq ∨ 4 * nq + 4 ≤ x → Sm'.2.1 5 x = Sm.2.1 5 x) (q4 : Sm'.1 7 = nI (nq + 1)) (q5 : ∀ k, k < 4 → Sm'.2.1 5 (4 * nq + k) = nI (g k)) : ∃ u, fX6_add Sw P 5 (nI 81) = some u ∧ RD nt (nq + 1) nd (wdQ wd nq g) u Sm' := by
  obtain ⟨⟨b1, b2, b3, b4, b5, b6⟩, ⟨w1, w2, w3, w4, w5, w6, w7⟩, ⟨v1, v2, v3, v4, v5, v6⟩⟩ := hR
  obtain ⟨an, a1, a2, a3⟩ := w7
  obtain ⟨p0, l0, h0⟩ := hg 0 (by omega)
  obtain ⟨p1, l1, h1⟩ := hg 1 (by omega)
  obtain ⟨p2, l2, h2⟩ := hg 2 (by omega)
  obtain ⟨p3, l3, h3⟩ := hg 3 (by omega)
  have h2' : g 2 ≤ 1 := h2
  have ha : ∃ an', an' < 2 ^ (nq + 1) ∧ nI an ||| (nI (g 2) <<< (nI nq &&& nI 31)) = nI an' ∧ (∀ q, q < nq → an' / 2 ^ q % 2 = an / 2 ^ q % 2) ∧ an' / 2 ^ nq % 2 = g 2 := by
    have hp : 2 ^ nq < 2 ^ (nq + 1) := Nat.pow_lt_pow_right (by omega) (by omega)
    rcases (show g 2 = 0 ∨ g 2 = 1 by omega) with c | c
    · refine ⟨an, by omega, ?_, fun _ _ => rfl, ?_⟩
      · rw [c, show nI 0 <<< (nI nq &&& nI 31) = nI 0 from ?_, or_0]
        have := pk_shlN (n := 0) (nI nq &&& 31) nq (sm_l nq (by omega)) (by omega)
        rw [Nat.zero_mul] at this
        exact this
      · rw [Nat.div_eq_of_lt a1, c]
    · refine ⟨an ||| 2 ^ nq, or_lt (by omega) (by omega), ?_, fun q hq => ?_, ?_⟩
      · rw [c, shl_n (by omega), fa_or]
      · rw [bt_or, if_neg (by omega)]
      · rw [bt_or, if_pos rfl, c]
  obtain ⟨an', x1, x2, x3, x4⟩ := ha
  have hadd : fX6_add Sw P 5 (nI 81) = some (bA (bA (bA (bO Sw (bI (bW (bI (bW (bW Sw 3 nq (nI (g 0))) 4 nq (nI (g 1))) 2 (nI an')) 5 nq (nI (g 3))) 1 (nI (nq + 1)))) 3 (upd (Sw.2.1 3) nq (nI (g 0)))) 4 (upd (Sw.2.1 4) nq (nI (g 1)))) 5 (upd (Sw.2.1 5) nq (nI (g 3)))) := by
    unfold fX6_add fX6_mayBegin fX6_figuresOf fX6_addQuestion
    rw [show Int32.ofNat 5 = nI 5 from rfl]
    simp (disch := omega) only [↓reduceIte, if_pos, if_neg, bd_some, nmV_e, inB_in, nI_cl, nI_leE, nI_ltE, nI_eqE, nI_add, pk_mul, lit_e, in_0_1, in_0_2, in_0_4, in_0_9, in_1_9, in_1_6, in_1_30, in_0_255, nI_ti, bI_i, bI_r, bI_j, bW_i, bW_j, bA_i, bA_j, bO_i, bO_r, bO_j, bJ_i, bJ_r, bJ_j, w1, w2, p0, p1, p2, p3, bW_r, a2, x2]
  have eo : ∀ a t, (a < 3 ∨ (5 < a ∧ a ≠ 11)) → wdQ wd nq g a t = wd a t := fun a t ha => by
    unfold wdQ
    rw [if_neg (by omega), if_neg (by omega), if_neg (by omega), if_neg (by omega)]
  have el : ∀ a t, t < nq → wdQ wd nq g a t = wd a t := fun a t ha => by
    unfold wdQ
    rw [if_neg (by omega), if_neg (by omega), if_neg (by omega), if_neg (by omega)]
  have e3 : wdQ wd nq g 3 nq = g 0 := if_pos ⟨rfl, rfl⟩
  have e4 : wdQ wd nq g 4 nq = g 1 := (if_neg (by omega)).trans (if_pos ⟨rfl, rfl⟩)
  have e11 : wdQ wd nq g 11 nq = g 2 := (if_neg (by omega)).trans ((if_neg (by omega)).trans (if_pos ⟨rfl, rfl⟩))
  have e5 : wdQ wd nq g 5 nq = g 3 := (if_neg (by omega)).trans ((if_neg (by omega)).trans ((if_neg (by omega)).trans (if_pos ⟨rfl, rfl⟩)))
  refine ⟨_, hadd, ⟨b1, by omega, b3, fun t ht => ?_, fun q hq => ?_, fun d hd => ?_⟩, ⟨w1, rfl, w3, fun t ht => ?_, fun q hq => ?_, fun d hd => ?_, ⟨an', x1, rfl, fun q hq => ?_⟩⟩, ⟨?_, q4, ?_, fun t ht => ?_, fun q hq => ?_, fun d hd => ?_⟩⟩
  · rw [eo 0 _ (by omega), eo 1 _ (by omega), eo 2 _ (by omega)]
    exact b4 t ht
  · by_cases c : q = nq
    · subst c
      rw [e3, e4, e5, e11]
      unfold hiQ at h0 h1 h2 h3
      unfold loQ at l1
      simp (disch := omega) only [↓reduceIte, if_pos, if_neg, bd_some, nmV_e, inB_in, nI_cl, nI_leE, nI_ltE, nI_eqE, nI_add, pk_mul, lit_e, in_0_1, in_0_2, in_0_4, in_0_9, in_1_9, in_1_6, in_1_30, in_0_255, nI_ti, bI_i, bI_r, bI_j, bW_i, bW_j, bA_i, bA_j, bO_i, bO_r, bO_j, bJ_i, bJ_r, bJ_j] at h0 h1 h2 h3 l1
      omega
    · rw [el _ _ (show q < nq by omega), el _ _ (show q < nq by omega), el _ _ (show q < nq by omega), el _ _ (show q < nq by omega)]
      exact b5 q (by omega)
  · rw [eo 6 _ (by omega), eo 7 _ (by omega), eo 8 _ (by omega), eo 9 _ (by omega), eo 10 _ (by omega)]
    obtain ⟨y1, y2⟩ := b6 d hd
    exact ⟨by omega, y2⟩
  · rw [eo 0 _ (by omega), eo 1 _ (by omega), eo 2 _ (by omega)]
    exact w4 t ht
  · by_cases c : q = nq
    · subst c
      rw [e3, e4, e5]
      exact ⟨if_pos rfl, if_pos rfl, if_pos rfl⟩
    · rw [el _ _ (show q < nq by omega), el _ _ (show q < nq by omega), el _ _ (show q < nq by omega)]
      obtain ⟨y1, y2, y3⟩ := w5 q (by omega)
      exact ⟨(if_neg c).trans y1, (if_neg c).trans y2, (if_neg c).trans y3⟩
  · rw [eo 6 _ (by omega), eo 7 _ (by omega), eo 8 _ (by omega), eo 9 _ (by omega), eo 10 _ (by omega)]
    exact w6 d hd
  · by_cases c : q = nq
    · subst c
      rw [e11]; exact x4
    · rw [el _ _ (show q < nq by omega), x3 q (by omega)]
      exact a3 q (by omega)
  · exact (q1 6 (by omega) (by omega)).trans v1
  · exact (q1 8 (by omega) (by omega)).trans v3
  · show Sm'.2.1 4 _ = _ ∧ Sm'.2.1 4 _ = _ ∧ Sm'.2.1 4 _ = _
    rw [eo 0 _ (by omega), eo 1 _ (by omega), eo 2 _ (by omega), q2 4 (by omega)]
    exact v4 t ht
  · show Sm'.2.1 5 (4 * q) = _ ∧ Sm'.2.1 5 (4 * q + 1) = _ ∧ Sm'.2.1 5 (4 * q + 2) = _ ∧ Sm'.2.1 5 (4 * q + 3) = _
    by_cases c : q = nq
    · subst c
      rw [e3, e4, e5, e11]
      exact ⟨q5 0 (by omega), q5 1 (by omega), q5 2 (by omega), q5 3 (by omega)⟩
    · rw [el _ _ (show q < nq by omega), el _ _ (show q < nq by omega), el _ _ (show q < nq by omega), el _ _ (show q < nq by omega), q3 _ (by omega), q3 _ (by omega), q3 _ (by omega), q3 _ (by omega)]
      exact v5 q (by omega)
  · show Sm'.2.1 6 _ = _ ∧ Sm'.2.1 6 _ = _ ∧ Sm'.2.1 6 _ = _ ∧ Sm'.2.1 6 _ = _ ∧ Sm'.2.1 6 _ = _
    rw [eo 6 _ (by omega), eo 7 _ (by omega), eo 8 _ (by omega), eo 9 _ (by omega), eo 10 _ (by omega), q2 6 (by omega)]
    exact v6 d hd
end
