def dth (wd : Nat → Nat → Nat) (th tb : Nat → Nat) (t : Nat) : Nat := if wd 2 t = 2 then (if th t < 9 then th t + 1 else th t) else th t + tb t
def cS (wd : Nat → Nat → Nat) (th tb : Nat → Nat) : Nat → Nat
  | 0 => 0
  | t + 1 => cS wd th tb t + (dth wd th tb t - th t)
section
variable {nt nq nd : Nat} {wd : Nat → Nat → Nat} {S Sw Sm : Bk} {pg : Nat → Int32} {th td tb : Nat → Nat} {kn dn : Nat}
theorem pd7 (hB : WB nt nq nd wd) (hwc : RWc nt nq nd wd Sw) (h : SQ nt nq nd wd S pg th td tb kn dn) : ∃ S', fX3_passDay Sw S = some (nI (cS wd th tb nt), bI S' 2 (S.1 2 + nI 1)) ∧ S'.1 = S.1 ∧ ∀ u, u < nt → S'.2.1 1 u = nI (dth wd th tb u) ∧ S'.2.1 2 u = nI 0 ∧ S'.2.1 3 u = nI (td u) := by
  have hnt := hB.1
  have w1 := hwc.1
  obtain ⟨a, b, S', ⟨e1, e2, e3, e4⟩, hF⟩ := lk3_inv (f := sX3_passDay_4 Sw) (fun t a b S' => a = nI (cS wd th tb t) ∧ b = nI t ∧ S'.1 = S.1 ∧ ∀ u, u < nt → (u < t → S'.2.1 1 u = nI (dth wd th tb u) ∧ S'.2.1 2 u = nI 0 ∧ S'.2.1 3 u = nI (td u)) ∧ (t ≤ u → S'.2.1 1 u = nI (th u) ∧ S'.2.1 2 u = nI (td u) ∧ S'.2.1 3 u = nI (tb u))) nt (fun t a b S' ht hI => by
    obtain ⟨e1, e2, e3, e4⟩ := hI
    obtain ⟨g0, g1, g2⟩ := hwc.2.2.2.1 t ht
    obtain ⟨b0, b1, b2, b3⟩ := hB.2.2.2.1 t ht
    obtain ⟨s1, s2, s3, s4, s5, s6, s7⟩ := h.1 t ht
    obtain ⟨q1, q2, q3⟩ := (e4 t ht).2 (Nat.le_refl t)
    refine ⟨nI (cS wd th tb (t + 1)), nI (t + 1), bW (bW (bW S' 1 t (nI (dth wd th tb t))) 3 t (nI (td t))) 2 t (nI 0), fun k => ?_, rfl, rfl, e3, fun u hu => ⟨fun c => ?_, fun c => ?_⟩⟩
    · subst e1 e2
      unfold sX3_passDay_4 gX3_passDay_38
      have e9 : nI 9 - nI (th t) = nI (9 - th t) := pk_sub s3
      by_cases c : wd 2 t = 2
      · by_cases c2 : th t < 9
        · have ed : dth wd th tb t = th t + 1 := by unfold dth; rw [if_pos c, if_pos c2]
          simp (disch := omega) only [↓reduceIte, if_pos, if_neg, bd_some, nmV_e, inB_in, nI_cl, nI_leE, nI_ltE, nI_eqE, nI_add, pk_mul, lit_e, in_0_1, in_0_2, in_0_4, in_0_9, in_1_9, in_1_6, in_1_30, in_0_255, nI_ti, bI_i, bI_r, bI_j, bW_i, bW_j, bA_i, bA_j, bO_i, bO_r, bO_j, bJ_i, bJ_r, bJ_j, w1, g2, q1, q2, q3, e9]
          rw [ed]; show _ = k (nI (cS wd th tb t + (dth wd th tb t - th t))) _ _
          rw [ed, show th t + 1 - th t = 1 by omega]
        · have ed : dth wd th tb t = th t := by unfold dth; rw [if_pos c, if_neg c2]
          simp (disch := omega) only [↓reduceIte, if_pos, if_neg, bd_some, nmV_e, inB_in, nI_cl, nI_leE, nI_ltE, nI_eqE, nI_add, pk_mul, lit_e, in_0_1, in_0_2, in_0_4, in_0_9, in_1_9, in_1_6, in_1_30, in_0_255, nI_ti, bI_i, bI_r, bI_j, bW_i, bW_j, bA_i, bA_j, bO_i, bO_r, bO_j, bJ_i, bJ_r, bJ_j, w1, g2, q1, q2, q3, e9]
          rw [ed]; show _ = k (nI (cS wd th tb t + (dth wd th tb t - th t))) _ _
          rw [ed, show th t - th t = 0 by omega, show 9 - th t = 0 by omega]; simp only [Nat.add_zero]
      · have ed : dth wd th tb t = th t + tb t := by unfold dth; rw [if_neg c]
        have tb9 : ¬ 9 - th t < tb t := by
          by_cases cl : wd 2 t = 1
          · have := (s6 cl).2.2; omega
          · have := s7 cl; omega
        have tb8 : tb t < 100 := by omega
        simp (disch := omega) only [↓reduceIte, if_pos, if_neg, bd_some, nmV_e, inB_in, nI_cl, nI_leE, nI_ltE, nI_eqE, nI_add, pk_mul, lit_e, in_0_1, in_0_2, in_0_4, in_0_9, in_1_9, in_1_6, in_1_30, in_0_255, nI_ti, bI_i, bI_r, bI_j, bW_i, bW_j, bA_i, bA_j, bO_i, bO_r, bO_j, bJ_i, bJ_r, bJ_j, w1, g2, q1, q2, q3, e9]
        rw [ed]; show _ = k (nI (cS wd th tb t + (dth wd th tb t - th t))) _ _
        rw [ed, show th t + tb t - th t = tb t by omega]
    · by_cases c2 : u = t
      · subst c2
        simp (disch := omega) only [↓reduceIte, if_pos, if_neg, bd_some, nmV_e, inB_in, nI_cl, nI_leE, nI_ltE, nI_eqE, nI_add, pk_mul, lit_e, in_0_1, in_0_2, in_0_4, in_0_9, in_1_9, in_1_6, in_1_30, in_0_255, nI_ti, bI_i, bI_r, bI_j, bW_i, bW_j, bA_i, bA_j, bO_i, bO_r, bO_j, bJ_i, bJ_r, bJ_j, bW_r, upd_a, and_self]
      · simp (disch := omega) only [↓reduceIte, if_pos, if_neg, bd_some, nmV_e, inB_in, nI_cl, nI_leE, nI_ltE, nI_eqE, nI_add, pk_mul, lit_e, in_0_1, in_0_2, in_0_4, in_0_9, in_1_9, in_1_6, in_1_30, in_0_255, nI_ti, bI_i, bI_r, bI_j, bW_i, bW_j, bA_i, bA_j, bO_i, bO_r, bO_j, bJ_i, bJ_r, bJ_j, bW_r, upd_a, c2]
        exact (e4 u hu).1 (by omega)
    · simp (disch := omega) only [↓reduceIte, if_pos, if_neg, bd_some, nmV_e, inB_in, nI_cl, nI_leE, nI_ltE, nI_eqE, nI_add, pk_mul, lit_e, in_0_1, in_0_2, in_0_4, in_0_9, in_1_9, in_1_6, in_1_30, in_0_255, nI_ti, bI_i, bI_r, bI_j, bW_i, bW_j, bA_i, bA_j, bO_i, bO_r, bO_j, bJ_i, bJ_r, bJ_j, bW_r, upd_a]
      exact (e4 u hu).2 (by omega)) (nI 0) (nI 0) S ⟨rfl, rfl, rfl, fun u hu => ⟨fun c => absurd c (by omega), fun _ => ⟨(h.1 u hu).1, (h.1 u hu).2.2.2.1, (h.1 u hu).2.2.2.2.1⟩⟩⟩
  obtain ⟨k, hk⟩ := hF 1000 (by omega)
  refine ⟨S', ?_, e3, fun u hu => (e4 u hu).1 hu⟩
  unfold fX3_passDay
  refine hk.trans ?_
  subst e1 e2
  unfold sX3_passDay_4
  simp (disch := omega) only [↓reduceIte, if_pos, if_neg, bd_some, nmV_e, inB_in, nI_cl, nI_leE, nI_ltE, nI_eqE, nI_add, pk_mul, lit_e, in_0_1, in_0_2, in_0_4, in_0_9, in_1_9, in_1_6, in_1_30, in_0_255, nI_ti, bI_i, bI_r, bI_j, bW_i, bW_j, bA_i, bA_j, bO_i, bO_r, bO_j, bJ_i, bJ_r, bJ_j, w1, e3]
theorem pd8 (hB : WB nt nq nd wd) (hwm : RWm nt nq nd wd Sm) (h : SQ nt nq nd wd S pg th td tb kn dn) : ∃ P, fX8_goDay Sm pg 16 = some (nI (cS wd th tb nt), upd P 14 (pg 14 + nI 1)) ∧ (∀ j, 12 ≤ j → P j = pg j) ∧ ∀ u, u < nt → P u = nI (dth wd th tb u) ∧ (wd 2 u = 1 → P (4 + u) = nI 0 ∧ P (8 + u) = nI (td u)) := by
  have hnt := hB.1
  have w1 := hwm.1
  obtain ⟨a, b, P, ⟨e1, e2, e3, e4⟩, hF⟩ := lk3_inv (f := sX8_goDay_4 Sm 16) (fun t a b P => a = nI (cS wd th tb t) ∧ b = nI t ∧ (∀ j, 12 ≤ j → P j = pg j) ∧ ∀ u, u < nt → (u < t → P u = nI (dth wd th tb u) ∧ (wd 2 u = 1 → P (4 + u) = nI 0 ∧ P (8 + u) = nI (td u))) ∧ (t ≤ u → P u = nI (th u) ∧ (wd 2 u = 1 → P (4 + u) = nI (td u) ∧ P (8 + u) = nI (tb u)))) nt (fun t a b P ht hI => by
    obtain ⟨e1, e2, e3, e4⟩ := hI
    obtain ⟨g0, g1, g2⟩ := hwm.2.2.2.1 t ht
    obtain ⟨b0, b1, b2, b3⟩ := hB.2.2.2.1 t ht
    obtain ⟨s1, s2, s3, s4, s5, s6, s7⟩ := h.1 t ht
    obtain ⟨q1, q2⟩ := (e4 t ht).2 (Nat.le_refl t)
    refine ⟨nI (cS wd th tb (t + 1)), nI (t + 1), upd (upd (upd P t (nI (dth wd th tb t))) (8 + t) (P (4 + t))) (4 + t) (nI 0), fun k => ?_, rfl, rfl, fun j hj => ?_, fun u hu => ⟨fun c => ?_, fun c => ?_⟩⟩
    · subst e1 e2
      unfold sX8_goDay_4 gX8_goDay_61 gX8_goDay_62
      by_cases c : wd 2 t = 2
      · by_cases c2 : th t < 9
        · have ed : dth wd th tb t = th t + 1 := by unfold dth; rw [if_pos c, if_pos c2]
          simp (disch := omega) only [↓reduceIte, if_pos, if_neg, bd_some, nmV_e, inB_in, nI_cl, nI_leE, nI_ltE, nI_eqE, nI_add, pk_mul, lit_e, in_0_1, in_0_2, in_0_4, in_0_9, in_1_9, in_1_6, in_1_30, in_0_255, nI_ti, bI_i, bI_r, bI_j, bW_i, bW_j, bA_i, bA_j, bO_i, bO_r, bO_j, bJ_i, bJ_r, bJ_j, w1, g2, q1, upd_a]
          rw [ed]; show _ = k (nI (cS wd th tb t + (dth wd th tb t - th t))) _ _
          rw [ed, show th t + 1 - th t = 1 by omega]
        · have ed : dth wd th tb t = th t := by unfold dth; rw [if_pos c, if_neg c2]
          simp (disch := omega) only [↓reduceIte, if_pos, if_neg, bd_some, nmV_e, inB_in, nI_cl, nI_leE, nI_ltE, nI_eqE, nI_add, pk_mul, lit_e, in_0_1, in_0_2, in_0_4, in_0_9, in_1_9, in_1_6, in_1_30, in_0_255, nI_ti, bI_i, bI_r, bI_j, bW_i, bW_j, bA_i, bA_j, bO_i, bO_r, bO_j, bJ_i, bJ_r, bJ_j, w1, g2, q1, upd_a, Nat.add_zero]
          rw [ed]; show _ = k (nI (cS wd th tb t + (dth wd th tb t - th t))) _ _
          rw [ed, show th t - th t = 0 by omega]; simp only [Nat.add_zero]
      · have ed : dth wd th tb t = th t + tb t := by unfold dth; rw [if_neg c]
        by_cases c3 : wd 2 t = 1
        · obtain ⟨l1, l2, l3⟩ := s6 c3
          obtain ⟨q3, q4⟩ := q2 c3
          simp (disch := omega) only [↓reduceIte, if_pos, if_neg, bd_some, nmV_e, inB_in, nI_cl, nI_leE, nI_ltE, nI_eqE, nI_add, pk_mul, lit_e, in_0_1, in_0_2, in_0_4, in_0_9, in_1_9, in_1_6, in_1_30, in_0_255, nI_ti, bI_i, bI_r, bI_j, bW_i, bW_j, bA_i, bA_j, bO_i, bO_r, bO_j, bJ_i, bJ_r, bJ_j, w1, g2, q1, q4, upd_a]
          rw [ed]; show _ = k (nI (cS wd th tb t + (dth wd th tb t - th t))) _ _
          rw [ed, show th t + tb t - th t = tb t by omega]
        · have z := (s7 c3).2
          simp (disch := omega) only [↓reduceIte, if_pos, if_neg, bd_some, nmV_e, inB_in, nI_cl, nI_leE, nI_ltE, nI_eqE, nI_add, pk_mul, lit_e, in_0_1, in_0_2, in_0_4, in_0_9, in_1_9, in_1_6, in_1_30, in_0_255, nI_ti, bI_i, bI_r, bI_j, bW_i, bW_j, bA_i, bA_j, bO_i, bO_r, bO_j, bJ_i, bJ_r, bJ_j, w1, g2, q1, upd_a, Nat.add_zero]
          rw [ed]; show _ = k (nI (cS wd th tb t + (dth wd th tb t - th t))) _ _
          rw [ed, show th t + tb t - th t = 0 by omega, z]; simp only [Nat.add_zero]
    · simp (disch := omega) only [↓reduceIte, if_pos, if_neg, bd_some, nmV_e, inB_in, nI_cl, nI_leE, nI_ltE, nI_eqE, nI_add, pk_mul, lit_e, in_0_1, in_0_2, in_0_4, in_0_9, in_1_9, in_1_6, in_1_30, in_0_255, nI_ti, bI_i, bI_r, bI_j, bW_i, bW_j, bA_i, bA_j, bO_i, bO_r, bO_j, bJ_i, bJ_r, bJ_j, upd_a]; exact e3 j hj
    · by_cases c2 : u = t
      · subst c2
        simp (disch := omega) only [↓reduceIte, if_pos, if_neg, bd_some, nmV_e, inB_in, nI_cl, nI_leE, nI_ltE, nI_eqE, nI_add, pk_mul, lit_e, in_0_1, in_0_2, in_0_4, in_0_9, in_1_9, in_1_6, in_1_30, in_0_255, nI_ti, bI_i, bI_r, bI_j, bW_i, bW_j, bA_i, bA_j, bO_i, bO_r, bO_j, bJ_i, bJ_r, bJ_j, upd_a]
        exact ⟨trivial, fun c3 => ⟨trivial, (q2 c3).1⟩⟩
      · simp (disch := omega) only [↓reduceIte, if_pos, if_neg, bd_some, nmV_e, inB_in, nI_cl, nI_leE, nI_ltE, nI_eqE, nI_add, pk_mul, lit_e, in_0_1, in_0_2, in_0_4, in_0_9, in_1_9, in_1_6, in_1_30, in_0_255, nI_ti, bI_i, bI_r, bI_j, bW_i, bW_j, bA_i, bA_j, bO_i, bO_r, bO_j, bJ_i, bJ_r, bJ_j, upd_a]
        exact (e4 u hu).1 (by omega)
    · simp (disch := omega) only [↓reduceIte, if_pos, if_neg, bd_some, nmV_e, inB_in, nI_cl, nI_leE, nI_ltE, nI_eqE, nI_add, pk_mul, lit_e, in_0_1, in_0_2, in_0_4, in_0_9, in_1_9, in_1_6, in_1_30, in_0_255, nI_ti, bI_i, bI_r, bI_j, bW_i, bW_j, bA_i, bA_j, bO_i, bO_r, bO_j, bJ_i, bJ_r, bJ_j, upd_a]
      exact (e4 u hu).2 (by omega)) (nI 0) (nI 0) pg ⟨rfl, rfl, fun _ _ => rfl, fun u hu => ⟨fun c => absurd c (by omega), fun _ => ⟨(h.1 u hu).2.1, fun c => ⟨((h.1 u hu).2.2.2.2.2.1 c).1, ((h.1 u hu).2.2.2.2.2.1 c).2.1⟩⟩⟩⟩
  obtain ⟨k, hk⟩ := hF 1000 (by omega)
  refine ⟨P, ?_, e3, fun u hu => (e4 u hu).1 hu⟩
  unfold fX8_goDay
  refine hk.trans ?_
  subst e1 e2
  unfold sX8_goDay_4
  simp (disch := omega) only [↓reduceIte, if_pos, if_neg, bd_some, nmV_e, inB_in, nI_cl, nI_leE, nI_ltE, nI_eqE, nI_add, pk_mul, lit_e, in_0_1, in_0_2, in_0_4, in_0_9, in_1_9, in_1_6, in_1_30, in_0_255, nI_ti, bI_i, bI_r, bI_j, bW_i, bW_j, bA_i, bA_j, bO_i, bO_r, bO_j, bJ_i, bJ_r, bJ_j, w1, e3]
/-- a day goes by -/
theorem pd (hB : WB nt nq nd wd) (hwc : RWc nt nq nd wd Sw) (hwm : RWm nt nq nd wd Sm) (h : SR nt nq nd wd S pg) : ∃ r S' P, fX3_passDay Sw S = some (r, S') ∧ fX8_goDay Sm pg 16 = some (r, P) ∧ SR nt nq nd wd S' P := by
  obtain ⟨th, td, tb, kn, dn, h⟩ := sr_sq h
  obtain ⟨S', c7, e1, e2⟩ := pd7 hB hwc h
  obtain ⟨P, c8, e3, e4⟩ := pd8 hB hwm h
  have hnt := hB.1
  obtain ⟨h1, h2, h3, h4, h5, h6, h7, h8, h9, h10⟩ := h
  refine ⟨_, _, _, c7, c8, dth wd th tb, fun _ => 0, td, kn, dn, fun t ht => ?_, ?_, ?_, h4, ?_, ?_, h7, ?_, ?_, ?_⟩
  · obtain ⟨f1, f2, f3⟩ := e2 t ht
    obtain ⟨p1, p2⟩ := e4 t ht
    obtain ⟨s1, s2, s3, s4, s5, s6, s7⟩ := h1 t ht
    obtain ⟨b0, b1, b2, b3⟩ := hB.2.2.2.1 t ht
    refine ⟨f1, (if_neg (by omega)).trans p1, ?_, f2, f3, fun c => ⟨(if_neg (by omega)).trans (p2 c).1, (if_neg (by omega)).trans (p2 c).2, ?_⟩, fun c => ⟨rfl, (s7 c).1⟩⟩
    · unfold dth
      by_cases c : wd 2 t = 2
      · rw [if_pos c]; split <;> omega
      · rw [if_neg c]
        by_cases c2 : wd 2 t = 1
        · have := (s6 c2).2.2; omega
        · have := s7 c2; omega
    · have := (s6 c).2.2
      show dth wd th tb t + 0 + td t = wd 0 t
      unfold dth
      rw [if_neg (by omega)]; omega
  · show S'.1 0 = _
    rw [e1]; exact h2
  · exact (if_neg (by omega)).trans ((e3 12 (by omega)).trans h3)
  · show S'.1 1 = _
    rw [e1]; exact h5
  · exact (if_neg (by omega)).trans ((e3 13 (by omega)).trans h6)
  · show S.1 2 + nI 1 = pg 14 + nI 1
    rw [h8]
  · show S'.1 3 = _
    rw [e1, h9]; exact ((if_neg (by omega)).trans (e3 15 (by omega))).symm
  · show (S'.1 3).toInt = _
    rw [e1]; exact h10
end
/-- sets by bits -/
def bS (p : Nat → Prop) [DecidablePred p] : Nat → Nat
  | 0 => 0
  | n + 1 => if p n then bS p n ||| 2 ^ n else bS p n
theorem bS_lt {p : Nat → Prop} [DecidablePred p] : ∀ (n : Nat), bS p n < 2 ^ n
  | 0 => by unfold bS; omega
  | n + 1 => by
    unfold bS
    have h := bS_lt (p := p) n
    have h2 : 2 ^ n < 2 ^ (n + 1) := Nat.pow_lt_pow_right (by omega) (by omega)
    split
    · exact or_lt (by omega) (by omega)
    · omega
section
variable {nt nq nd : Nat} {wd : Nat → Nat → Nat} {S Sw Sm : Bk} {pg : Nat → Int32} {th td tb : Nat → Nat} {kn dn : Nat}
def canD (wd : Nat → Nat → Nat) (th : Nat → Nat) (kn nq : Nat) : Nat := bS (fun q => kn / 2 ^ q % 2 = 0 ∧ wd 4 q ≤ th (wd 3 q)) nq
def canA (wd : Nat → Nat → Nat) (th : Nat → Nat) (dn nd : Nat) : Nat := bS (fun q => dn / 2 ^ q % 2 = 0 ∧ wd 10 q ≤ th (wd 9 q)) nd
theorem cd7 (hB : WB nt nq nd wd) (hwc : RWc nt nq nd wd Sw) (h : SQ nt nq nd wd S pg th td tb kn dn) : fX3_drinkable Sw S = some (nI (canD wd th kn nq)) := by
  have hnq := hB.2.1
  have w2 := hwc.2.1
  unfold fX3_drinkable
  refine lk2_run (fun t => nI (bS (fun q => kn / 2 ^ q % 2 = 0 ∧ wd 4 q ≤ th (wd 3 q)) t)) (fun t => nI t) nq (fun k t ht => ?_) (fun k => ?_) 1000 (by omega)
  · have r := rd7 hB hwc h ht
    unfold sX3_drinkable_4 gX3_drinkable_29
    show _ = k (nI (if _ then _ else _)) (nI (t + 1))
    by_cases c : kn / 2 ^ t % 2 = 0 ∧ wd 4 t ≤ th (wd 3 t)
    · simp (disch := omega) only [↓reduceIte, if_pos, if_neg, bd_some, nmV_e, inB_in, nI_cl, nI_leE, nI_ltE, nI_eqE, nI_add, pk_mul, lit_e, in_0_1, in_0_2, in_0_4, in_0_9, in_1_9, in_1_6, in_1_30, in_0_255, nI_ti, bI_i, bI_r, bI_j, bW_i, bW_j, bA_i, bA_j, bO_i, bO_r, bO_j, bJ_i, bJ_r, bJ_j, w2, r, nDq0, c, shl_n, fa_or, and_self]
    · simp (disch := omega) only [↓reduceIte, if_pos, if_neg, bd_some, nmV_e, inB_in, nI_cl, nI_leE, nI_ltE, nI_eqE, nI_add, pk_mul, lit_e, in_0_1, in_0_2, in_0_4, in_0_9, in_1_9, in_1_6, in_1_30, in_0_255, nI_ti, bI_i, bI_r, bI_j, bW_i, bW_j, bA_i, bA_j, bO_i, bO_r, bO_j, bJ_i, bJ_r, bJ_j, w2, r, nDq0, c]
  · unfold sX3_drinkable_4
    simp (disch := omega) only [↓reduceIte, if_pos, if_neg, bd_some, nmV_e, inB_in, nI_cl, nI_leE, nI_ltE, nI_eqE, nI_add, pk_mul, lit_e, in_0_1, in_0_2, in_0_4, in_0_9, in_1_9, in_1_6, in_1_30, in_0_255, nI_ti, bI_i, bI_r, bI_j, bW_i, bW_j, bA_i, bA_j, bO_i, bO_r, bO_j, bJ_i, bJ_r, bJ_j, w2]
    rfl
theorem cd8 (hB : WB nt nq nd wd) (hwm : RWm nt nq nd wd Sm) (h : SQ nt nq nd wd S (Sm.2.1 7) th td tb kn dn) : fX8_canDrink Sm = some (nI (canD wd th kn nq)) := by
  have hnq := hB.2.1
  have w2 := hwm.2.1
  unfold fX8_canDrink
  refine lk2_run (fun t => nI (bS (fun q => kn / 2 ^ q % 2 = 0 ∧ wd 4 q ≤ th (wd 3 q)) t)) (fun t => nI t) nq (fun k t ht => ?_) (fun k => ?_) 1000 (by omega)
  · have r := rd8 hB hwm h ht
    unfold sX8_canDrink_4 gX8_canDrink_32
    show _ = k (nI (if _ then _ else _)) (nI (t + 1))
    by_cases c : kn / 2 ^ t % 2 = 0 ∧ wd 4 t ≤ th (wd 3 t)
    · simp (disch := omega) only [↓reduceIte, if_pos, if_neg, bd_some, nmV_e, inB_in, nI_cl, nI_leE, nI_ltE, nI_eqE, nI_add, pk_mul, lit_e, in_0_1, in_0_2, in_0_4, in_0_9, in_1_9, in_1_6, in_1_30, in_0_255, nI_ti, bI_i, bI_r, bI_j, bW_i, bW_j, bA_i, bA_j, bO_i, bO_r, bO_j, bJ_i, bJ_r, bJ_j, w2, r, nDq0, c, shl_n, fa_or, and_self]
    · simp (disch := omega) only [↓reduceIte, if_pos, if_neg, bd_some, nmV_e, inB_in, nI_cl, nI_leE, nI_ltE, nI_eqE, nI_add, pk_mul, lit_e, in_0_1, in_0_2, in_0_4, in_0_9, in_1_9, in_1_6, in_1_30, in_0_255, nI_ti, bI_i, bI_r, bI_j, bW_i, bW_j, bA_i, bA_j, bO_i, bO_r, bO_j, bJ_i, bJ_r, bJ_j, w2, r, nDq0, c, or_0]
  · unfold sX8_canDrink_4
    simp (disch := omega) only [↓reduceIte, if_pos, if_neg, bd_some, nmV_e, inB_in, nI_cl, nI_leE, nI_ltE, nI_eqE, nI_add, pk_mul, lit_e, in_0_1, in_0_2, in_0_4, in_0_9, in_1_9, in_1_6, in_1_30, in_0_255, nI_ti, bI_i, bI_r, bI_j, bW_i, bW_j, bA_i, bA_j, bO_i, bO_r, bO_j, bJ_i, bJ_r, bJ_j, w2]
    rfl
theorem ca7 (hB : WB nt nq nd wd) (hwc : RWc nt nq nd wd Sw) (h : SQ nt nq nd wd S pg th td tb kn dn) : fX3_doable Sw S = some (nI (canA wd th dn nd)) := by
  have hnd := hB.2.2.1
  have w2 := hwc.2.2.1
  unfold fX3_doable
  refine lk2_run (fun t => nI (bS (fun q => dn / 2 ^ q % 2 = 0 ∧ wd 10 q ≤ th (wd 9 q)) t)) (fun t => nI t) nd (fun k t ht => ?_) (fun k => ?_) 1000 (by omega)
  · have r := ra7 hB hwc h ht
    unfold sX3_doable_4 gX3_doable_29
    show _ = k (nI (if _ then _ else _)) (nI (t + 1))
    by_cases c : dn / 2 ^ t % 2 = 0 ∧ wd 10 t ≤ th (wd 9 t)
    · simp (disch := omega) only [↓reduceIte, if_pos, if_neg, bd_some, nmV_e, inB_in, nI_cl, nI_leE, nI_ltE, nI_eqE, nI_add, pk_mul, lit_e, in_0_1, in_0_2, in_0_4, in_0_9, in_1_9, in_1_6, in_1_30, in_0_255, nI_ti, bI_i, bI_r, bI_j, bW_i, bW_j, bA_i, bA_j, bO_i, bO_r, bO_j, bJ_i, bJ_r, bJ_j, w2, r, nAd0, c, shl_n, fa_or, and_self]
    · simp (disch := omega) only [↓reduceIte, if_pos, if_neg, bd_some, nmV_e, inB_in, nI_cl, nI_leE, nI_ltE, nI_eqE, nI_add, pk_mul, lit_e, in_0_1, in_0_2, in_0_4, in_0_9, in_1_9, in_1_6, in_1_30, in_0_255, nI_ti, bI_i, bI_r, bI_j, bW_i, bW_j, bA_i, bA_j, bO_i, bO_r, bO_j, bJ_i, bJ_r, bJ_j, w2, r, nAd0, c]
  · unfold sX3_doable_4
    simp (disch := omega) only [↓reduceIte, if_pos, if_neg, bd_some, nmV_e, inB_in, nI_cl, nI_leE, nI_ltE, nI_eqE, nI_add, pk_mul, lit_e, in_0_1, in_0_2, in_0_4, in_0_9, in_1_9, in_1_6, in_1_30, in_0_255, nI_ti, bI_i, bI_r, bI_j, bW_i, bW_j, bA_i, bA_j, bO_i, bO_r, bO_j, bJ_i, bJ_r, bJ_j, w2]
    rfl
end
theorem st_can {Se Sx Sw Ss Sy Sz Sc : Bk} {ro : Nat} {Sg : Bk} {Sp : Nat → Bk} {Sm : Bk} (hR : Rel Se Sx Sw Ss Sy Sz Sc ro Sg Sp Sm) (x1 : Int32) : ∃ (u7 : Int32) (u8 : Int32 × Bk), fX7_can Se Sw Ss x1 = some u7 ∧ fX8_can Sm x1 = some u8 ∧ u7 = u8.1 ∧ Rel Se Sx Sw Ss Sy Sz Sc ro Sg Sp (bA (bA (bA (bO Sm u8.2) 2 (u8.2.2.1 2)) 3 (u8.2.2.1 3)) 7 (u8.2.2.1 7)) := by
  have hR0 := hR
  obtain ⟨nt, nq, nd, wd, hB, hwc, hwm, hs, ht, ha, hk, hg, hj⟩ := hR
  suffices hfin : ∃ r : Int32, fX7_can Se Sw Ss x1 = some r ∧ fX8_can Sm x1 = some (r, bI Sm 0 (nI 0)) from by
    obtain ⟨r, c7, c8⟩ := hfin
    exact ⟨r, (r, bI Sm 0 (nI 0)), c7, c8, rfl, rel_sm hR0 rfl rfl rfl rfl rfl rfl rfl rfl rfl rfl rfl rfl rfl rfl rfl rfl rfl⟩
  obtain ⟨th, td, tb, kn, dn, h⟩ := sr_sq hs
  have hnd := hB.2.2.1
  have d7 := cd7 hB hwc h
  have a7 := ca7 hB hwc h
  have hwm' : RWm nt nq nd wd (bI Sm 0 (nI 0)) := hwm
  have h' : SQ nt nq nd wd Ss ((bI Sm 0 (nI 0)).2.1 7) th td tb kn dn := h
  have d8 := cd8 hB hwm' h'
  have w2 : (bI Sm 0 (nI 0)).1 5 = nI nd := hwm.2.2.1
  have run : ∀ r : Int32 × Bk, (∀ k, sX8_can_22 x1 k (nI (canA wd th dn nd)) (nI nd) (bI Sm 0 (nI 0)) = some r) → lk3 (sX8_can_22 x1) 1000 (nI 0) (nI 0) (bI Sm 0 (nI 0)) = some r := by
    intro r hr
    refine lk3_run (fun t => nI (bS (fun q => dn / 2 ^ q % 2 = 0 ∧ wd 10 q ≤ th (wd 9 q)) t)) (fun t => nI t) (fun _ => bI Sm 0 (nI 0)) nd (fun k t ht => ?_) hr 1000 (by omega)
    have r : fX8_noAct (bI Sm 0 (nI 0)) (Sm.2.1 7) 16 (nI t) = some (nAd wd th dn t) := ra8 hB hwm' h' ht
    unfold sX8_can_22 gX8_can_50
    show _ = k (nI (if _ then _ else _)) (nI (t + 1)) _
    rw [w2]
    by_cases c : dn / 2 ^ t % 2 = 0 ∧ wd 10 t ≤ th (wd 9 t)
    · simp (disch := omega) only [↓reduceIte, if_pos, if_neg, bd_some, nmV_e, inB_in, nI_cl, nI_leE, nI_ltE, nI_eqE, nI_add, pk_mul, lit_e, in_0_1, in_0_2, in_0_4, in_0_9, in_1_9, in_1_6, in_1_30, in_0_255, nI_ti, bI_i, bI_r, bI_j, bW_i, bW_j, bA_i, bA_j, bO_i, bO_r, bO_j, bJ_i, bJ_r, bJ_j, r, nAd0, c, shl_n, fa_or, and_self]
    · simp (disch := omega) only [↓reduceIte, if_pos, if_neg, bd_some, nmV_e, inB_in, nI_cl, nI_leE, nI_ltE, nI_eqE, nI_add, pk_mul, lit_e, in_0_1, in_0_2, in_0_4, in_0_9, in_1_9, in_1_6, in_1_30, in_0_255, nI_ti, bI_i, bI_r, bI_j, bW_i, bW_j, bA_i, bA_j, bO_i, bO_r, bO_j, bJ_i, bJ_r, bJ_j, r, nAd0, c, or_0]
  rcases ix x1 2 (by omega) with ⟨c, c'⟩ | ⟨c, c'⟩ | ⟨i, hi2, rfl⟩
  · refine ⟨-2, ?_, ?_⟩
    · unfold fX7_can
      simp (disch := omega) only [↓reduceIte, if_pos, if_neg, bd_some, nmV_e, inB_in, nI_cl, nI_leE, nI_ltE, nI_eqE, nI_add, pk_mul, lit_e, in_0_1, in_0_2, in_0_4, in_0_9, in_1_9, in_1_6, in_1_30, in_0_255, nI_ti, bI_i, bI_r, bI_j, bW_i, bW_j, bA_i, bA_j, bO_i, bO_r, bO_j, bJ_i, bJ_r, bJ_j, i32_eq]
    · unfold fX8_can
      simp (disch := omega) only [↓reduceIte, if_pos, if_neg, bd_some, nmV_e, inB_in, nI_cl, nI_leE, nI_ltE, nI_eqE, nI_add, pk_mul, lit_e, in_0_1, in_0_2, in_0_4, in_0_9, in_1_9, in_1_6, in_1_30, in_0_255, nI_ti, bI_i, bI_r, bI_j, bW_i, bW_j, bA_i, bA_j, bO_i, bO_r, bO_j, bJ_i, bJ_r, bJ_j]
  · refine ⟨-2, ?_, ?_⟩
    · unfold fX7_can
      simp (disch := omega) only [↓reduceIte, if_pos, if_neg, bd_some, nmV_e, inB_in, nI_cl, nI_leE, nI_ltE, nI_eqE, nI_add, pk_mul, lit_e, in_0_1, in_0_2, in_0_4, in_0_9, in_1_9, in_1_6, in_1_30, in_0_255, nI_ti, bI_i, bI_r, bI_j, bW_i, bW_j, bA_i, bA_j, bO_i, bO_r, bO_j, bJ_i, bJ_r, bJ_j, i32_eq]
    · unfold fX8_can
      simp (disch := omega) only [↓reduceIte, if_pos, if_neg, bd_some, nmV_e, inB_in, nI_cl, nI_leE, nI_ltE, nI_eqE, nI_add, pk_mul, lit_e, in_0_1, in_0_2, in_0_4, in_0_9, in_1_9, in_1_6, in_1_30, in_0_255, nI_ti, bI_i, bI_r, bI_j, bW_i, bW_j, bA_i, bA_j, bO_i, bO_r, bO_j, bJ_i, bJ_r, bJ_j]
  · rcases (show i = 0 ∨ i = 1 by omega) with rfl | rfl
    · refine ⟨nI (canD wd th kn nq), ?_, ?_⟩
      · unfold fX7_can
        simp (disch := omega) only [↓reduceIte, if_pos, if_neg, bd_some, nmV_e, inB_in, nI_cl, nI_leE, nI_ltE, nI_eqE, nI_add, pk_mul, lit_e, in_0_1, in_0_2, in_0_4, in_0_9, in_1_9, in_1_6, in_1_30, in_0_255, nI_ti, bI_i, bI_r, bI_j, bW_i, bW_j, bA_i, bA_j, bO_i, bO_r, bO_j, bJ_i, bJ_r, bJ_j, d7]
      · unfold fX8_can
        simp (disch := omega) only [↓reduceIte, if_pos, if_neg, bd_some, nmV_e, inB_in, nI_cl, nI_leE, nI_ltE, nI_eqE, nI_add, pk_mul, lit_e, in_0_1, in_0_2, in_0_4, in_0_9, in_1_9, in_1_6, in_1_30, in_0_255, nI_ti, bI_i, bI_r, bI_j, bW_i, bW_j, bA_i, bA_j, bO_i, bO_r, bO_j, bJ_i, bJ_r, bJ_j]
        refine run _ (fun k => ?_)
        unfold sX8_can_22
        rw [w2]
        simp (disch := omega) only [↓reduceIte, if_pos, if_neg, bd_some, nmV_e, inB_in, nI_cl, nI_leE, nI_ltE, nI_eqE, nI_add, pk_mul, lit_e, in_0_1, in_0_2, in_0_4, in_0_9, in_1_9, in_1_6, in_1_30, in_0_255, nI_ti, bI_i, bI_r, bI_j, bW_i, bW_j, bA_i, bA_j, bO_i, bO_r, bO_j, bJ_i, bJ_r, bJ_j, d8]
    · refine ⟨nI (canA wd th dn nd), ?_, ?_⟩
      · unfold fX7_can
        simp (disch := omega) only [↓reduceIte, if_pos, if_neg, bd_some, nmV_e, inB_in, nI_cl, nI_leE, nI_ltE, nI_eqE, nI_add, pk_mul, lit_e, in_0_1, in_0_2, in_0_4, in_0_9, in_1_9, in_1_6, in_1_30, in_0_255, nI_ti, bI_i, bI_r, bI_j, bW_i, bW_j, bA_i, bA_j, bO_i, bO_r, bO_j, bJ_i, bJ_r, bJ_j, a7]
      · unfold fX8_can
        simp (disch := omega) only [↓reduceIte, if_pos, if_neg, bd_some, nmV_e, inB_in, nI_cl, nI_leE, nI_ltE, nI_eqE, nI_add, pk_mul, lit_e, in_0_1, in_0_2, in_0_4, in_0_9, in_1_9, in_1_6, in_1_30, in_0_255, nI_ti, bI_i, bI_r, bI_j, bW_i, bW_j, bA_i, bA_j, bO_i, bO_r, bO_j, bJ_i, bJ_r, bJ_j]
        refine run _ (fun k => ?_)
        unfold sX8_can_22
        rw [w2]
        simp (disch := omega) only [↓reduceIte, if_pos, if_neg, bd_some, nmV_e, inB_in, nI_cl, nI_leE, nI_ltE, nI_eqE, nI_add, pk_mul, lit_e, in_0_1, in_0_2, in_0_4, in_0_9, in_1_9, in_1_6, in_1_30, in_0_255, nI_ti, bI_i, bI_r, bI_j, bW_i, bW_j, bA_i, bA_j, bO_i, bO_r, bO_j, bJ_i, bJ_r, bJ_j]
