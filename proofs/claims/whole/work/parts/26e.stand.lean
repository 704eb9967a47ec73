def SQ (nt nq nd : Nat) (wd : Nat → Nat → Nat) (S : Bk) (pg : Nat → Int32) (th td tb : Nat → Nat) (kn dn : Nat) : Prop := (∀ t, t < nt → S.2.1 1 t = nI (th t) ∧ pg t = nI (th t) ∧ th t ≤ 9 ∧ S.2.1 2 t = nI (td t) ∧ S.2.1 3 t = nI (tb t) ∧ (wd 2 t = 1 → pg (4 + t) = nI (td t) ∧ pg (8 + t) = nI (tb t) ∧ th t + td t + tb t = wd 0 t) ∧ (wd 2 t ≠ 1 → td t = 0 ∧ tb t = 0)) ∧ S.1 0 = nI kn ∧ pg 12 = nI kn ∧ kn < 2 ^ nq ∧ S.1 1 = nI dn ∧ pg 13 = nI dn ∧ dn < 2 ^ nd ∧ S.1 2 = pg 14 ∧ S.1 3 = pg 15 ∧ (S.1 3).toInt = wonI wd dn nd
theorem sr_sq {nt nq nd : Nat} {wd : Nat → Nat → Nat} {S : Bk} {pg : Nat → Int32} (h : SR nt nq nd wd S pg) : ∃ th td tb kn dn, SQ nt nq nd wd S pg th td tb kn dn := h
theorem sq_sr {nt nq nd : Nat} {wd : Nat → Nat → Nat} {S : Bk} {pg : Nat → Int32} {th td tb : Nat → Nat} {kn dn : Nat} (h : SQ nt nq nd wd S pg th td tb kn dn) : SR nt nq nd wd S pg := ⟨th, td, tb, kn, dn, h⟩
theorem sr_cg {nt nq nd : Nat} {wd : Nat → Nat → Nat} {S S' : Bk} {pg pg' : Nat → Int32} (h : SR nt nq nd wd S pg) (hnt : nt ≤ 4) (h0 : S'.1 0 = S.1 0) (h1 : S'.1 1 = S.1 1) (h2 : S'.1 2 = S.1 2) (h3 : S'.1 3 = S.1 3) (r1 : ∀ t, t < 4 → S'.2.1 1 t = S.2.1 1 t) (r2 : ∀ t, t < 4 → S'.2.1 2 t = S.2.1 2 t) (r3 : ∀ t, t < 4 → S'.2.1 3 t = S.2.1 3 t) (hp : ∀ j, j < 16 → pg' j = pg j) : SR nt nq nd wd S' pg' := by
  obtain ⟨th, td, tb, kn, dn, k1, k2, k3, k4, k5, k6, k7, k8, k9, k10⟩ := h
  refine ⟨th, td, tb, kn, dn, fun t ht => ?_, h0.trans k2, (hp 12 (by omega)).trans k3, k4, h1.trans k5, (hp 13 (by omega)).trans k6, k7, ?_, ?_, ?_⟩
  · obtain ⟨s1, s2, s3, s4, s5, s6, s7⟩ := k1 t ht
    exact ⟨(r1 t (by omega)).trans s1, (hp t (by omega)).trans s2, s3, (r2 t (by omega)).trans s4, (r3 t (by omega)).trans s5, fun c => ⟨(hp _ (by omega)).trans (s6 c).1, (hp _ (by omega)).trans (s6 c).2.1, (s6 c).2.2⟩, s7⟩
  · rw [h2, k8, hp 14 (by omega)]
  · rw [h3, k9, hp 15 (by omega)]
  · rw [h3, k10]
theorem sq_i {nt nq nd : Nat} {wd : Nat → Nat → Nat} {S S' : Bk} {pg pg' : Nat → Int32} {th td tb : Nat → Nat} {kn dn kn' dn' : Nat} (h : SQ nt nq nd wd S pg th td tb kn dn) (hnt : nt ≤ 4) (hr : S'.2.1 = S.2.1) (hp : ∀ j, j < 12 → pg' j = pg j) (a0 : S'.1 0 = nI kn') (b0 : pg' 12 = nI kn') (c0 : kn' < 2 ^ nq) (a1 : S'.1 1 = nI dn') (b1 : pg' 13 = nI dn') (c1 : dn' < 2 ^ nd) (a2 : S'.1 2 = pg' 14) (a3 : S'.1 3 = pg' 15) (c3 : (S'.1 3).toInt = wonI wd dn' nd) : SQ nt nq nd wd S' pg' th td tb kn' dn' := by
  refine ⟨fun t ht => ?_, a0, b0, c0, a1, b1, c1, a2, a3, c3⟩
  obtain ⟨s1, s2, s3, s4, s5, s6, s7⟩ := h.1 t ht
  rw [hr]
  exact ⟨s1, (hp t (by omega)).trans s2, s3, s4, s5, fun c => ⟨(hp _ (by omega)).trans (s6 c).1, (hp _ (by omega)).trans (s6 c).2.1, (s6 c).2.2⟩, s7⟩
def nDq (wd : Nat → Nat → Nat) (th : Nat → Nat) (kn q : Nat) : Int32 := if kn / 2 ^ q % 2 = 0 then (if wd 4 q ≤ th (wd 3 q) then nI 0 else -nI 4) else -nI 3
def nAd (wd : Nat → Nat → Nat) (th : Nat → Nat) (dn d : Nat) : Int32 := if dn / 2 ^ d % 2 = 0 then (if wd 10 d ≤ th (wd 9 d) then nI 0 else -nI 4) else -nI 3
theorem nDq0 {wd : Nat → Nat → Nat} {th : Nat → Nat} {kn q : Nat} : (nDq wd th kn q = nI 0) = (kn / 2 ^ q % 2 = 0 ∧ wd 4 q ≤ th (wd 3 q)) := by
  unfold nDq
  apply propext
  by_cases c : kn / 2 ^ q % 2 = 0
  · rw [if_pos c]
    by_cases c2 : wd 4 q ≤ th (wd 3 q)
    · rw [if_pos c2]; exact ⟨fun _ => ⟨c, c2⟩, fun _ => rfl⟩
    · rw [if_neg c2]; exact ⟨fun e => absurd e (by decide), fun e => absurd e.2 c2⟩
  · rw [if_neg c]; exact ⟨fun e => absurd e (by decide), fun e => absurd e.1 c⟩
theorem nAd0 {wd : Nat → Nat → Nat} {th : Nat → Nat} {kn q : Nat} : (nAd wd th kn q = nI 0) = (kn / 2 ^ q % 2 = 0 ∧ wd 10 q ≤ th (wd 9 q)) := by
  unfold nAd
  apply propext
  by_cases c : kn / 2 ^ q % 2 = 0
  · rw [if_pos c]
    by_cases c2 : wd 10 q ≤ th (wd 9 q)
    · rw [if_pos c2]; exact ⟨fun _ => ⟨c, c2⟩, fun _ => rfl⟩
    · rw [if_neg c2]; exact ⟨fun e => absurd e (by decide), fun e => absurd e.2 c2⟩
  · rw [if_neg c]; exact ⟨fun e => absurd e (by decide), fun e => absurd e.1 c⟩
section
variable {nt nq nd : Nat} {wd : Nat → Nat → Nat} {S Sw Sm : Bk} {pg : Nat → Int32} {th td tb : Nat → Nat} {kn dn : Nat}
theorem rd7 (hB : WB nt nq nd wd) (hwc : RWc nt nq nd wd Sw) (h : SQ nt nq nd wd S pg th td tb kn dn) {q : Nat} (hq : q < nq) : fX3_refusalToDrink Sw S (nI q) = some (nDq wd th kn q) := by
  obtain ⟨hnt, hnq, -, -, bq, -⟩ := hB
  obtain ⟨b0, b1, b2, b3, b4⟩ := bq q hq
  obtain ⟨g0, g1, g2⟩ := hwc.2.2.2.2.1 q hq
  obtain ⟨s1, -, s3, -⟩ := h.1 _ b0
  have w2 := hwc.2.1
  have hp := p2 hnq
  have k := kn7 (j := q) h.2.1 (by have := h.2.2.2.1; omega) (by omega)
  unfold fX3_refusalToDrink nDq
  simp (disch := omega) only [↓reduceIte, if_pos, if_neg, bd_some, nmV_e, inB_in, nI_cl, nI_leE, nI_ltE, nI_eqE, nI_add, pk_mul, lit_e, in_0_1, in_0_2, in_0_4, in_0_9, in_1_9, in_1_6, in_1_30, in_0_255, nI_ti, bI_i, bI_r, bI_j, bW_i, bW_j, bA_i, bA_j, bO_i, bO_r, bO_j, bJ_i, bJ_r, bJ_j, w2, k, g0, g1, s1]
  by_cases c : kn / 2 ^ q % 2 = 0
  · by_cases c2 : wd 4 q ≤ th (wd 3 q)
    · rw [if_pos c, if_pos c, if_pos c2, if_pos c2]
    · rw [if_pos c, if_pos c, if_neg c2, if_neg c2]
  · rw [if_neg c, if_neg c]
theorem rd8 (hB : WB nt nq nd wd) (hwm : RWm nt nq nd wd Sm) (h : SQ nt nq nd wd S pg th td tb kn dn) {q : Nat} (hq : q < nq) : fX8_noDrink Sm pg 16 (nI q) = some (nDq wd th kn q) := by
  obtain ⟨hnt, hnq, -, -, bq, -⟩ := hB
  obtain ⟨b0, b1, b2, b3, b4⟩ := bq q hq
  obtain ⟨m0, m1, m2, m3⟩ := hwm.2.2.2.2.1 q hq
  obtain ⟨-, s1, s3, -⟩ := h.1 _ b0
  have hp := p2 hnq
  have k := has8 (kn := kn) (j := q) (by have := h.2.2.2.1; omega) (by omega)
  have k2 := h.2.2.1
  unfold fX8_noDrink nDq
  simp (disch := omega) only [↓reduceIte, if_pos, if_neg, bd_some, nmV_e, inB_in, nI_cl, nI_leE, nI_ltE, nI_eqE, nI_add, pk_mul, lit_e, in_0_1, in_0_2, in_0_4, in_0_9, in_1_9, in_1_6, in_1_30, in_0_255, nI_ti, bI_i, bI_r, bI_j, bW_i, bW_j, bA_i, bA_j, bO_i, bO_r, bO_j, bJ_i, bJ_r, bJ_j, k2, k, m0, m1, s1]
  by_cases c : kn / 2 ^ q % 2 = 0
  · by_cases c2 : wd 4 q ≤ th (wd 3 q)
    · rw [if_pos c, if_pos c, if_pos c2, if_pos c2]
    · rw [if_pos c, if_pos c, if_neg c2, if_neg c2]
  · rw [if_neg c, if_neg c]
theorem ra7 (hB : WB nt nq nd wd) (hwc : RWc nt nq nd wd Sw) (h : SQ nt nq nd wd S pg th td tb kn dn) {q : Nat} (hq : q < nd) : fX3_refusalToDo Sw S (nI q) = some (nAd wd th dn q) := by
  obtain ⟨hnt, -, hnd, -, -, bq⟩ := hB
  obtain ⟨b0, b1, b2, b3, b4⟩ := bq q hq
  obtain ⟨g0, g1, g2, g3, g4⟩ := hwc.2.2.2.2.2.1 q hq
  obtain ⟨s1, -, s3, -⟩ := h.1 _ b3
  have w2 := hwc.2.2.1
  have hp := p2 hnd
  have k := dn7 (j := q) h.2.2.2.2.1 (by have := h.2.2.2.2.2.2.1; omega) (by omega)
  unfold fX3_refusalToDo nAd
  simp (disch := omega) only [↓reduceIte, if_pos, if_neg, bd_some, nmV_e, inB_in, nI_cl, nI_leE, nI_ltE, nI_eqE, nI_add, pk_mul, lit_e, in_0_1, in_0_2, in_0_4, in_0_9, in_1_9, in_1_6, in_1_30, in_0_255, nI_ti, bI_i, bI_r, bI_j, bW_i, bW_j, bA_i, bA_j, bO_i, bO_r, bO_j, bJ_i, bJ_r, bJ_j, w2, k, g3, g4, s1]
  by_cases c : dn / 2 ^ q % 2 = 0
  · by_cases c2 : wd 10 q ≤ th (wd 9 q)
    · rw [if_pos c, if_pos c, if_pos c2, if_pos c2]
    · rw [if_pos c, if_pos c, if_neg c2, if_neg c2]
  · rw [if_neg c, if_neg c]
theorem ra8 (hB : WB nt nq nd wd) (hwm : RWm nt nq nd wd Sm) (h : SQ nt nq nd wd S pg th td tb kn dn) {q : Nat} (hq : q < nd) : fX8_noAct Sm pg 16 (nI q) = some (nAd wd th dn q) := by
  obtain ⟨hnt, -, hnd, -, -, bq⟩ := hB
  obtain ⟨b0, b1, b2, b3, b4⟩ := bq q hq
  obtain ⟨m0, m1, m2, m3, m4⟩ := hwm.2.2.2.2.2 q hq
  obtain ⟨-, s1, s3, -⟩ := h.1 _ b3
  have hp := p2 hnd
  have k := has8 (kn := dn) (j := q) (by have := h.2.2.2.2.2.2.1; omega) (by omega)
  have k2 := h.2.2.2.2.2.1
  unfold fX8_noAct nAd
  simp (disch := omega) only [↓reduceIte, if_pos, if_neg, bd_some, nmV_e, inB_in, nI_cl, nI_leE, nI_ltE, nI_eqE, nI_add, pk_mul, lit_e, in_0_1, in_0_2, in_0_4, in_0_9, in_1_9, in_1_6, in_1_30, in_0_255, nI_ti, bI_i, bI_r, bI_j, bW_i, bW_j, bA_i, bA_j, bO_i, bO_r, bO_j, bJ_i, bJ_r, bJ_j, k2, k, m3, m4, s1]
  by_cases c : dn / 2 ^ q % 2 = 0
  · by_cases c2 : wd 10 q ≤ th (wd 9 q)
    · rw [if_pos c, if_pos c, if_pos c2, if_pos c2]
    · rw [if_pos c, if_pos c, if_neg c2, if_neg c2]
  · rw [if_neg c, if_neg c]
theorem rd7n (hwc : RWc nt nq nd wd Sw) (hnq : nq ≤ 4) {x : Int32} (hx : x.toInt < 0 ∨ (nq : Int) ≤ x.toInt) : fX3_refusalToDrink Sw S x = some (-nI 1) := by
  have w2 := hwc.2.1
  unfold fX3_refusalToDrink
  rcases hx with c | c
  · simp (disch := omega) only [↓reduceIte, if_pos, if_neg, bd_some, nmV_e, inB_in, nI_cl, nI_leE, nI_ltE, nI_eqE, nI_add, pk_mul, lit_e, in_0_1, in_0_2, in_0_4, in_0_9, in_1_9, in_1_6, in_1_30, in_0_255, nI_ti, bI_i, bI_r, bI_j, bW_i, bW_j, bA_i, bA_j, bO_i, bO_r, bO_j, bJ_i, bJ_r, bJ_j, i32_lt, w2]
  · simp (disch := omega) only [↓reduceIte, if_pos, if_neg, bd_some, nmV_e, inB_in, nI_cl, nI_leE, nI_ltE, nI_eqE, nI_add, pk_mul, lit_e, in_0_1, in_0_2, in_0_4, in_0_9, in_1_9, in_1_6, in_1_30, in_0_255, nI_ti, bI_i, bI_r, bI_j, bW_i, bW_j, bA_i, bA_j, bO_i, bO_r, bO_j, bJ_i, bJ_r, bJ_j, i32_lt, w2]
theorem ra7n (hwc : RWc nt nq nd wd Sw) (hnd : nd ≤ 4) {x : Int32} (hx : x.toInt < 0 ∨ (nd : Int) ≤ x.toInt) : fX3_refusalToDo Sw S x = some (-nI 1) := by
  have w2 := hwc.2.2.1
  unfold fX3_refusalToDo
  rcases hx with c | c
  · simp (disch := omega) only [↓reduceIte, if_pos, if_neg, bd_some, nmV_e, inB_in, nI_cl, nI_leE, nI_ltE, nI_eqE, nI_add, pk_mul, lit_e, in_0_1, in_0_2, in_0_4, in_0_9, in_1_9, in_1_6, in_1_30, in_0_255, nI_ti, bI_i, bI_r, bI_j, bW_i, bW_j, bA_i, bA_j, bO_i, bO_r, bO_j, bJ_i, bJ_r, bJ_j, i32_lt, w2]
  · simp (disch := omega) only [↓reduceIte, if_pos, if_neg, bd_some, nmV_e, inB_in, nI_cl, nI_leE, nI_ltE, nI_eqE, nI_add, pk_mul, lit_e, in_0_1, in_0_2, in_0_4, in_0_9, in_1_9, in_1_6, in_1_30, in_0_255, nI_ti, bI_i, bI_r, bI_j, bW_i, bW_j, bA_i, bA_j, bO_i, bO_r, bO_j, bJ_i, bJ_r, bJ_j, i32_lt, w2]
theorem gv (hB : WB nt nq nd wd) (hwc : RWc nt nq nd wd Sw) (h : SQ nt nq nd wd S pg th td tb kn dn) {t0 n : Nat} (ht : t0 < nt) (hn : n ≤ th t0) : ∃ S' pg', fX3_give Sw S (nI t0) (nI n) = some S' ∧ fX8_give pg 16 (nI t0) (nI n) = some pg' ∧ S'.1 = S.1 ∧ S'.2.1 3 = S.2.1 3 ∧ (∀ j, 12 ≤ j → pg' j = pg j) ∧ SQ nt nq nd wd S' pg' (fun t => if t = t0 then th t - n else th t) (fun t => if t = t0 ∧ wd 2 t = 1 then td t + n else td t) tb kn dn := by
  have hnt := hB.1
  obtain ⟨g0, g1, g2⟩ := hwc.2.2.2.1 t0 ht
  obtain ⟨b0, b1, b2, b3⟩ := hB.2.2.2.1 t0 ht
  obtain ⟨h1, h2, h3, h4, h5, h6, h7, h8, h9, h10⟩ := h
  obtain ⟨s1, s2, s3, s4, s5, s6, s7⟩ := h1 t0 ht
  have c8 : fX8_give pg 16 (nI t0) (nI n) = some (upd (upd pg t0 (nI (th t0 - n))) (4 + t0) (pg (4 + t0) + nI n)) := by
    unfold fX8_give
    simp (disch := omega) only [↓reduceIte, if_pos, if_neg, bd_some, nmV_e, inB_in, nI_cl, nI_leE, nI_ltE, nI_eqE, nI_add, pk_mul, lit_e, in_0_1, in_0_2, in_0_4, in_0_9, in_1_9, in_1_6, in_1_30, in_0_255, nI_ti, bI_i, bI_r, bI_j, bW_i, bW_j, bA_i, bA_j, bO_i, bO_r, bO_j, bJ_i, bJ_r, bJ_j, s2, pk_sub, upd_a]
  by_cases hl : wd 2 t0 = 1
  · obtain ⟨l1, l2, l3⟩ := s6 hl
    have c7 : fX3_give Sw S (nI t0) (nI n) = some (bW (bW S 1 t0 (nI (th t0 - n))) 2 t0 (nI (td t0 + n))) := by
      unfold fX3_give
      simp (disch := omega) only [↓reduceIte, if_pos, if_neg, bd_some, nmV_e, inB_in, nI_cl, nI_leE, nI_ltE, nI_eqE, nI_add, pk_mul, lit_e, in_0_1, in_0_2, in_0_4, in_0_9, in_1_9, in_1_6, in_1_30, in_0_255, nI_ti, bI_i, bI_r, bI_j, bW_i, bW_j, bA_i, bA_j, bO_i, bO_r, bO_j, bJ_i, bJ_r, bJ_j, s1, s4, g2, pk_sub]
    refine ⟨_, _, c7, c8, rfl, rfl, fun j hj => ?_, fun t ht' => ?_, h2, ?_, h4, h5, ?_, h7, ?_, ?_, h10⟩
    · simp (disch := omega) only [↓reduceIte, if_pos, if_neg, bd_some, nmV_e, inB_in, nI_cl, nI_leE, nI_ltE, nI_eqE, nI_add, pk_mul, lit_e, in_0_1, in_0_2, in_0_4, in_0_9, in_1_9, in_1_6, in_1_30, in_0_255, nI_ti, bI_i, bI_r, bI_j, bW_i, bW_j, bA_i, bA_j, bO_i, bO_r, bO_j, bJ_i, bJ_r, bJ_j, upd_a]
    · obtain ⟨e1, e2, e3, e4, e5, e6, e7⟩ := h1 t ht'
      by_cases q : t = t0
      · subst q
        refine ⟨?_, ?_, ?_, ?_, ?_, fun c => ⟨?_, ?_, ?_⟩, fun c => absurd hl c⟩ <;> simp (disch := omega) only [↓reduceIte, if_pos, if_neg, bd_some, nmV_e, inB_in, nI_cl, nI_leE, nI_ltE, nI_eqE, nI_add, pk_mul, lit_e, in_0_1, in_0_2, in_0_4, in_0_9, in_1_9, in_1_6, in_1_30, in_0_255, nI_ti, bI_i, bI_r, bI_j, bW_i, bW_j, bA_i, bA_j, bO_i, bO_r, bO_j, bJ_i, bJ_r, bJ_j, bW_r, upd_a, e1, e2, e4, e5, l1, l2, and_self, hl] <;> omega
      · refine ⟨?_, ?_, ?_, ?_, ?_, fun c => ⟨?_, ?_, ?_⟩, fun c => ⟨?_, ?_⟩⟩ <;> (try have e6' := e6 c) <;> (try have e7' := e7 c) <;> (try obtain ⟨f1, f2, f3⟩ := e6') <;> first | omega | (simp (disch := omega) only [↓reduceIte, if_pos, if_neg, bd_some, nmV_e, inB_in, nI_cl, nI_leE, nI_ltE, nI_eqE, nI_add, pk_mul, lit_e, in_0_1, in_0_2, in_0_4, in_0_9, in_1_9, in_1_6, in_1_30, in_0_255, nI_ti, bI_i, bI_r, bI_j, bW_i, bW_j, bA_i, bA_j, bO_i, bO_r, bO_j, bJ_i, bJ_r, bJ_j, bW_r, upd_a, e1, e2, e4, e5, q, false_and]; done) | (simp (disch := omega) only [↓reduceIte, if_pos, if_neg, bd_some, nmV_e, inB_in, nI_cl, nI_leE, nI_ltE, nI_eqE, nI_add, pk_mul, lit_e, in_0_1, in_0_2, in_0_4, in_0_9, in_1_9, in_1_6, in_1_30, in_0_255, nI_ti, bI_i, bI_r, bI_j, bW_i, bW_j, bA_i, bA_j, bO_i, bO_r, bO_j, bJ_i, bJ_r, bJ_j, bW_r, upd_a, q, false_and, f1, f2]; done) | (simp (disch := omega) only [↓reduceIte, if_pos, if_neg, bd_some, nmV_e, inB_in, nI_cl, nI_leE, nI_ltE, nI_eqE, nI_add, pk_mul, lit_e, in_0_1, in_0_2, in_0_4, in_0_9, in_1_9, in_1_6, in_1_30, in_0_255, nI_ti, bI_i, bI_r, bI_j, bW_i, bW_j, bA_i, bA_j, bO_i, bO_r, bO_j, bJ_i, bJ_r, bJ_j, q, false_and]; omega)
    · simp (disch := omega) only [↓reduceIte, if_pos, if_neg, bd_some, nmV_e, inB_in, nI_cl, nI_leE, nI_ltE, nI_eqE, nI_add, pk_mul, lit_e, in_0_1, in_0_2, in_0_4, in_0_9, in_1_9, in_1_6, in_1_30, in_0_255, nI_ti, bI_i, bI_r, bI_j, bW_i, bW_j, bA_i, bA_j, bO_i, bO_r, bO_j, bJ_i, bJ_r, bJ_j, upd_a, h3]
    · simp (disch := omega) only [↓reduceIte, if_pos, if_neg, bd_some, nmV_e, inB_in, nI_cl, nI_leE, nI_ltE, nI_eqE, nI_add, pk_mul, lit_e, in_0_1, in_0_2, in_0_4, in_0_9, in_1_9, in_1_6, in_1_30, in_0_255, nI_ti, bI_i, bI_r, bI_j, bW_i, bW_j, bA_i, bA_j, bO_i, bO_r, bO_j, bJ_i, bJ_r, bJ_j, upd_a, h6]
    · simp (disch := omega) only [↓reduceIte, if_pos, if_neg, bd_some, nmV_e, inB_in, nI_cl, nI_leE, nI_ltE, nI_eqE, nI_add, pk_mul, lit_e, in_0_1, in_0_2, in_0_4, in_0_9, in_1_9, in_1_6, in_1_30, in_0_255, nI_ti, bI_i, bI_r, bI_j, bW_i, bW_j, bA_i, bA_j, bO_i, bO_r, bO_j, bJ_i, bJ_r, bJ_j, upd_a]; exact h8
    · simp (disch := omega) only [↓reduceIte, if_pos, if_neg, bd_some, nmV_e, inB_in, nI_cl, nI_leE, nI_ltE, nI_eqE, nI_add, pk_mul, lit_e, in_0_1, in_0_2, in_0_4, in_0_9, in_1_9, in_1_6, in_1_30, in_0_255, nI_ti, bI_i, bI_r, bI_j, bW_i, bW_j, bA_i, bA_j, bO_i, bO_r, bO_j, bJ_i, bJ_r, bJ_j, upd_a]; exact h9
  · have c7 : fX3_give Sw S (nI t0) (nI n) = some (bW S 1 t0 (nI (th t0 - n))) := by
      unfold fX3_give
      simp (disch := omega) only [↓reduceIte, if_pos, if_neg, bd_some, nmV_e, inB_in, nI_cl, nI_leE, nI_ltE, nI_eqE, nI_add, pk_mul, lit_e, in_0_1, in_0_2, in_0_4, in_0_9, in_1_9, in_1_6, in_1_30, in_0_255, nI_ti, bI_i, bI_r, bI_j, bW_i, bW_j, bA_i, bA_j, bO_i, bO_r, bO_j, bJ_i, bJ_r, bJ_j, s1, s4, g2, pk_sub]
    refine ⟨_, _, c7, c8, rfl, rfl, fun j hj => ?_, fun t ht' => ?_, h2, ?_, h4, h5, ?_, h7, ?_, ?_, h10⟩
    · simp (disch := omega) only [↓reduceIte, if_pos, if_neg, bd_some, nmV_e, inB_in, nI_cl, nI_leE, nI_ltE, nI_eqE, nI_add, pk_mul, lit_e, in_0_1, in_0_2, in_0_4, in_0_9, in_1_9, in_1_6, in_1_30, in_0_255, nI_ti, bI_i, bI_r, bI_j, bW_i, bW_j, bA_i, bA_j, bO_i, bO_r, bO_j, bJ_i, bJ_r, bJ_j, upd_a]
    · obtain ⟨e1, e2, e3, e4, e5, e6, e7⟩ := h1 t ht'
      by_cases q : t = t0
      · subst q
        obtain ⟨z1, z2⟩ := e7 hl
        refine ⟨?_, ?_, ?_, ?_, ?_, fun c => absurd c hl, fun c => ⟨?_, ?_⟩⟩ <;> first | omega | (simp (disch := omega) only [↓reduceIte, if_pos, if_neg, bd_some, nmV_e, inB_in, nI_cl, nI_leE, nI_ltE, nI_eqE, nI_add, pk_mul, lit_e, in_0_1, in_0_2, in_0_4, in_0_9, in_1_9, in_1_6, in_1_30, in_0_255, nI_ti, bI_i, bI_r, bI_j, bW_i, bW_j, bA_i, bA_j, bO_i, bO_r, bO_j, bJ_i, bJ_r, bJ_j, bW_r, upd_a, e1, e2, e4, e5, hl, and_false]; done) | (simp (disch := omega) only [↓reduceIte, if_pos, if_neg, bd_some, nmV_e, inB_in, nI_cl, nI_leE, nI_ltE, nI_eqE, nI_add, pk_mul, lit_e, in_0_1, in_0_2, in_0_4, in_0_9, in_1_9, in_1_6, in_1_30, in_0_255, nI_ti, bI_i, bI_r, bI_j, bW_i, bW_j, bA_i, bA_j, bO_i, bO_r, bO_j, bJ_i, bJ_r, bJ_j, hl, and_false]; omega)
      · refine ⟨?_, ?_, ?_, ?_, ?_, fun c => ⟨?_, ?_, ?_⟩, fun c => ⟨?_, ?_⟩⟩ <;> (try have e6' := e6 c) <;> (try have e7' := e7 c) <;> (try obtain ⟨f1, f2, f3⟩ := e6') <;> first | omega | (simp (disch := omega) only [↓reduceIte, if_pos, if_neg, bd_some, nmV_e, inB_in, nI_cl, nI_leE, nI_ltE, nI_eqE, nI_add, pk_mul, lit_e, in_0_1, in_0_2, in_0_4, in_0_9, in_1_9, in_1_6, in_1_30, in_0_255, nI_ti, bI_i, bI_r, bI_j, bW_i, bW_j, bA_i, bA_j, bO_i, bO_r, bO_j, bJ_i, bJ_r, bJ_j, bW_r, upd_a, e1, e2, e4, e5, q, false_and]; done) | (simp (disch := omega) only [↓reduceIte, if_pos, if_neg, bd_some, nmV_e, inB_in, nI_cl, nI_leE, nI_ltE, nI_eqE, nI_add, pk_mul, lit_e, in_0_1, in_0_2, in_0_4, in_0_9, in_1_9, in_1_6, in_1_30, in_0_255, nI_ti, bI_i, bI_r, bI_j, bW_i, bW_j, bA_i, bA_j, bO_i, bO_r, bO_j, bJ_i, bJ_r, bJ_j, bW_r, upd_a, q, false_and, f1, f2]; done) | (simp (disch := omega) only [↓reduceIte, if_pos, if_neg, bd_some, nmV_e, inB_in, nI_cl, nI_leE, nI_ltE, nI_eqE, nI_add, pk_mul, lit_e, in_0_1, in_0_2, in_0_4, in_0_9, in_1_9, in_1_6, in_1_30, in_0_255, nI_ti, bI_i, bI_r, bI_j, bW_i, bW_j, bA_i, bA_j, bO_i, bO_r, bO_j, bJ_i, bJ_r, bJ_j, q, false_and]; omega)
    · simp (disch := omega) only [↓reduceIte, if_pos, if_neg, bd_some, nmV_e, inB_in, nI_cl, nI_leE, nI_ltE, nI_eqE, nI_add, pk_mul, lit_e, in_0_1, in_0_2, in_0_4, in_0_9, in_1_9, in_1_6, in_1_30, in_0_255, nI_ti, bI_i, bI_r, bI_j, bW_i, bW_j, bA_i, bA_j, bO_i, bO_r, bO_j, bJ_i, bJ_r, bJ_j, upd_a, h3]
    · simp (disch := omega) only [↓reduceIte, if_pos, if_neg, bd_some, nmV_e, inB_in, nI_cl, nI_leE, nI_ltE, nI_eqE, nI_add, pk_mul, lit_e, in_0_1, in_0_2, in_0_4, in_0_9, in_1_9, in_1_6, in_1_30, in_0_255, nI_ti, bI_i, bI_r, bI_j, bW_i, bW_j, bA_i, bA_j, bO_i, bO_r, bO_j, bJ_i, bJ_r, bJ_j, upd_a, h6]
    · simp (disch := omega) only [↓reduceIte, if_pos, if_neg, bd_some, nmV_e, inB_in, nI_cl, nI_leE, nI_ltE, nI_eqE, nI_add, pk_mul, lit_e, in_0_1, in_0_2, in_0_4, in_0_9, in_1_9, in_1_6, in_1_30, in_0_255, nI_ti, bI_i, bI_r, bI_j, bW_i, bW_j, bA_i, bA_j, bO_i, bO_r, bO_j, bJ_i, bJ_r, bJ_j, upd_a]; exact h8
    · simp (disch := omega) only [↓reduceIte, if_pos, if_neg, bd_some, nmV_e, inB_in, nI_cl, nI_leE, nI_ltE, nI_eqE, nI_add, pk_mul, lit_e, in_0_1, in_0_2, in_0_4, in_0_9, in_1_9, in_1_6, in_1_30, in_0_255, nI_ti, bI_i, bI_r, bI_j, bW_i, bW_j, bA_i, bA_j, bO_i, bO_r, bO_j, bJ_i, bJ_r, bJ_j, upd_a]; exact h9
theorem dk (hB : WB nt nq nd wd) (hwc : RWc nt nq nd wd Sw) (hwm : RWm nt nq nd wd Sm) (h : SQ nt nq nd wd S pg th td tb kn dn) {q : Nat} (hq : q < nq) (hn : wd 4 q ≤ th (wd 3 q)) : ∃ S' pg', fX3_drinkUp Sw S (nI q) = some S' ∧ fX8_goDrink Sm pg 16 (nI q) = some pg' ∧ S'.2.1 3 = S.2.1 3 ∧ SR nt nq nd wd S' pg' := by
  have hnq := hB.2.1
  have hp := p2 hnq
  obtain ⟨b0, b1, b2, b3, b4⟩ := hB.2.2.2.2.1 q hq
  obtain ⟨g0, g1, g2⟩ := hwc.2.2.2.2.1 q hq
  obtain ⟨m0, m1, m2, m3⟩ := hwm.2.2.2.2.1 q hq
  obtain ⟨S1, p1, e1, e2, e3, e4, e5, e6⟩ := gv hB hwc h b0 hn
  obtain ⟨k2, k3, k4⟩ := e6.2
  have c7 : fX3_drinkUp Sw S (nI q) = some (bI S1 0 (nI (kn ||| 2 ^ q))) := by
    unfold fX3_drinkUp
    simp (disch := omega) only [↓reduceIte, if_pos, if_neg, bd_some, nmV_e, inB_in, nI_cl, nI_leE, nI_ltE, nI_eqE, nI_add, pk_mul, lit_e, in_0_1, in_0_2, in_0_4, in_0_9, in_1_9, in_1_6, in_1_30, in_0_255, nI_ti, bI_i, bI_r, bI_j, bW_i, bW_j, bA_i, bA_j, bO_i, bO_r, bO_j, bJ_i, bJ_r, bJ_j, g0, g1, e1, k2, shl_n, fa_or]
  have c8 : fX8_goDrink Sm pg 16 (nI q) = some (upd p1 12 (nI (kn ||| 2 ^ q))) := by
    unfold fX8_goDrink
    simp (disch := omega) only [↓reduceIte, if_pos, if_neg, bd_some, nmV_e, inB_in, nI_cl, nI_leE, nI_ltE, nI_eqE, nI_add, pk_mul, lit_e, in_0_1, in_0_2, in_0_4, in_0_9, in_1_9, in_1_6, in_1_30, in_0_255, nI_ti, bI_i, bI_r, bI_j, bW_i, bW_j, bA_i, bA_j, bO_i, bO_r, bO_j, bJ_i, bJ_r, bJ_j, m0, m1, e2, k3, shl_n, fa_or]
  refine ⟨_, _, c7, c8, e4, sq_sr (sq_i e6 hB.1 rfl (fun j hj => ?_) rfl rfl (or_lt k4.1 hq) k4.2.1 ?_ k4.2.2.2.1 ?_ ?_ k4.2.2.2.2.2.2)⟩
  · simp (disch := omega) only [↓reduceIte, if_pos, if_neg, bd_some, nmV_e, inB_in, nI_cl, nI_leE, nI_ltE, nI_eqE, nI_add, pk_mul, lit_e, in_0_1, in_0_2, in_0_4, in_0_9, in_1_9, in_1_6, in_1_30, in_0_255, nI_ti, bI_i, bI_r, bI_j, bW_i, bW_j, bA_i, bA_j, bO_i, bO_r, bO_j, bJ_i, bJ_r, bJ_j, upd_a]
  · simp (disch := omega) only [↓reduceIte, if_pos, if_neg, bd_some, nmV_e, inB_in, nI_cl, nI_leE, nI_ltE, nI_eqE, nI_add, pk_mul, lit_e, in_0_1, in_0_2, in_0_4, in_0_9, in_1_9, in_1_6, in_1_30, in_0_255, nI_ti, bI_i, bI_r, bI_j, bW_i, bW_j, bA_i, bA_j, bO_i, bO_r, bO_j, bJ_i, bJ_r, bJ_j, upd_a]; exact k4.2.2.1
  · simp (disch := omega) only [↓reduceIte, if_pos, if_neg, bd_some, nmV_e, inB_in, nI_cl, nI_leE, nI_ltE, nI_eqE, nI_add, pk_mul, lit_e, in_0_1, in_0_2, in_0_4, in_0_9, in_1_9, in_1_6, in_1_30, in_0_255, nI_ti, bI_i, bI_r, bI_j, bW_i, bW_j, bA_i, bA_j, bO_i, bO_r, bO_j, bJ_i, bJ_r, bJ_j, upd_a]; exact k4.2.2.2.2.1
  · simp (disch := omega) only [↓reduceIte, if_pos, if_neg, bd_some, nmV_e, inB_in, nI_cl, nI_leE, nI_ltE, nI_eqE, nI_add, pk_mul, lit_e, in_0_1, in_0_2, in_0_4, in_0_9, in_1_9, in_1_6, in_1_30, in_0_255, nI_ti, bI_i, bI_r, bI_j, bW_i, bW_j, bA_i, bA_j, bO_i, bO_r, bO_j, bJ_i, bJ_r, bJ_j, upd_a]; exact k4.2.2.2.2.2.1
theorem won_hi {d : Nat} : ∀ {n : Nat}, n ≤ d → wonI wd (dn ||| 2 ^ d) n = wonI wd dn n
  | 0, _ => rfl
  | n + 1, h => by
    unfold wonI
    rw [won_hi (by omega), bt_or, if_neg (show ¬ n = d by omega)]
theorem won_or {d : Nat} (hd : dn / 2 ^ d % 2 = 0) : ∀ {n : Nat}, d < n → wonI wd (dn ||| 2 ^ d) n = wonI wd dn n + winI wd d
  | 0, h => absurd h (by omega)
  | n + 1, h => by
    unfold wonI
    by_cases q : n = d
    · subst q
      rw [won_hi (Nat.le_refl n), bt_or, if_pos rfl, if_pos rfl, if_neg (by omega)]
      omega
    · rw [won_or hd (by omega), bt_or, if_neg q]
      omega
theorem win_b (hB : WB nt nq nd wd) {d : Nat} (hd : d < nd) : -9 ≤ winI wd d ∧ winI wd d ≤ 9 := by
  obtain ⟨b0, b1, b2, b3, b4⟩ := hB.2.2.2.2.2 d hd
  unfold winI
  split <;> omega
theorem won_b (hB : WB nt nq nd wd) : ∀ {n : Nat}, n ≤ nd → -(9 * (n : Int)) ≤ wonI wd dn n ∧ wonI wd dn n ≤ 9 * (n : Int)
  | 0, _ => ⟨by unfold wonI; omega, by unfold wonI; omega⟩
  | n + 1, h => by
    have i := won_b hB (n := n) (by omega)
    have j := win_b hB (d := n) (by omega)
    unfold wonI
    split <;> omega
theorem co (hB : WB nt nq nd wd) (hwc : RWc nt nq nd wd Sw) (hwm : RWm nt nq nd wd Sm) (h : SQ nt nq nd wd S pg th td tb kn dn) {d : Nat} (hd : d < nd) (h0 : dn / 2 ^ d % 2 = 0) (hn : wd 10 d ≤ th (wd 9 d)) : ∃ S' pg', fX3_carryOut Sw S (nI d) = some S' ∧ fX8_goAct Sm pg 16 (nI d) = some pg' ∧ S'.2.1 3 = S.2.1 3 ∧ SR nt nq nd wd S' pg' := by
  have hnq := hB.2.1
  have hnd := hB.2.2.1
  have hp := p2 hnd
  obtain ⟨b0, b1, b2, b3, b4⟩ := hB.2.2.2.2.2 d hd
  obtain ⟨g0, g1, g2, g3, g4⟩ := hwc.2.2.2.2.2.1 d hd
  obtain ⟨m0, m1, m2, m3, m4⟩ := hwm.2.2.2.2.2 d hd
  obtain ⟨n0, n1, n2, n3⟩ := hwm.2.2.2.2.1 (wd 6 d) b0
  have bq := (hB.2.2.2.2.1 _ b0).2.2.2.2
  obtain ⟨S1, p1, e1, e2, e3, e4, e5, e6⟩ := gv hB hwc h b3 hn
  obtain ⟨k2, k3, k4, k5, k6, k7, k8, k9, k10⟩ := e6.2
  have a7 := ans7 hB hwc b0
  have wb := won_b (wd := wd) (dn := dn) hB (Nat.le_refl nd)
  have wo := won_or (wd := wd) h0 hd
  have iv : ∃ v : Int32, v.toInt = winI wd d ∧ fX3_carryOut Sw S (nI d) = some (bI (bI S1 1 (nI (dn ||| 2 ^ d))) 3 (S1.1 3 + v)) ∧ fX8_goAct Sm pg 16 (nI d) = some (upd (upd p1 13 (nI (dn ||| 2 ^ d))) 15 (p1 15 + v)) := by
    by_cases c1 : wd 11 (wd 6 d) = wd 7 d
    · refine ⟨nI (wd 8 d), ?_, ?_, ?_⟩
      · unfold winI
        rw [if_pos c1, nI_ti (by omega)]
      · unfold fX3_carryOut fX6_swing gX3_carryOut_74
        by_cases c2 : wd 7 d = 1
        · simp (disch := omega) only [↓reduceIte, if_pos, if_neg, bd_some, nmV_e, inB_in, nI_cl, nI_leE, nI_ltE, nI_eqE, nI_add, pk_mul, lit_e, in_0_1, in_0_2, in_0_4, in_0_9, in_1_9, in_1_6, in_1_30, in_0_255, nI_ti, bI_i, bI_r, bI_j, bW_i, bW_j, bA_i, bA_j, bO_i, bO_r, bO_j, bJ_i, bJ_r, bJ_j, g0, g1, g2, g3, g4, e1, k5, shl_n, fa_or, a7]
        · simp (disch := omega) only [↓reduceIte, if_pos, if_neg, bd_some, nmV_e, inB_in, nI_cl, nI_leE, nI_ltE, nI_eqE, nI_add, pk_mul, lit_e, in_0_1, in_0_2, in_0_4, in_0_9, in_1_9, in_1_6, in_1_30, in_0_255, nI_ti, bI_i, bI_r, bI_j, bW_i, bW_j, bA_i, bA_j, bO_i, bO_r, bO_j, bJ_i, bJ_r, bJ_j, g0, g1, g2, g3, g4, e1, k5, shl_n, fa_or, a7, Int32.neg_neg]
      · unfold fX8_goAct gX8_goAct_70 gX8_goAct_104
        simp (disch := omega) only [↓reduceIte, if_pos, if_neg, bd_some, nmV_e, inB_in, nI_cl, nI_leE, nI_ltE, nI_eqE, nI_add, pk_mul, lit_e, in_0_1, in_0_2, in_0_4, in_0_9, in_1_9, in_1_6, in_1_30, in_0_255, nI_ti, bI_i, bI_r, bI_j, bW_i, bW_j, bA_i, bA_j, bO_i, bO_r, bO_j, bJ_i, bJ_r, bJ_j, m0, m1, m2, m3, m4, e2, k6, shl_n, fa_or, n2, upd_a]
    · refine ⟨-nI (wd 8 d), ?_, ?_, ?_⟩
      · unfold winI
        rw [if_neg c1, fb_negI (by rw [nI_ti (by omega)]; omega), nI_ti (by omega)]
      · unfold fX3_carryOut fX6_swing gX3_carryOut_74
        by_cases c2 : wd 7 d = 1
        · simp (disch := omega) only [↓reduceIte, if_pos, if_neg, bd_some, nmV_e, inB_in, nI_cl, nI_leE, nI_ltE, nI_eqE, nI_add, pk_mul, lit_e, in_0_1, in_0_2, in_0_4, in_0_9, in_1_9, in_1_6, in_1_30, in_0_255, nI_ti, bI_i, bI_r, bI_j, bW_i, bW_j, bA_i, bA_j, bO_i, bO_r, bO_j, bJ_i, bJ_r, bJ_j, g0, g1, g2, g3, g4, e1, k5, shl_n, fa_or, a7]
        · simp (disch := omega) only [↓reduceIte, if_pos, if_neg, bd_some, nmV_e, inB_in, nI_cl, nI_leE, nI_ltE, nI_eqE, nI_add, pk_mul, lit_e, in_0_1, in_0_2, in_0_4, in_0_9, in_1_9, in_1_6, in_1_30, in_0_255, nI_ti, bI_i, bI_r, bI_j, bW_i, bW_j, bA_i, bA_j, bO_i, bO_r, bO_j, bJ_i, bJ_r, bJ_j, g0, g1, g2, g3, g4, e1, k5, shl_n, fa_or, a7]
      · unfold fX8_goAct gX8_goAct_70 gX8_goAct_104
        simp (disch := omega) only [↓reduceIte, if_pos, if_neg, bd_some, nmV_e, inB_in, nI_cl, nI_leE, nI_ltE, nI_eqE, nI_add, pk_mul, lit_e, in_0_1, in_0_2, in_0_4, in_0_9, in_1_9, in_1_6, in_1_30, in_0_255, nI_ti, bI_i, bI_r, bI_j, bW_i, bW_j, bA_i, bA_j, bO_i, bO_r, bO_j, bJ_i, bJ_r, bJ_j, m0, m1, m2, m3, m4, e2, k6, shl_n, fa_or, n2, upd_a]
  obtain ⟨v, v1, c7, c8⟩ := iv
  have wb2 := win_b (wd := wd) hB hd
  refine ⟨_, _, c7, c8, e4, sq_sr (sq_i (kn' := kn) (dn' := dn ||| 2 ^ d) e6 hB.1 rfl (fun j hj => ?_) k2 ?_ k4 rfl ?_ (or_lt k7 hd) ?_ ?_ ?_)⟩
  · simp (disch := omega) only [↓reduceIte, if_pos, if_neg, bd_some, nmV_e, inB_in, nI_cl, nI_leE, nI_ltE, nI_eqE, nI_add, pk_mul, lit_e, in_0_1, in_0_2, in_0_4, in_0_9, in_1_9, in_1_6, in_1_30, in_0_255, nI_ti, bI_i, bI_r, bI_j, bW_i, bW_j, bA_i, bA_j, bO_i, bO_r, bO_j, bJ_i, bJ_r, bJ_j, upd_a]
  · simp (disch := omega) only [↓reduceIte, if_pos, if_neg, bd_some, nmV_e, inB_in, nI_cl, nI_leE, nI_ltE, nI_eqE, nI_add, pk_mul, lit_e, in_0_1, in_0_2, in_0_4, in_0_9, in_1_9, in_1_6, in_1_30, in_0_255, nI_ti, bI_i, bI_r, bI_j, bW_i, bW_j, bA_i, bA_j, bO_i, bO_r, bO_j, bJ_i, bJ_r, bJ_j, upd_a]; exact k3
  · simp (disch := omega) only [↓reduceIte, if_pos, if_neg, bd_some, nmV_e, inB_in, nI_cl, nI_leE, nI_ltE, nI_eqE, nI_add, pk_mul, lit_e, in_0_1, in_0_2, in_0_4, in_0_9, in_1_9, in_1_6, in_1_30, in_0_255, nI_ti, bI_i, bI_r, bI_j, bW_i, bW_j, bA_i, bA_j, bO_i, bO_r, bO_j, bJ_i, bJ_r, bJ_j, upd_a]
  · simp (disch := omega) only [↓reduceIte, if_pos, if_neg, bd_some, nmV_e, inB_in, nI_cl, nI_leE, nI_ltE, nI_eqE, nI_add, pk_mul, lit_e, in_0_1, in_0_2, in_0_4, in_0_9, in_1_9, in_1_6, in_1_30, in_0_255, nI_ti, bI_i, bI_r, bI_j, bW_i, bW_j, bA_i, bA_j, bO_i, bO_r, bO_j, bJ_i, bJ_r, bJ_j, upd_a]; exact k8
  · simp (disch := omega) only [↓reduceIte, if_pos, if_neg, bd_some, nmV_e, inB_in, nI_cl, nI_leE, nI_ltE, nI_eqE, nI_add, pk_mul, lit_e, in_0_1, in_0_2, in_0_4, in_0_9, in_1_9, in_1_6, in_1_30, in_0_255, nI_ti, bI_i, bI_r, bI_j, bW_i, bW_j, bA_i, bA_j, bO_i, bO_r, bO_j, bJ_i, bJ_r, bJ_j, upd_a]; rw [k9]
  · show (S1.1 3 + v).toInt = _
    rw [fb_addI, v1, k10, wo] <;> rw [v1, k10] <;> omega
end
