theorem w43 {S : Bk} {n : Nat} (hn : n ≤ 4) (h : S.1 3 = nI n) : ∃ u, (∀ r, lk2 sX8_well_73 1000 (nI 0) u = r → lk2 sX8_well_43 1000 (nI 0) S = r) ∧ CP S u 1 0 (3 * n) (S.2.1 4) := by
  obtain ⟨a, S', ⟨e1, e2⟩, hF⟩ := lk2_inv (f := sX8_well_43) (fun t a S' => a = nI t ∧ CP S S' 1 0 t (S.2.1 4)) (3 * n) (fun t a S' ht hI => by
    obtain ⟨e1, e2⟩ := hI
    refine ⟨nI (t + 1), bW S' 1 (0 + t) (S.2.1 4 t), fun k => ?_, rfl, cp_s e2⟩
    subst e1
    have q2 := e2.2.2.1 4 (by omega)
    have q1 : S'.1 3 = nI n := by rw [e2.1]; exact h
    unfold sX8_well_43
    simp (disch := omega) only [↓reduceIte, if_pos, if_neg, bd_some, nmV_e, inB_in, nI_cl, nI_leE, nI_ltE, nI_eqE, nI_add, pk_mul, lit_e, in_0_1, in_0_2, in_0_4, in_0_9, in_1_9, in_1_6, in_1_30, in_0_255, nI_ti, bI_i, bI_r, bI_j, bW_i, bW_j, bA_i, bA_j, bO_i, bO_r, bO_j, bJ_i, bJ_r, bJ_j, q1, q2, Nat.zero_add]) (nI 0) S ⟨rfl, cp_0⟩
  obtain ⟨k, hk⟩ := hF 1000 (by omega)
  refine ⟨S', fun r e => hk.trans ?_, e2⟩
  subst e1
  have q1 : S'.1 3 = nI n := by rw [e2.1]; exact h
  unfold sX8_well_43
  rw [q1, if_pos (by rw [show ((3 : Int32) * nI n) = nI (3 * n) from pk_mul 3 n]; exact nI_le (Nat.le_refl _) (by omega))]
  exact e
theorem w73 {S : Bk} {n : Nat} (hn : n ≤ 4) (h : S.1 4 = nI n) : ∃ u, (∀ r, lk2 sX8_well_103 1000 (nI 0) u = r → lk2 sX8_well_73 1000 (nI 0) S = r) ∧ CP S u 2 0 (4 * n) (S.2.1 5) := by
  obtain ⟨a, S', ⟨e1, e2⟩, hF⟩ := lk2_inv (f := sX8_well_73) (fun t a S' => a = nI t ∧ CP S S' 2 0 t (S.2.1 5)) (4 * n) (fun t a S' ht hI => by
    obtain ⟨e1, e2⟩ := hI
    refine ⟨nI (t + 1), bW S' 2 (0 + t) (S.2.1 5 t), fun k => ?_, rfl, cp_s e2⟩
    subst e1
    have q2 := e2.2.2.1 5 (by omega)
    have q1 : S'.1 4 = nI n := by rw [e2.1]; exact h
    unfold sX8_well_73
    simp (disch := omega) only [↓reduceIte, if_pos, if_neg, bd_some, nmV_e, inB_in, nI_cl, nI_leE, nI_ltE, nI_eqE, nI_add, pk_mul, lit_e, in_0_1, in_0_2, in_0_4, in_0_9, in_1_9, in_1_6, in_1_30, in_0_255, nI_ti, bI_i, bI_r, bI_j, bW_i, bW_j, bA_i, bA_j, bO_i, bO_r, bO_j, bJ_i, bJ_r, bJ_j, q1, q2, Nat.zero_add]) (nI 0) S ⟨rfl, cp_0⟩
  obtain ⟨k, hk⟩ := hF 1000 (by omega)
  refine ⟨S', fun r e => hk.trans ?_, e2⟩
  subst e1
  have q1 : S'.1 4 = nI n := by rw [e2.1]; exact h
  unfold sX8_well_73
  rw [q1, if_pos (by rw [show ((4 : Int32) * nI n) = nI (4 * n) from pk_mul 4 n]; exact nI_le (Nat.le_refl _) (by omega))]
  exact e
theorem w103 {S : Bk} {n : Nat} (hn : n ≤ 4) (h : S.1 5 = nI n) : ∃ u, (∀ r, lk2 sX8_well_133 1000 (nI 0) u = r → lk2 sX8_well_103 1000 (nI 0) S = r) ∧ CP S u 3 0 (5 * n) (S.2.1 6) := by
  obtain ⟨a, S', ⟨e1, e2⟩, hF⟩ := lk2_inv (f := sX8_well_103) (fun t a S' => a = nI t ∧ CP S S' 3 0 t (S.2.1 6)) (5 * n) (fun t a S' ht hI => by
    obtain ⟨e1, e2⟩ := hI
    refine ⟨nI (t + 1), bW S' 3 (0 + t) (S.2.1 6 t), fun k => ?_, rfl, cp_s e2⟩
    subst e1
    have q2 := e2.2.2.1 6 (by omega)
    have q1 : S'.1 5 = nI n := by rw [e2.1]; exact h
    unfold sX8_well_103
    simp (disch := omega) only [↓reduceIte, if_pos, if_neg, bd_some, nmV_e, inB_in, nI_cl, nI_leE, nI_ltE, nI_eqE, nI_add, pk_mul, lit_e, in_0_1, in_0_2, in_0_4, in_0_9, in_1_9, in_1_6, in_1_30, in_0_255, nI_ti, bI_i, bI_r, bI_j, bW_i, bW_j, bA_i, bA_j, bO_i, bO_r, bO_j, bJ_i, bJ_r, bJ_j, q1, q2, Nat.zero_add]) (nI 0) S ⟨rfl, cp_0⟩
  obtain ⟨k, hk⟩ := hF 1000 (by omega)
  refine ⟨S', fun r e => hk.trans ?_, e2⟩
  subst e1
  have q1 : S'.1 5 = nI n := by rw [e2.1]; exact h
  unfold sX8_well_103
  rw [q1, if_pos (by rw [show ((5 : Int32) * nI n) = nI (5 * n) from pk_mul 5 n]; exact nI_le (Nat.le_refl _) (by omega))]
  exact e
theorem w133 {S : Bk} {nt nq nd : Nat} (hnt : nt ≤ 4) (h3 : S.1 3 = nI nt) (h4 : S.1 4 = nI nq) (h5 : S.1 5 = nI nd) : ∃ u, lk2 sX8_well_133 1000 (nI 0) S = some (nI (100 * nt + 10 * nq + nd), bW (bW (bI u 9 (nI 0)) 11 0 (nI 0)) 11 1 (nI 0)) ∧ CP S u 7 0 16 (fun k => if k < nt then S.2.1 1 (3 * k) else nI 0) := by
  obtain ⟨a, S', ⟨e1, e2⟩, hF⟩ := lk2_inv (f := sX8_well_133) (fun t a S' => a = nI t ∧ CP S S' 7 0 t (fun k => if k < nt then S.2.1 1 (3 * k) else nI 0)) 16 (fun t a S' ht hI => by
    obtain ⟨e1, e2⟩ := hI
    refine ⟨nI (t + 1), bW S' 7 (0 + t) (if t < nt then S.2.1 1 (3 * t) else nI 0), fun k => ?_, rfl, cp_s (g := fun k => if k < nt then S.2.1 1 (3 * k) else nI 0) e2⟩
    subst e1
    have q2 := e2.2.2.1 1 (by omega)
    have q1 : S'.1 3 = nI nt := by rw [e2.1]; exact h3
    unfold sX8_well_133 gX8_well_164
    by_cases c : t < nt
    · simp (disch := omega) only [↓reduceIte, if_pos, if_neg, bd_some, nmV_e, inB_in, nI_cl, nI_leE, nI_ltE, nI_eqE, nI_add, pk_mul, lit_e, in_0_1, in_0_2, in_0_4, in_0_9, in_1_9, in_1_6, in_1_30, in_0_255, nI_ti, bI_i, bI_r, bI_j, bW_i, bW_j, bA_i, bA_j, bO_i, bO_r, bO_j, bJ_i, bJ_r, bJ_j, q1, q2, Nat.zero_add]
    · simp (disch := omega) only [↓reduceIte, if_pos, if_neg, bd_some, nmV_e, inB_in, nI_cl, nI_leE, nI_ltE, nI_eqE, nI_add, pk_mul, lit_e, in_0_1, in_0_2, in_0_4, in_0_9, in_1_9, in_1_6, in_1_30, in_0_255, nI_ti, bI_i, bI_r, bI_j, bW_i, bW_j, bA_i, bA_j, bO_i, bO_r, bO_j, bJ_i, bJ_r, bJ_j, q1, q2, Nat.zero_add]) (nI 0) S ⟨rfl, cp_0⟩
  obtain ⟨k, hk⟩ := hF 1000 (by omega)
  refine ⟨S', hk.trans ?_, e2⟩
  subst e1
  have q1 : S'.1 3 = nI nt := by rw [e2.1]; exact h3
  have q4 : S'.1 4 = nI nq := by rw [e2.1]; exact h4
  have q5 : S'.1 5 = nI nd := by rw [e2.1]; exact h5
  have nb : vp_nar .boolean (nI 0) = nI 0 := nar_b (by omega)
  unfold sX8_well_133
  simp (disch := omega) only [↓reduceIte, if_pos, if_neg, bd_some, nmV_e, inB_in, nI_cl, nI_leE, nI_ltE, nI_eqE, nI_add, pk_mul, lit_e, in_0_1, in_0_2, in_0_4, in_0_9, in_1_9, in_1_6, in_1_30, in_0_255, nI_ti, bI_i, bI_r, bI_j, bW_i, bW_j, bA_i, bA_j, bO_i, bO_r, bO_j, bJ_i, bJ_r, bJ_j, q1, q4, q5, nb]
theorem fill4 (P : Nat → Int32) : ∃ f, fJ7_fill_53178 P 4 (nI 0) = some f ∧ ∀ t, t < 4 → f t = nI 0 := by
  obtain ⟨a, b, S', ⟨e1, e2, e3⟩, hF⟩ := lk3_inv (f := sJ7_fill_53178_5 4 (nI 0)) (fun t a b (f : Nat → Int32) => a = nI t ∧ b = nI 4 ∧ ∀ i, i < t → f i = nI 0) 4 (fun t a b f ht hI => by
    obtain ⟨e1, e2, e3⟩ := hI
    refine ⟨nI (t + 1), nI 4, upd f t (nI 0), fun k => ?_, rfl, rfl, fun i hi => ?_⟩
    · subst e1 e2
      unfold sJ7_fill_53178_5
      simp (disch := omega) only [↓reduceIte, if_pos, if_neg, bd_some, nmV_e, inB_in, nI_cl, nI_leE, nI_ltE, nI_eqE, nI_add, pk_mul, lit_e, in_0_1, in_0_2, in_0_4, in_0_9, in_1_9, in_1_6, in_1_30, in_0_255, nI_ti, bI_i, bI_r, bI_j, bW_i, bW_j, bA_i, bA_j, bO_i, bO_r, bO_j, bJ_i, bJ_r, bJ_j]
    · rw [upd_a]
      by_cases c : i = t
      · rw [if_pos c]
      · rw [if_neg c]; exact e3 i (by omega)) (nI 0) (nI 4) P ⟨rfl, rfl, fun i hi => absurd hi (by omega)⟩
  obtain ⟨k, hk⟩ := hF 1000 (by omega)
  refine ⟨S', ?_, e3⟩
  unfold fJ7_fill_53178
  refine hk.trans ?_
  subst e1 e2
  unfold sJ7_fill_53178_5
  simp (disch := omega) only [↓reduceIte, if_pos, if_neg, bd_some, nmV_e, inB_in, nI_cl, nI_leE, nI_ltE, nI_eqE, nI_add, pk_mul, lit_e, in_0_1, in_0_2, in_0_4, in_0_9, in_1_9, in_1_6, in_1_30, in_0_255, nI_ti, bI_i, bI_r, bI_j, bW_i, bW_j, bA_i, bA_j, bO_i, bO_r, bO_j, bJ_i, bJ_r, bJ_j]
theorem won_0 {wd : Nat → Nat → Nat} : ∀ (n : Nat), wonI wd 0 n = 0
  | 0 => rfl
  | n + 1 => by
    unfold wonI
    rw [won_0 n, Nat.zero_div, if_neg (by omega)]
    omega
theorem bg7 {nt nq nd : Nat} {wd : Nat → Nat → Nat} {Sw : Bk} (hB : WB nt nq nd wd) (hwc : RWc nt nq nd wd Sw) (Ss : Bk) : ∃ u, fX3_begin Sw Ss = some u ∧ ∀ pg : Nat → Int32, (∀ k, k < 16 → pg k = if k < nt then nI (wd 0 k) else nI 0) → SR nt nq nd wd u pg := by
  obtain ⟨f2, a2, b2⟩ := fill4 (Ss.2.1 2)
  obtain ⟨f3, a3, b3⟩ := fill4 (Ss.2.1 3)
  have hnt := hB.1
  refine ⟨bI (bI (bI (bI (bA (bA (bA Ss 1 (va_cpy (Sw.2.1 0) (Ss.2.1 1) 0 0 4)) 2 f2) 3 f3) 0 (nI 0)) 1 (nI 0)) 2 (nI 0)) 3 (nI 0), ?_, fun pg hpg => ?_⟩
  · unfold fX3_begin
    rw [show fJ7_fill_53178 (Ss.2.1 2) 4 0 = some f2 from a2, show fJ7_fill_53178 (Ss.2.1 3) 4 0 = some f3 from a3, bd_some, bd_some]
    rfl
  · refine ⟨fun t => wd 0 t, fun _ => 0, fun _ => 0, 0, 0, fun t ht => ?_, rfl, ?_, Nat.two_pow_pos nq, rfl, ?_, Nat.two_pow_pos nd, ?_, ?_, ?_⟩
    · obtain ⟨g0, g1, g2⟩ := hwc.2.2.2.1 t ht
      obtain ⟨x0, x1, x2, x3⟩ := hB.2.2.2.1 t ht
      refine ⟨?_, ?_, x1, b2 t (by omega), b3 t (by omega), fun _ => ⟨?_, ?_, by show wd 0 t + 0 + 0 = wd 0 t; omega⟩, fun _ => ⟨rfl, rfl⟩⟩
      · show va_cpy (Sw.2.1 0) (Ss.2.1 1) 0 0 4 t = _
        rw [pk_cpy_in (by omega) (by omega), Nat.sub_zero, Nat.zero_add]
        exact g0
      · rw [hpg t (by omega), if_pos ht]
      · rw [hpg (4 + t) (by omega), if_neg (by omega)]
      · rw [hpg (8 + t) (by omega), if_neg (by omega)]
    · rw [hpg 12 (by omega), if_neg (by omega)]
    · rw [hpg 13 (by omega), if_neg (by omega)]
    · rw [hpg 14 (by omega), if_neg (by omega)]; rfl
    · rw [hpg 15 (by omega), if_neg (by omega)]; rfl
    · rw [won_0]; rfl
theorem st_well {Se Sx Sw Ss Sy Sz Sc : Bk} {ro : Nat} {Sg : Bk} {Sp : Nat → Bk} {Sm : Bk} (Sl : Bk) (hR : Rel Se Sx Sw Ss Sy Sz Sc ro Sg Sp Sm) : ∃ (u7 : Int32 × Bk × Bk × Bk × Bk × Bk × Bk) (u8 : Int32 × Bk), fX7_well Se Sx Sl Sw Ss Sc = some u7 ∧ fX8_well Sm  = some u8 ∧ u7.1 = u8.1 ∧ Rel (bO Se u7.2.1) u7.2.2.1 u7.2.2.2.2.1 u7.2.2.2.2.2.1 Sy Sz (bO Sc u7.2.2.2.2.2.2) ro Sg Sp (bA (bA (bA (bA (bA (bA (bA (bA (bA (bO Sm u8.2) 0 (u8.2.2.1 0)) 1 (u8.2.2.1 1)) 2 (u8.2.2.1 2)) 3 (u8.2.2.1 3)) 4 (u8.2.2.1 4)) 5 (u8.2.2.1 5)) 6 (u8.2.2.1 6)) 7 (u8.2.2.1 7)) 11 (u8.2.2.1 11)) := by
  have hR0 := hR
  obtain ⟨nt0, nq0, nd0, wd0, hB0, hwc0, hwm0, hs0, ⟨n, hn, e1, e2, e3⟩, ha, hk, hg, hj⟩ := hR
  obtain ⟨r, Sx', Sl', Sm', k1, k2, k3, k4, k5, k6, k7, -⟩ := rdw (Sx := Sx) (Sw := Sl) (Sm := bI Sm 0 (nI 0)) hn e1 e2 e3
  by_cases c : r = -nI 9
  · subst c
    obtain ⟨r2, Sx2, Sw2, Sm2, l1, l2, l3, l4, -, -, -, l8⟩ := rdw (Sx := Sx') (Sw := Sw) (Sm := bI Sm 0 (nI 0)) hn (by rw [k3]; exact e1) e2 (fun j hj => by rw [k4]; exact e3 j hj)
    rw [k2] at l2
    have e := Option.some.inj l2
    have er : -nI 9 = r2 := congrArg Prod.fst e
    have em : Sm' = Sm2 := congrArg Prod.snd e
    subst er em
    obtain ⟨nt, nq, nd, wd, hB, hwc, hwm⟩ := l8 rfl
    have l8' := hwc
    obtain ⟨v1, v2, v3, v4, v5, v6⟩ := hwm
    have v1' : Sm'.1 6 = nI nt := v1
    have v2' : Sm'.1 7 = nI nq := v2
    have v3' : Sm'.1 8 = nI nd := v3
    obtain ⟨u, g1, g2⟩ := bg7 hB hwc Ss
    obtain ⟨w1, w2, w3, -⟩ := hwc
    have c7 : fX7_well Se Sx Sl Sw Ss Sc = some (nI (100 * nt + 10 * nq + nd), bI Se 0 (nI 0), Sx2, Sl', Sw2, u, bI Sc 0 (nI 0)) := by
      unfold fX7_well
      rw [k1, bd_some, if_pos (show -nI 9 = (-9 : Int32) from rfl), l1, bd_some, g1, bd_some]
      simp (disch := omega) only [↓reduceIte, if_pos, if_neg, bd_some, nmV_e, inB_in, nI_cl, nI_leE, nI_ltE, nI_eqE, nI_add, pk_mul, lit_e, in_0_1, in_0_2, in_0_4, in_0_9, in_1_9, in_1_6, in_1_30, in_0_255, nI_ti, bI_i, bI_r, bI_j, bW_i, bW_j, bA_i, bA_j, bO_i, bO_r, bO_j, bJ_i, bJ_r, bJ_j, w1, w2, w3]
    obtain ⟨S1, hS1⟩ : ∃ S1 : Bk, S1 = bI (bI (bI (bA (bA (bA (bA (bO (bI Sm 0 (nI 0)) Sm') 0 (Sm'.2.1 0)) 4 (Sm'.2.1 4)) 5 (Sm'.2.1 5)) 6 (Sm'.2.1 6)) 3 (nI nt)) 4 (nI nq)) 5 (nI nd) := ⟨_, rfl⟩
    have i3 : S1.1 3 = nI nt := by rw [hS1]; rfl
    have i4 : S1.1 4 = nI nq := by rw [hS1]; rfl
    have i5 : S1.1 5 = nI nd := by rw [hS1]; rfl
    obtain ⟨A, a1, a2, a3, a4, a5⟩ := w43 hB.1 i3
    obtain ⟨B, b1, b2, b3, b4, b5⟩ := w73 (S := A) hB.2.1 (by rw [a2]; exact i4)
    obtain ⟨C, c1, c2, c3, c4, c5⟩ := w103 (S := B) hB.2.2.1 (by rw [b2, a2]; exact i5)
    obtain ⟨D, d1, d2, d3, d4, d5⟩ := w133 (S := C) hB.1 (by rw [c2, b2, a2]; exact i3) (by rw [c2, b2, a2]; exact i4) (by rw [c2, b2, a2]; exact i5)
    have c8 : fX8_well Sm = some (nI (100 * nt + 10 * nq + nd), bW (bW (bI D 9 (nI 0)) 11 0 (nI 0)) 11 1 (nI 0)) := by
      unfold fX8_well
      rw [show fX8_readWell (bI Sm 0 0) = some (-nI 9, Sm') from k2, bd_some, if_pos (show -nI 9 = (-9 : Int32) from rfl), nmV_e, nmV_e, nmV_e]
      refine Eq.trans ?_ (a1 _ (b1 _ (c1 _ d1)))
      rw [hS1]
      show lk2 sX8_well_43 1000 (nI 0) (bI (bI (bI _ 3 (Sm'.1 6)) 4 (Sm'.1 7)) 5 (Sm'.1 8)) = _
      rw [v1', v2', v3']
      rfl
    have ii : D.1 = S1.1 := by rw [d2, c2, b2, a2]
    have r1 : ∀ x, x < 3 * nt → D.2.1 1 x = Sm'.2.1 4 x := fun x hx => by
      rw [d4 1 (by omega), c4 1 (by omega), b4 1 (by omega), a5, if_pos (by omega), hS1]; rfl
    have r2 : ∀ x, x < 4 * nq → D.2.1 2 x = Sm'.2.1 5 x := fun x hx => by
      rw [d4 2 (by omega), c4 2 (by omega), b5, if_pos (by omega), a4 5 (by omega), hS1]; rfl
    have r3 : ∀ x, x < 5 * nd → D.2.1 3 x = Sm'.2.1 6 x := fun x hx => by
      rw [d4 3 (by omega), c5, if_pos (by omega), b4 6 (by omega), a4 6 (by omega), hS1]; rfl
    have hrow : ∀ r, r ≠ 1 → r ≠ 2 → r ≠ 3 → r ≠ 7 → D.2.1 r = S1.2.1 r := fun r y1 y2 y3 y7 => by
      rw [d4 r y7, c4 r y3, b4 r y2, a4 r y1]
    refine ⟨_, _, c7, c8, rfl, nt, nq, nd, wd, hB, l8' , ?_, g2 _ (fun k hk => ?_), ⟨n, hn, ?_, ?_, fun j hj => ?_⟩, ⟨0, by omega, rfl, rfl, fun i hi => absurd hi (by omega)⟩, ⟨0, by omega, rfl, rfl, rfl, fun h => absurd h (by omega), fun h => absurd h (by omega)⟩, ?_, ?_⟩
    · refine ⟨?_, ?_, ?_, fun t ht => ?_, fun q hq => ?_, fun d hd => ?_⟩
      · show D.1 3 = _; rw [ii]; exact i3
      · show D.1 4 = _; rw [ii]; exact i4
      · show D.1 5 = _; rw [ii]; exact i5
      · show D.2.1 1 (3 * t) = _ ∧ D.2.1 1 (3 * t + 1) = _ ∧ D.2.1 1 (3 * t + 2) = _
        rw [r1 _ (by omega), r1 _ (by omega), r1 _ (by omega)]
        exact v4 t ht
      · show D.2.1 2 (4 * q) = _ ∧ D.2.1 2 (4 * q + 1) = _ ∧ D.2.1 2 (4 * q + 2) = _ ∧ D.2.1 2 (4 * q + 3) = _
        rw [r2 _ (by omega), r2 _ (by omega), r2 _ (by omega), r2 _ (by omega)]
        exact v5 q hq
      · show D.2.1 3 (5 * d) = _ ∧ D.2.1 3 (5 * d + 1) = _ ∧ D.2.1 3 (5 * d + 2) = _ ∧ D.2.1 3 (5 * d + 3) = _ ∧ D.2.1 3 (5 * d + 4) = _
        rw [r3 _ (by omega), r3 _ (by omega), r3 _ (by omega), r3 _ (by omega), r3 _ (by omega)]
        exact v6 d hd
    · show D.2.1 7 k = _
      rw [d5, if_pos (by omega), Nat.sub_zero]
      show (if k < nt then C.2.1 1 (3 * k) else nI 0) = _
      by_cases ck : k < nt
      · rw [if_pos ck, if_pos ck, c4 1 (by omega), b4 1 (by omega), a5, if_pos (by omega), hS1]
        exact (v4 k ck).1
      · rw [if_neg ck, if_neg ck]
    · rw [l3, k3]; exact e1
    · show D.1 1 = _
      rw [ii, hS1]
      exact (k5 1 (by omega) (by omega) (by omega) (by omega)).trans e2
    · show Sx2.2.1 0 j = D.2.1 0 j
      rw [l4, k4, hrow 0 (by omega) (by omega) (by omega) (by omega), hS1]
      refine (e3 j hj).trans ?_
      show _ = Sm'.2.1 0 j
      rw [k6 0 (by omega) (by omega) (by omega)]; rfl
    · obtain ⟨ng, h1, h2, h3, h4⟩ := hg
      refine ⟨ng, h1, h2, ?_, h4⟩
      show D.1 10 = _
      rw [ii, hS1]
      exact (k5 10 (by omega) (by omega) (by omega) (by omega)).trans h3
    · show Se.2.2 = D.2.2
      rw [d3, c3, b3, a3, hS1, hj]
      exact k7.symm
  · have c7 : fX7_well Se Sx Sl Sw Ss Sc = some (-nI 3, Se, Sx', Sl', Sw, Ss, Sc) := by
      unfold fX7_well
      rw [k1, bd_some, if_neg (show ¬ r = (-9 : Int32) from c)]
      rfl
    have c8 : fX8_well Sm = some (-nI 3, bA (bA (bA (bA (bO (bI Sm 0 (nI 0)) Sm') 0 (Sm'.2.1 0)) 4 (Sm'.2.1 4)) 5 (Sm'.2.1 5)) 6 (Sm'.2.1 6)) := by
      unfold fX8_well
      rw [show fX8_readWell (bI Sm 0 0) = some (r, Sm') from k2, bd_some, if_neg (show ¬ r = (-9 : Int32) from c)]
      rfl
    have hm : Rel (bO Se Se) Sx Sw Ss Sy Sz (bO Sc Sc) ro Sg Sp (bA (bA (bA (bA (bA (bA (bA (bA (bA (bO Sm (bA (bA (bA (bA (bO (bI Sm 0 (nI 0)) Sm') 0 (Sm'.2.1 0)) 4 (Sm'.2.1 4)) 5 (Sm'.2.1 5)) 6 (Sm'.2.1 6))) 0 (Sm'.2.1 0)) 1 (Sm.2.1 1)) 2 (Sm.2.1 2)) 3 (Sm.2.1 3)) 4 (Sm'.2.1 4)) 5 (Sm'.2.1 5)) 6 (Sm'.2.1 6)) 7 (Sm.2.1 7)) 11 (Sm.2.1 11)) := rel_sm (Se := bO Se Se) (Sc := bO Sc Sc) hR0 (k5 1 (by omega) (by omega) (by omega) (by omega)) (k5 3 (by omega) (by omega) (by omega) (by omega)) (k5 4 (by omega) (by omega) (by omega) (by omega)) (k5 5 (by omega) (by omega) (by omega) (by omega)) (k5 9 (by omega) (by omega) (by omega) (by omega)) (k5 10 (by omega) (by omega) (by omega) (by omega)) (k6 0 (by omega) (by omega) (by omega)) rfl rfl rfl rfl rfl rfl rfl rfl rfl k7
    refine ⟨_, _, c7, c8, rfl, ?_⟩
    obtain ⟨nt, nq, nd, wd, hB, hwc, hwm, hs, ⟨n, hn, e1, e2, e3⟩, ha, hk, hg, hj⟩ := hm
    exact ⟨nt, nq, nd, wd, hB, hwc, hwm, hs, ⟨n, hn, (congrFun k3 0).trans e1, e2, fun j hj => by rw [show Sx'.2.1 0 = Sx.2.1 0 from k4]; exact e3 j hj⟩, ha, hk, hg, hj⟩
