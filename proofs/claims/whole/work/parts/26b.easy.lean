theorem rel_sm {Se Sx Sw Ss Sy Sz Sc : Bk} {ro : Nat} {Sg : Bk} {Sp : Nat → Bk} {Sm Sm' : Bk} (hR : Rel Se Sx Sw Ss Sy Sz Sc ro Sg Sp Sm) (h1 : Sm'.1 1 = Sm.1 1) (h3 : Sm'.1 3 = Sm.1 3) (h4 : Sm'.1 4 = Sm.1 4) (h5 : Sm'.1 5 = Sm.1 5) (h9 : Sm'.1 9 = Sm.1 9) (h10 : Sm'.1 10 = Sm.1 10) (r0 : Sm'.2.1 0 = Sm.2.1 0) (r1 : Sm'.2.1 1 = Sm.2.1 1) (r2 : Sm'.2.1 2 = Sm.2.1 2) (r3 : Sm'.2.1 3 = Sm.2.1 3) (r7 : Sm'.2.1 7 = Sm.2.1 7) (r9 : Sm'.2.1 9 = Sm.2.1 9) (r10 : Sm'.2.1 10 = Sm.2.1 10) (r11 : Sm'.2.1 11 = Sm.2.1 11) (r12 : Sm'.2.1 12 = Sm.2.1 12) (r13 : Sm'.2.1 13 = Sm.2.1 13) (hj : Sm'.2.2 = Sm.2.2) : Rel Se Sx Sw Ss Sy Sz Sc ro Sg Sp Sm' := by
  unfold Rel RWm RT RA RK RG at hR ⊢
  rw [h1, h3, h4, h5, h9, h10, r0, r1, r2, r3, r7, r9, r10, r11, r12, r13, hj]
  exact hR
theorem st_wipe {Se Sx Sw Ss Sy Sz Sc : Bk} {ro : Nat} {Sg : Bk} {Sp : Nat → Bk} {Sm : Bk} (hR : Rel Se Sx Sw Ss Sy Sz Sc ro Sg Sp Sm) : ∃ (u7 : Int32 × Bk) (u8 : Int32 × Bk), fX7_wipe Se Sx = some u7 ∧ fX8_wipe Sm  = some u8 ∧ u7.1 = u8.1 ∧ Rel Se (bO Sx u7.2) Sw Ss Sy Sz Sc ro Sg Sp (bO Sm u8.2) := by
  obtain ⟨nt, nq, nd, wd, hB, hwc, hwm, hs, ⟨n, hn, e1, e2, e3⟩, ha, hk, hg, hj⟩ := hR
  refine ⟨_, _, rfl, rfl, e1.trans e2.symm, nt, nq, nd, wd, hB, hwc, hwm, hs, ⟨0, by omega, rfl, rfl, fun j h => by omega⟩, ha, hk, hg, hj⟩
theorem st_write {Se Sx Sw Ss Sy Sz Sc : Bk} {ro : Nat} {Sg : Bk} {Sp : Nat → Bk} {Sm : Bk} (hR : Rel Se Sx Sw Ss Sy Sz Sc ro Sg Sp Sm) (x1 : Int32) : ∃ (u7 : Int32 × Bk) (u8 : Int32 × Bk), fX7_write Se Sx x1 = some u7 ∧ fX8_write Sm x1 = some u8 ∧ u7.1 = u8.1 ∧ Rel Se (bA (bO Sx u7.2) 0 (u7.2.2.1 0)) Sw Ss Sy Sz Sc ro Sg Sp (bA (bO Sm u8.2) 0 (u8.2.2.1 0)) := by
  obtain ⟨nt, nq, nd, wd, hB, hwc, hwm, hs, ⟨n, hn, e1, e2, e3⟩, ha, hk, hg, hj⟩ := hR
  rcases ix x1 256 (by omega) with ⟨h, h'⟩ | ⟨h, h'⟩ | ⟨j, hj2, rfl⟩
  · have c8 : fX8_write Sm x1 = some (-2, bI Sm 0 0) := by
      unfold fX8_write
      simp (disch := omega) only [↓reduceIte, if_pos, if_neg, bd_some, nmV_e, inB_in, nI_cl, nI_leE, nI_ltE, nI_eqE, nI_add, pk_mul, lit_e, in_0_1, in_0_2, in_0_4, in_0_9, in_1_9, in_1_6, in_1_30, in_0_255, nI_ti, bI_i, bI_r, bI_j, bW_i, bW_j, bA_i, bA_j, bO_i, bO_r, bO_j, bJ_i, bJ_r, bJ_j]
    have c7 : fX7_write Se Sx x1 = some (-2, Sx) := by
      unfold fX7_write
      rw [if_pos h]
    exact ⟨_, _, c7, c8, rfl, nt, nq, nd, wd, hB, hwc, hwm, hs, ⟨n, hn, e1, e2, e3⟩, ha, hk, hg, hj⟩
  · have c8 : fX8_write Sm x1 = some (-2, bI Sm 0 0) := by
      unfold fX8_write
      simp (disch := omega) only [↓reduceIte, if_pos, if_neg, bd_some, nmV_e, inB_in, nI_cl, nI_leE, nI_ltE, nI_eqE, nI_add, pk_mul, lit_e, in_0_1, in_0_2, in_0_4, in_0_9, in_1_9, in_1_6, in_1_30, in_0_255, nI_ti, bI_i, bI_r, bI_j, bW_i, bW_j, bA_i, bA_j, bO_i, bO_r, bO_j, bJ_i, bJ_r, bJ_j]
    have c7 : fX7_write Se Sx x1 = some (-2, Sx) := by
      unfold fX7_write
      simp (disch := omega) only [↓reduceIte, if_pos, if_neg, bd_some, nmV_e, inB_in, nI_cl, nI_leE, nI_ltE, nI_eqE, nI_add, pk_mul, lit_e, in_0_1, in_0_2, in_0_4, in_0_9, in_1_9, in_1_6, in_1_30, in_0_255, nI_ti, bI_i, bI_r, bI_j, bW_i, bW_j, bA_i, bA_j, bO_i, bO_r, bO_j, bJ_i, bJ_r, bJ_j, i32_lt, i32_le]
    exact ⟨_, _, c7, c8, rfl, nt, nq, nd, wd, hB, hwc, hwm, hs, ⟨n, hn, e1, e2, e3⟩, ha, hk, hg, hj⟩
  · by_cases hf : n = 64
    · have c8 : fX8_write Sm (nI j) = some (-4, bI Sm 0 0) := by
        unfold fX8_write
        simp (disch := omega) only [↓reduceIte, if_pos, if_neg, bd_some, nmV_e, inB_in, nI_cl, nI_leE, nI_ltE, nI_eqE, nI_add, pk_mul, lit_e, in_0_1, in_0_2, in_0_4, in_0_9, in_1_9, in_1_6, in_1_30, in_0_255, nI_ti, bI_i, bI_r, bI_j, bW_i, bW_j, bA_i, bA_j, bO_i, bO_r, bO_j, bJ_i, bJ_r, bJ_j, e2]
      have c7 : fX7_write Se Sx (nI j) = some (-4, Sx) := by
        unfold fX7_write fX4_append
        simp (disch := omega) only [↓reduceIte, if_pos, if_neg, bd_some, nmV_e, inB_in, nI_cl, nI_leE, nI_ltE, nI_eqE, nI_add, pk_mul, lit_e, in_0_1, in_0_2, in_0_4, in_0_9, in_1_9, in_1_6, in_1_30, in_0_255, nI_ti, bI_i, bI_r, bI_j, bW_i, bW_j, bA_i, bA_j, bO_i, bO_r, bO_j, bJ_i, bJ_r, bJ_j, e1]
      exact ⟨_, _, c7, c8, rfl, nt, nq, nd, wd, hB, hwc, hwm, hs, ⟨n, hn, e1, e2, e3⟩, ha, hk, hg, hj⟩
    · have c8 : fX8_write Sm (nI j) = some (nI (n + 1), bI (bW (bI Sm 0 0) 0 n (nI j)) 1 (nI (n + 1))) := by
        unfold fX8_write
        simp (disch := omega) only [↓reduceIte, if_pos, if_neg, bd_some, nmV_e, inB_in, nI_cl, nI_leE, nI_ltE, nI_eqE, nI_add, pk_mul, lit_e, in_0_1, in_0_2, in_0_4, in_0_9, in_1_9, in_1_6, in_1_30, in_0_255, nI_ti, bI_i, bI_r, bI_j, bW_i, bW_j, bA_i, bA_j, bO_i, bO_r, bO_j, bJ_i, bJ_r, bJ_j, e2]
      have c7 : fX7_write Se Sx (nI j) = some (nI (n + 1), bI (bW Sx 0 n (nI j)) 0 (nI (n + 1))) := by
        unfold fX7_write fX4_append
        simp (disch := omega) only [↓reduceIte, if_pos, if_neg, bd_some, nmV_e, inB_in, nI_cl, nI_leE, nI_ltE, nI_eqE, nI_add, pk_mul, lit_e, in_0_1, in_0_2, in_0_4, in_0_9, in_1_9, in_1_6, in_1_30, in_0_255, nI_ti, bI_i, bI_r, bI_j, bW_i, bW_j, bA_i, bA_j, bO_i, bO_r, bO_j, bJ_i, bJ_r, bJ_j, e1]
      refine ⟨_, _, c7, c8, rfl, nt, nq, nd, wd, hB, hwc, hwm, hs, ⟨n + 1, by omega, rfl, rfl, fun i hi => ?_⟩, ha, hk, hg, hj⟩
      show upd (Sx.2.1 0) n (nI j) i = upd (Sm.2.1 0) n (nI j) i
      rw [upd_a, upd_a]
      by_cases q : i = n
      · rw [if_pos q, if_pos q]
      · rw [if_neg q, if_neg q]
        exact e3 i (by omega)
theorem st_seed {Se Sx Sw Ss Sy Sz Sc : Bk} {ro : Nat} {Sg : Bk} {Sp : Nat → Bk} {Sm : Bk} (hR : Rel Se Sx Sw Ss Sy Sz Sc ro Sg Sp Sm) (x1 : Int64) : ∃ (u7 : Int64 × Bk) (u8 : Int64 × Bk), fX7_seed Se x1 = some u7 ∧ fX8_seed Sm x1 = some u8 ∧ u7.1 = u8.1 ∧ Rel (bO Se u7.2) Sx Sw Ss Sy Sz Sc ro Sg Sp (bO Sm u8.2) := by
  obtain ⟨nt, nq, nd, wd, hB, hwc, hwm, hs, ht, ha, hk, hg, hj⟩ := hR
  exact ⟨_, _, rfl, rfl, hj, nt, nq, nd, wd, hB, hwc, hwm, hs, ht, ha, hk, hg, rfl⟩
theorem st_unsee {Se Sx Sw Ss Sy Sz Sc : Bk} {ro : Nat} {Sg : Bk} {Sp : Nat → Bk} {Sm : Bk} (hR : Rel Se Sx Sw Ss Sy Sz Sc ro Sg Sp Sm) : ∃ (u7 : Int32 × Bk) (u8 : Int32 × Bk), fX7_unsee Se Sg = some u7 ∧ fX8_unsee Sm  = some u8 ∧ u7.1 = u8.1 ∧ Rel Se Sx Sw Ss Sy Sz Sc ro (bO Sg u7.2) Sp (bO Sm u8.2) := by
  obtain ⟨nt, nq, nd, wd, hB, hwc, hwm, hs, ht, ha, hk, ⟨n, hn, e1, e2, e3⟩, hj⟩ := hR
  exact ⟨_, _, rfl, rfl, e1.trans e2.symm, nt, nq, nd, wd, hB, hwc, hwm, hs, ht, ha, hk, ⟨0, by omega, rfl, rfl, fun j h => by omega⟩, hj⟩
theorem noD (Sm : Bk) (x : Int32) {n : Nat} (h : n < 1073741824) (e : Sm.1 5 = nI n) : fX8_noDeed Sm x = some (if 0 ≤ x.toInt ∧ x.toInt < n then 0 else 1) := by
  unfold fX8_noDeed
  rw [e, in_n x h, bd_some]
  by_cases q : 0 ≤ x.toInt ∧ x.toInt < n
  · rw [if_pos q, if_pos q, if_neg (by decide)]
  · rw [if_neg q, if_neg q, if_pos rfl]
theorem noQ (Sm : Bk) (x : Int32) {n : Nat} (h : n < 1073741824) (e : Sm.1 4 = nI n) : fX8_noQuestion Sm x = some (if 0 ≤ x.toInt ∧ x.toInt < n then 0 else 1) := by
  unfold fX8_noQuestion
  rw [e, in_n x h, bd_some]
  by_cases q : 0 ≤ x.toInt ∧ x.toInt < n
  · rw [if_pos q, if_pos q, if_neg (by decide)]
  · rw [if_neg q, if_neg q, if_pos rfl]
theorem nar_b {b : Nat} (h : b ≤ 1) : vp_nar .boolean (nI b) = nI b := by
  rcases (show b = 0 ∨ b = 1 by omega) with rfl | rfl <;> rfl
theorem st_see {Se Sx Sw Ss Sy Sz Sc : Bk} {ro : Nat} {Sg : Bk} {Sp : Nat → Bk} {Sm : Bk} (hR : Rel Se Sx Sw Ss Sy Sz Sc ro Sg Sp Sm) (x1 : Int32) (x2 : Int32) (h2 : x2 = 0 ∨ x2 = 1) : ∃ (u7 : Int32 × Bk) (u8 : Int32 × Bk), fX7_see Se Sw Sg x1 x2 = some u7 ∧ fX8_see Sm x1 x2 = some u8 ∧ u7.1 = u8.1 ∧ Rel Se Sx Sw Ss Sy Sz Sc ro u7.2 Sp (bA (bA (bO Sm u8.2) 12 (u8.2.2.1 12)) 13 (u8.2.2.1 13)) := by
  obtain ⟨nt, nq, nd, wd, hB, hwc, hwm, hs, ht, ha, hk, ⟨n, hn, e1, e2, e3⟩, hj⟩ := hR
  have hnd : nd ≤ 4 := hB.2.2.1
  have ec : Sw.1 3 = nI nd := hwc.2.2.1
  have em : (bI Sm 0 0).1 5 = nI nd := hwm.2.2.1
  obtain ⟨b, hb, eb⟩ : ∃ b : Nat, b ≤ 1 ∧ x2 = nI b := by
    rcases h2 with h | h
    · exact ⟨0, by omega, h⟩
    · exact ⟨1, by omega, h⟩
  subst eb
  have hnb := nar_b hb
  have hno := noD (bI Sm 0 (nI 0)) x1 (n := nd) (by omega) em
  rcases ix x1 nd (by omega) with ⟨h, h'⟩ | ⟨h, h'⟩ | ⟨j, hj2, rfl⟩
  · have c8 : fX8_see Sm x1 (nI b) = some (-1, bI Sm 0 0) := by
      unfold fX8_see
      simp (disch := omega) only [↓reduceIte, if_pos, if_neg, bd_some, nmV_e, inB_in, nI_cl, nI_leE, nI_ltE, nI_eqE, nI_add, pk_mul, lit_e, in_0_1, in_0_2, in_0_4, in_0_9, in_1_9, in_1_6, in_1_30, in_0_255, nI_ti, bI_i, bI_r, bI_j, bW_i, bW_j, bA_i, bA_j, bO_i, bO_r, bO_j, bJ_i, bJ_r, bJ_j, hno]
    have c7 : fX7_see Se Sw Sg x1 (nI b) = some (-1, Sg) := by
      unfold fX7_see
      rw [if_pos h]
    exact ⟨_, _, c7, c8, rfl, nt, nq, nd, wd, hB, hwc, hwm, hs, ht, ha, hk, ⟨n, hn, e1, e2, e3⟩, hj⟩
  · have c8 : fX8_see Sm x1 (nI b) = some (-1, bI Sm 0 0) := by
      unfold fX8_see
      simp (disch := omega) only [↓reduceIte, if_pos, if_neg, bd_some, nmV_e, inB_in, nI_cl, nI_leE, nI_ltE, nI_eqE, nI_add, pk_mul, lit_e, in_0_1, in_0_2, in_0_4, in_0_9, in_1_9, in_1_6, in_1_30, in_0_255, nI_ti, bI_i, bI_r, bI_j, bW_i, bW_j, bA_i, bA_j, bO_i, bO_r, bO_j, bJ_i, bJ_r, bJ_j, hno]
    have c7 : fX7_see Se Sw Sg x1 (nI b) = some (-1, Sg) := by
      unfold fX7_see
      simp (disch := omega) only [↓reduceIte, if_pos, if_neg, bd_some, nmV_e, inB_in, nI_cl, nI_leE, nI_ltE, nI_eqE, nI_add, pk_mul, lit_e, in_0_1, in_0_2, in_0_4, in_0_9, in_1_9, in_1_6, in_1_30, in_0_255, nI_ti, bI_i, bI_r, bI_j, bW_i, bW_j, bA_i, bA_j, bO_i, bO_r, bO_j, bJ_i, bJ_r, bJ_j, i32_lt, ec]
    exact ⟨_, _, c7, c8, rfl, nt, nq, nd, wd, hB, hwc, hwm, hs, ht, ha, hk, ⟨n, hn, e1, e2, e3⟩, hj⟩
  · by_cases hf : n = 6
    · have c8 : fX8_see Sm (nI j) (nI b) = some (-4, bI Sm 0 0) := by
        unfold fX8_see
        simp (disch := omega) only [↓reduceIte, if_pos, if_neg, bd_some, nmV_e, inB_in, nI_cl, nI_leE, nI_ltE, nI_eqE, nI_add, pk_mul, lit_e, in_0_1, in_0_2, in_0_4, in_0_9, in_1_9, in_1_6, in_1_30, in_0_255, nI_ti, bI_i, bI_r, bI_j, bW_i, bW_j, bA_i, bA_j, bO_i, bO_r, bO_j, bJ_i, bJ_r, bJ_j, hno, e2]
      have c7 : fX7_see Se Sw Sg (nI j) (nI b) = some (-4, Sg) := by
        unfold fX7_see fX2_add
        simp (disch := omega) only [↓reduceIte, if_pos, if_neg, bd_some, nmV_e, inB_in, nI_cl, nI_leE, nI_ltE, nI_eqE, nI_add, pk_mul, lit_e, in_0_1, in_0_2, in_0_4, in_0_9, in_1_9, in_1_6, in_1_30, in_0_255, nI_ti, bI_i, bI_r, bI_j, bW_i, bW_j, bA_i, bA_j, bO_i, bO_r, bO_j, bJ_i, bJ_r, bJ_j, ec, e1]
      exact ⟨_, _, c7, c8, rfl, nt, nq, nd, wd, hB, hwc, hwm, hs, ht, ha, hk, ⟨n, hn, e1, e2, e3⟩, hj⟩
    · have c8 : fX8_see Sm (nI j) (nI b) = some (nI (n + 1), bI (bW (bW (bI Sm 0 0) 12 n (nI j)) 13 n (nI b)) 10 (nI (n + 1))) := by
        unfold fX8_see
        simp (disch := omega) only [↓reduceIte, if_pos, if_neg, bd_some, nmV_e, inB_in, nI_cl, nI_leE, nI_ltE, nI_eqE, nI_add, pk_mul, lit_e, in_0_1, in_0_2, in_0_4, in_0_9, in_1_9, in_1_6, in_1_30, in_0_255, nI_ti, bI_i, bI_r, bI_j, bW_i, bW_j, bA_i, bA_j, bO_i, bO_r, bO_j, bJ_i, bJ_r, bJ_j, hno, e2, hnb]
      have c7 : fX7_see Se Sw Sg (nI j) (nI b) = some (nI (n + 1), bI (bW (bW Sg 1 n (nI j)) 2 n (nI b)) 0 (nI (n + 1))) := by
        unfold fX7_see fX2_add
        simp (disch := omega) only [↓reduceIte, if_pos, if_neg, bd_some, nmV_e, inB_in, nI_cl, nI_leE, nI_ltE, nI_eqE, nI_add, pk_mul, lit_e, in_0_1, in_0_2, in_0_4, in_0_9, in_1_9, in_1_6, in_1_30, in_0_255, nI_ti, bI_i, bI_r, bI_j, bW_i, bW_j, bA_i, bA_j, bO_i, bO_r, bO_j, bJ_i, bJ_r, bJ_j, ec, e1, hnb]
      refine ⟨_, _, c7, c8, rfl, nt, nq, nd, wd, hB, hwc, hwm, hs, ht, ha, hk, ⟨n + 1, by omega, rfl, rfl, fun i hi => ?_⟩, hj⟩
      by_cases q : i = n
      · subst q
        exact ⟨j, b, by omega, hb, if_pos rfl, if_pos rfl, if_pos rfl, if_pos rfl⟩
      · obtain ⟨d', b', g1, g2, g3, g4, g5, g6⟩ := e3 i (by omega)
        exact ⟨d', b', g1, g2, (if_neg q).trans g3, (if_neg q).trans g4, (if_neg q).trans g5, (if_neg q).trans g6⟩
