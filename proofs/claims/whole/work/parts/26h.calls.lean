theorem rwm_cg {nt nq nd : Nat} {wd : Nat → Nat → Nat} {Sm Sm' : Bk} (h : RWm nt nq nd wd Sm) (h3 : Sm'.1 3 = Sm.1 3) (h4 : Sm'.1 4 = Sm.1 4) (h5 : Sm'.1 5 = Sm.1 5) (r1 : Sm'.2.1 1 = Sm.2.1 1) (r2 : Sm'.2.1 2 = Sm.2.1 2) (r3 : Sm'.2.1 3 = Sm.2.1 3) : RWm nt nq nd wd Sm' := by
  unfold RWm at h ⊢
  rw [h3, h4, h5, r1, r2, r3]
  exact h
theorem rel_a {Se Se' Sx Sw Ss' Sy Sz Sc' : Bk} {ro' : Nat} {Sg : Bk} {Sp' : Nat → Bk} {Sm Sm' : Bk} {nt nq nd : Nat} {wd : Nat → Nat → Nat} (hB : WB nt nq nd wd) (hwc : RWc nt nq nd wd Sw) (hwm : RWm nt nq nd wd Sm) (ht : RT Sx Sm) (hk : RK nt nq nd wd Se Sy Sz Sm) (hg : RG Sg Sm) (he : Se'.1 0 = Se.1 0) (h1 : Sm'.1 1 = Sm.1 1) (h3 : Sm'.1 3 = Sm.1 3) (h4 : Sm'.1 4 = Sm.1 4) (h5 : Sm'.1 5 = Sm.1 5) (h10 : Sm'.1 10 = Sm.1 10) (r0 : Sm'.2.1 0 = Sm.2.1 0) (r1 : Sm'.2.1 1 = Sm.2.1 1) (r2 : Sm'.2.1 2 = Sm.2.1 2) (r3 : Sm'.2.1 3 = Sm.2.1 3) (r10 : Sm'.2.1 10 = Sm.2.1 10) (r11 : Sm'.2.1 11 = Sm.2.1 11) (r12 : Sm'.2.1 12 = Sm.2.1 12) (r13 : Sm'.2.1 13 = Sm.2.1 13) (hj : Se'.2.2 = Sm'.2.2) (hs : SR nt nq nd wd Ss' (Sm'.2.1 7)) (ha : RA nt nq nd wd Sc' ro' Sp' Sm') : Rel Se' Sx Sw Ss' Sy Sz Sc' ro' Sg Sp' Sm' := by
  refine ⟨nt, nq, nd, wd, hB, hwc, rwm_cg hwm h3 h4 h5 r1 r2 r3, hs, ?_, ha, ?_, ?_, hj⟩
  · unfold RT at ht ⊢
    rw [h1, r0]; exact ht
  · unfold RK at hk ⊢
    rw [he, r10, r11]; exact hk
  · unfold RG at hg ⊢
    rw [h10, r12, r13]; exact hg
theorem sr_m3 {nt nq nd : Nat} {wd : Nat → Nat → Nat} {S u : Bk} {pg : Nat → Int32} (hnt : nt ≤ 4) (h : SR nt nq nd wd u pg) (h3 : u.2.1 3 = S.2.1 3) : SR nt nq nd wd (bA (bA (bO S u) 1 (u.2.1 1)) 2 (u.2.1 2)) pg :=
  sr_cg h hnt rfl rfl rfl rfl (fun _ _ => rfl) (fun _ _ => rfl) (fun t _ => by rw [h3]; rfl) (fun _ _ => rfl)
theorem st_drink {Se Sx Sw Ss Sy Sz Sc : Bk} {ro : Nat} {Sg : Bk} {Sp : Nat → Bk} {Sm : Bk} (hR : Rel Se Sx Sw Ss Sy Sz Sc ro Sg Sp Sm) (x1 : Int32) : ∃ (u7 : Int32 × Bk × Bk × Nat × (Nat → Bk)) (u8 : Int32 × Bk), fX7_drink Se Sw Ss Sc ro Sp x1 = some u7 ∧ fX8_drink Sm x1 = some u8 ∧ u7.1 = u8.1 ∧ Rel Se Sx Sw u7.2.1 Sy Sz u7.2.2.1 u7.2.2.2.1 Sg u7.2.2.2.2 (bA (bA (bA (bO Sm u8.2) 2 (u8.2.2.1 2)) 7 (u8.2.2.1 7)) 9 (u8.2.2.1 9)) := by
  have hR0 := hR
  obtain ⟨nt, nq, nd, wd, hB, hwc, hwm, hs, ht, ha, hk, hg, hj⟩ := hR
  have hnt := hB.1
  have hnq := hB.2.1
  have v1 : (bI Sm 0 (nI 0)).1 4 = nI nq := hwm.2.1
  have hin := noQ (bI Sm 0 (nI 0)) x1 (n := nq) (by omega) v1
  have hno : ∀ c : Int32, fX7_drink Se Sw Ss Sc ro Sp x1 = some (c, Ss, Sc, ro, Sp) → fX8_drink Sm x1 = some (c, bI Sm 0 (nI 0)) → ∃ (u7 : Int32 × Bk × Bk × Nat × (Nat → Bk)) (u8 : Int32 × Bk), fX7_drink Se Sw Ss Sc ro Sp x1 = some u7 ∧ fX8_drink Sm x1 = some u8 ∧ u7.1 = u8.1 ∧ Rel Se Sx Sw u7.2.1 Sy Sz u7.2.2.1 u7.2.2.2.1 Sg u7.2.2.2.2 (bA (bA (bA (bO Sm u8.2) 2 (u8.2.2.1 2)) 7 (u8.2.2.1 7)) 9 (u8.2.2.1 9)) := fun c c7 c8 => ⟨_, _, c7, c8, rfl, rel_sm hR0 rfl rfl rfl rfl rfl rfl rfl rfl rfl rfl rfl rfl rfl rfl rfl rfl rfl⟩
  rcases ix x1 nq (by omega) with ⟨c, c'⟩ | ⟨c, c'⟩ | ⟨j, hj2, rfl⟩
  · have r7 := rd7n (S := Ss) hwc hnq (Or.inl c')
    refine hno (-nI 1) ?_ ?_
    · unfold fX7_drink
      rw [r7, bd_some, if_neg (by decide)]
    · unfold fX8_drink
      simp (disch := omega) only [↓reduceIte, if_pos, if_neg, bd_some, nmV_e, inB_in, nI_cl, nI_leE, nI_ltE, nI_eqE, nI_add, pk_mul, lit_e, in_0_1, in_0_2, in_0_4, in_0_9, in_1_9, in_1_6, in_1_30, in_0_255, nI_ti, bI_i, bI_r, bI_j, bW_i, bW_j, bA_i, bA_j, bO_i, bO_r, bO_j, bJ_i, bJ_r, bJ_j, hin]
  · have r7 := rd7n (S := Ss) hwc hnq (Or.inr c')
    refine hno (-nI 1) ?_ ?_
    · unfold fX7_drink
      rw [r7, bd_some, if_neg (by decide)]
    · unfold fX8_drink
      simp (disch := omega) only [↓reduceIte, if_pos, if_neg, bd_some, nmV_e, inB_in, nI_cl, nI_leE, nI_ltE, nI_eqE, nI_add, pk_mul, lit_e, in_0_1, in_0_2, in_0_4, in_0_9, in_1_9, in_1_6, in_1_30, in_0_255, nI_ti, bI_i, bI_r, bI_j, bW_i, bW_j, bA_i, bA_j, bO_i, bO_r, bO_j, bJ_i, bJ_r, bJ_j, hin]
  · obtain ⟨th, td, tb, kn, dn, h⟩ := sr_sq hs
    have r7 := rd7 hB hwc h hj2
    have r8 : fX8_noDrink (bI Sm 0 (nI 0)) (Sm.2.1 7) 16 (nI j) = some (nDq wd th kn j) := rd8 hB hwm h hj2
    by_cases c : kn / 2 ^ j % 2 = 0 ∧ wd 4 j ≤ th (wd 3 j)
    · obtain ⟨v, u, n', q1, q2, q3, q4, q5, q6⟩ := rm (Sn := bI Sm 0 (nI 0)) hnt hs ha rfl rfl rfl
      have u7 : u.2.1 7 = Sm.2.1 7 := q5 7 (by omega)
      have hwm2 : RWm nt nq nd wd (bA (bA (bO (bI Sm 0 (nI 0)) u) 7 (u.2.1 7)) 9 (u.2.1 9)) := rwm_cg hwm (by show u.1 3 = _; rw [q3]; rfl) (by show u.1 4 = _; rw [q3]; rfl) (by show u.1 5 = _; rw [q3]; rfl) rfl rfl rfl
      obtain ⟨S', P, k1, k2, k3, k4⟩ := dk hB hwc hwm2 h hj2 c.2
      have a7 := ans7 hB hwc hj2
      obtain ⟨m0, m1, m2, m3⟩ := hwm.2.2.2.2.1 j hj2
      have c7 : fX7_drink Se Sw Ss Sc ro Sp (nI j) = some (nI (wd 11 j), bA (bA (bO Ss S') 1 (S'.2.1 1)) 2 (S'.2.1 2), v.1, v.2.1, v.2.2) := by
        unfold fX7_drink
        simp (disch := omega) only [↓reduceIte, if_pos, if_neg, bd_some, nmV_e, inB_in, nI_cl, nI_leE, nI_ltE, nI_eqE, nI_add, pk_mul, lit_e, in_0_1, in_0_2, in_0_4, in_0_9, in_1_9, in_1_6, in_1_30, in_0_255, nI_ti, bI_i, bI_r, bI_j, bW_i, bW_j, bA_i, bA_j, bO_i, bO_r, bO_j, bJ_i, bJ_r, bJ_j, r7, nDq0, c, q1, k1, a7, and_self]
      have c8 : fX8_drink Sm (nI j) = some (nI (wd 11 j), bA (bA (bA (bO (bI Sm 0 (nI 0)) u) 7 (u.2.1 7)) 9 (u.2.1 9)) 7 P) := by
        unfold fX8_drink
        rw [u7] at k2
        simp (disch := omega) only [↓reduceIte, if_pos, if_neg, bd_some, nmV_e, inB_in, nI_cl, nI_leE, nI_ltE, nI_eqE, nI_add, pk_mul, lit_e, in_0_1, in_0_2, in_0_4, in_0_9, in_1_9, in_1_6, in_1_30, in_0_255, nI_ti, bI_i, bI_r, bI_j, bW_i, bW_j, bA_i, bA_j, bO_i, bO_r, bO_j, bJ_i, bJ_r, bJ_j, hin, r8, nDq0, c, q2, u7, k2, m2, and_self]
      refine ⟨_, _, c7, c8, rfl, rel_a (Sm := Sm) hB hwc hwm ht hk hg rfl ?_ ?_ ?_ ?_ ?_ rfl rfl rfl rfl rfl rfl rfl rfl (hj.trans q4.symm) (sr_m3 hnt k4 k3) (q6 _ ?_ rfl)⟩
      · show u.1 1 = _; rw [q3]; rfl
      · show u.1 3 = _; rw [q3]; rfl
      · show u.1 4 = _; rw [q3]; rfl
      · show u.1 5 = _; rw [q3]; rfl
      · show u.1 10 = _; rw [q3]; rfl
      · show u.1 9 = _; rw [q3]; rfl
    · refine hno (nDq wd th kn j) ?_ ?_
      · unfold fX7_drink
        simp (disch := omega) only [↓reduceIte, if_pos, if_neg, bd_some, nmV_e, inB_in, nI_cl, nI_leE, nI_ltE, nI_eqE, nI_add, pk_mul, lit_e, in_0_1, in_0_2, in_0_4, in_0_9, in_1_9, in_1_6, in_1_30, in_0_255, nI_ti, bI_i, bI_r, bI_j, bW_i, bW_j, bA_i, bA_j, bO_i, bO_r, bO_j, bJ_i, bJ_r, bJ_j, r7, nDq0, c]
      · unfold fX8_drink
        simp (disch := omega) only [↓reduceIte, if_pos, if_neg, bd_some, nmV_e, inB_in, nI_cl, nI_leE, nI_ltE, nI_eqE, nI_add, pk_mul, lit_e, in_0_1, in_0_2, in_0_4, in_0_9, in_1_9, in_1_6, in_1_30, in_0_255, nI_ti, bI_i, bI_r, bI_j, bW_i, bW_j, bA_i, bA_j, bO_i, bO_r, bO_j, bJ_i, bJ_r, bJ_j, hin, r8, nDq0, c]
theorem st_act {Se Sx Sw Ss Sy Sz Sc : Bk} {ro : Nat} {Sg : Bk} {Sp : Nat → Bk} {Sm : Bk} (hR : Rel Se Sx Sw Ss Sy Sz Sc ro Sg Sp Sm) (x1 : Int32) : ∃ (u7 : Int32 × Bk × Bk × Nat × (Nat → Bk)) (u8 : Int32 × Bk), fX7_act Se Sw Ss Sc ro Sp x1 = some u7 ∧ fX8_act Sm x1 = some u8 ∧ u7.1 = u8.1 ∧ Rel Se Sx Sw u7.2.1 Sy Sz u7.2.2.1 u7.2.2.2.1 Sg u7.2.2.2.2 (bA (bA (bA (bA (bA (bO Sm u8.2) 1 (u8.2.2.1 1)) 2 (u8.2.2.1 2)) 3 (u8.2.2.1 3)) 7 (u8.2.2.1 7)) 9 (u8.2.2.1 9)) := by
  have hR0 := hR
  obtain ⟨nt, nq, nd, wd, hB, hwc, hwm, hs, ht, ha, hk, hg, hj⟩ := hR
  have hnt := hB.1
  have hnd := hB.2.2.1
  have v1 : (bI Sm 0 (nI 0)).1 5 = nI nd := hwm.2.2.1
  have hin := noD (bI Sm 0 (nI 0)) x1 (n := nd) (by omega) v1
  have hno : ∀ c : Int32, fX7_act Se Sw Ss Sc ro Sp x1 = some (c, Ss, Sc, ro, Sp) → fX8_act Sm x1 = some (c, bI Sm 0 (nI 0)) → ∃ (u7 : Int32 × Bk × Bk × Nat × (Nat → Bk)) (u8 : Int32 × Bk), fX7_act Se Sw Ss Sc ro Sp x1 = some u7 ∧ fX8_act Sm x1 = some u8 ∧ u7.1 = u8.1 ∧ Rel Se Sx Sw u7.2.1 Sy Sz u7.2.2.1 u7.2.2.2.1 Sg u7.2.2.2.2 (bA (bA (bA (bA (bA (bO Sm u8.2) 1 (u8.2.2.1 1)) 2 (u8.2.2.1 2)) 3 (u8.2.2.1 3)) 7 (u8.2.2.1 7)) 9 (u8.2.2.1 9)) := fun c c7 c8 => ⟨_, _, c7, c8, rfl, rel_sm hR0 rfl rfl rfl rfl rfl rfl rfl rfl rfl rfl rfl rfl rfl rfl rfl rfl rfl⟩
  rcases ix x1 nd (by omega) with ⟨c, c'⟩ | ⟨c, c'⟩ | ⟨j, hj2, rfl⟩
  · have r7 := ra7n (S := Ss) hwc hnd (Or.inl c')
    refine hno (-nI 1) ?_ ?_
    · unfold fX7_act
      rw [r7, bd_some, if_neg (by decide)]
    · unfold fX8_act
      simp (disch := omega) only [↓reduceIte, if_pos, if_neg, bd_some, nmV_e, inB_in, nI_cl, nI_leE, nI_ltE, nI_eqE, nI_add, pk_mul, lit_e, in_0_1, in_0_2, in_0_4, in_0_9, in_1_9, in_1_6, in_1_30, in_0_255, nI_ti, bI_i, bI_r, bI_j, bW_i, bW_j, bA_i, bA_j, bO_i, bO_r, bO_j, bJ_i, bJ_r, bJ_j, hin]
  · have r7 := ra7n (S := Ss) hwc hnd (Or.inr c')
    refine hno (-nI 1) ?_ ?_
    · unfold fX7_act
      rw [r7, bd_some, if_neg (by decide)]
    · unfold fX8_act
      simp (disch := omega) only [↓reduceIte, if_pos, if_neg, bd_some, nmV_e, inB_in, nI_cl, nI_leE, nI_ltE, nI_eqE, nI_add, pk_mul, lit_e, in_0_1, in_0_2, in_0_4, in_0_9, in_1_9, in_1_6, in_1_30, in_0_255, nI_ti, bI_i, bI_r, bI_j, bW_i, bW_j, bA_i, bA_j, bO_i, bO_r, bO_j, bJ_i, bJ_r, bJ_j, hin]
  · obtain ⟨th, td, tb, kn, dn, h⟩ := sr_sq hs
    have r7 := ra7 hB hwc h hj2
    have r8 : fX8_noAct (bI Sm 0 (nI 0)) (Sm.2.1 7) 16 (nI j) = some (nAd wd th dn j) := ra8 hB hwm h hj2
    by_cases c : dn / 2 ^ j % 2 = 0 ∧ wd 10 j ≤ th (wd 9 j)
    · obtain ⟨v, u, n', q1, q2, q3, q4, q5, q6⟩ := rm (Sn := bI Sm 0 (nI 0)) hnt hs ha rfl rfl rfl
      have u7 : u.2.1 7 = Sm.2.1 7 := q5 7 (by omega)
      have hwm2 : RWm nt nq nd wd (bA (bA (bO (bI Sm 0 (nI 0)) u) 7 (u.2.1 7)) 9 (u.2.1 9)) := rwm_cg hwm (by show u.1 3 = _; rw [q3]; rfl) (by show u.1 4 = _; rw [q3]; rfl) (by show u.1 5 = _; rw [q3]; rfl) rfl rfl rfl
      obtain ⟨S', P, k1, k2, k3, k4⟩ := co hB hwc hwm2 h hj2 c.1 c.2
      have k5 := sr_m3 (S := Ss) hnt k4 k3
      have e7 := es7 hB hwc (bA (bA (bO Ss S') 1 (S'.2.1 1)) 2 (S'.2.1 2))
      have e8 := es8 (Sm := bA (bA (bA (bO (bI Sm 0 (nI 0)) u) 7 (u.2.1 7)) 9 (u.2.1 9)) 7 P) hB hwm2 P
      rw [es_eq k5] at e7
      have c7 : fX7_act Se Sw Ss Sc ro Sp (nI j) = some (nI 1000 + P 15 + wS wd P nt, bA (bA (bO Ss S') 1 (S'.2.1 1)) 2 (S'.2.1 2), v.1, v.2.1, v.2.2) := by
        unfold fX7_act
        simp (disch := omega) only [↓reduceIte, if_pos, if_neg, bd_some, nmV_e, inB_in, nI_cl, nI_leE, nI_ltE, nI_eqE, nI_add, pk_mul, lit_e, in_0_1, in_0_2, in_0_4, in_0_9, in_1_9, in_1_6, in_1_30, in_0_255, nI_ti, bI_i, bI_r, bI_j, bW_i, bW_j, bA_i, bA_j, bO_i, bO_r, bO_j, bJ_i, bJ_r, bJ_j, r7, nAd0, c, q1, k1, e7, and_self]
      have c8 : fX8_act Sm (nI j) = some (nI 1000 + P 15 + wS wd P nt, bA (bA (bA (bO (bI Sm 0 (nI 0)) u) 7 (u.2.1 7)) 9 (u.2.1 9)) 7 P) := by
        unfold fX8_act
        rw [u7] at k2 e8
        simp (disch := omega) only [↓reduceIte, if_pos, if_neg, bd_some, nmV_e, inB_in, nI_cl, nI_leE, nI_ltE, nI_eqE, nI_add, pk_mul, lit_e, in_0_1, in_0_2, in_0_4, in_0_9, in_1_9, in_1_6, in_1_30, in_0_255, nI_ti, bI_i, bI_r, bI_j, bW_i, bW_j, bA_i, bA_j, bO_i, bO_r, bO_j, bJ_i, bJ_r, bJ_j, hin, r8, nAd0, c, q2, u7, k2, e8, and_self]
      refine ⟨_, _, c7, c8, rfl, rel_a (Sm := Sm) hB hwc hwm ht hk hg rfl ?_ ?_ ?_ ?_ ?_ rfl rfl rfl rfl rfl rfl rfl rfl (hj.trans q4.symm) k5 (q6 _ ?_ rfl)⟩
      · show u.1 1 = _; rw [q3]; rfl
      · show u.1 3 = _; rw [q3]; rfl
      · show u.1 4 = _; rw [q3]; rfl
      · show u.1 5 = _; rw [q3]; rfl
      · show u.1 10 = _; rw [q3]; rfl
      · show u.1 9 = _; rw [q3]; rfl
    · refine hno (nAd wd th dn j) ?_ ?_
      · unfold fX7_act
        simp (disch := omega) only [↓reduceIte, if_pos, if_neg, bd_some, nmV_e, inB_in, nI_cl, nI_leE, nI_ltE, nI_eqE, nI_add, pk_mul, lit_e, in_0_1, in_0_2, in_0_4, in_0_9, in_1_9, in_1_6, in_1_30, in_0_255, nI_ti, bI_i, bI_r, bI_j, bW_i, bW_j, bA_i, bA_j, bO_i, bO_r, bO_j, bJ_i, bJ_r, bJ_j, r7, nAd0, c]
      · unfold fX8_act
        simp (disch := omega) only [↓reduceIte, if_pos, if_neg, bd_some, nmV_e, inB_in, nI_cl, nI_leE, nI_ltE, nI_eqE, nI_add, pk_mul, lit_e, in_0_1, in_0_2, in_0_4, in_0_9, in_1_9, in_1_6, in_1_30, in_0_255, nI_ti, bI_i, bI_r, bI_j, bW_i, bW_j, bA_i, bA_j, bO_i, bO_r, bO_j, bJ_i, bJ_r, bJ_j, hin, r8, nAd0, c]
theorem st_day {Se Sx Sw Ss Sy Sz Sc : Bk} {ro : Nat} {Sg : Bk} {Sp : Nat → Bk} {Sm : Bk} (hR : Rel Se Sx Sw Ss Sy Sz Sc ro Sg Sp Sm) : ∃ (u7 : Int32 × Bk × Bk × Nat × (Nat → Bk)) (u8 : Int32 × Bk), fX7_day Se Sw Ss Sc ro Sp = some u7 ∧ fX8_day Sm  = some u8 ∧ u7.1 = u8.1 ∧ Rel Se Sx Sw u7.2.1 Sy Sz u7.2.2.1 u7.2.2.2.1 Sg u7.2.2.2.2 (bA (bA (bA (bO Sm u8.2) 1 (u8.2.2.1 1)) 7 (u8.2.2.1 7)) 9 (u8.2.2.1 9)) := by
  obtain ⟨nt, nq, nd, wd, hB, hwc, hwm, hs, ht, ha, hk, hg, hj⟩ := hR
  have hnt := hB.1
  obtain ⟨v, u, n', q1, q2, q3, q4, q5, q6⟩ := rm (Sn := bI Sm 0 (nI 0)) hnt hs ha rfl rfl rfl
  have u7 : u.2.1 7 = Sm.2.1 7 := q5 7 (by omega)
  have hwm2 : RWm nt nq nd wd (bA (bA (bO (bI Sm 0 (nI 0)) u) 7 (u.2.1 7)) 9 (u.2.1 9)) := rwm_cg hwm (by show u.1 3 = _; rw [q3]; rfl) (by show u.1 4 = _; rw [q3]; rfl) (by show u.1 5 = _; rw [q3]; rfl) rfl rfl rfl
  obtain ⟨r, S', P, k1, k2, k4⟩ := pd hB hwc hwm2 hs
  have c7 : fX7_day Se Sw Ss Sc ro Sp = some (r, S', v.1, v.2.1, v.2.2) := by
    unfold fX7_day
    simp (disch := omega) only [↓reduceIte, if_pos, if_neg, bd_some, nmV_e, inB_in, nI_cl, nI_leE, nI_ltE, nI_eqE, nI_add, pk_mul, lit_e, in_0_1, in_0_2, in_0_4, in_0_9, in_1_9, in_1_6, in_1_30, in_0_255, nI_ti, bI_i, bI_r, bI_j, bW_i, bW_j, bA_i, bA_j, bO_i, bO_r, bO_j, bJ_i, bJ_r, bJ_j, q1, k1]
  have c8 : fX8_day Sm = some (r, bA (bA (bA (bO (bI Sm 0 (nI 0)) u) 7 (u.2.1 7)) 9 (u.2.1 9)) 7 P) := by
    unfold fX8_day
    rw [u7] at k2
    simp (disch := omega) only [↓reduceIte, if_pos, if_neg, bd_some, nmV_e, inB_in, nI_cl, nI_leE, nI_ltE, nI_eqE, nI_add, pk_mul, lit_e, in_0_1, in_0_2, in_0_4, in_0_9, in_1_9, in_1_6, in_1_30, in_0_255, nI_ti, bI_i, bI_r, bI_j, bW_i, bW_j, bA_i, bA_j, bO_i, bO_r, bO_j, bJ_i, bJ_r, bJ_j, q2, u7, k2]
  refine ⟨_, _, c7, c8, rfl, rel_a (Sm := Sm) hB hwc hwm ht hk hg rfl ?_ ?_ ?_ ?_ ?_ rfl rfl rfl rfl rfl rfl rfl rfl (hj.trans q4.symm) k4 (q6 _ ?_ rfl)⟩
  · show u.1 1 = _; rw [q3]; rfl
  · show u.1 3 = _; rw [q3]; rfl
  · show u.1 4 = _; rw [q3]; rfl
  · show u.1 5 = _; rw [q3]; rfl
  · show u.1 10 = _; rw [q3]; rfl
  · show u.1 9 = _; rw [q3]; rfl
theorem un27 {S : Bk} {n : Nat} (hn : n < 14) (h : S.1 9 = nI n) : ∃ u, lk2 sX8_undo_27 1000 (nI 0) S = some (nI n, u) ∧ CP S u 7 0 16 (fun k => S.2.1 9 (16 * n + k)) := by
  obtain ⟨a, S', ⟨e1, e2⟩, hF⟩ := lk2_inv (f := sX8_undo_27) (fun t a S' => a = nI t ∧ CP S S' 7 0 t (fun k => S.2.1 9 (16 * n + k))) 16 (fun t a S' ht hI => by
    obtain ⟨e1, e2⟩ := hI
    refine ⟨nI (t + 1), bW S' 7 (0 + t) (S.2.1 9 (16 * n + t)), fun k => ?_, rfl, cp_s e2⟩
    subst e1
    have q1 : S'.1 9 = nI n := by rw [e2.1]; exact h
    have q2 := e2.2.2.1 9 (by omega)
    unfold sX8_undo_27
    simp (disch := omega) only [↓reduceIte, if_pos, if_neg, bd_some, nmV_e, inB_in, nI_cl, nI_leE, nI_ltE, nI_eqE, nI_add, pk_mul, lit_e, in_0_1, in_0_2, in_0_4, in_0_9, in_1_9, in_1_6, in_1_30, in_0_255, nI_ti, bI_i, bI_r, bI_j, bW_i, bW_j, bA_i, bA_j, bO_i, bO_r, bO_j, bJ_i, bJ_r, bJ_j, q1, q2, Nat.zero_add]) (nI 0) S ⟨rfl, cp_0⟩
  obtain ⟨k, hk⟩ := hF 1000 (by omega)
  refine ⟨S', hk.trans ?_, e2⟩
  subst e1
  have q1 : S'.1 9 = nI n := by rw [e2.1]; exact h
  unfold sX8_undo_27
  simp (disch := omega) only [↓reduceIte, if_pos, if_neg, bd_some, nmV_e, inB_in, nI_cl, nI_leE, nI_ltE, nI_eqE, nI_add, pk_mul, lit_e, in_0_1, in_0_2, in_0_4, in_0_9, in_1_9, in_1_6, in_1_30, in_0_255, nI_ti, bI_i, bI_r, bI_j, bW_i, bW_j, bA_i, bA_j, bO_i, bO_r, bO_j, bJ_i, bJ_r, bJ_j, q1]
theorem st_undo {Se Sx Sw Ss Sy Sz Sc : Bk} {ro : Nat} {Sg : Bk} {Sp : Nat → Bk} {Sm : Bk} (hR : Rel Se Sx Sw Ss Sy Sz Sc ro Sg Sp Sm) : ∃ (u7 : Int32 × Bk × Bk) (u8 : Int32 × Bk), fX7_undo Se Ss Sc ro Sp = some u7 ∧ fX8_undo Sm  = some u8 ∧ u7.1 = u8.1 ∧ Rel Se Sx Sw u7.2.1 Sy Sz u7.2.2 ro Sg Sp (bA (bA (bO Sm u8.2) 7 (u8.2.2.1 7)) 9 (u8.2.2.1 9)) := by
  have hR0 := hR
  obtain ⟨nt, nq, nd, wd, hB, hwc, hwm, hs, ht, ⟨n, hn, a1, a2, a3⟩, hk, hg, hj⟩ := hR
  have hnt := hB.1
  by_cases c : n = 0
  · subst c
    have c7 : fX7_undo Se Ss Sc ro Sp = some (-nI 3, Ss, Sc) := by
      unfold fX7_undo
      simp (disch := omega) only [↓reduceIte, if_pos, if_neg, bd_some, nmV_e, inB_in, nI_cl, nI_leE, nI_ltE, nI_eqE, nI_add, pk_mul, lit_e, in_0_1, in_0_2, in_0_4, in_0_9, in_1_9, in_1_6, in_1_30, in_0_255, nI_ti, bI_i, bI_r, bI_j, bW_i, bW_j, bA_i, bA_j, bO_i, bO_r, bO_j, bJ_i, bJ_r, bJ_j, a1]
    have c8 : fX8_undo Sm = some (-nI 3, bI Sm 0 (nI 0)) := by
      unfold fX8_undo
      simp (disch := omega) only [↓reduceIte, if_pos, if_neg, bd_some, nmV_e, inB_in, nI_cl, nI_leE, nI_ltE, nI_eqE, nI_add, pk_mul, lit_e, in_0_1, in_0_2, in_0_4, in_0_9, in_1_9, in_1_6, in_1_30, in_0_255, nI_ti, bI_i, bI_r, bI_j, bW_i, bW_j, bA_i, bA_j, bO_i, bO_r, bO_j, bJ_i, bJ_r, bJ_j, a2]
    exact ⟨_, _, c7, c8, rfl, rel_sm hR0 rfl rfl rfl rfl rfl rfl rfl rfl rfl rfl rfl rfl rfl rfl rfl rfl rfl⟩
  · obtain ⟨m, rfl⟩ : ∃ m, n = m + 1 := ⟨n - 1, by omega⟩
    have em : nI (m + 1) - nI 1 = nI m := nI_pred m
    obtain ⟨u, q1, x1, x2, x3, x4⟩ := un27 (S := bI (bI Sm 0 (nI 0)) 9 (nI m)) (n := m) (by omega) rfl
    obtain ⟨cc, k1, k2⟩ := cf (nt := nt) (nq := nq) (nd := nd) (wd := wd) hnt Ss (Sp ((m + ro) % 14))
    have c7 : fX7_undo Se Ss Sc ro Sp = some (nI m, cc, bI Sc 0 (nI m)) := by
      unfold fX7_undo fX0_takeBack
      simp (disch := omega) only [↓reduceIte, if_pos, if_neg, bd_some, nmV_e, inB_in, nI_cl, nI_leE, nI_ltE, nI_eqE, nI_add, pk_mul, lit_e, in_0_1, in_0_2, in_0_4, in_0_9, in_1_9, in_1_6, in_1_30, in_0_255, nI_ti, bI_i, bI_r, bI_j, bW_i, bW_j, bA_i, bA_j, bO_i, bO_r, bO_j, bJ_i, bJ_r, bJ_j, a1, em, k1]
    have c8 : fX8_undo Sm = some (nI m, u) := by
      unfold fX8_undo
      simp (disch := omega) only [↓reduceIte, if_pos, if_neg, bd_some, nmV_e, inB_in, nI_cl, nI_leE, nI_ltE, nI_eqE, nI_add, pk_mul, lit_e, in_0_1, in_0_2, in_0_4, in_0_9, in_1_9, in_1_6, in_1_30, in_0_255, nI_ti, bI_i, bI_r, bI_j, bW_i, bW_j, bA_i, bA_j, bO_i, bO_r, bO_j, bJ_i, bJ_r, bJ_j, a2, em]
      exact q1
    refine ⟨_, _, c7, c8, rfl, rel_a (Sm := Sm) hB hwc hwm ht hk hg rfl ?_ ?_ ?_ ?_ ?_ rfl rfl rfl rfl rfl rfl rfl rfl (hj.trans x2.symm) ?_ ⟨m, by omega, rfl, ?_, fun i hi => ?_⟩⟩
    · show u.1 1 = _; rw [x1]; rfl
    · show u.1 3 = _; rw [x1]; rfl
    · show u.1 4 = _; rw [x1]; rfl
    · show u.1 5 = _; rw [x1]; rfl
    · show u.1 10 = _; rw [x1]; rfl
    · refine sr_cg (k2 _ (a3 m (by omega))) hnt rfl rfl rfl rfl (fun _ _ => rfl) (fun _ _ => rfl) (fun _ _ => rfl) (fun j hj => ?_)
      show u.2.1 7 j = _
      rw [x4, if_pos (by omega)]; rfl
    · show u.1 9 = _; rw [x1]; rfl
    · refine sr_cg (a3 i (by omega)) hnt rfl rfl rfl rfl (fun _ _ => rfl) (fun _ _ => rfl) (fun _ _ => rfl) (fun j hj => ?_)
      show u.2.1 9 (16 * i + j) = _
      rw [x3 9 (by omega)]; rfl
