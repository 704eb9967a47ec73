theorem i32_eq (x y : Int32) : (x = y) = (x.toInt = y.toInt) := propext Int32.toInt_inj.symm
def wS (wd : Nat → Nat → Nat) (P : Nat → Int32) : Nat → Int32
  | 0 => 0
  | t + 1 => wS wd P t + if wd 2 t = 3 ∧ P t < nI (wd 0 t) then 0 else P t * nI (wd 1 t)
theorem wS_cg {wd : Nat → Nat → Nat} {P P' : Nat → Int32} : ∀ {n : Nat}, (∀ t, t < n → P t = P' t) → wS wd P n = wS wd P' n
  | 0, _ => rfl
  | n + 1, h => by
    unfold wS
    rw [wS_cg (fun t ht => h t (by omega)), h n (by omega)]
theorem w6 {nt nq nd : Nat} {wd : Nat → Nat → Nat} {Sw : Bk} (hB : WB nt nq nd wd) (hwc : RWc nt nq nd wd Sw) {np : Nat} (h1 : nt ≤ np) (h2 : np < 2147483648) (P : Nat → Int32) : fX6_worthOf Sw P np = some (wS wd P nt) := by
  unfold fX6_worthOf
  have hnt := hB.1
  refine lk2_run (fun t => wS wd P t) (fun t => nI t) nt (fun k t ht => ?_) (fun k => ?_) 1000 (by omega)
  · obtain ⟨g0, g1, g2⟩ := hwc.2.2.2.1 t ht
    obtain ⟨b0, b1, b2, b3⟩ := hB.2.2.2.1 t ht
    have e0 := hwc.1
    show sX6_worthOf_4 Sw P np k (wS wd P t) (nI t) = k (wS wd P t + _) (nI (t + 1))
    unfold sX6_worthOf_4 gX6_worthOf_34 gX6_worthOf_47
    simp (disch := omega) only [↓reduceIte, if_pos, if_neg, bd_some, nmV_e, inB_in, nI_cl, nI_leE, nI_ltE, nI_eqE, nI_add, pk_mul, lit_e, in_0_1, in_0_2, in_0_4, in_0_9, in_1_9, in_1_6, in_1_30, in_0_255, nI_ti, bI_i, bI_r, bI_j, bW_i, bW_j, bA_i, bA_j, bO_i, bO_r, bO_j, bJ_i, bJ_r, bJ_j, e0, g0, g1, g2]
    by_cases q : wd 2 t = 3
    · by_cases q2 : P t < nI (wd 0 t)
      · rw [if_pos q, if_pos q2, if_pos ⟨q, q2⟩, show wS wd P t + nI 0 = wS wd P t from Int32.add_zero _]
      · rw [if_pos q, if_neg q2, if_neg (fun h => q2 h.2), Int32.mul_comm]
    · rw [if_neg q, if_neg (fun h => q h.1), Int32.mul_comm]
  · have e0 := hwc.1
    unfold sX6_worthOf_4
    simp (disch := omega) only [↓reduceIte, if_pos, if_neg, bd_some, nmV_e, inB_in, nI_cl, nI_leE, nI_ltE, nI_eqE, nI_add, pk_mul, lit_e, in_0_1, in_0_2, in_0_4, in_0_9, in_1_9, in_1_6, in_1_30, in_0_255, nI_ti, bI_i, bI_r, bI_j, bW_i, bW_j, bA_i, bA_j, bO_i, bO_r, bO_j, bJ_i, bJ_r, bJ_j, e0]
theorem w8 {nt nq nd : Nat} {wd : Nat → Nat → Nat} {Sm : Bk} (hB : WB nt nq nd wd) (hwm : RWm nt nq nd wd Sm) {np : Nat} (h1 : nt ≤ np) (h2 : np < 2147483648) (P : Nat → Int32) : fX8_worthOf Sm P np = some (wS wd P nt) := by
  unfold fX8_worthOf
  have hnt := hB.1
  refine lk2_run (fun t => wS wd P t) (fun t => nI t) nt (fun k t ht => ?_) (fun k => ?_) 1000 (by omega)
  · obtain ⟨g0, g1, g2⟩ := hwm.2.2.2.1 t ht
    obtain ⟨b0, b1, b2, b3⟩ := hB.2.2.2.1 t ht
    have e0 := hwm.1
    show sX8_worthOf_4 Sm P np k (wS wd P t) (nI t) = k (wS wd P t + _) (nI (t + 1))
    unfold sX8_worthOf_4 gX8_worthOf_44 gX8_worthOf_45 gX8_worthOf_71
    simp (disch := omega) only [↓reduceIte, if_pos, if_neg, bd_some, nmV_e, inB_in, nI_cl, nI_leE, nI_ltE, nI_eqE, nI_add, pk_mul, lit_e, in_0_1, in_0_2, in_0_4, in_0_9, in_1_9, in_1_6, in_1_30, in_0_255, nI_ti, bI_i, bI_r, bI_j, bW_i, bW_j, bA_i, bA_j, bO_i, bO_r, bO_j, bJ_i, bJ_r, bJ_j, e0, g0, g1, g2]
    by_cases q : wd 2 t = 3
    · by_cases q2 : P t < nI (wd 0 t)
      · rw [if_pos q, if_neg (Int32.not_le.mpr q2), if_pos ⟨q, q2⟩]
      · rw [if_pos q, if_pos (Int32.not_lt.mp q2), if_neg (fun h => q2 h.2)]
    · rw [if_neg q, if_neg (fun h => q h.1)]
  · have e0 := hwm.1
    unfold sX8_worthOf_4
    simp (disch := omega) only [↓reduceIte, if_pos, if_neg, bd_some, nmV_e, inB_in, nI_cl, nI_leE, nI_ltE, nI_eqE, nI_add, pk_mul, lit_e, in_0_1, in_0_2, in_0_4, in_0_9, in_1_9, in_1_6, in_1_30, in_0_255, nI_ti, bI_i, bI_r, bI_j, bW_i, bW_j, bA_i, bA_j, bO_i, bO_r, bO_j, bJ_i, bJ_r, bJ_j, e0]
theorem es7 {nt nq nd : Nat} {wd : Nat → Nat → Nat} {Sw : Bk} (hB : WB nt nq nd wd) (hwc : RWc nt nq nd wd Sw) (S : Bk) : fX3_estate Sw S = some (nI 1000 + S.1 3 + wS wd (S.2.1 1) nt) := by
  have hnt := hB.1
  unfold fX3_estate fX3_base
  simp (disch := omega) only [↓reduceIte, if_pos, if_neg, bd_some, nmV_e, inB_in, nI_cl, nI_leE, nI_ltE, nI_eqE, nI_add, pk_mul, lit_e, in_0_1, in_0_2, in_0_4, in_0_9, in_1_9, in_1_6, in_1_30, in_0_255, nI_ti, bI_i, bI_r, bI_j, bW_i, bW_j, bA_i, bA_j, bO_i, bO_r, bO_j, bJ_i, bJ_r, bJ_j, w6 hB hwc (np := 4) hnt (by omega)]
theorem es8 {nt nq nd : Nat} {wd : Nat → Nat → Nat} {Sm : Bk} (hB : WB nt nq nd wd) (hwm : RWm nt nq nd wd Sm) (P : Nat → Int32) : fX8_estateOf Sm P 16 = some (nI 1000 + P 15 + wS wd P nt) := by
  have hnt := hB.1
  unfold fX8_estateOf
  simp (disch := omega) only [↓reduceIte, if_pos, if_neg, bd_some, nmV_e, inB_in, nI_cl, nI_leE, nI_ltE, nI_eqE, nI_add, pk_mul, lit_e, in_0_1, in_0_2, in_0_4, in_0_9, in_1_9, in_1_6, in_1_30, in_0_255, nI_ti, bI_i, bI_r, bI_j, bW_i, bW_j, bA_i, bA_j, bO_i, bO_r, bO_j, bJ_i, bJ_r, bJ_j, w8 hB hwm (np := 16) (by omega) (by omega)]
/-- the estates are alike -/
theorem es_eq {nt nq nd : Nat} {wd : Nat → Nat → Nat} {S : Bk} {pg : Nat → Int32} (hs : SR nt nq nd wd S pg) : nI 1000 + S.1 3 + wS wd (S.2.1 1) nt = nI 1000 + pg 15 + wS wd pg nt := by
  obtain ⟨th, td, tb, kn, dn, h1, -, -, -, -, -, -, -, h9, -⟩ := hs
  rw [h9, wS_cg (fun t ht => ((h1 t ht).1.trans (h1 t ht).2.1.symm))]
theorem st_about {Se Sx Sw Ss Sy Sz Sc : Bk} {ro : Nat} {Sg : Bk} {Sp : Nat → Bk} {Sm : Bk} (hR : Rel Se Sx Sw Ss Sy Sz Sc ro Sg Sp Sm) (x1 : Int32) : ∃ (u7 : Int32) (u8 : Int32 × Bk), fX7_about Se Sx Sw Ss Sc Sg x1 = some u7 ∧ fX8_about Sm x1 = some u8 ∧ u7 = u8.1 ∧ Rel Se Sx Sw Ss Sy Sz Sc ro Sg Sp (bA (bA (bO Sm u8.2) 1 (u8.2.2.1 1)) 7 (u8.2.2.1 7)) := by
  have hR0 := hR
  obtain ⟨nt, nq, nd, wd, hB, hwc, hwm, hs, ⟨n, hn, e1, e2, e3⟩, ⟨na, hna, a1, a2, a3⟩, hk, ⟨ng, hng, g1, g2, g3⟩, hj⟩ := hR
  have he := es_eq hs
  have e7 := es7 hB hwc Ss
  have e8 := es8 (Sm := bI Sm 0 (nI 0)) hB hwm (Sm.2.1 7)
  obtain ⟨th, td, tb, kn, dn, h1, h2, h3, h4, h5, h6, h7, h8, h9, h10⟩ := hs
  obtain ⟨w1, w2, w3, -⟩ := hwc
  obtain ⟨v1, v2, v3, -⟩ := hwm
  suffices hfin : ∃ r : Int32, fX7_about Se Sx Sw Ss Sc Sg x1 = some r ∧ fX8_about Sm x1 = some (r, bI Sm 0 (nI 0)) from by
    obtain ⟨r, c7, c8⟩ := hfin
    exact ⟨r, (r, bI Sm 0 (nI 0)), c7, c8, rfl, rel_sm hR0 rfl rfl rfl rfl rfl rfl rfl rfl rfl rfl rfl rfl rfl rfl rfl rfl rfl⟩
  rcases ix x1 10 (by omega) with ⟨h, h'⟩ | ⟨h, h'⟩ | ⟨j, hj2, rfl⟩
  · refine ⟨(-2), ?_, ?_⟩
    · unfold fX7_about
      simp (disch := omega) only [↓reduceIte, if_pos, if_neg, bd_some, nmV_e, inB_in, nI_cl, nI_leE, nI_ltE, nI_eqE, nI_add, pk_mul, lit_e, in_0_1, in_0_2, in_0_4, in_0_9, in_1_9, in_1_6, in_1_30, in_0_255, nI_ti, bI_i, bI_r, bI_j, bW_i, bW_j, bA_i, bA_j, bO_i, bO_r, bO_j, bJ_i, bJ_r, bJ_j, i32_eq]
    · unfold fX8_about
      simp (disch := omega) only [↓reduceIte, if_pos, if_neg, bd_some, nmV_e, inB_in, nI_cl, nI_leE, nI_ltE, nI_eqE, nI_add, pk_mul, lit_e, in_0_1, in_0_2, in_0_4, in_0_9, in_1_9, in_1_6, in_1_30, in_0_255, nI_ti, bI_i, bI_r, bI_j, bW_i, bW_j, bA_i, bA_j, bO_i, bO_r, bO_j, bJ_i, bJ_r, bJ_j, i32_eq]
  · refine ⟨(-2), ?_, ?_⟩
    · unfold fX7_about
      simp (disch := omega) only [↓reduceIte, if_pos, if_neg, bd_some, nmV_e, inB_in, nI_cl, nI_leE, nI_ltE, nI_eqE, nI_add, pk_mul, lit_e, in_0_1, in_0_2, in_0_4, in_0_9, in_1_9, in_1_6, in_1_30, in_0_255, nI_ti, bI_i, bI_r, bI_j, bW_i, bW_j, bA_i, bA_j, bO_i, bO_r, bO_j, bJ_i, bJ_r, bJ_j, i32_eq]
    · unfold fX8_about
      simp (disch := omega) only [↓reduceIte, if_pos, if_neg, bd_some, nmV_e, inB_in, nI_cl, nI_leE, nI_ltE, nI_eqE, nI_add, pk_mul, lit_e, in_0_1, in_0_2, in_0_4, in_0_9, in_1_9, in_1_6, in_1_30, in_0_255, nI_ti, bI_i, bI_r, bI_j, bW_i, bW_j, bA_i, bA_j, bO_i, bO_r, bO_j, bJ_i, bJ_r, bJ_j, i32_eq]
  · rcases (show j = 0 ∨ j = 1 ∨ j = 2 ∨ j = 3 ∨ j = 4 ∨ j = 5 ∨ j = 6 ∨ j = 7 ∨ j = 8 ∨ j = 9 by omega) with rfl | rfl | rfl | rfl | rfl | rfl | rfl | rfl | rfl | rfl
    · refine ⟨(nI nt), ?_, ?_⟩
      · unfold fX7_about
        simp (disch := omega) only [↓reduceIte, if_pos, if_neg, bd_some, nmV_e, inB_in, nI_cl, nI_leE, nI_ltE, nI_eqE, nI_add, pk_mul, lit_e, in_0_1, in_0_2, in_0_4, in_0_9, in_1_9, in_1_6, in_1_30, in_0_255, nI_ti, bI_i, bI_r, bI_j, bW_i, bW_j, bA_i, bA_j, bO_i, bO_r, bO_j, bJ_i, bJ_r, bJ_j, w1]
      · unfold fX8_about
        simp (disch := omega) only [↓reduceIte, if_pos, if_neg, bd_some, nmV_e, inB_in, nI_cl, nI_leE, nI_ltE, nI_eqE, nI_add, pk_mul, lit_e, in_0_1, in_0_2, in_0_4, in_0_9, in_1_9, in_1_6, in_1_30, in_0_255, nI_ti, bI_i, bI_r, bI_j, bW_i, bW_j, bA_i, bA_j, bO_i, bO_r, bO_j, bJ_i, bJ_r, bJ_j, v1]
    · refine ⟨(nI nq), ?_, ?_⟩
      · unfold fX7_about
        simp (disch := omega) only [↓reduceIte, if_pos, if_neg, bd_some, nmV_e, inB_in, nI_cl, nI_leE, nI_ltE, nI_eqE, nI_add, pk_mul, lit_e, in_0_1, in_0_2, in_0_4, in_0_9, in_1_9, in_1_6, in_1_30, in_0_255, nI_ti, bI_i, bI_r, bI_j, bW_i, bW_j, bA_i, bA_j, bO_i, bO_r, bO_j, bJ_i, bJ_r, bJ_j, w2]
      · unfold fX8_about
        simp (disch := omega) only [↓reduceIte, if_pos, if_neg, bd_some, nmV_e, inB_in, nI_cl, nI_leE, nI_ltE, nI_eqE, nI_add, pk_mul, lit_e, in_0_1, in_0_2, in_0_4, in_0_9, in_1_9, in_1_6, in_1_30, in_0_255, nI_ti, bI_i, bI_r, bI_j, bW_i, bW_j, bA_i, bA_j, bO_i, bO_r, bO_j, bJ_i, bJ_r, bJ_j, v2]
    · refine ⟨(nI nd), ?_, ?_⟩
      · unfold fX7_about
        simp (disch := omega) only [↓reduceIte, if_pos, if_neg, bd_some, nmV_e, inB_in, nI_cl, nI_leE, nI_ltE, nI_eqE, nI_add, pk_mul, lit_e, in_0_1, in_0_2, in_0_4, in_0_9, in_1_9, in_1_6, in_1_30, in_0_255, nI_ti, bI_i, bI_r, bI_j, bW_i, bW_j, bA_i, bA_j, bO_i, bO_r, bO_j, bJ_i, bJ_r, bJ_j, w3]
      · unfold fX8_about
        simp (disch := omega) only [↓reduceIte, if_pos, if_neg, bd_some, nmV_e, inB_in, nI_cl, nI_leE, nI_ltE, nI_eqE, nI_add, pk_mul, lit_e, in_0_1, in_0_2, in_0_4, in_0_9, in_1_9, in_1_6, in_1_30, in_0_255, nI_ti, bI_i, bI_r, bI_j, bW_i, bW_j, bA_i, bA_j, bO_i, bO_r, bO_j, bJ_i, bJ_r, bJ_j, v3]
    · refine ⟨(Sm.2.1 7 14), ?_, ?_⟩
      · unfold fX7_about
        simp (disch := omega) only [↓reduceIte, if_pos, if_neg, bd_some, nmV_e, inB_in, nI_cl, nI_leE, nI_ltE, nI_eqE, nI_add, pk_mul, lit_e, in_0_1, in_0_2, in_0_4, in_0_9, in_1_9, in_1_6, in_1_30, in_0_255, nI_ti, bI_i, bI_r, bI_j, bW_i, bW_j, bA_i, bA_j, bO_i, bO_r, bO_j, bJ_i, bJ_r, bJ_j, h8]
      · unfold fX8_about
        simp (disch := omega) only [↓reduceIte, if_pos, if_neg, bd_some, nmV_e, inB_in, nI_cl, nI_leE, nI_ltE, nI_eqE, nI_add, pk_mul, lit_e, in_0_1, in_0_2, in_0_4, in_0_9, in_1_9, in_1_6, in_1_30, in_0_255, nI_ti, bI_i, bI_r, bI_j, bW_i, bW_j, bA_i, bA_j, bO_i, bO_r, bO_j, bJ_i, bJ_r, bJ_j]
    · refine ⟨(nI kn), ?_, ?_⟩
      · unfold fX7_about
        simp (disch := omega) only [↓reduceIte, if_pos, if_neg, bd_some, nmV_e, inB_in, nI_cl, nI_leE, nI_ltE, nI_eqE, nI_add, pk_mul, lit_e, in_0_1, in_0_2, in_0_4, in_0_9, in_1_9, in_1_6, in_1_30, in_0_255, nI_ti, bI_i, bI_r, bI_j, bW_i, bW_j, bA_i, bA_j, bO_i, bO_r, bO_j, bJ_i, bJ_r, bJ_j, h2]
      · unfold fX8_about
        simp (disch := omega) only [↓reduceIte, if_pos, if_neg, bd_some, nmV_e, inB_in, nI_cl, nI_leE, nI_ltE, nI_eqE, nI_add, pk_mul, lit_e, in_0_1, in_0_2, in_0_4, in_0_9, in_1_9, in_1_6, in_1_30, in_0_255, nI_ti, bI_i, bI_r, bI_j, bW_i, bW_j, bA_i, bA_j, bO_i, bO_r, bO_j, bJ_i, bJ_r, bJ_j, h3]
    · refine ⟨(nI dn), ?_, ?_⟩
      · unfold fX7_about
        simp (disch := omega) only [↓reduceIte, if_pos, if_neg, bd_some, nmV_e, inB_in, nI_cl, nI_leE, nI_ltE, nI_eqE, nI_add, pk_mul, lit_e, in_0_1, in_0_2, in_0_4, in_0_9, in_1_9, in_1_6, in_1_30, in_0_255, nI_ti, bI_i, bI_r, bI_j, bW_i, bW_j, bA_i, bA_j, bO_i, bO_r, bO_j, bJ_i, bJ_r, bJ_j, h5]
      · unfold fX8_about
        simp (disch := omega) only [↓reduceIte, if_pos, if_neg, bd_some, nmV_e, inB_in, nI_cl, nI_leE, nI_ltE, nI_eqE, nI_add, pk_mul, lit_e, in_0_1, in_0_2, in_0_4, in_0_9, in_1_9, in_1_6, in_1_30, in_0_255, nI_ti, bI_i, bI_r, bI_j, bW_i, bW_j, bA_i, bA_j, bO_i, bO_r, bO_j, bJ_i, bJ_r, bJ_j, h6]
    · refine ⟨(nI 1000 + Sm.2.1 7 15 + wS wd (Sm.2.1 7) nt), ?_, ?_⟩
      · unfold fX7_about
        simp (disch := omega) only [↓reduceIte, if_pos, if_neg, bd_some, nmV_e, inB_in, nI_cl, nI_leE, nI_ltE, nI_eqE, nI_add, pk_mul, lit_e, in_0_1, in_0_2, in_0_4, in_0_9, in_1_9, in_1_6, in_1_30, in_0_255, nI_ti, bI_i, bI_r, bI_j, bW_i, bW_j, bA_i, bA_j, bO_i, bO_r, bO_j, bJ_i, bJ_r, bJ_j, e7, he]
      · unfold fX8_about
        simp (disch := omega) only [↓reduceIte, if_pos, if_neg, bd_some, nmV_e, inB_in, nI_cl, nI_leE, nI_ltE, nI_eqE, nI_add, pk_mul, lit_e, in_0_1, in_0_2, in_0_4, in_0_9, in_1_9, in_1_6, in_1_30, in_0_255, nI_ti, bI_i, bI_r, bI_j, bW_i, bW_j, bA_i, bA_j, bO_i, bO_r, bO_j, bJ_i, bJ_r, bJ_j, e8]
    · refine ⟨(nI na), ?_, ?_⟩
      · unfold fX7_about
        simp (disch := omega) only [↓reduceIte, if_pos, if_neg, bd_some, nmV_e, inB_in, nI_cl, nI_leE, nI_ltE, nI_eqE, nI_add, pk_mul, lit_e, in_0_1, in_0_2, in_0_4, in_0_9, in_1_9, in_1_6, in_1_30, in_0_255, nI_ti, bI_i, bI_r, bI_j, bW_i, bW_j, bA_i, bA_j, bO_i, bO_r, bO_j, bJ_i, bJ_r, bJ_j, a1]
      · unfold fX8_about
        simp (disch := omega) only [↓reduceIte, if_pos, if_neg, bd_some, nmV_e, inB_in, nI_cl, nI_leE, nI_ltE, nI_eqE, nI_add, pk_mul, lit_e, in_0_1, in_0_2, in_0_4, in_0_9, in_1_9, in_1_6, in_1_30, in_0_255, nI_ti, bI_i, bI_r, bI_j, bW_i, bW_j, bA_i, bA_j, bO_i, bO_r, bO_j, bJ_i, bJ_r, bJ_j, a2]
    · refine ⟨(nI ng), ?_, ?_⟩
      · unfold fX7_about
        simp (disch := omega) only [↓reduceIte, if_pos, if_neg, bd_some, nmV_e, inB_in, nI_cl, nI_leE, nI_ltE, nI_eqE, nI_add, pk_mul, lit_e, in_0_1, in_0_2, in_0_4, in_0_9, in_1_9, in_1_6, in_1_30, in_0_255, nI_ti, bI_i, bI_r, bI_j, bW_i, bW_j, bA_i, bA_j, bO_i, bO_r, bO_j, bJ_i, bJ_r, bJ_j, g1]
      · unfold fX8_about
        simp (disch := omega) only [↓reduceIte, if_pos, if_neg, bd_some, nmV_e, inB_in, nI_cl, nI_leE, nI_ltE, nI_eqE, nI_add, pk_mul, lit_e, in_0_1, in_0_2, in_0_4, in_0_9, in_1_9, in_1_6, in_1_30, in_0_255, nI_ti, bI_i, bI_r, bI_j, bW_i, bW_j, bA_i, bA_j, bO_i, bO_r, bO_j, bJ_i, bJ_r, bJ_j, g2]
    · refine ⟨(nI n), ?_, ?_⟩
      · unfold fX7_about
        simp (disch := omega) only [↓reduceIte, if_pos, if_neg, bd_some, nmV_e, inB_in, nI_cl, nI_leE, nI_ltE, nI_eqE, nI_add, pk_mul, lit_e, in_0_1, in_0_2, in_0_4, in_0_9, in_1_9, in_1_6, in_1_30, in_0_255, nI_ti, bI_i, bI_r, bI_j, bW_i, bW_j, bA_i, bA_j, bO_i, bO_r, bO_j, bJ_i, bJ_r, bJ_j, e1]
      · unfold fX8_about
        simp (disch := omega) only [↓reduceIte, if_pos, if_neg, bd_some, nmV_e, inB_in, nI_cl, nI_leE, nI_ltE, nI_eqE, nI_add, pk_mul, lit_e, in_0_1, in_0_2, in_0_4, in_0_9, in_1_9, in_1_6, in_1_30, in_0_255, nI_ti, bI_i, bI_r, bI_j, bW_i, bW_j, bA_i, bA_j, bO_i, bO_r, bO_j, bJ_i, bJ_r, bJ_j, e2]
theorem st_thing {Se Sx Sw Ss Sy Sz Sc : Bk} {ro : Nat} {Sg : Bk} {Sp : Nat → Bk} {Sm : Bk} (hR : Rel Se Sx Sw Ss Sy Sz Sc ro Sg Sp Sm) (x1 : Int32) (x2 : Int32) : ∃ (u7 : Int32) (u8 : Int32 × Bk), fX7_thing Se Sw Ss x1 x2 = some u7 ∧ fX8_thing Sm x1 x2 = some u8 ∧ u7 = u8.1 ∧ Rel Se Sx Sw Ss Sy Sz Sc ro Sg Sp (bA (bA (bO Sm u8.2) 1 (u8.2.2.1 1)) 7 (u8.2.2.1 7)) := by
  have hR0 := hR
  obtain ⟨nt, nq, nd, wd, hB, hwc, hwm, hs, ht, ha, hk, hg, hj⟩ := hR
  suffices hfin : ∃ r : Int32, fX7_thing Se Sw Ss x1 x2 = some r ∧ fX8_thing Sm x1 x2 = some (r, bI Sm 0 (nI 0)) from by
    obtain ⟨r, c7, c8⟩ := hfin
    exact ⟨r, (r, bI Sm 0 (nI 0)), c7, c8, rfl, rel_sm hR0 rfl rfl rfl rfl rfl rfl rfl rfl rfl rfl rfl rfl rfl rfl rfl rfl rfl⟩
  have hnt := hB.1
  obtain ⟨th, td, tb, kn, dn, h1, -⟩ := hs
  have w1 := hwc.1
  have v1 := hwm.1
  have hin := in_n x1 (n := nt) (by omega)
  rcases ix x1 nt (by omega) with ⟨h, h'⟩ | ⟨h, h'⟩ | ⟨j, hj2, rfl⟩
  · refine ⟨-1, ?_, ?_⟩
    · unfold fX7_thing
      rw [if_pos h]
    · unfold fX8_thing
      rw [v1, hin]
      simp (disch := omega) only [↓reduceIte, if_pos, if_neg, bd_some, nmV_e, inB_in, nI_cl, nI_leE, nI_ltE, nI_eqE, nI_add, pk_mul, lit_e, in_0_1, in_0_2, in_0_4, in_0_9, in_1_9, in_1_6, in_1_30, in_0_255, nI_ti, bI_i, bI_r, bI_j, bW_i, bW_j, bA_i, bA_j, bO_i, bO_r, bO_j, bJ_i, bJ_r, bJ_j]
  · refine ⟨-1, ?_, ?_⟩
    · unfold fX7_thing
      simp (disch := omega) only [↓reduceIte, if_pos, if_neg, bd_some, nmV_e, inB_in, nI_cl, nI_leE, nI_ltE, nI_eqE, nI_add, pk_mul, lit_e, in_0_1, in_0_2, in_0_4, in_0_9, in_1_9, in_1_6, in_1_30, in_0_255, nI_ti, bI_i, bI_r, bI_j, bW_i, bW_j, bA_i, bA_j, bO_i, bO_r, bO_j, bJ_i, bJ_r, bJ_j, i32_lt, w1]
    · unfold fX8_thing
      rw [v1, hin]
      simp (disch := omega) only [↓reduceIte, if_pos, if_neg, bd_some, nmV_e, inB_in, nI_cl, nI_leE, nI_ltE, nI_eqE, nI_add, pk_mul, lit_e, in_0_1, in_0_2, in_0_4, in_0_9, in_1_9, in_1_6, in_1_30, in_0_255, nI_ti, bI_i, bI_r, bI_j, bW_i, bW_j, bA_i, bA_j, bO_i, bO_r, bO_j, bJ_i, bJ_r, bJ_j]
  · obtain ⟨g0, g1, g2⟩ := hwc.2.2.2.1 j hj2
    obtain ⟨m0, m1, m2⟩ := hwm.2.2.2.1 j hj2
    obtain ⟨b0, b1, b2, b3⟩ := hB.2.2.2.1 j hj2
    obtain ⟨s1, s2, s3, s4, s5, s6, s7⟩ := h1 j hj2
    rcases ix x2 5 (by omega) with ⟨h, h'⟩ | ⟨h, h'⟩ | ⟨i, hi2, rfl⟩
    · refine ⟨-2, ?_, ?_⟩
      · unfold fX7_thing
        simp (disch := omega) only [↓reduceIte, if_pos, if_neg, bd_some, nmV_e, inB_in, nI_cl, nI_leE, nI_ltE, nI_eqE, nI_add, pk_mul, lit_e, in_0_1, in_0_2, in_0_4, in_0_9, in_1_9, in_1_6, in_1_30, in_0_255, nI_ti, bI_i, bI_r, bI_j, bW_i, bW_j, bA_i, bA_j, bO_i, bO_r, bO_j, bJ_i, bJ_r, bJ_j, w1, i32_eq]
      · unfold fX8_thing
        rw [v1, hin]
        simp (disch := omega) only [↓reduceIte, if_pos, if_neg, bd_some, nmV_e, inB_in, nI_cl, nI_leE, nI_ltE, nI_eqE, nI_add, pk_mul, lit_e, in_0_1, in_0_2, in_0_4, in_0_9, in_1_9, in_1_6, in_1_30, in_0_255, nI_ti, bI_i, bI_r, bI_j, bW_i, bW_j, bA_i, bA_j, bO_i, bO_r, bO_j, bJ_i, bJ_r, bJ_j, i32_eq]
    · refine ⟨-2, ?_, ?_⟩
      · unfold fX7_thing
        simp (disch := omega) only [↓reduceIte, if_pos, if_neg, bd_some, nmV_e, inB_in, nI_cl, nI_leE, nI_ltE, nI_eqE, nI_add, pk_mul, lit_e, in_0_1, in_0_2, in_0_4, in_0_9, in_1_9, in_1_6, in_1_30, in_0_255, nI_ti, bI_i, bI_r, bI_j, bW_i, bW_j, bA_i, bA_j, bO_i, bO_r, bO_j, bJ_i, bJ_r, bJ_j, w1, i32_eq]
      · unfold fX8_thing
        rw [v1, hin]
        simp (disch := omega) only [↓reduceIte, if_pos, if_neg, bd_some, nmV_e, inB_in, nI_cl, nI_leE, nI_ltE, nI_eqE, nI_add, pk_mul, lit_e, in_0_1, in_0_2, in_0_4, in_0_9, in_1_9, in_1_6, in_1_30, in_0_255, nI_ti, bI_i, bI_r, bI_j, bW_i, bW_j, bA_i, bA_j, bO_i, bO_r, bO_j, bJ_i, bJ_r, bJ_j, i32_eq]
    · rcases (show i = 0 ∨ i = 1 ∨ i = 2 ∨ i = 3 ∨ i = 4 by omega) with rfl | rfl | rfl | rfl | rfl
      · refine ⟨nI (wd 0 j), ?_, ?_⟩
        · unfold fX7_thing
          simp (disch := omega) only [↓reduceIte, if_pos, if_neg, bd_some, nmV_e, inB_in, nI_cl, nI_leE, nI_ltE, nI_eqE, nI_add, pk_mul, lit_e, in_0_1, in_0_2, in_0_4, in_0_9, in_1_9, in_1_6, in_1_30, in_0_255, nI_ti, bI_i, bI_r, bI_j, bW_i, bW_j, bA_i, bA_j, bO_i, bO_r, bO_j, bJ_i, bJ_r, bJ_j, w1, g0]
        · unfold fX8_thing
          rw [v1, hin]
          simp (disch := omega) only [↓reduceIte, if_pos, if_neg, bd_some, nmV_e, inB_in, nI_cl, nI_leE, nI_ltE, nI_eqE, nI_add, pk_mul, lit_e, in_0_1, in_0_2, in_0_4, in_0_9, in_1_9, in_1_6, in_1_30, in_0_255, nI_ti, bI_i, bI_r, bI_j, bW_i, bW_j, bA_i, bA_j, bO_i, bO_r, bO_j, bJ_i, bJ_r, bJ_j, m0, Nat.add_zero]
      · refine ⟨nI (wd 1 j), ?_, ?_⟩
        · unfold fX7_thing
          simp (disch := omega) only [↓reduceIte, if_pos, if_neg, bd_some, nmV_e, inB_in, nI_cl, nI_leE, nI_ltE, nI_eqE, nI_add, pk_mul, lit_e, in_0_1, in_0_2, in_0_4, in_0_9, in_1_9, in_1_6, in_1_30, in_0_255, nI_ti, bI_i, bI_r, bI_j, bW_i, bW_j, bA_i, bA_j, bO_i, bO_r, bO_j, bJ_i, bJ_r, bJ_j, w1, g1]
        · unfold fX8_thing
          rw [v1, hin]
          simp (disch := omega) only [↓reduceIte, if_pos, if_neg, bd_some, nmV_e, inB_in, nI_cl, nI_leE, nI_ltE, nI_eqE, nI_add, pk_mul, lit_e, in_0_1, in_0_2, in_0_4, in_0_9, in_1_9, in_1_6, in_1_30, in_0_255, nI_ti, bI_i, bI_r, bI_j, bW_i, bW_j, bA_i, bA_j, bO_i, bO_r, bO_j, bJ_i, bJ_r, bJ_j, m1]
      · refine ⟨nI (wd 2 j), ?_, ?_⟩
        · unfold fX7_thing
          simp (disch := omega) only [↓reduceIte, if_pos, if_neg, bd_some, nmV_e, inB_in, nI_cl, nI_leE, nI_ltE, nI_eqE, nI_add, pk_mul, lit_e, in_0_1, in_0_2, in_0_4, in_0_9, in_1_9, in_1_6, in_1_30, in_0_255, nI_ti, bI_i, bI_r, bI_j, bW_i, bW_j, bA_i, bA_j, bO_i, bO_r, bO_j, bJ_i, bJ_r, bJ_j, w1, g2]
        · unfold fX8_thing
          rw [v1, hin]
          simp (disch := omega) only [↓reduceIte, if_pos, if_neg, bd_some, nmV_e, inB_in, nI_cl, nI_leE, nI_ltE, nI_eqE, nI_add, pk_mul, lit_e, in_0_1, in_0_2, in_0_4, in_0_9, in_1_9, in_1_6, in_1_30, in_0_255, nI_ti, bI_i, bI_r, bI_j, bW_i, bW_j, bA_i, bA_j, bO_i, bO_r, bO_j, bJ_i, bJ_r, bJ_j, m2]
      · refine ⟨nI (th j), ?_, ?_⟩
        · unfold fX7_thing
          simp (disch := omega) only [↓reduceIte, if_pos, if_neg, bd_some, nmV_e, inB_in, nI_cl, nI_leE, nI_ltE, nI_eqE, nI_add, pk_mul, lit_e, in_0_1, in_0_2, in_0_4, in_0_9, in_1_9, in_1_6, in_1_30, in_0_255, nI_ti, bI_i, bI_r, bI_j, bW_i, bW_j, bA_i, bA_j, bO_i, bO_r, bO_j, bJ_i, bJ_r, bJ_j, w1, s1]
        · unfold fX8_thing
          rw [v1, hin]
          simp (disch := omega) only [↓reduceIte, if_pos, if_neg, bd_some, nmV_e, inB_in, nI_cl, nI_leE, nI_ltE, nI_eqE, nI_add, pk_mul, lit_e, in_0_1, in_0_2, in_0_4, in_0_9, in_1_9, in_1_6, in_1_30, in_0_255, nI_ti, bI_i, bI_r, bI_j, bW_i, bW_j, bA_i, bA_j, bO_i, bO_r, bO_j, bJ_i, bJ_r, bJ_j, s2]
      · by_cases hl : wd 2 j = 1
        · obtain ⟨q1, q2, q3⟩ := s6 hl
          refine ⟨nI (td j + tb j), ?_, ?_⟩
          · unfold fX7_thing fX3_away
            simp (disch := omega) only [↓reduceIte, if_pos, if_neg, bd_some, nmV_e, inB_in, nI_cl, nI_leE, nI_ltE, nI_eqE, nI_add, pk_mul, lit_e, in_0_1, in_0_2, in_0_4, in_0_9, in_1_9, in_1_6, in_1_30, in_0_255, nI_ti, bI_i, bI_r, bI_j, bW_i, bW_j, bA_i, bA_j, bO_i, bO_r, bO_j, bJ_i, bJ_r, bJ_j, w1, s4, s5]
          · unfold fX8_thing
            rw [v1, hin]
            simp (disch := omega) only [↓reduceIte, if_pos, if_neg, bd_some, nmV_e, inB_in, nI_cl, nI_leE, nI_ltE, nI_eqE, nI_add, pk_mul, lit_e, in_0_1, in_0_2, in_0_4, in_0_9, in_1_9, in_1_6, in_1_30, in_0_255, nI_ti, bI_i, bI_r, bI_j, bW_i, bW_j, bA_i, bA_j, bO_i, bO_r, bO_j, bJ_i, bJ_r, bJ_j, m2, q1, q2]
        · obtain ⟨q1, q2⟩ := s7 hl
          refine ⟨nI 0, ?_, ?_⟩
          · unfold fX7_thing fX3_away
            simp (disch := omega) only [↓reduceIte, if_pos, if_neg, bd_some, nmV_e, inB_in, nI_cl, nI_leE, nI_ltE, nI_eqE, nI_add, pk_mul, lit_e, in_0_1, in_0_2, in_0_4, in_0_9, in_1_9, in_1_6, in_1_30, in_0_255, nI_ti, bI_i, bI_r, bI_j, bW_i, bW_j, bA_i, bA_j, bO_i, bO_r, bO_j, bJ_i, bJ_r, bJ_j, w1, s4, s5, q1, q2, Nat.add_zero]
          · unfold fX8_thing
            rw [v1, hin]
            simp (disch := omega) only [↓reduceIte, if_pos, if_neg, bd_some, nmV_e, inB_in, nI_cl, nI_leE, nI_ltE, nI_eqE, nI_add, pk_mul, lit_e, in_0_1, in_0_2, in_0_4, in_0_9, in_1_9, in_1_6, in_1_30, in_0_255, nI_ti, bI_i, bI_r, bI_j, bW_i, bW_j, bA_i, bA_j, bO_i, bO_r, bO_j, bJ_i, bJ_r, bJ_j, m2]
theorem kn7 {S : Bk} {kn j : Nat} (h : S.1 0 = nI kn) (hk : kn < 16) (hj : j < 4) : fX3_knows S (nI j) = some (nI (kn / 2 ^ j % 2)) := by
  unfold fX3_knows
  rw [h, show ((nI kn >>> (nI j &&& 31)) &&& (1 : Int32)) = nI (kn / 2 ^ j % 2) from bit_e (by omega) (by omega)]
  rcases (show kn / 2 ^ j % 2 = 0 ∨ kn / 2 ^ j % 2 = 1 by omega) with q | q <;> rw [q]
  · rw [if_neg (by decide)]; rfl
  · rw [if_pos (show nI 1 = (1 : Int32) from rfl)]; rfl
theorem dn7 {S : Bk} {kn j : Nat} (h : S.1 1 = nI kn) (hk : kn < 16) (hj : j < 4) : fX3_hasDone S (nI j) = some (nI (kn / 2 ^ j % 2)) := by
  unfold fX3_hasDone
  rw [h, show ((nI kn >>> (nI j &&& 31)) &&& (1 : Int32)) = nI (kn / 2 ^ j % 2) from bit_e (by omega) (by omega)]
  rcases (show kn / 2 ^ j % 2 = 0 ∨ kn / 2 ^ j % 2 = 1 by omega) with q | q <;> rw [q]
  · rw [if_neg (by decide)]; rfl
  · rw [if_pos (show nI 1 = (1 : Int32) from rfl)]; rfl
theorem has8 {kn j : Nat} (hk : kn < 2147483648) (hj : j < 4) : fX8_has (nI kn) (nI j) = some (nI (kn / 2 ^ j % 2)) := by
  unfold fX8_has
  rw [show ((nI kn >>> (nI j &&& 31)) &&& (1 : Int32)) = nI (kn / 2 ^ j % 2) from bit_e (by omega) (by omega)]
  rcases (show kn / 2 ^ j % 2 = 0 ∨ kn / 2 ^ j % 2 = 1 by omega) with q | q <;> rw [q]
  · rw [if_neg (by decide)]; rfl
  · rw [if_pos (show nI 1 = (1 : Int32) from rfl)]; rfl
theorem ans7 {nt nq nd : Nat} {wd : Nat → Nat → Nat} {Sw : Bk} (hB : WB nt nq nd wd) (hwc : RWc nt nq nd wd Sw) {q : Nat} (hq : q < nq) : fX6_answer Sw (nI q) = some (nI (wd 11 q)) := by
  obtain ⟨an, h1, h2, h3⟩ := hwc.2.2.2.2.2.2
  have hnq := hB.2.1
  have := p2 hnq
  unfold fX6_answer
  rw [h2, show ((nI an >>> (nI q &&& 31)) &&& (1 : Int32)) = nI (an / 2 ^ q % 2) from bit_e (by omega) (by omega), h3 q hq]
theorem st_question {Se Sx Sw Ss Sy Sz Sc : Bk} {ro : Nat} {Sg : Bk} {Sp : Nat → Bk} {Sm : Bk} (hR : Rel Se Sx Sw Ss Sy Sz Sc ro Sg Sp Sm) (x1 : Int32) (x2 : Int32) : ∃ (u7 : Int32) (u8 : Int32 × Bk), fX7_question Se Sw Ss x1 x2 = some u7 ∧ fX8_question Sm x1 x2 = some u8 ∧ u7 = u8.1 ∧ Rel Se Sx Sw Ss Sy Sz Sc ro Sg Sp (bA (bA (bO Sm u8.2) 2 (u8.2.2.1 2)) 7 (u8.2.2.1 7)) := by
  have hR0 := hR
  obtain ⟨nt, nq, nd, wd, hB, hwc, hwm, hs, ht, ha, hk, hg, hj⟩ := hR
  suffices hfin : ∃ r : Int32, fX7_question Se Sw Ss x1 x2 = some r ∧ fX8_question Sm x1 x2 = some (r, bI Sm 0 (nI 0)) from by
    obtain ⟨r, c7, c8⟩ := hfin
    exact ⟨r, (r, bI Sm 0 (nI 0)), c7, c8, rfl, rel_sm hR0 rfl rfl rfl rfl rfl rfl rfl rfl rfl rfl rfl rfl rfl rfl rfl rfl rfl⟩
  have hnt := hB.1
  have hnq := hB.2.1
  have hp := p2 hnq
  obtain ⟨th, td, tb, kn, dn, h1, h2, h3, h4, -⟩ := hs
  have w1 := hwc.2.1
  have v1 : (bI Sm 0 (nI 0)).1 4 = nI nq := hwm.2.1
  have hin := noQ (bI Sm 0 (nI 0)) x1 (n := nq) (by omega) v1
  rcases ix x1 nq (by omega) with ⟨h, h'⟩ | ⟨h, h'⟩ | ⟨j, hj2, rfl⟩
  · refine ⟨-1, ?_, ?_⟩
    · unfold fX7_question
      rw [if_pos h]
    · unfold fX8_question
      simp (disch := omega) only [↓reduceIte, if_pos, if_neg, bd_some, nmV_e, inB_in, nI_cl, nI_leE, nI_ltE, nI_eqE, nI_add, pk_mul, lit_e, in_0_1, in_0_2, in_0_4, in_0_9, in_1_9, in_1_6, in_1_30, in_0_255, nI_ti, bI_i, bI_r, bI_j, bW_i, bW_j, bA_i, bA_j, bO_i, bO_r, bO_j, bJ_i, bJ_r, bJ_j, hin]
  · refine ⟨-1, ?_, ?_⟩
    · unfold fX7_question
      simp (disch := omega) only [↓reduceIte, if_pos, if_neg, bd_some, nmV_e, inB_in, nI_cl, nI_leE, nI_ltE, nI_eqE, nI_add, pk_mul, lit_e, in_0_1, in_0_2, in_0_4, in_0_9, in_1_9, in_1_6, in_1_30, in_0_255, nI_ti, bI_i, bI_r, bI_j, bW_i, bW_j, bA_i, bA_j, bO_i, bO_r, bO_j, bJ_i, bJ_r, bJ_j, i32_lt, w1]
    · unfold fX8_question
      simp (disch := omega) only [↓reduceIte, if_pos, if_neg, bd_some, nmV_e, inB_in, nI_cl, nI_leE, nI_ltE, nI_eqE, nI_add, pk_mul, lit_e, in_0_1, in_0_2, in_0_4, in_0_9, in_1_9, in_1_6, in_1_30, in_0_255, nI_ti, bI_i, bI_r, bI_j, bW_i, bW_j, bA_i, bA_j, bO_i, bO_r, bO_j, bJ_i, bJ_r, bJ_j, hin]
  · obtain ⟨g0, g1, g2⟩ := hwc.2.2.2.2.1 j hj2
    obtain ⟨m0, m1, m2, m3⟩ := hwm.2.2.2.2.1 j hj2
    have a7 := ans7 hB hwc hj2
    have k7 := kn7 (j := j) h2 (by omega) (by omega)
    have k8 := has8 (kn := kn) (j := j) (by omega) (by omega)
    rcases ix x2 4 (by omega) with ⟨h, h'⟩ | ⟨h, h'⟩ | ⟨i, hi2, rfl⟩
    · refine ⟨-2, ?_, ?_⟩
      · unfold fX7_question
        simp (disch := omega) only [↓reduceIte, if_pos, if_neg, bd_some, nmV_e, inB_in, nI_cl, nI_leE, nI_ltE, nI_eqE, nI_add, pk_mul, lit_e, in_0_1, in_0_2, in_0_4, in_0_9, in_1_9, in_1_6, in_1_30, in_0_255, nI_ti, bI_i, bI_r, bI_j, bW_i, bW_j, bA_i, bA_j, bO_i, bO_r, bO_j, bJ_i, bJ_r, bJ_j, w1, i32_eq]
      · unfold fX8_question
        simp (disch := omega) only [↓reduceIte, if_pos, if_neg, bd_some, nmV_e, inB_in, nI_cl, nI_leE, nI_ltE, nI_eqE, nI_add, pk_mul, lit_e, in_0_1, in_0_2, in_0_4, in_0_9, in_1_9, in_1_6, in_1_30, in_0_255, nI_ti, bI_i, bI_r, bI_j, bW_i, bW_j, bA_i, bA_j, bO_i, bO_r, bO_j, bJ_i, bJ_r, bJ_j, hin, i32_eq]
    · refine ⟨-2, ?_, ?_⟩
      · unfold fX7_question
        simp (disch := omega) only [↓reduceIte, if_pos, if_neg, bd_some, nmV_e, inB_in, nI_cl, nI_leE, nI_ltE, nI_eqE, nI_add, pk_mul, lit_e, in_0_1, in_0_2, in_0_4, in_0_9, in_1_9, in_1_6, in_1_30, in_0_255, nI_ti, bI_i, bI_r, bI_j, bW_i, bW_j, bA_i, bA_j, bO_i, bO_r, bO_j, bJ_i, bJ_r, bJ_j, w1, i32_eq]
      · unfold fX8_question
        simp (disch := omega) only [↓reduceIte, if_pos, if_neg, bd_some, nmV_e, inB_in, nI_cl, nI_leE, nI_ltE, nI_eqE, nI_add, pk_mul, lit_e, in_0_1, in_0_2, in_0_4, in_0_9, in_1_9, in_1_6, in_1_30, in_0_255, nI_ti, bI_i, bI_r, bI_j, bW_i, bW_j, bA_i, bA_j, bO_i, bO_r, bO_j, bJ_i, bJ_r, bJ_j, hin, i32_eq]
    · rcases (show i = 0 ∨ i = 1 ∨ i = 2 ∨ i = 3 by omega) with rfl | rfl | rfl | rfl
      · refine ⟨nI (wd 3 j), ?_, ?_⟩
        · unfold fX7_question
          simp (disch := omega) only [↓reduceIte, if_pos, if_neg, bd_some, nmV_e, inB_in, nI_cl, nI_leE, nI_ltE, nI_eqE, nI_add, pk_mul, lit_e, in_0_1, in_0_2, in_0_4, in_0_9, in_1_9, in_1_6, in_1_30, in_0_255, nI_ti, bI_i, bI_r, bI_j, bW_i, bW_j, bA_i, bA_j, bO_i, bO_r, bO_j, bJ_i, bJ_r, bJ_j, w1, g0]
        · unfold fX8_question
          simp (disch := omega) only [↓reduceIte, if_pos, if_neg, bd_some, nmV_e, inB_in, nI_cl, nI_leE, nI_ltE, nI_eqE, nI_add, pk_mul, lit_e, in_0_1, in_0_2, in_0_4, in_0_9, in_1_9, in_1_6, in_1_30, in_0_255, nI_ti, bI_i, bI_r, bI_j, bW_i, bW_j, bA_i, bA_j, bO_i, bO_r, bO_j, bJ_i, bJ_r, bJ_j, hin, m0, Nat.add_zero]
      · refine ⟨nI (wd 4 j), ?_, ?_⟩
        · unfold fX7_question
          simp (disch := omega) only [↓reduceIte, if_pos, if_neg, bd_some, nmV_e, inB_in, nI_cl, nI_leE, nI_ltE, nI_eqE, nI_add, pk_mul, lit_e, in_0_1, in_0_2, in_0_4, in_0_9, in_1_9, in_1_6, in_1_30, in_0_255, nI_ti, bI_i, bI_r, bI_j, bW_i, bW_j, bA_i, bA_j, bO_i, bO_r, bO_j, bJ_i, bJ_r, bJ_j, w1, g1]
        · unfold fX8_question
          simp (disch := omega) only [↓reduceIte, if_pos, if_neg, bd_some, nmV_e, inB_in, nI_cl, nI_leE, nI_ltE, nI_eqE, nI_add, pk_mul, lit_e, in_0_1, in_0_2, in_0_4, in_0_9, in_1_9, in_1_6, in_1_30, in_0_255, nI_ti, bI_i, bI_r, bI_j, bW_i, bW_j, bA_i, bA_j, bO_i, bO_r, bO_j, bJ_i, bJ_r, bJ_j, hin, m1]
      · refine ⟨nI (wd 5 j), ?_, ?_⟩
        · unfold fX7_question
          simp (disch := omega) only [↓reduceIte, if_pos, if_neg, bd_some, nmV_e, inB_in, nI_cl, nI_leE, nI_ltE, nI_eqE, nI_add, pk_mul, lit_e, in_0_1, in_0_2, in_0_4, in_0_9, in_1_9, in_1_6, in_1_30, in_0_255, nI_ti, bI_i, bI_r, bI_j, bW_i, bW_j, bA_i, bA_j, bO_i, bO_r, bO_j, bJ_i, bJ_r, bJ_j, w1, g2]
        · unfold fX8_question
          simp (disch := omega) only [↓reduceIte, if_pos, if_neg, bd_some, nmV_e, inB_in, nI_cl, nI_leE, nI_ltE, nI_eqE, nI_add, pk_mul, lit_e, in_0_1, in_0_2, in_0_4, in_0_9, in_1_9, in_1_6, in_1_30, in_0_255, nI_ti, bI_i, bI_r, bI_j, bW_i, bW_j, bA_i, bA_j, bO_i, bO_r, bO_j, bJ_i, bJ_r, bJ_j, hin, m3]
      · by_cases q : kn / 2 ^ j % 2 = 0
        · refine ⟨-9, ?_, ?_⟩
          · unfold fX7_question
            simp (disch := omega) only [↓reduceIte, if_pos, if_neg, bd_some, nmV_e, inB_in, nI_cl, nI_leE, nI_ltE, nI_eqE, nI_add, pk_mul, lit_e, in_0_1, in_0_2, in_0_4, in_0_9, in_1_9, in_1_6, in_1_30, in_0_255, nI_ti, bI_i, bI_r, bI_j, bW_i, bW_j, bA_i, bA_j, bO_i, bO_r, bO_j, bJ_i, bJ_r, bJ_j, w1, k7]
          · unfold fX8_question
            simp (disch := omega) only [↓reduceIte, if_pos, if_neg, bd_some, nmV_e, inB_in, nI_cl, nI_leE, nI_ltE, nI_eqE, nI_add, pk_mul, lit_e, in_0_1, in_0_2, in_0_4, in_0_9, in_1_9, in_1_6, in_1_30, in_0_255, nI_ti, bI_i, bI_r, bI_j, bW_i, bW_j, bA_i, bA_j, bO_i, bO_r, bO_j, bJ_i, bJ_r, bJ_j, hin, h3, k8]
        · refine ⟨nI (wd 11 j), ?_, ?_⟩
          · unfold fX7_question
            simp (disch := omega) only [↓reduceIte, if_pos, if_neg, bd_some, nmV_e, inB_in, nI_cl, nI_leE, nI_ltE, nI_eqE, nI_add, pk_mul, lit_e, in_0_1, in_0_2, in_0_4, in_0_9, in_1_9, in_1_6, in_1_30, in_0_255, nI_ti, bI_i, bI_r, bI_j, bW_i, bW_j, bA_i, bA_j, bO_i, bO_r, bO_j, bJ_i, bJ_r, bJ_j, w1, k7, a7]
          · unfold fX8_question
            simp (disch := omega) only [↓reduceIte, if_pos, if_neg, bd_some, nmV_e, inB_in, nI_cl, nI_leE, nI_ltE, nI_eqE, nI_add, pk_mul, lit_e, in_0_1, in_0_2, in_0_4, in_0_9, in_1_9, in_1_6, in_1_30, in_0_255, nI_ti, bI_i, bI_r, bI_j, bW_i, bW_j, bA_i, bA_j, bO_i, bO_r, bO_j, bJ_i, bJ_r, bJ_j, hin, h3, k8, m2]
theorem st_deed {Se Sx Sw Ss Sy Sz Sc : Bk} {ro : Nat} {Sg : Bk} {Sp : Nat → Bk} {Sm : Bk} (hR : Rel Se Sx Sw Ss Sy Sz Sc ro Sg Sp Sm) (x1 : Int32) (x2 : Int32) : ∃ (u7 : Int32) (u8 : Int32 × Bk), fX7_deed Se Sw Ss x1 x2 = some u7 ∧ fX8_deed Sm x1 x2 = some u8 ∧ u7 = u8.1 ∧ Rel Se Sx Sw Ss Sy Sz Sc ro Sg Sp (bA (bA (bO Sm u8.2) 3 (u8.2.2.1 3)) 7 (u8.2.2.1 7)) := by
  have hR0 := hR
  obtain ⟨nt, nq, nd, wd, hB, hwc, hwm, hs, ht, ha, hk, hg, hj⟩ := hR
  suffices hfin : ∃ r : Int32, fX7_deed Se Sw Ss x1 x2 = some r ∧ fX8_deed Sm x1 x2 = some (r, bI Sm 0 (nI 0)) from by
    obtain ⟨r, c7, c8⟩ := hfin
    exact ⟨r, (r, bI Sm 0 (nI 0)), c7, c8, rfl, rel_sm hR0 rfl rfl rfl rfl rfl rfl rfl rfl rfl rfl rfl rfl rfl rfl rfl rfl rfl⟩
  have hnd := hB.2.2.1
  have hp := p2 hnd
  obtain ⟨th, td, tb, kn, dn, h1, h2, h3, h4, h5, h6, h7, -⟩ := hs
  have w1 := hwc.2.2.1
  have v1 : (bI Sm 0 (nI 0)).1 5 = nI nd := hwm.2.2.1
  have hin := noD (bI Sm 0 (nI 0)) x1 (n := nd) (by omega) v1
  rcases ix x1 nd (by omega) with ⟨h, h'⟩ | ⟨h, h'⟩ | ⟨j, hj2, rfl⟩
  · refine ⟨-1, ?_, ?_⟩
    · unfold fX7_deed
      rw [if_pos h]
    · unfold fX8_deed
      simp (disch := omega) only [↓reduceIte, if_pos, if_neg, bd_some, nmV_e, inB_in, nI_cl, nI_leE, nI_ltE, nI_eqE, nI_add, pk_mul, lit_e, in_0_1, in_0_2, in_0_4, in_0_9, in_1_9, in_1_6, in_1_30, in_0_255, nI_ti, bI_i, bI_r, bI_j, bW_i, bW_j, bA_i, bA_j, bO_i, bO_r, bO_j, bJ_i, bJ_r, bJ_j, hin]
  · refine ⟨-1, ?_, ?_⟩
    · unfold fX7_deed
      simp (disch := omega) only [↓reduceIte, if_pos, if_neg, bd_some, nmV_e, inB_in, nI_cl, nI_leE, nI_ltE, nI_eqE, nI_add, pk_mul, lit_e, in_0_1, in_0_2, in_0_4, in_0_9, in_1_9, in_1_6, in_1_30, in_0_255, nI_ti, bI_i, bI_r, bI_j, bW_i, bW_j, bA_i, bA_j, bO_i, bO_r, bO_j, bJ_i, bJ_r, bJ_j, i32_lt, w1]
    · unfold fX8_deed
      simp (disch := omega) only [↓reduceIte, if_pos, if_neg, bd_some, nmV_e, inB_in, nI_cl, nI_leE, nI_ltE, nI_eqE, nI_add, pk_mul, lit_e, in_0_1, in_0_2, in_0_4, in_0_9, in_1_9, in_1_6, in_1_30, in_0_255, nI_ti, bI_i, bI_r, bI_j, bW_i, bW_j, bA_i, bA_j, bO_i, bO_r, bO_j, bJ_i, bJ_r, bJ_j, hin]
  · obtain ⟨g0, g1, g2, g3, g4⟩ := hwc.2.2.2.2.2.1 j hj2
    obtain ⟨m0, m1, m2, m3, m4⟩ := hwm.2.2.2.2.2 j hj2
    have k7 := dn7 (j := j) h5 (by omega) (by omega)
    have k8 : ((nI dn >>> (nI j &&& 31)) &&& (1 : Int32)) = nI (dn / 2 ^ j % 2) := bit_e (by omega) (by omega)
    rcases ix x2 6 (by omega) with ⟨h, h'⟩ | ⟨h, h'⟩ | ⟨i, hi2, rfl⟩
    · refine ⟨-2, ?_, ?_⟩
      · unfold fX7_deed
        simp (disch := omega) only [↓reduceIte, if_pos, if_neg, bd_some, nmV_e, inB_in, nI_cl, nI_leE, nI_ltE, nI_eqE, nI_add, pk_mul, lit_e, in_0_1, in_0_2, in_0_4, in_0_9, in_1_9, in_1_6, in_1_30, in_0_255, nI_ti, bI_i, bI_r, bI_j, bW_i, bW_j, bA_i, bA_j, bO_i, bO_r, bO_j, bJ_i, bJ_r, bJ_j, w1, i32_eq]
      · unfold fX8_deed
        simp (disch := omega) only [↓reduceIte, if_pos, if_neg, bd_some, nmV_e, inB_in, nI_cl, nI_leE, nI_ltE, nI_eqE, nI_add, pk_mul, lit_e, in_0_1, in_0_2, in_0_4, in_0_9, in_1_9, in_1_6, in_1_30, in_0_255, nI_ti, bI_i, bI_r, bI_j, bW_i, bW_j, bA_i, bA_j, bO_i, bO_r, bO_j, bJ_i, bJ_r, bJ_j, hin, i32_eq]
    · refine ⟨-2, ?_, ?_⟩
      · unfold fX7_deed
        simp (disch := omega) only [↓reduceIte, if_pos, if_neg, bd_some, nmV_e, inB_in, nI_cl, nI_leE, nI_ltE, nI_eqE, nI_add, pk_mul, lit_e, in_0_1, in_0_2, in_0_4, in_0_9, in_1_9, in_1_6, in_1_30, in_0_255, nI_ti, bI_i, bI_r, bI_j, bW_i, bW_j, bA_i, bA_j, bO_i, bO_r, bO_j, bJ_i, bJ_r, bJ_j, w1, i32_eq]
      · unfold fX8_deed
        simp (disch := omega) only [↓reduceIte, if_pos, if_neg, bd_some, nmV_e, inB_in, nI_cl, nI_leE, nI_ltE, nI_eqE, nI_add, pk_mul, lit_e, in_0_1, in_0_2, in_0_4, in_0_9, in_1_9, in_1_6, in_1_30, in_0_255, nI_ti, bI_i, bI_r, bI_j, bW_i, bW_j, bA_i, bA_j, bO_i, bO_r, bO_j, bJ_i, bJ_r, bJ_j, hin, i32_eq]
    · rcases (show i = 0 ∨ i = 1 ∨ i = 2 ∨ i = 3 ∨ i = 4 ∨ i = 5 by omega) with rfl | rfl | rfl | rfl | rfl | rfl
      · refine ⟨nI (wd 6 j), ?_, ?_⟩
        · unfold fX7_deed
          simp (disch := omega) only [↓reduceIte, if_pos, if_neg, bd_some, nmV_e, inB_in, nI_cl, nI_leE, nI_ltE, nI_eqE, nI_add, pk_mul, lit_e, in_0_1, in_0_2, in_0_4, in_0_9, in_1_9, in_1_6, in_1_30, in_0_255, nI_ti, bI_i, bI_r, bI_j, bW_i, bW_j, bA_i, bA_j, bO_i, bO_r, bO_j, bJ_i, bJ_r, bJ_j, w1, g0]
        · unfold fX8_deed
          simp (disch := omega) only [↓reduceIte, if_pos, if_neg, bd_some, nmV_e, inB_in, nI_cl, nI_leE, nI_ltE, nI_eqE, nI_add, pk_mul, lit_e, in_0_1, in_0_2, in_0_4, in_0_9, in_1_9, in_1_6, in_1_30, in_0_255, nI_ti, bI_i, bI_r, bI_j, bW_i, bW_j, bA_i, bA_j, bO_i, bO_r, bO_j, bJ_i, bJ_r, bJ_j, hin, m0, Nat.add_zero]
      · refine ⟨nI (wd 7 j), ?_, ?_⟩
        · unfold fX7_deed
          simp (disch := omega) only [↓reduceIte, if_pos, if_neg, bd_some, nmV_e, inB_in, nI_cl, nI_leE, nI_ltE, nI_eqE, nI_add, pk_mul, lit_e, in_0_1, in_0_2, in_0_4, in_0_9, in_1_9, in_1_6, in_1_30, in_0_255, nI_ti, bI_i, bI_r, bI_j, bW_i, bW_j, bA_i, bA_j, bO_i, bO_r, bO_j, bJ_i, bJ_r, bJ_j, w1, g1]
        · unfold fX8_deed
          simp (disch := omega) only [↓reduceIte, if_pos, if_neg, bd_some, nmV_e, inB_in, nI_cl, nI_leE, nI_ltE, nI_eqE, nI_add, pk_mul, lit_e, in_0_1, in_0_2, in_0_4, in_0_9, in_1_9, in_1_6, in_1_30, in_0_255, nI_ti, bI_i, bI_r, bI_j, bW_i, bW_j, bA_i, bA_j, bO_i, bO_r, bO_j, bJ_i, bJ_r, bJ_j, hin, m1]
      · refine ⟨nI (wd 8 j), ?_, ?_⟩
        · unfold fX7_deed
          simp (disch := omega) only [↓reduceIte, if_pos, if_neg, bd_some, nmV_e, inB_in, nI_cl, nI_leE, nI_ltE, nI_eqE, nI_add, pk_mul, lit_e, in_0_1, in_0_2, in_0_4, in_0_9, in_1_9, in_1_6, in_1_30, in_0_255, nI_ti, bI_i, bI_r, bI_j, bW_i, bW_j, bA_i, bA_j, bO_i, bO_r, bO_j, bJ_i, bJ_r, bJ_j, w1, g2]
        · unfold fX8_deed
          simp (disch := omega) only [↓reduceIte, if_pos, if_neg, bd_some, nmV_e, inB_in, nI_cl, nI_leE, nI_ltE, nI_eqE, nI_add, pk_mul, lit_e, in_0_1, in_0_2, in_0_4, in_0_9, in_1_9, in_1_6, in_1_30, in_0_255, nI_ti, bI_i, bI_r, bI_j, bW_i, bW_j, bA_i, bA_j, bO_i, bO_r, bO_j, bJ_i, bJ_r, bJ_j, hin, m2]
      · refine ⟨nI (wd 9 j), ?_, ?_⟩
        · unfold fX7_deed
          simp (disch := omega) only [↓reduceIte, if_pos, if_neg, bd_some, nmV_e, inB_in, nI_cl, nI_leE, nI_ltE, nI_eqE, nI_add, pk_mul, lit_e, in_0_1, in_0_2, in_0_4, in_0_9, in_1_9, in_1_6, in_1_30, in_0_255, nI_ti, bI_i, bI_r, bI_j, bW_i, bW_j, bA_i, bA_j, bO_i, bO_r, bO_j, bJ_i, bJ_r, bJ_j, w1, g3]
        · unfold fX8_deed
          simp (disch := omega) only [↓reduceIte, if_pos, if_neg, bd_some, nmV_e, inB_in, nI_cl, nI_leE, nI_ltE, nI_eqE, nI_add, pk_mul, lit_e, in_0_1, in_0_2, in_0_4, in_0_9, in_1_9, in_1_6, in_1_30, in_0_255, nI_ti, bI_i, bI_r, bI_j, bW_i, bW_j, bA_i, bA_j, bO_i, bO_r, bO_j, bJ_i, bJ_r, bJ_j, hin, m3]
      · refine ⟨nI (wd 10 j), ?_, ?_⟩
        · unfold fX7_deed
          simp (disch := omega) only [↓reduceIte, if_pos, if_neg, bd_some, nmV_e, inB_in, nI_cl, nI_leE, nI_ltE, nI_eqE, nI_add, pk_mul, lit_e, in_0_1, in_0_2, in_0_4, in_0_9, in_1_9, in_1_6, in_1_30, in_0_255, nI_ti, bI_i, bI_r, bI_j, bW_i, bW_j, bA_i, bA_j, bO_i, bO_r, bO_j, bJ_i, bJ_r, bJ_j, w1, g4]
        · unfold fX8_deed
          simp (disch := omega) only [↓reduceIte, if_pos, if_neg, bd_some, nmV_e, inB_in, nI_cl, nI_leE, nI_ltE, nI_eqE, nI_add, pk_mul, lit_e, in_0_1, in_0_2, in_0_4, in_0_9, in_1_9, in_1_6, in_1_30, in_0_255, nI_ti, bI_i, bI_r, bI_j, bW_i, bW_j, bA_i, bA_j, bO_i, bO_r, bO_j, bJ_i, bJ_r, bJ_j, hin, m4]
      · refine ⟨nI (dn / 2 ^ j % 2), ?_, ?_⟩
        · unfold fX7_deed
          simp (disch := omega) only [↓reduceIte, if_pos, if_neg, bd_some, nmV_e, inB_in, nI_cl, nI_leE, nI_ltE, nI_eqE, nI_add, pk_mul, lit_e, in_0_1, in_0_2, in_0_4, in_0_9, in_1_9, in_1_6, in_1_30, in_0_255, nI_ti, bI_i, bI_r, bI_j, bW_i, bW_j, bA_i, bA_j, bO_i, bO_r, bO_j, bJ_i, bJ_r, bJ_j, w1, k7]
          by_cases q : dn / 2 ^ j % 2 = 0
          · simp (disch := omega) only [↓reduceIte, if_pos, if_neg, bd_some, nmV_e, inB_in, nI_cl, nI_leE, nI_ltE, nI_eqE, nI_add, pk_mul, lit_e, in_0_1, in_0_2, in_0_4, in_0_9, in_1_9, in_1_6, in_1_30, in_0_255, nI_ti, bI_i, bI_r, bI_j, bW_i, bW_j, bA_i, bA_j, bO_i, bO_r, bO_j, bJ_i, bJ_r, bJ_j, q]
          · simp (disch := omega) only [↓reduceIte, if_pos, if_neg, bd_some, nmV_e, inB_in, nI_cl, nI_leE, nI_ltE, nI_eqE, nI_add, pk_mul, lit_e, in_0_1, in_0_2, in_0_4, in_0_9, in_1_9, in_1_6, in_1_30, in_0_255, nI_ti, bI_i, bI_r, bI_j, bW_i, bW_j, bA_i, bA_j, bO_i, bO_r, bO_j, bJ_i, bJ_r, bJ_j, show dn / 2 ^ j % 2 = 1 by omega]
        · unfold fX8_deed
          simp (disch := omega) only [↓reduceIte, if_pos, if_neg, bd_some, nmV_e, inB_in, nI_cl, nI_leE, nI_ltE, nI_eqE, nI_add, pk_mul, lit_e, in_0_1, in_0_2, in_0_4, in_0_9, in_1_9, in_1_6, in_1_30, in_0_255, nI_ti, bI_i, bI_r, bI_j, bW_i, bW_j, bA_i, bA_j, bO_i, bO_r, bO_j, bJ_i, bJ_r, bJ_j, hin, h6, bit_n]
