section
variable {nt nq nd : Nat} {wd : Nat → Nat → Nat} {th td tb : Nat → Nat} {won : Int} {kn dn : Nat} {me : Bool} {bq on : Nat} {Sw Ss Sr Sm S' : Bk}
/-- what both sides stand on -/
theorem cm_e (hB : WB nt nq nd wd) (hwc : RWc nt nq nd wd Sw) (hwm : RWm nt nq nd wd Sm) (h : SQ nt nq nd wd Ss (Sm.2.1 7) th td tb kn dn) : ∃ (won : Int) (on : Nat), CC nt nq nd wd th won kn dn Sw Ss ∧ MC nt nq nd wd th won kn dn Sm ∧ on < 16 ∧ (∀ q, q < nq → bi on q = if bi kn q = 1 then wd 11 q else 0) ∧ on &&& kn = on ∧ Sw.1 2 &&& Ss.1 0 = nI on := by
  obtain ⟨h1, h2, h3, h4, h5, h6, h7, h8, h9, h10⟩ := h
  have hnq := hB.2.1
  have hnd := hB.2.2.1
  have hp := p2 hnq
  obtain ⟨an, a1, a2, a3⟩ := hwc.2.2.2.2.2.2
  have wb := won_b (dn := dn) hB (Nat.le_refl nd)
  have ew : Ss.1 3 = zI (wonI wd dn nd) := by
    rw [← h10]; exact zI_of _
  refine ⟨wonI wd dn nd, an &&& kn, ⟨hB, hwc, fun t ht => ⟨(h1 t ht).1, (h1 t ht).2.2.1⟩, h2, h4, h5, h7, ew, by omega, by omega⟩, ⟨hB, hwm, fun t ht => ⟨(h1 t ht).2.1, (h1 t ht).2.2.1⟩, h3, h4, h6, h7, ?_, by omega, by omega⟩, and16 an (by omega) kn (by omega), fun q hq => ?_, ?_, ?_⟩
  · rw [← h9]; exact ew
  · have e := bi_and an (by omega) kn (by omega) q (by omega)
    have b := bz kn (by omega) q (by omega)
    have e3 : bi an q = wd 11 q := a3 q hq
    rw [e, e3]
    rcases b with c | c
    · rw [c, Nat.mul_zero, if_neg (by omega)]
    · rw [c, Nat.mul_one, if_pos rfl]
  · rw [Nat.and_assoc, Nat.and_self]
  · rw [a2, h2, fa_and]
theorem no9 : ∀ q, q < 4 → (nI q = (-9 : Int32)) = (q = 9) := by
  intro q hq
  have h : ∀ q, q < 4 → ((nI q = (-9 : Int32)) ↔ (q = 9)) := by decide +kernel
  exact propext (h q hq)
theorem cvn (hk : kn < 16) (hd : dn < 16) : cv nt nq nd wd th won kn dn me bq kn on dn = sc me * Vv nt nq nd wd th won kn dn me bq kn on dn := cv_y (rch_00 hk hd)
/-- both sides, the greatest and the first step -/
theorem gr_e (hB : WB nt nq nd wd) (hwc : RWc nt nq nd wd Sw) (hwm : RWm nt nq nd wd Sm) (h : SQ nt nq nd wd Ss (Sm.2.1 7) th td tb kn dn) (Sr : Bk) (me : Bool) : ∃ (V : Int) (r : Nat) (S7 S7' S8 S8' : Bk), fX5_grow Sw Ss Sr (nI (nb me)) (nI 0) = some (zI (sc me * V), S7) ∧ fX5_first Sw Ss S7 = some (nI r, S7') ∧ fX8_layBest Sm (nI (1 - nb me)) (-9 : Int32) = some S8 ∧ fX8_bestNow S8 = some (zI V) ∧ fX8_firstOf S8 (nI (1 - nb me)) = some (nI r, S8') ∧ (S8.1 = Sm.1 ∧ S8.2.2 = Sm.2.2 ∧ ∀ r, r ≠ 14 → r ≠ 15 → S8.2.1 r = Sm.2.1 r) ∧ (S8'.1 = Sm.1 ∧ S8'.2.2 = Sm.2.2 ∧ ∀ r, r ≠ 14 → r ≠ 15 → S8'.2.1 r = Sm.2.1 r) := by
  obtain ⟨won, on, hC, hM, hon, hbit, hok, hn1⟩ := cm_e hB hwc hwm h
  have hp := p2 hB.2.1
  have hp2 := p2 hB.2.2.1
  have k1 := hC.2.2.2.2.1
  have k3 := hC.2.2.2.2.2.2.1
  obtain ⟨S7, a1, a2, a3, a4⟩ := grow7 (Sr := Sr) (me := me) (bq := 9) hC hon hok hn1 (by show kn &&& 0 = 0; exact Nat.and_zero kn)
  obtain ⟨S8, b1, b2, b3, b4, b5⟩ := lb8 (me := me) (bq := 9) hM hon hbit hok no9
  have hM8 : MC nt nq nd wd th won kn dn S8 := MC_cg hM b1 b3
  obtain ⟨L1, p1⟩ := fst_ex (FQ nt nq nd wd th won kn dn me 9 on) nq
  obtain ⟨L2, q1⟩ := fst_ex (FD nt nq nd wd th won kn dn me 9 on) nd
  obtain ⟨S7', e7⟩ := fi7 (Sr := S7) hC hon hok hn1 (by omega) a1 a3 p1 q1
  obtain ⟨S8', c1, c2, c3, c4⟩ := fo8 (Ss := Ss) (td := td) (tb := tb) hM8 (by rw [b3 7 (by omega) (by omega)]; exact h) hon hbit hok b4 p1 q1
  refine ⟨_, _, S7, S7', S8, S8', ?_, e7, b5, bw8 hM8 hon hbit hok b4, c4, ⟨b1, b2, b3⟩, ⟨c1.trans b1, c2.trans b2, fun r r1 r2 => (c3 r r1 r2).trans (b3 r r1 r2)⟩⟩
  rw [← cvn (by omega) (by omega)]
  exact a4
end
theorem st_mean {Se Sx Sw Ss Sy Sz Sc : Bk} {ro : Nat} {Sg : Bk} {Sp : Nat → Bk} {Sm : Bk} (Sr : Bk) (hR : Rel Se Sx Sw Ss Sy Sz Sc ro Sg Sp Sm) (x1 : Int32) : ∃ (u7 : Int32 × Bk) (u8 : Int32 × Bk), fX7_mean Se Sw Ss Sr x1 = some u7 ∧ fX8_mean Sm x1 = some u8 ∧ u7.1 = u8.1 ∧ Rel Se Sx Sw Ss Sy Sz Sc ro Sg Sp (bA (bA (bA (bA (bA (bA (bO Sm u8.2) 1 (u8.2.2.1 1)) 2 (u8.2.2.1 2)) 3 (u8.2.2.1 3)) 7 (u8.2.2.1 7)) 14 (u8.2.2.1 14)) 15 (u8.2.2.1 15)) := by
  have hR0 := hR
  obtain ⟨nt, nq, nd, wd, hB, hwc, hwm, hs, ht, ha, hk, hg, hj⟩ := hR
  have fin : ∀ (r : Int32) (S7 S8 : Bk), fX7_mean Se Sw Ss Sr x1 = some (r, S7) → fX8_mean Sm x1 = some (r, S8) → S8.1 = (bI Sm 0 (nI 0)).1 → S8.2.2 = Sm.2.2 → (∀ i, i ≠ 14 → i ≠ 15 → S8.2.1 i = Sm.2.1 i) → ∃ (u7 : Int32 × Bk) (u8 : Int32 × Bk), fX7_mean Se Sw Ss Sr x1 = some u7 ∧ fX8_mean Sm x1 = some u8 ∧ u7.1 = u8.1 ∧ Rel Se Sx Sw Ss Sy Sz Sc ro Sg Sp (bA (bA (bA (bA (bA (bA (bO Sm u8.2) 1 (u8.2.2.1 1)) 2 (u8.2.2.1 2)) 3 (u8.2.2.1 3)) 7 (u8.2.2.1 7)) 14 (u8.2.2.1 14)) 15 (u8.2.2.1 15)) := by
    intro r S7 S8 c7 c8 d1 d2 d3
    refine ⟨(r, S7), (r, S8), c7, c8, rfl, rel_sm hR0 ?_ ?_ ?_ ?_ ?_ ?_ rfl (d3 1 (by omega) (by omega)) (d3 2 (by omega) (by omega)) (d3 3 (by omega) (by omega)) (d3 7 (by omega) (by omega)) rfl rfl rfl rfl rfl d2⟩
    · show S8.1 1 = _; rw [d1]; rfl
    · show S8.1 3 = _; rw [d1]; rfl
    · show S8.1 4 = _; rw [d1]; rfl
    · show S8.1 5 = _; rw [d1]; rfl
    · show S8.1 9 = _; rw [d1]; rfl
    · show S8.1 10 = _; rw [d1]; rfl
  obtain ⟨th, td, tb, kn, dn, h⟩ := sr_sq hs
  have hwm' : RWm nt nq nd wd (bI Sm 0 (nI 0)) := hwm
  have h' : SQ nt nq nd wd Ss ((bI Sm 0 (nI 0)).2.1 7) th td tb kn dn := h
  obtain ⟨V, r, S7, S7', S8, S8', e1, e2, e3, e4, e5, ⟨f1, f2, f3⟩, ⟨g1, g2, g3⟩⟩ := gr_e hB hwc hwm' h' Sr true
  have e1 : fX5_grow Sw Ss Sr (nI 1) (nI 0) = some (zI (10 * V), S7) := e1
  have e3 : fX8_layBest (bI Sm 0 (nI 0)) (nI 0) (-nI 9) = some S8 := e3
  have e5 : fX8_firstOf S8 (nI 0) = some (nI r, S8') := e5
  rcases ix x1 2 (by omega) with ⟨c, c'⟩ | ⟨c, c'⟩ | ⟨i, hi2, rfl⟩
  · refine fin (-2) Sr (bI Sm 0 (nI 0)) ?_ ?_ rfl rfl (fun _ _ _ => rfl)
    · unfold fX7_mean fX7_greatest
      simp (disch := omega) only [↓reduceIte, if_pos, if_neg, bd_some, nmV_e, inB_in, nI_cl, nI_leE, nI_ltE, nI_eqE, nI_add, pk_mul, lit_e, in_0_1, in_0_2, in_0_4, in_0_9, in_1_9, in_1_6, in_1_30, in_0_255, nI_ti, bI_i, bI_r, bI_j, bW_i, bW_j, bA_i, bA_j, bO_i, bO_r, bO_j, bJ_i, bJ_r, bJ_j, i32_lt, i32_le]
    · unfold fX8_mean
      simp (disch := omega) only [↓reduceIte, if_pos, if_neg, bd_some, nmV_e, inB_in, nI_cl, nI_leE, nI_ltE, nI_eqE, nI_add, pk_mul, lit_e, in_0_1, in_0_2, in_0_4, in_0_9, in_1_9, in_1_6, in_1_30, in_0_255, nI_ti, bI_i, bI_r, bI_j, bW_i, bW_j, bA_i, bA_j, bO_i, bO_r, bO_j, bJ_i, bJ_r, bJ_j]
  · refine fin (-2) Sr (bI Sm 0 (nI 0)) ?_ ?_ rfl rfl (fun _ _ _ => rfl)
    · unfold fX7_mean fX7_greatest
      simp (disch := omega) only [↓reduceIte, if_pos, if_neg, bd_some, nmV_e, inB_in, nI_cl, nI_leE, nI_ltE, nI_eqE, nI_add, pk_mul, lit_e, in_0_1, in_0_2, in_0_4, in_0_9, in_1_9, in_1_6, in_1_30, in_0_255, nI_ti, bI_i, bI_r, bI_j, bW_i, bW_j, bA_i, bA_j, bO_i, bO_r, bO_j, bJ_i, bJ_r, bJ_j, i32_lt, i32_le]
    · unfold fX8_mean
      simp (disch := omega) only [↓reduceIte, if_pos, if_neg, bd_some, nmV_e, inB_in, nI_cl, nI_leE, nI_ltE, nI_eqE, nI_add, pk_mul, lit_e, in_0_1, in_0_2, in_0_4, in_0_9, in_1_9, in_1_6, in_1_30, in_0_255, nI_ti, bI_i, bI_r, bI_j, bW_i, bW_j, bA_i, bA_j, bO_i, bO_r, bO_j, bJ_i, bJ_r, bJ_j]
  · rcases (show i = 0 ∨ i = 1 by omega) with rfl | rfl
    · refine fin (zI (10 * V)) S7 S8 ?_ ?_ f1 f2 f3
      · unfold fX7_mean fX7_greatest
        simp (disch := omega) only [↓reduceIte, if_pos, if_neg, bd_some, nmV_e, inB_in, nI_cl, nI_leE, nI_ltE, nI_eqE, nI_add, pk_mul, lit_e, in_0_1, in_0_2, in_0_4, in_0_9, in_1_9, in_1_6, in_1_30, in_0_255, nI_ti, bI_i, bI_r, bI_j, bW_i, bW_j, bA_i, bA_j, bO_i, bO_r, bO_j, bJ_i, bJ_r, bJ_j, e1]
      · unfold fX8_mean
        simp (disch := omega) only [↓reduceIte, if_pos, if_neg, bd_some, nmV_e, inB_in, nI_cl, nI_leE, nI_ltE, nI_eqE, nI_add, pk_mul, lit_e, in_0_1, in_0_2, in_0_4, in_0_9, in_1_9, in_1_6, in_1_30, in_0_255, nI_ti, bI_i, bI_r, bI_j, bW_i, bW_j, bA_i, bA_j, bO_i, bO_r, bO_j, bJ_i, bJ_r, bJ_j, e3, e4]
        rw [show nI 10 = zI 10 from rfl, zI_mul]
    · refine fin (nI r) S7' S8' ?_ ?_ g1 g2 g3
      · unfold fX7_mean fX7_greatest
        simp (disch := omega) only [↓reduceIte, if_pos, if_neg, bd_some, nmV_e, inB_in, nI_cl, nI_leE, nI_ltE, nI_eqE, nI_add, pk_mul, lit_e, in_0_1, in_0_2, in_0_4, in_0_9, in_1_9, in_1_6, in_1_30, in_0_255, nI_ti, bI_i, bI_r, bI_j, bW_i, bW_j, bA_i, bA_j, bO_i, bO_r, bO_j, bJ_i, bJ_r, bJ_j, e1, e2]
      · unfold fX8_mean
        simp (disch := omega) only [↓reduceIte, if_pos, if_neg, bd_some, nmV_e, inB_in, nI_cl, nI_leE, nI_ltE, nI_eqE, nI_add, pk_mul, lit_e, in_0_1, in_0_2, in_0_4, in_0_9, in_1_9, in_1_6, in_1_30, in_0_255, nI_ti, bI_i, bI_r, bI_j, bW_i, bW_j, bA_i, bA_j, bO_i, bO_r, bO_j, bJ_i, bJ_r, bJ_j, e3, e5]
theorem st_worst {Se Sx Sw Ss Sy Sz Sc : Bk} {ro : Nat} {Sg : Bk} {Sp : Nat → Bk} {Sm : Bk} (Sr : Bk) (hR : Rel Se Sx Sw Ss Sy Sz Sc ro Sg Sp Sm) (x1 : Int32) : ∃ (u7 : Int32 × Bk) (u8 : Int32 × Bk), fX7_worst Se Sw Ss Sr x1 = some u7 ∧ fX8_worst Sm x1 = some u8 ∧ u7.1 = u8.1 ∧ Rel Se Sx Sw Ss Sy Sz Sc ro Sg Sp (bA (bA (bA (bA (bA (bA (bO Sm u8.2) 1 (u8.2.2.1 1)) 2 (u8.2.2.1 2)) 3 (u8.2.2.1 3)) 7 (u8.2.2.1 7)) 14 (u8.2.2.1 14)) 15 (u8.2.2.1 15)) := by
  have hR0 := hR
  obtain ⟨nt, nq, nd, wd, hB, hwc, hwm, hs, ht, ha, hk, hg, hj⟩ := hR
  have fin : ∀ (r : Int32) (S7 S8 : Bk), fX7_worst Se Sw Ss Sr x1 = some (r, S7) → fX8_worst Sm x1 = some (r, S8) → S8.1 = (bI Sm 0 (nI 0)).1 → S8.2.2 = Sm.2.2 → (∀ i, i ≠ 14 → i ≠ 15 → S8.2.1 i = Sm.2.1 i) → ∃ (u7 : Int32 × Bk) (u8 : Int32 × Bk), fX7_worst Se Sw Ss Sr x1 = some u7 ∧ fX8_worst Sm x1 = some u8 ∧ u7.1 = u8.1 ∧ Rel Se Sx Sw Ss Sy Sz Sc ro Sg Sp (bA (bA (bA (bA (bA (bA (bO Sm u8.2) 1 (u8.2.2.1 1)) 2 (u8.2.2.1 2)) 3 (u8.2.2.1 3)) 7 (u8.2.2.1 7)) 14 (u8.2.2.1 14)) 15 (u8.2.2.1 15)) := by
    intro r S7 S8 c7 c8 d1 d2 d3
    refine ⟨(r, S7), (r, S8), c7, c8, rfl, rel_sm hR0 ?_ ?_ ?_ ?_ ?_ ?_ rfl (d3 1 (by omega) (by omega)) (d3 2 (by omega) (by omega)) (d3 3 (by omega) (by omega)) (d3 7 (by omega) (by omega)) rfl rfl rfl rfl rfl d2⟩
    · show S8.1 1 = _; rw [d1]; rfl
    · show S8.1 3 = _; rw [d1]; rfl
    · show S8.1 4 = _; rw [d1]; rfl
    · show S8.1 5 = _; rw [d1]; rfl
    · show S8.1 9 = _; rw [d1]; rfl
    · show S8.1 10 = _; rw [d1]; rfl
  obtain ⟨th, td, tb, kn, dn, h⟩ := sr_sq hs
  have hwm' : RWm nt nq nd wd (bI Sm 0 (nI 0)) := hwm
  have h' : SQ nt nq nd wd Ss ((bI Sm 0 (nI 0)).2.1 7) th td tb kn dn := h
  obtain ⟨V, r, S7, S7', S8, S8', e1, e2, e3, e4, e5, ⟨f1, f2, f3⟩, ⟨g1, g2, g3⟩⟩ := gr_e hB hwc hwm' h' Sr false
  have e1 : fX5_grow Sw Ss Sr (nI 0) (nI 0) = some (zI (1 * V), S7) := e1
  rw [Int.one_mul] at e1
  have e3 : fX8_layBest (bI Sm 0 (nI 0)) (nI 1) (-nI 9) = some S8 := e3
  have e5 : fX8_firstOf S8 (nI 1) = some (nI r, S8') := e5
  rcases ix x1 2 (by omega) with ⟨c, c'⟩ | ⟨c, c'⟩ | ⟨i, hi2, rfl⟩
  · refine fin (-2) Sr (bI Sm 0 (nI 0)) ?_ ?_ rfl rfl (fun _ _ _ => rfl)
    · unfold fX7_worst fX7_greatest
      simp (disch := omega) only [↓reduceIte, if_pos, if_neg, bd_some, nmV_e, inB_in, nI_cl, nI_leE, nI_ltE, nI_eqE, nI_add, pk_mul, lit_e, in_0_1, in_0_2, in_0_4, in_0_9, in_1_9, in_1_6, in_1_30, in_0_255, nI_ti, bI_i, bI_r, bI_j, bW_i, bW_j, bA_i, bA_j, bO_i, bO_r, bO_j, bJ_i, bJ_r, bJ_j, i32_lt, i32_le]
    · unfold fX8_worst
      simp (disch := omega) only [↓reduceIte, if_pos, if_neg, bd_some, nmV_e, inB_in, nI_cl, nI_leE, nI_ltE, nI_eqE, nI_add, pk_mul, lit_e, in_0_1, in_0_2, in_0_4, in_0_9, in_1_9, in_1_6, in_1_30, in_0_255, nI_ti, bI_i, bI_r, bI_j, bW_i, bW_j, bA_i, bA_j, bO_i, bO_r, bO_j, bJ_i, bJ_r, bJ_j]
  · refine fin (-2) Sr (bI Sm 0 (nI 0)) ?_ ?_ rfl rfl (fun _ _ _ => rfl)
    · unfold fX7_worst fX7_greatest
      simp (disch := omega) only [↓reduceIte, if_pos, if_neg, bd_some, nmV_e, inB_in, nI_cl, nI_leE, nI_ltE, nI_eqE, nI_add, pk_mul, lit_e, in_0_1, in_0_2, in_0_4, in_0_9, in_1_9, in_1_6, in_1_30, in_0_255, nI_ti, bI_i, bI_r, bI_j, bW_i, bW_j, bA_i, bA_j, bO_i, bO_r, bO_j, bJ_i, bJ_r, bJ_j, i32_lt, i32_le]
    · unfold fX8_worst
      simp (disch := omega) only [↓reduceIte, if_pos, if_neg, bd_some, nmV_e, inB_in, nI_cl, nI_leE, nI_ltE, nI_eqE, nI_add, pk_mul, lit_e, in_0_1, in_0_2, in_0_4, in_0_9, in_1_9, in_1_6, in_1_30, in_0_255, nI_ti, bI_i, bI_r, bI_j, bW_i, bW_j, bA_i, bA_j, bO_i, bO_r, bO_j, bJ_i, bJ_r, bJ_j]
  · rcases (show i = 0 ∨ i = 1 by omega) with rfl | rfl
    · refine fin (zI V) S7 S8 ?_ ?_ f1 f2 f3
      · unfold fX7_worst fX7_greatest
        simp (disch := omega) only [↓reduceIte, if_pos, if_neg, bd_some, nmV_e, inB_in, nI_cl, nI_leE, nI_ltE, nI_eqE, nI_add, pk_mul, lit_e, in_0_1, in_0_2, in_0_4, in_0_9, in_1_9, in_1_6, in_1_30, in_0_255, nI_ti, bI_i, bI_r, bI_j, bW_i, bW_j, bA_i, bA_j, bO_i, bO_r, bO_j, bJ_i, bJ_r, bJ_j, e1]
      · unfold fX8_worst
        simp (disch := omega) only [↓reduceIte, if_pos, if_neg, bd_some, nmV_e, inB_in, nI_cl, nI_leE, nI_ltE, nI_eqE, nI_add, pk_mul, lit_e, in_0_1, in_0_2, in_0_4, in_0_9, in_1_9, in_1_6, in_1_30, in_0_255, nI_ti, bI_i, bI_r, bI_j, bW_i, bW_j, bA_i, bA_j, bO_i, bO_r, bO_j, bJ_i, bJ_r, bJ_j, e3, e4]
    · refine fin (nI r) S7' S8' ?_ ?_ g1 g2 g3
      · unfold fX7_worst fX7_greatest
        simp (disch := omega) only [↓reduceIte, if_pos, if_neg, bd_some, nmV_e, inB_in, nI_cl, nI_leE, nI_ltE, nI_eqE, nI_add, pk_mul, lit_e, in_0_1, in_0_2, in_0_4, in_0_9, in_1_9, in_1_6, in_1_30, in_0_255, nI_ti, bI_i, bI_r, bI_j, bW_i, bW_j, bA_i, bA_j, bO_i, bO_r, bO_j, bJ_i, bJ_r, bJ_j, e1, e2]
      · unfold fX8_worst
        simp (disch := omega) only [↓reduceIte, if_pos, if_neg, bd_some, nmV_e, inB_in, nI_cl, nI_leE, nI_ltE, nI_eqE, nI_add, pk_mul, lit_e, in_0_1, in_0_2, in_0_4, in_0_9, in_1_9, in_1_6, in_1_30, in_0_255, nI_ti, bI_i, bI_r, bI_j, bW_i, bW_j, bA_i, bA_j, bO_i, bO_r, bO_j, bJ_i, bJ_r, bJ_j, e3, e5]
