section
variable {nt nq nd : Nat} {wd : Nat → Nat → Nat} {th td tb : Nat → Nat} {won : Int} {kn dn : Nat} {me : Bool} {bq on : Nat} {Sw Ss Sr Sm S' : Bk}
/-- the class's unregretted questions -/
theorem un7 (h : CC nt nq nd wd th won kn dn Sw Ss) (hM : MC nt nq nd wd th won kn dn Sm) (hq8 : SQ nt nq nd wd Ss (Sm.2.1 7) th td tb kn dn) (hon : on < 16) (hok : on &&& kn = on) (hn1 : Sw.1 2 &&& Ss.1 0 = nI on) : ∃ S', fX5_unregretted Sw Ss Sr = some (nI (bS (fun q => (kn / 2 ^ q % 2 = 0 ∧ wd 4 q ≤ th (wd 3 q)) ∧ Wn nt nq nd wd th won kn dn on q ≤ Dn nt nq nd wd th won kn dn on q) nq), S') := by
  have hC := h
  obtain ⟨hB, hwc, hth0, k0, k1, k2, k3, k4, k5, k6⟩ := h
  have hnq := hB.2.1
  have hp := p2 hnq
  have w1 := hwc.2.1
  have hcd := cd7 hB hwc hq8
  have cl : canD wd th kn nq < 2 ^ nq := bS_lt nq
  have cb : ∀ q, q < nq → canD wd th kn nq / 2 ^ q % 2 = if kn / 2 ^ q % 2 = 0 ∧ wd 4 q ≤ th (wd 3 q) then 1 else 0 := fun q hq => bS_b hq
  generalize canD wd th kn nq = cn at hcd cl cb
  obtain ⟨S7, a1, a2, a3, a4⟩ := grow7 (Sr := Sr) (me := false) (bq := 9) hC hon hok hn1 (by show kn &&& 0 = 0; exact Nat.and_zero kn)
  have a4 : fX5_grow Sw Ss Sr (nI 0) (nI 0) = _ := a4
  obtain ⟨B, hBe⟩ : ∃ B, B = bA (bA (bA (bO Sr S7) 2 (S7.2.1 2)) 3 (S7.2.1 3)) 4 (S7.2.1 4) := ⟨_, rfl⟩
  have B0 : B.1 0 = nI (nb false) := by rw [hBe]; exact a1
  have B2 : TB nt nq nd wd th won kn dn false 9 on (B.2.1 2) (fun _ _ _ => True) := by rw [hBe]; exact a3
  obtain ⟨c1, c2, C, ⟨e1, e2, e3, e4, e5⟩, hF⟩ := lk3_inv (f := sX5_unregretted_17 Sw Ss) (fun n x1 x2 S' => x1 = nI cn ∧ x2 = nI n ∧ S'.1 0 = nI (nb false) ∧ TB nt nq nd wd th won kn dn false 9 on (S'.2.1 2) (fun _ _ _ => True) ∧ ∀ i, i < n → kn / 2 ^ i % 2 = 0 ∧ wd 4 i ≤ th (wd 3 i) → S'.2.1 5 i = zI (Dn nt nq nd wd th won kn dn on i)) nq (fun n x1 x2 S' hn hI => by
    obtain ⟨e1, e2, e3, e4, e5⟩ := hI
    subst e1 e2
    have cbn := cb n hn
    have row : ∀ v : Int32, (kn / 2 ^ n % 2 = 0 ∧ wd 4 n ≤ th (wd 3 n) → v = zI (Dn nt nq nd wd th won kn dn on n)) → ∀ i, i < n + 1 → kn / 2 ^ i % 2 = 0 ∧ wd 4 i ≤ th (wd 3 i) → (bW S' 5 n v).2.1 5 i = zI (Dn nt nq nd wd th won kn dn on i) := fun v hv i hi hc => by
      show (if i = n then v else S'.2.1 5 i) = _
      by_cases c : i = n
      · subst c
        rw [if_pos rfl]; exact hv hc
      · rw [if_neg c]; exact e5 i (by omega) hc
    by_cases c : kn / 2 ^ n % 2 = 0 ∧ wd 4 n ≤ th (wd 3 n)
    · have b := be7 (Sr := S') hC hon hok hn1 e3 e4 hn c.1 c.2
      rw [if_pos c] at cbn
      refine ⟨nI cn, nI (n + 1), bW S' 5 n (zI (Dn nt nq nd wd th won kn dn on n)), fun k => ?_, rfl, rfl, e3, e4, row _ (fun _ => rfl)⟩
      unfold sX5_unregretted_17 gX5_unregretted_51
      simp (disch := omega) only [↓reduceIte, if_pos, if_neg, bd_some, nmV_e, inB_in, nI_cl, nI_leE, nI_ltE, nI_eqE, nI_add, pk_mul, lit_e, in_0_1, in_0_2, in_0_4, in_0_9, in_1_9, in_1_6, in_1_30, in_0_255, nI_ti, bI_i, bI_r, bI_j, bW_i, bW_j, bA_i, bA_j, bO_i, bO_r, bO_j, bJ_i, bJ_r, bJ_j, w1, bit_n, cbn, b]
    · rw [if_neg c] at cbn
      refine ⟨nI cn, nI (n + 1), bW S' 5 n (nI 0), fun k => ?_, rfl, rfl, e3, e4, row _ (fun z => absurd z c)⟩
      unfold sX5_unregretted_17 gX5_unregretted_51
      simp (disch := omega) only [↓reduceIte, if_pos, if_neg, bd_some, nmV_e, inB_in, nI_cl, nI_leE, nI_ltE, nI_eqE, nI_add, pk_mul, lit_e, in_0_1, in_0_2, in_0_4, in_0_9, in_1_9, in_1_6, in_1_30, in_0_255, nI_ti, bI_i, bI_r, bI_j, bW_i, bW_j, bA_i, bA_j, bO_i, bO_r, bO_j, bJ_i, bJ_r, bJ_j, w1, bit_n, cbn]) (nI cn) (nI 0) B ⟨rfl, rfl, B0, B2, fun i hi => absurd hi (by omega)⟩
  obtain ⟨d1, d2, d3, D, ⟨f1, f2, f3, f4⟩, hG⟩ := lk4_inv (f := sX5_unregretted_62 Sw Ss) (fun n x1 x2 x3 S' => x1 = nI cn ∧ x2 = nI (bS (fun q => (kn / 2 ^ q % 2 = 0 ∧ wd 4 q ≤ th (wd 3 q)) ∧ Wn nt nq nd wd th won kn dn on q ≤ Dn nt nq nd wd th won kn dn on q) n) ∧ x3 = nI n ∧ S'.2.1 5 = C.2.1 5) nq (fun n x1 x2 x3 S' hn hI => by
    obtain ⟨f1, f2, f3, f4⟩ := hI
    subst f1 f2 f3
    have cbn := cb n hn
    have hbs : bS (fun q => (kn / 2 ^ q % 2 = 0 ∧ wd 4 q ≤ th (wd 3 q)) ∧ Wn nt nq nd wd th won kn dn on q ≤ Dn nt nq nd wd th won kn dn on q) (n + 1) = if (kn / 2 ^ n % 2 = 0 ∧ wd 4 n ≤ th (wd 3 n)) ∧ Wn nt nq nd wd th won kn dn on n ≤ Dn nt nq nd wd th won kn dn on n then bS (fun q => (kn / 2 ^ q % 2 = 0 ∧ wd 4 q ≤ th (wd 3 q)) ∧ Wn nt nq nd wd th won kn dn on q ≤ Dn nt nq nd wd th won kn dn on q) n ||| 2 ^ n else bS (fun q => (kn / 2 ^ q % 2 = 0 ∧ wd 4 q ≤ th (wd 3 q)) ∧ Wn nt nq nd wd th won kn dn on q ≤ Dn nt nq nd wd th won kn dn on q) n := rfl
    generalize bS (fun q => (kn / 2 ^ q % 2 = 0 ∧ wd 4 q ≤ th (wd 3 q)) ∧ Wn nt nq nd wd th won kn dn on q ≤ Dn nt nq nd wd th won kn dn on q) n = X at hbs ⊢
    by_cases c : kn / 2 ^ n % 2 = 0 ∧ wd 4 n ≤ th (wd 3 n)
    · have hz : bi kn n = 0 := c.1
      have wb := Wn_b (on := on) hM (q := n)
      have db := Dn_b (on := on) hM hn hz
      obtain ⟨E, g1, g2⟩ := wi7 (Sr := S') hC hon hok hn1 hn hz
      have r5 : S'.2.1 5 n = zI (Dn nt nq nd wd th won kn dn on n) := by rw [f4]; exact e5 n hn c
      rw [if_pos c] at cbn
      have hlt : (zI (Dn nt nq nd wd th won kn dn on n) < zI (Wn nt nq nd wd th won kn dn on n)) = (Dn nt nq nd wd th won kn dn on n < Wn nt nq nd wd th won kn dn on n) := zI_lt (by omega) (by omega) (by omega) (by omega)
      by_cases c2 : Wn nt nq nd wd th won kn dn on n ≤ Dn nt nq nd wd th won kn dn on n
      · have c3 : ¬ Dn nt nq nd wd th won kn dn on n < Wn nt nq nd wd th won kn dn on n := by omega
        rw [if_pos ⟨c, c2⟩] at hbs
        refine ⟨nI cn, nI (X ||| 2 ^ n), nI (n + 1), bA (bA (bA (bO S' E) 2 (E.2.1 2)) 3 (E.2.1 3)) 4 (E.2.1 4), fun k => ?_, rfl, by rw [hbs], rfl, f4⟩
        unfold sX5_unregretted_62 gX5_unregretted_105
        simp (disch := omega) only [↓reduceIte, if_pos, if_neg, bd_some, nmV_e, inB_in, nI_cl, nI_leE, nI_ltE, nI_eqE, nI_add, pk_mul, lit_e, in_0_1, in_0_2, in_0_4, in_0_9, in_1_9, in_1_6, in_1_30, in_0_255, nI_ti, bI_i, bI_r, bI_j, bW_i, bW_j, bA_i, bA_j, bO_i, bO_r, bO_j, bJ_i, bJ_r, bJ_j, w1, bit_n, cbn, shl_n, g2, r5, hlt, c3, fa_or]
      · have c3 : Dn nt nq nd wd th won kn dn on n < Wn nt nq nd wd th won kn dn on n := by omega
        rw [if_neg (fun z => c2 z.2)] at hbs
        refine ⟨nI cn, nI X, nI (n + 1), bA (bA (bA (bO S' E) 2 (E.2.1 2)) 3 (E.2.1 3)) 4 (E.2.1 4), fun k => ?_, rfl, by rw [hbs], rfl, f4⟩
        unfold sX5_unregretted_62 gX5_unregretted_105
        simp (disch := omega) only [↓reduceIte, if_pos, if_neg, bd_some, nmV_e, inB_in, nI_cl, nI_leE, nI_ltE, nI_eqE, nI_add, pk_mul, lit_e, in_0_1, in_0_2, in_0_4, in_0_9, in_1_9, in_1_6, in_1_30, in_0_255, nI_ti, bI_i, bI_r, bI_j, bW_i, bW_j, bA_i, bA_j, bO_i, bO_r, bO_j, bJ_i, bJ_r, bJ_j, w1, bit_n, cbn, shl_n, g2, r5, hlt, c3]
    · rw [if_neg c] at cbn
      rw [if_neg (fun z => c z.1)] at hbs
      refine ⟨nI cn, nI X, nI (n + 1), S', fun k => ?_, rfl, by rw [hbs], rfl, f4⟩
      unfold sX5_unregretted_62 gX5_unregretted_105
      simp (disch := omega) only [↓reduceIte, if_pos, if_neg, bd_some, nmV_e, inB_in, nI_cl, nI_leE, nI_ltE, nI_eqE, nI_add, pk_mul, lit_e, in_0_1, in_0_2, in_0_4, in_0_9, in_1_9, in_1_6, in_1_30, in_0_255, nI_ti, bI_i, bI_r, bI_j, bW_i, bW_j, bA_i, bA_j, bO_i, bO_r, bO_j, bJ_i, bJ_r, bJ_j, w1, bit_n, cbn]) (nI cn) (nI 0) (nI 0) C ⟨rfl, rfl, rfl, rfl⟩
  refine ⟨D, ?_⟩
  obtain ⟨ka, hka⟩ := hF 1000 (by omega)
  obtain ⟨kb, hkb⟩ := hG 1000 (by omega)
  unfold fX5_unregretted
  rw [hcd, bd_some, show fX5_grow Sw Ss Sr (0 : Int32) (0 : Int32) = _ from a4, bd_some]
  show lk3 (sX5_unregretted_17 Sw Ss) 1000 (nI cn) (nI 0) (bA (bA (bA (bO Sr S7) 2 (S7.2.1 2)) 3 (S7.2.1 3)) 4 (S7.2.1 4)) = _
  rw [← hBe]
  refine hka.trans ?_
  subst e1 e2
  unfold sX5_unregretted_17
  rw [w1, if_pos (nI_le (Nat.le_refl nq) (by omega))]
  refine hkb.trans ?_
  subst f1 f2 f3
  unfold sX5_unregretted_62
  rw [w1, if_pos (nI_le (Nat.le_refl nq) (by omega))]
/-- the reference's -/
theorem nv8 (hM : MC nt nq nd wd th won kn dn Sm) (hq8 : SQ nt nq nd wd Ss (Sm.2.1 7) th td tb kn dn) (hon : on < 16) (hbit : ∀ q, q < nq → bi on q = if bi kn q = 1 then wd 11 q else 0) (hok : on &&& kn = on) : ∃ S', S'.1 = Sm.1 ∧ S'.2.2 = Sm.2.2 ∧ (∀ r, r ≠ 14 → r ≠ 15 → S'.2.1 r = Sm.2.1 r) ∧ lk3 (sX8_never_9 ) 1000 (nI 0) (nI 0) Sm = some (nI (bS (fun q => (kn / 2 ^ q % 2 = 0 ∧ wd 4 q ≤ th (wd 3 q)) ∧ Wn nt nq nd wd th won kn dn on q ≤ Dn nt nq nd wd th won kn dn on q) nq), S') := by
  have hB := hM.1
  have hnq := hB.2.1
  have w2 := hM.2.1.2.1
  obtain ⟨d1, d2, D, ⟨f1, f2, f3, f4, f5⟩, hG⟩ := lk3_inv (f := sX8_never_9) (fun n x1 x2 S' => x1 = nI (bS (fun q => (kn / 2 ^ q % 2 = 0 ∧ wd 4 q ≤ th (wd 3 q)) ∧ Wn nt nq nd wd th won kn dn on q ≤ Dn nt nq nd wd th won kn dn on q) n) ∧ x2 = nI n ∧ S'.1 = Sm.1 ∧ S'.2.2 = Sm.2.2 ∧ ∀ r, r ≠ 14 → r ≠ 15 → S'.2.1 r = Sm.2.1 r) nq (fun n x1 x2 S' hn hI => by
    obtain ⟨f1, f2, f3, f4, f5⟩ := hI
    subst f1 f2
    have hM' : MC nt nq nd wd th won kn dn S' := MC_cg hM f3 f5
    have w2' : S'.1 4 = nI nq := by rw [f3]; exact w2
    have r8 := rd8 hB hM'.2.1 (show SQ nt nq nd wd Ss (S'.2.1 7) th td tb kn dn by rw [f5 7 (by omega) (by omega)]; exact hq8) hn
    have hbs : bS (fun q => (kn / 2 ^ q % 2 = 0 ∧ wd 4 q ≤ th (wd 3 q)) ∧ Wn nt nq nd wd th won kn dn on q ≤ Dn nt nq nd wd th won kn dn on q) (n + 1) = if (kn / 2 ^ n % 2 = 0 ∧ wd 4 n ≤ th (wd 3 n)) ∧ Wn nt nq nd wd th won kn dn on n ≤ Dn nt nq nd wd th won kn dn on n then bS (fun q => (kn / 2 ^ q % 2 = 0 ∧ wd 4 q ≤ th (wd 3 q)) ∧ Wn nt nq nd wd th won kn dn on q ≤ Dn nt nq nd wd th won kn dn on q) n ||| 2 ^ n else bS (fun q => (kn / 2 ^ q % 2 = 0 ∧ wd 4 q ≤ th (wd 3 q)) ∧ Wn nt nq nd wd th won kn dn on q ≤ Dn nt nq nd wd th won kn dn on q) n := rfl
    generalize bS (fun q => (kn / 2 ^ q % 2 = 0 ∧ wd 4 q ≤ th (wd 3 q)) ∧ Wn nt nq nd wd th won kn dn on q ≤ Dn nt nq nd wd th won kn dn on q) n = X at hbs ⊢
    by_cases c : kn / 2 ^ n % 2 = 0 ∧ wd 4 n ≤ th (wd 3 n)
    · have hz : bi kn n = 0 := c.1
      have wb := Wn_b (on := on) hM (q := n)
      have db := Dn_b (on := on) hM hn hz
      obtain ⟨E, g1, g2, g3, g4⟩ := ro8 hM' hon hbit hok hn hz
      have cz : (nDq wd th kn n = nI 0) = True := by rw [nDq0]; exact eq_true c
      by_cases c2 : Wn nt nq nd wd th won kn dn on n ≤ Dn nt nq nd wd th won kn dn on n
      · rw [if_pos ⟨c, c2⟩] at hbs
        rw [if_pos c2] at g4
        have g4 : fX8_regretOf S' (nI n) = some (nI 0, E) := g4
        refine ⟨nI (X ||| 2 ^ n), nI (n + 1), E, fun k => ?_, by rw [hbs], rfl, g1.trans f3, g2.trans f4, fun r r1 r2 => (g3 r r1 r2).trans (f5 r r1 r2)⟩
        unfold sX8_never_9 gX8_never_44 gX8_never_45
        simp (disch := omega) only [↓reduceIte, if_pos, if_neg, bd_some, nmV_e, inB_in, nI_cl, nI_leE, nI_ltE, nI_eqE, nI_add, pk_mul, lit_e, in_0_1, in_0_2, in_0_4, in_0_9, in_1_9, in_1_6, in_1_30, in_0_255, nI_ti, bI_i, bI_r, bI_j, bW_i, bW_j, bA_i, bA_j, bO_i, bO_r, bO_j, bJ_i, bJ_r, bJ_j, w2', r8, cz, g4, shl_n, fa_or]
      · rw [if_neg (fun z => c2 z.2)] at hbs
        rw [if_neg c2] at g4
        have nz : (zI (Wn nt nq nd wd th won kn dn on n - Dn nt nq nd wd th won kn dn on n) = nI 0) = False := by
          rw [show nI 0 = zI 0 from rfl, zI_eq (by omega) (by omega) (by omega) (by omega)]
          exact eq_false (by omega)
        refine ⟨nI X, nI (n + 1), E, fun k => ?_, by rw [hbs], rfl, g1.trans f3, g2.trans f4, fun r r1 r2 => (g3 r r1 r2).trans (f5 r r1 r2)⟩
        unfold sX8_never_9 gX8_never_44 gX8_never_45
        simp (disch := omega) only [↓reduceIte, if_pos, if_neg, bd_some, nmV_e, inB_in, nI_cl, nI_leE, nI_ltE, nI_eqE, nI_add, pk_mul, lit_e, in_0_1, in_0_2, in_0_4, in_0_9, in_1_9, in_1_6, in_1_30, in_0_255, nI_ti, bI_i, bI_r, bI_j, bW_i, bW_j, bA_i, bA_j, bO_i, bO_r, bO_j, bJ_i, bJ_r, bJ_j, w2', r8, cz, g4, nz, or_0]
    · rw [if_neg (fun z => c z.1)] at hbs
      have cz : (nDq wd th kn n = nI 0) = False := by rw [nDq0]; exact eq_false c
      refine ⟨nI X, nI (n + 1), S', fun k => ?_, by rw [hbs], rfl, f3, f4, f5⟩
      unfold sX8_never_9 gX8_never_44 gX8_never_45
      simp (disch := omega) only [↓reduceIte, if_pos, if_neg, bd_some, nmV_e, inB_in, nI_cl, nI_leE, nI_ltE, nI_eqE, nI_add, pk_mul, lit_e, in_0_1, in_0_2, in_0_4, in_0_9, in_1_9, in_1_6, in_1_30, in_0_255, nI_ti, bI_i, bI_r, bI_j, bW_i, bW_j, bA_i, bA_j, bO_i, bO_r, bO_j, bJ_i, bJ_r, bJ_j, w2', r8, cz, or_0]) (nI 0) (nI 0) Sm ⟨rfl, rfl, rfl, rfl, fun _ _ _ => rfl⟩
  obtain ⟨kb, hkb⟩ := hG 1000 (by omega)
  refine ⟨D, f3, f4, f5, hkb.trans ?_⟩
  subst f1 f2
  unfold sX8_never_9
  rw [f3, w2, if_pos (nI_le (Nat.le_refl nq) (by omega))]
end
theorem st_never {Se Sx Sw Ss Sy Sz Sc : Bk} {ro : Nat} {Sg : Bk} {Sp : Nat → Bk} {Sm : Bk} (Sr : Bk) (hR : Rel Se Sx Sw Ss Sy Sz Sc ro Sg Sp Sm) : ∃ (u7 : Int32 × Bk) (u8 : Int32 × Bk), fX7_never Se Sw Ss Sr = some u7 ∧ fX8_never Sm  = some u8 ∧ u7.1 = u8.1 ∧ Rel Se Sx Sw Ss Sy Sz Sc ro Sg Sp (bA (bA (bA (bA (bA (bA (bO Sm u8.2) 1 (u8.2.2.1 1)) 2 (u8.2.2.1 2)) 3 (u8.2.2.1 3)) 7 (u8.2.2.1 7)) 14 (u8.2.2.1 14)) 15 (u8.2.2.1 15)) := by
  have hR0 := hR
  obtain ⟨nt, nq, nd, wd, hB, hwc, hwm, hs, ht, ha, hk, hg, hj⟩ := hR
  obtain ⟨th, td, tb, kn, dn, h⟩ := sr_sq hs
  have hwm' : RWm nt nq nd wd (bI Sm 0 (nI 0)) := hwm
  have h' : SQ nt nq nd wd Ss ((bI Sm 0 (nI 0)).2.1 7) th td tb kn dn := h
  obtain ⟨won, on, hC, hM, hon, hbit, hok, hn1⟩ := cm_e hB hwc hwm' h'
  obtain ⟨S7, e7⟩ := un7 (Sr := Sr) hC hM h' hon hok hn1
  obtain ⟨S8, d1, d2, d3, d4⟩ := nv8 hM h' hon hbit hok
  have c7 : ∀ u : Int32 × Bk, fX5_unregretted Sw Ss Sr = some u → fX7_never Se Sw Ss Sr = some (u.1, u.2) := fun u hu => by
    unfold fX7_never
    rw [hu, bd_some]
  refine ⟨_, _, c7 _ e7, d4, rfl, rel_sm hR0 ?_ ?_ ?_ ?_ ?_ ?_ rfl (d3 1 (by omega) (by omega)) (d3 2 (by omega) (by omega)) (d3 3 (by omega) (by omega)) (d3 7 (by omega) (by omega)) rfl rfl rfl rfl rfl d2⟩
  · show S8.1 1 = _; rw [d1]; rfl
  · show S8.1 3 = _; rw [d1]; rfl
  · show S8.1 4 = _; rw [d1]; rfl
  · show S8.1 5 = _; rw [d1]; rfl
  · show S8.1 9 = _; rw [d1]; rfl
  · show S8.1 10 = _; rw [d1]; rfl
