section
variable {nt nq nd : Nat} {wd : Nat → Nat → Nat} {th td tb : Nat → Nat} {won : Int} {kn dn : Nat} {me : Bool} {bq on : Nat} {Sw Ss Sr Sm S' : Bk}
/-- what is behind a question, asked now -/
theorem bn7 (h : CC nt nq nd wd th won kn dn Sw Ss) (hon : on < 16) (hok : on &&& kn = on) (hn1 : Sw.1 2 &&& Ss.1 0 = nI on) (hbq : 4 ≤ bq) (h0 : Sr.1 0 = nI (nb me)) (hT : TB nt nq nd wd th won kn dn me bq on (Sr.2.1 2) (fun _ _ _ => True)) {q : Nat} (hq : q < nq) (hz : bi kn q = 0) : fX5_behindNow Sw Ss Sr (nI q) = some (zI (bh wd me q (cv nt nq nd wd th won kn dn me bq (kn ||| 2 ^ q) on dn) (cv nt nq nd wd th won kn dn me bq (kn ||| 2 ^ q) (on ||| 2 ^ q) dn))) := by
  have hcc := h
  obtain ⟨hB, hwc, hth0, k0, k1, k2, k3, k4, k5, k6⟩ := h
  have hth : ∀ t, t < nt → th t ≤ 9 := fun t ht => (hth0 t ht).2
  have hw : -36 ≤ won ∧ won ≤ 36 := ⟨k5, k6⟩
  have hnq := hB.2.1
  have hnd := hB.2.2.1
  have hp := p2 hnq
  have hp2 := p2 hnd
  have b0 : bb bq = 0 := by unfold bb; exact if_neg (by omega)
  have hv : vd nq nd kn dn on bq kn on dn := vd_now k1 k3 hon hok (by rw [b0]; exact Nat.and_zero kn)
  have vq := vd_q hnq (show kn < 16 by omega) hv hq hz (by omega)
  have ok := or_lt k1 hq
  have cb1 := cv_b (kn := kn) (dn := dn) (me := me) (bq := bq) hB hth hw (O := on) (D := dn) ok
  have cb2 := cv_b (kn := kn) (dn := dn) (me := me) (bq := bq) hB hth hw (O := on ||| 2 ^ q) (D := dn) ok
  have e := bh7 (me := me) hcc hq (show kn < 16 by omega) hon (show dn < 16 by omega) hok h0 (hT _ _ _ vq.1 trivial) (hT _ _ _ vq.2 trivial) (by omega) (by omega)
  unfold fX5_behindNow fX5_onesNow
  rw [bd_some, hn1, k0, k2, e, bd_some]
/-- the class's first step -/
theorem fi7 (h : CC nt nq nd wd th won kn dn Sw Ss) (hon : on < 16) (hok : on &&& kn = on) (hn1 : Sw.1 2 &&& Ss.1 0 = nI on) (hbq : 4 ≤ bq) (h0 : Sr.1 0 = nI (nb me)) (hT : TB nt nq nd wd th won kn dn me bq on (Sr.2.1 2) (fun _ _ _ => True)) {L1 L2 : Nat} (p1 : L1 ≤ nq ∧ (∀ i, i < L1 → ¬ FQ nt nq nd wd th won kn dn me bq on i) ∧ (L1 < nq → FQ nt nq nd wd th won kn dn me bq on L1)) (q1 : L2 ≤ nd ∧ (∀ i, i < L2 → ¬ FD nt nq nd wd th won kn dn me bq on i) ∧ (L2 < nd → FD nt nq nd wd th won kn dn me bq on L2)) : ∃ S', fX5_first Sw Ss Sr = some (nI (fa (eR nt nq nd wd th won me (dx kn kn) kn on (dx dn dn) = Vv nt nq nd wd th won kn dn me bq kn on dn) L1 L2 nq nd), S') := by
  have hcc := h
  obtain ⟨hB, hwc, hth0, k0, k1, k2, k3, k4, k5, k6⟩ := h
  have hth : ∀ t, t < nt → th t ≤ 9 := fun t ht => (hth0 t ht).2
  have hw : -36 ≤ won ∧ won ≤ 36 := ⟨k5, k6⟩
  have hnq := hB.2.1
  have hnd := hB.2.2.1
  have hp := p2 hnq
  have hp2 := p2 hnd
  have w1 := hwc.2.1
  have w3 := hwc.2.2.1
  obtain ⟨p1, p2, p3⟩ := p1
  obtain ⟨q1, q2, q3⟩ := q1
  have b0 : bb bq = 0 := by unfold bb; exact if_neg (by omega)
  have hv : vd nq nd kn dn on bq kn on dn := vd_now k1 k3 hon hok (by rw [b0]; exact Nat.and_zero kn)
  have hr : rch nt nq nd wd th (dx kn kn) (dx dn dn) := rch_00 (by omega) (by omega)
  have hl : ∀ t, lf nq nd wd th (dx kn kn) (dx dn dn) t = th t := fun t => lf_00 (by omega) (by omega)
  obtain ⟨A, A1, A2, A3, A4, A5⟩ := lo7 (Sr := Sr) hcc (dx_l (show kn < 16 by omega) (show kn < 16 by omega)) (dx_l (show dn < 16 by omega) (show dn < 16 by omega))
  obtain ⟨y2, y3⟩ : A.1 2 = zI (bse nt nq nd wd th won (dx kn kn) (dx dn dn)) ∧ fX5_layOut Sw Ss Sr (nI (dx kn kn)) (nI (dx dn dn)) = some (nI 1, A) := by
    rcases A5 with ⟨y1, y2, y3⟩ | ⟨y1, y2⟩
    · exact ⟨y2, y3⟩
    · exact absurd hr y1
  have y3 : fX5_layOut Sw Ss Sr (nI 0) (nI 0) = some (nI 1, A) := by
    have e1 := dx_self kn (by omega)
    have e2 := dx_self dn (by omega)
    rw [e1, e2] at y3
    exact y3
  obtain ⟨B, hBe⟩ : ∃ B, B = bA (bA (bO Sr A) 3 (A.2.1 3)) 4 (A.2.1 4) := ⟨_, rfl⟩
  have B0 : B.1 0 = nI (nb me) := by rw [hBe]; exact A1.trans h0
  have B2 : B.1 2 = zI (bse nt nq nd wd th won (dx kn kn) (dx dn dn)) := by rw [hBe]; exact y2
  have B4 : ∀ q, q < nq → B.2.1 4 q = zI (sw wd (dx dn dn) q nd) := fun q hq => by rw [hBe]; exact A4 q hq
  have B5 : B.2.1 2 = Sr.2.1 2 := by rw [hBe]; rfl
  have hTB : TB nt nq nd wd th won kn dn me bq on (B.2.1 2) (fun _ _ _ => True) := by rw [B5]; exact hT
  have hend := end7 (me := me) (Sr := B) hcc k1 hon B0 B2 B4
  have eb := eR_b (me := me) hB hth hw (x := dx kn kn) (O := on) (y := dx dn dn) k1
  have mb := Mb_b (me := me) (K := kn) hnq
  have V_M : ∀ K O D, K < 2 ^ nq → -Mb nq me K ≤ Vv nt nq nd wd th won kn dn me bq K O D ∧ Vv nt nq nd wd th won kn dn me bq K O D ≤ Mb nq me K := fun K O D hK => Vf_b hB hth hw _ K O D hK
  have V_l : ∀ K O D, K < 2 ^ nq → -60000000 ≤ Vv nt nq nd wd th won kn dn me bq K O D ∧ Vv nt nq nd wd th won kn dn me bq K O D ≤ 60000000 := fun K O D hK => V_b hB hth hw K O D hK
  have vb := V_l kn on dn k1
  have vp := V_0 (me := me) (bq := bq) (O := on) hB hw k1 k3 hr
  have sp : 0 < sc me := sc_p
  have svb := sc_b (me := me) vb
  have seb := sc_b (me := me) (z := eR nt nq nd wd th won me (dx kn kn) kn on (dx dn dn)) (by omega)
  have svp : 0 < sc me * Vv nt nq nd wd th won kn dn me bq kn on dn := Int.mul_pos sp vp
  have sq : ∀ a b : Int, -60000000 ≤ a ∧ a ≤ 60000000 → -60000000 ≤ b ∧ b ≤ 60000000 → (zI (sc me * a) = zI (sc me * b)) = (a = b) := fun a b ha hb => by
    have s1 := sc_b (me := me) ha
    have s2 := sc_b (me := me) hb
    rw [zI_eq (by omega) (by omega) (by omega) (by omega)]
    exact propext ⟨fun e => Int.eq_of_mul_eq_mul_left (by omega) e, fun e => by rw [e]⟩
  have z0 : (zI 0 = zI (sc me * Vv nt nq nd wd th won kn dn me bq kn on dn)) = False := by
    rw [zI_eq (by omega) (by omega) (by omega) (by omega)]
    exact eq_false (by omega)
  have pb := pl_b (K := kn) (O := on) (D := dn) (by omega) hon (by omega)
  have tm : Sr.2.1 2 (pl kn on dn) = zI (sc me * Vv nt nq nd wd th won kn dn me bq kn on dn) := by rw [hT kn on dn hv trivial, cv_y hr]
  have x1 : ¬ nI 1 = nI 0 := by decide
  have r2 : lk4 (sX5_first_99 Sw Ss) 1000 (nI on) (zI (sc me * Vv nt nq nd wd th won kn dn me bq kn on dn)) (nI 0) B = some (nI (if L2 < nd then L2 + 5 else 0), B) := by
    refine lk4_run (fun _ => nI on) (fun _ => zI (sc me * Vv nt nq nd wd th won kn dn me bq kn on dn)) (fun n => nI n) (fun _ => B) L2 (fun k n hn => ?_) (fun k => ?_) 1000 (by omega)
    · have r := dn7 (j := n) k2 (show dn < 16 by omega) (by omega)
      have hne := q2 n hn
      unfold FD at hne
      unfold sX5_first_99 gX5_first_156
      by_cases c : dn / 2 ^ n % 2 = 0
      · have d16 := or16 dn (by omega) n (by omega)
        have pb1 := pl_b (K := kn) (O := on) (D := dn ||| 2 ^ n) (by omega) hon d16
        have pe := place_e (K := kn) (O := on) (D := dn ||| 2 ^ n) (by omega) hon d16 hok
        have pe : fX5_place (nI kn) (nI on) (nI (dn ||| 2 ^ n)) = some (nI (pl kn on (dn ||| 2 ^ n))) := pe
        have t1 : B.2.1 2 (pl kn on (dn ||| 2 ^ n)) = zI (cv nt nq nd wd th won kn dn me bq kn on (dn ||| 2 ^ n)) := hTB kn on (dn ||| 2 ^ n) (vd_d hnd (by omega) hv (by omega)) trivial
        have vb1 := V_l kn on (dn ||| 2 ^ n) k1
        have g := gd_1 (won := won) (kn := kn) (me := me) (bq := bq) (K := kn) (O := on) hB (show dn < 16 by omega) (show dn < 16 by omega) (Nat.and_self dn) (show n < nd by omega) c hr
        have ne : (zI (cv nt nq nd wd th won kn dn me bq kn on (dn ||| 2 ^ n)) = zI (sc me * Vv nt nq nd wd th won kn dn me bq kn on dn)) = False := by
          by_cases c2 : wd 10 n ≤ th (wd 9 n)
          · rw [g.1 (by rw [hl]; omega), sq _ _ vb1 vb]
            exact eq_false (fun z => hne ⟨⟨c, c2⟩, z⟩)
          · rw [g.2 (by rw [hl]; omega)]
            exact z0
        simp (disch := omega) only [↓reduceIte, if_pos, if_neg, bd_some, nmV_e, inB_in, nI_cl, nI_leE, nI_ltE, nI_eqE, nI_add, pk_mul, lit_e, in_0_1, in_0_2, in_0_4, in_0_9, in_1_9, in_1_6, in_1_30, in_0_255, nI_ti, bI_i, bI_r, bI_j, bW_i, bW_j, bA_i, bA_j, bO_i, bO_r, bO_j, bJ_i, bJ_r, bJ_j, w3, r, c, k0, k2, shl_n, fa_or, pe, t1, ne]
      · have c : dn / 2 ^ n % 2 = 1 := (bz dn (by omega) n (by omega)).resolve_left c
        simp (disch := omega) only [↓reduceIte, if_pos, if_neg, bd_some, nmV_e, inB_in, nI_cl, nI_leE, nI_ltE, nI_eqE, nI_add, pk_mul, lit_e, in_0_1, in_0_2, in_0_4, in_0_9, in_1_9, in_1_6, in_1_30, in_0_255, nI_ti, bI_i, bI_r, bI_j, bW_i, bW_j, bA_i, bA_j, bO_i, bO_r, bO_j, bJ_i, bJ_r, bJ_j, w3, r, c]
    · unfold sX5_first_99 gX5_first_156
      by_cases c0 : L2 < nd
      · have r := dn7 (j := L2) k2 (show dn < 16 by omega) (by omega)
        obtain ⟨⟨c, c2⟩, hV⟩ := q3 c0
        have c' : dn / 2 ^ L2 % 2 = 0 := c
        have d16 := or16 dn (by omega) L2 (by omega)
        have pb1 := pl_b (K := kn) (O := on) (D := dn ||| 2 ^ L2) (by omega) hon d16
        have pe := place_e (K := kn) (O := on) (D := dn ||| 2 ^ L2) (by omega) hon d16 hok
        have pe : fX5_place (nI kn) (nI on) (nI (dn ||| 2 ^ L2)) = some (nI (pl kn on (dn ||| 2 ^ L2))) := pe
        have t1 : B.2.1 2 (pl kn on (dn ||| 2 ^ L2)) = zI (cv nt nq nd wd th won kn dn me bq kn on (dn ||| 2 ^ L2)) := hTB kn on (dn ||| 2 ^ L2) (vd_d hnd (by omega) hv (by omega)) trivial
        have g := gd_1 (won := won) (kn := kn) (me := me) (bq := bq) (K := kn) (O := on) hB (show dn < 16 by omega) (show dn < 16 by omega) (Nat.and_self dn) c0 c hr
        rw [g.1 (by rw [hl]; omega), hV] at t1
        simp (disch := omega) only [↓reduceIte, if_pos, if_neg, bd_some, nmV_e, inB_in, nI_cl, nI_leE, nI_ltE, nI_eqE, nI_add, pk_mul, lit_e, in_0_1, in_0_2, in_0_4, in_0_9, in_1_9, in_1_6, in_1_30, in_0_255, nI_ti, bI_i, bI_r, bI_j, bW_i, bW_j, bA_i, bA_j, bO_i, bO_r, bO_j, bJ_i, bJ_r, bJ_j, w3, r, c', k0, k2, shl_n, fa_or, pe, t1, c0]
        rw [Nat.add_comm]
      · have e : L2 = nd := by omega
        rw [if_neg c0, e, w3, if_pos (nI_le (Nat.le_refl nd) (by omega))]
        rfl
  have r1 : lk4 (sX5_first_56 Sw Ss) 1000 (nI on) (zI (sc me * Vv nt nq nd wd th won kn dn me bq kn on dn)) (nI 0) B = some (nI (if L1 < nq then L1 + 1 else if L2 < nd then L2 + 5 else 0), B) := by
    refine lk4_run (fun _ => nI on) (fun _ => zI (sc me * Vv nt nq nd wd th won kn dn me bq kn on dn)) (fun n => nI n) (fun _ => B) L1 (fun k n hn => ?_) (fun k => ?_) 1000 (by omega)
    · have r := kn7 (j := n) k0 (show kn < 16 by omega) (by omega)
      have hne := p2 n hn
      unfold FQ at hne
      unfold sX5_first_56 gX5_first_91
      by_cases c : kn / 2 ^ n % 2 = 0
      · have b := bn7 (me := me) (Sr := B) hcc hon hok hn1 hbq B0 hTB (show n < nq by omega) c
        have ok := or_lt k1 (show n < nq by omega)
        have hbb := bh_b (me := me) hB (show n < nq by omega) k1 c (V_M _ on dn ok) (V_M _ (on ||| 2 ^ n) dn ok)
        have ne : (zI (bh wd me n (cv nt nq nd wd th won kn dn me bq (kn ||| 2 ^ n) on dn) (cv nt nq nd wd th won kn dn me bq (kn ||| 2 ^ n) (on ||| 2 ^ n) dn)) = zI (sc me * Vv nt nq nd wd th won kn dn me bq kn on dn)) = False := by
          by_cases c2 : wd 4 n ≤ th (wd 3 n)
          · rw [gq_1 hB (by omega) (by omega) (Nat.and_self kn) (by omega) c hr (by rw [hl]; omega), sq _ _ (by omega) vb]
            exact eq_false (fun z => hne ⟨⟨c, c2⟩, z⟩)
          · rw [gq_0 hB (by omega) (by omega) (Nat.and_self kn) (by omega) c hr (by rw [hl]; omega)]
            exact z0
        simp (disch := omega) only [↓reduceIte, if_pos, if_neg, bd_some, nmV_e, inB_in, nI_cl, nI_leE, nI_ltE, nI_eqE, nI_add, pk_mul, lit_e, in_0_1, in_0_2, in_0_4, in_0_9, in_1_9, in_1_6, in_1_30, in_0_255, nI_ti, bI_i, bI_r, bI_j, bW_i, bW_j, bA_i, bA_j, bO_i, bO_r, bO_j, bJ_i, bJ_r, bJ_j, w1, r, c, b, ne]
      · have c : kn / 2 ^ n % 2 = 1 := (bz kn (by omega) n (by omega)).resolve_left c
        simp (disch := omega) only [↓reduceIte, if_pos, if_neg, bd_some, nmV_e, inB_in, nI_cl, nI_leE, nI_ltE, nI_eqE, nI_add, pk_mul, lit_e, in_0_1, in_0_2, in_0_4, in_0_9, in_1_9, in_1_6, in_1_30, in_0_255, nI_ti, bI_i, bI_r, bI_j, bW_i, bW_j, bA_i, bA_j, bO_i, bO_r, bO_j, bJ_i, bJ_r, bJ_j, w1, r, c]
    · unfold sX5_first_56 gX5_first_91
      by_cases c0 : L1 < nq
      · have r := kn7 (j := L1) k0 (show kn < 16 by omega) (by omega)
        obtain ⟨⟨c, c2⟩, hV⟩ := p3 c0
        have c' : kn / 2 ^ L1 % 2 = 0 := c
        have b := bn7 (me := me) (Sr := B) hcc hon hok hn1 hbq B0 hTB c0 c
        rw [gq_1 hB (by omega) (by omega) (Nat.and_self kn) c0 c hr (by rw [hl]; omega), hV] at b
        simp (disch := omega) only [↓reduceIte, if_pos, if_neg, bd_some, nmV_e, inB_in, nI_cl, nI_leE, nI_ltE, nI_eqE, nI_add, pk_mul, lit_e, in_0_1, in_0_2, in_0_4, in_0_9, in_1_9, in_1_6, in_1_30, in_0_255, nI_ti, bI_i, bI_r, bI_j, bW_i, bW_j, bA_i, bA_j, bO_i, bO_r, bO_j, bJ_i, bJ_r, bJ_j, w1, r, c', b, c0]
        rw [Nat.add_comm]
      · have e : L1 = nq := by omega
        rw [if_neg c0, e, w1, if_pos (nI_le (Nat.le_refl nq) (by omega))]
        exact r2
  refine ⟨B, ?_⟩
  have pe : fX5_place (nI kn) (nI on) (nI dn) = some (nI (pl kn on dn)) := place_e (by omega) hon (by omega) hok
  unfold fX5_first fX5_onesNow fa
  rw [bd_some, hn1, k0, k2, pe, bd_some, inB_in pb (by omega), nI_cl (show pl kn on dn < 2147483648 by omega), tm]
  rw [show fX5_layOut Sw Ss Sr (0 : Int32) (0 : Int32) = some (nI 1, A) from y3, bd_some, ← hBe, hend, bd_some]
  by_cases c : eR nt nq nd wd th won me (dx kn kn) kn on (dx dn dn) = Vv nt nq nd wd th won kn dn me bq kn on dn
  · rw [if_pos (by rw [c]), if_pos c]; rfl
  · rw [if_neg (by rw [sq _ _ (by omega) vb]; exact c), if_neg c]
    exact r1
/-- what the reference has now -/
theorem bw8 (h : MC nt nq nd wd th won kn dn Sm) (hon : on < 16) (hbit : ∀ q, q < nq → bi on q = if bi kn q = 1 then wd 11 q else 0) (hok : on &&& kn = on) (hT : TR nt nq nd wd th won kn dn me bq on (Sm.2.1 14) (fun _ _ _ => True)) : fX8_bestNow Sm = some (zI (Vv nt nq nd wd th won kn dn me bq kn on dn)) := by
  have h0 := h
  obtain ⟨hB, hwm, hs7, k0, k1, k2, k3, k4, k5, k6⟩ := h
  have hp := p2 hB.2.1
  have hp2 := p2 hB.2.2.1
  have hv : vd nq nd kn dn on 9 kn on dn := vd_now k1 k3 hon hok (by show kn &&& 0 = 0; exact Nat.and_zero kn)
  have hc := cn_e h0 hon hbit hok
  have tm : Sm.2.1 14 (pl kn on dn) = zI (Vv nt nq nd wd th won kn dn me bq kn on dn) := hT kn on dn hv trivial
  have pb := pl_b (K := kn) (O := on) (D := dn) (by omega) hon (by omega)
  have i0 : 16 * (t3 kn + t3 on) + dn = pl kn on dn := by unfold pl; omega
  have l1 := t3_l kn (by omega)
  have l2 := t3_l on hon
  unfold fX8_bestNow
  simp (disch := omega) only [↓reduceIte, if_pos, if_neg, bd_some, nmV_e, inB_in, nI_cl, nI_leE, nI_ltE, nI_eqE, nI_add, pk_mul, lit_e, in_0_1, in_0_2, in_0_4, in_0_9, in_1_9, in_1_6, in_1_30, in_0_255, nI_ti, bI_i, bI_r, bI_j, bW_i, bW_j, bA_i, bA_j, bO_i, bO_r, bO_j, bJ_i, bJ_r, bJ_j, hc, k2, i0, tm]
theorem bh_now8 (h : MC nt nq nd wd th won kn dn Sm) (hon : on < 16) (hok : on &&& kn = on) (hT : TR nt nq nd wd th won kn dn me bq on (Sm.2.1 14) (fun _ _ _ => True)) {q : Nat} (hq : q < nq) (hz : bi kn q = 0) : fX8_behind Sm (nI (t3 kn + t3 on)) (nI dn) (nI q) (nI (1 - nb me)) = some (zI (bh wd me q (Vv nt nq nd wd th won kn dn me bq (kn ||| 2 ^ q) on dn) (Vv nt nq nd wd th won kn dn me bq (kn ||| 2 ^ q) (on ||| 2 ^ q) dn))) := by
  have h0 := h
  obtain ⟨hB, hwm, hs7, k0, k1, k2, k3, k4, k5, k6⟩ := h
  have hth : ∀ t, t < nt → th t ≤ 9 := fun t ht => (hs7 t ht).2
  have hw : -36 ≤ won ∧ won ≤ 36 := ⟨k5, k6⟩
  have hnq := hB.2.1
  have hp := p2 hnq
  have hp2 := p2 hB.2.2.1
  have hv : vd nq nd kn dn on 9 kn on dn := vd_now k1 k3 hon hok (by show kn &&& 0 = 0; exact Nat.and_zero kn)
  have vq := vd_q hnq (show kn < 16 by omega) hv hq hz (by omega)
  have ok := or_lt k1 hq
  have vb1 := V_b (kn := kn) (dn := dn) (me := me) (bq := bq) hB hth hw (kn ||| 2 ^ q) on dn ok
  have vb2 := V_b (kn := kn) (dn := dn) (me := me) (bq := bq) hB hth hw (kn ||| 2 ^ q) (on ||| 2 ^ q) dn ok
  exact bh8 (me := me) h0 hq (show kn < 16 by omega) hon (show dn < 16 by omega) hok hz (hT _ _ _ vq.1 trivial) (hT _ _ _ vq.2 trivial) (by omega) (by omega)
end
