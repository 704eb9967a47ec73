section
variable {nt nq nd : Nat} {wd : Nat → Nat → Nat} {th : Nat → Nat} {won : Int} {kn dn : Nat} {me : Bool} {bq on : Nat} {Sm S' : Bk}
/-- one place is laid -/
theorem ls8 (h : MC nt nq nd wd th won kn dn Sm) {K O D : Nat} (hv : vd nq nd kn dn on 9 K O D) {x4 : Int32} (hx : ∀ q, q < 4 → (nI q = x4) = (q = bq)) (tq : ∀ q, q < nq → bi K q = 0 → Sm.2.1 14 (pl (K ||| 2 ^ q) O D) = zI (Vv nt nq nd wd th won kn dn me bq (K ||| 2 ^ q) O D) ∧ Sm.2.1 14 (pl (K ||| 2 ^ q) (O ||| 2 ^ q) D) = zI (Vv nt nq nd wd th won kn dn me bq (K ||| 2 ^ q) (O ||| 2 ^ q) D)) (td : ∀ d, d < nd → bi D d = 0 → Sm.2.1 14 (pl K O (D ||| 2 ^ d)) = zI (Vv nt nq nd wd th won kn dn me bq K O (D ||| 2 ^ d))) : ∃ S', S'.1 = Sm.1 ∧ S'.2.2 = Sm.2.2 ∧ (∀ r, r ≠ 14 → r ≠ 15 → S'.2.1 r = Sm.2.1 r) ∧ S'.2.1 14 = upd (Sm.2.1 14) (pl K O D) (zI (Vv nt nq nd wd th won kn dn me bq K O D)) ∧ fX8_layState Sm (nI (t3 K + t3 O)) (nI D) (nI (1 - nb me)) x4 = some S' := by
  have h0 := h
  obtain ⟨hB, hwm, hs7, k0, k1, k2, k3, k4, k5, k6⟩ := h
  obtain ⟨hK, hD, v3, v4, hO, hs, v7, v8⟩ := hv
  have hth : ∀ t, t < nt → th t ≤ 9 := fun t ht => (hs7 t ht).2
  have hw : -36 ≤ won ∧ won ≤ 36 := ⟨k5, k6⟩
  have hnt := hB.1
  have hnq := hB.2.1
  have hnd := hB.2.2.1
  have hp := p2 hnq
  have hp2 := p2 hnd
  obtain ⟨A, A1, A2, A3, A4, A5⟩ := lt_e h0 hK hO hs (show D < 16 by omega)
  obtain ⟨B, hBe⟩ : ∃ B, B = bA (bA (bA (bA (bO Sm A) 2 (A.2.1 2)) 3 (A.2.1 3)) 7 (A.2.1 7)) 15 (A.2.1 15) := ⟨_, rfl⟩
  have B1 : B.1 = Sm.1 := by rw [hBe]; exact A1
  have B2 : B.2.2 = Sm.2.2 := by rw [hBe]; exact A2
  have B3 : ∀ r, r ≠ 15 → B.2.1 r = Sm.2.1 r := fun r hr => by
    rw [hBe]
    show (if r = 15 then A.2.1 15 else if r = 7 then A.2.1 7 else if r = 3 then A.2.1 3 else if r = 2 then A.2.1 2 else Sm.2.1 r) = _
    rw [if_neg hr]
    split
    · rename_i e; rw [e]; exact A3 7 (by omega)
    · split
      · rename_i e; rw [e]; exact A3 3 (by omega)
      · split
        · rename_i e; rw [e]; exact A3 2 (by omega)
        · rfl
  have B4 : ∀ t, t < nt → B.2.1 15 t = zI (lf nq nd wd th (dx K kn) (dx D dn) t) := fun t ht => by
    rw [hBe]; exact A4 t ht
  have hBM : MC nt nq nd wd th won kn dn B := MC_cg h0 B1 (fun r _ hr => B3 r hr)
  have hend := ed8 (me := me) hBM hK hO hs (show D < 16 by omega) B4
  have hwB := hBM.2.1
  have w2 := hwB.2.1
  have w3 := hwB.2.2.1
  have eb := eR_b (me := me) hB hth hw (x := dx K kn) (O := O) (y := dx D dn) hK
  have mb := Mb_b (me := me) (K := K) hnq
  have V_M : ∀ K O D, K < 2 ^ nq → -Mb nq me K ≤ Vv nt nq nd wd th won kn dn me bq K O D ∧ Vv nt nq nd wd th won kn dn me bq K O D ≤ Mb nq me K := fun K O D hK => Vf_b hB hth hw _ K O D hK
  have V_l : ∀ K O D, K < 2 ^ nq → -60000000 ≤ Vv nt nq nd wd th won kn dn me bq K O D ∧ Vv nt nq nd wd th won kn dn me bq K O D ≤ 60000000 := fun K O D hK => V_b hB hth hw K O D hK
  have hgb : ∀ q, q < nq → bi K q = 0 → -60000000 ≤ bh wd me q (Vv nt nq nd wd th won kn dn me bq (K ||| 2 ^ q) O D) (Vv nt nq nd wd th won kn dn me bq (K ||| 2 ^ q) (O ||| 2 ^ q) D) ∧ bh wd me q (Vv nt nq nd wd th won kn dn me bq (K ||| 2 ^ q) O D) (Vv nt nq nd wd th won kn dn me bq (K ||| 2 ^ q) (O ||| 2 ^ q) D) ≤ 60000000 := fun q hq hz => by
    have := bh_b (me := me) hB hq hK hz (V_M _ O D (or_lt hK hq)) (V_M _ (O ||| 2 ^ q) D (or_lt hK hq))
    omega
  have A_b : ∀ n, n ≤ nq → -60000000 ≤ mx (eR nt nq nd wd th won me (dx K kn) K O (dx D dn)) (fun q => bh wd me q (Vv nt nq nd wd th won kn dn me bq (K ||| 2 ^ q) O D) (Vv nt nq nd wd th won kn dn me bq (K ||| 2 ^ q) (O ||| 2 ^ q) D)) (fun q => q ≠ bq ∧ bi K q = 0 ∧ (wd 4 q : Int) ≤ lf nq nd wd th (dx K kn) (dx D dn) (wd 3 q)) n ∧ mx (eR nt nq nd wd th won me (dx K kn) K O (dx D dn)) (fun q => bh wd me q (Vv nt nq nd wd th won kn dn me bq (K ||| 2 ^ q) O D) (Vv nt nq nd wd th won kn dn me bq (K ||| 2 ^ q) (O ||| 2 ^ q) D)) (fun q => q ≠ bq ∧ bi K q = 0 ∧ (wd 4 q : Int) ≤ lf nq nd wd th (dx K kn) (dx D dn) (wd 3 q)) n ≤ 60000000 := fun n hn => mx_b (by omega) (fun i hi c => (hgb i (by omega) c.2.1).2)
  have B_b : ∀ n, n ≤ nd → -60000000 ≤ mx (mx (eR nt nq nd wd th won me (dx K kn) K O (dx D dn)) (fun q => bh wd me q (Vv nt nq nd wd th won kn dn me bq (K ||| 2 ^ q) O D) (Vv nt nq nd wd th won kn dn me bq (K ||| 2 ^ q) (O ||| 2 ^ q) D)) (fun q => q ≠ bq ∧ bi K q = 0 ∧ (wd 4 q : Int) ≤ lf nq nd wd th (dx K kn) (dx D dn) (wd 3 q)) nq) (fun d => Vv nt nq nd wd th won kn dn me bq K O (D ||| 2 ^ d)) (fun d => bi D d = 0 ∧ (wd 10 d : Int) ≤ lf nq nd wd th (dx K kn) (dx D dn) (wd 9 d)) n ∧ mx (mx (eR nt nq nd wd th won me (dx K kn) K O (dx D dn)) (fun q => bh wd me q (Vv nt nq nd wd th won kn dn me bq (K ||| 2 ^ q) O D) (Vv nt nq nd wd th won kn dn me bq (K ||| 2 ^ q) (O ||| 2 ^ q) D)) (fun q => q ≠ bq ∧ bi K q = 0 ∧ (wd 4 q : Int) ≤ lf nq nd wd th (dx K kn) (dx D dn) (wd 3 q)) nq) (fun d => Vv nt nq nd wd th won kn dn me bq K O (D ||| 2 ^ d)) (fun d => bi D d = 0 ∧ (wd 10 d : Int) ≤ lf nq nd wd th (dx K kn) (dx D dn) (wd 9 d)) n ≤ 60000000 := fun n hn => mx_b (A_b nq (Nat.le_refl nq)) (fun i hi c => (V_l _ _ _ hK).2)
  have pb := pl_b (K := K) (O := O) (D := D) (by omega) hO (by omega)
  have i0 : 16 * (t3 K + t3 O) + D = pl K O D := by unfold pl; omega
  have l1 := t3_l K (by omega)
  have l2 := t3_l O hO
  have x1 : ¬ nI 1 = nI 0 := by decide
  have r1 : lk3 (sX8_layState_18 (nI (t3 K + t3 O)) (nI D) (nI (1 - nb me)) x4) 1000 (zI (eR nt nq nd wd th won me (dx K kn) K O (dx D dn))) (nI 0) B = lk3 (sX8_layState_124 (nI (t3 K + t3 O)) (nI D) (nI (1 - nb me)) x4) 1000 (zI (mx (eR nt nq nd wd th won me (dx K kn) K O (dx D dn)) (fun q => bh wd me q (Vv nt nq nd wd th won kn dn me bq (K ||| 2 ^ q) O D) (Vv nt nq nd wd th won kn dn me bq (K ||| 2 ^ q) (O ||| 2 ^ q) D)) (fun q => q ≠ bq ∧ bi K q = 0 ∧ (wd 4 q : Int) ≤ lf nq nd wd th (dx K kn) (dx D dn) (wd 3 q)) nq)) (nI 0) B := by
    refine lk3_run (fun n => zI (mx (eR nt nq nd wd th won me (dx K kn) K O (dx D dn)) (fun q => bh wd me q (Vv nt nq nd wd th won kn dn me bq (K ||| 2 ^ q) O D) (Vv nt nq nd wd th won kn dn me bq (K ||| 2 ^ q) (O ||| 2 ^ q) D)) (fun q => q ≠ bq ∧ bi K q = 0 ∧ (wd 4 q : Int) ≤ lf nq nd wd th (dx K kn) (dx D dn) (wd 3 q)) n)) (fun n => nI n) (fun _ => B) nq (fun k n hn => ?_) (fun k => ?_) 1000 (by omega)
    · obtain ⟨b0, b1, b2, b3, b4⟩ := hB.2.2.2.2.1 n hn
      obtain ⟨m0, m1, m2, m3⟩ := hwB.2.2.2.2.1 n hn
      have ab := A_b n (by omega)
      have e := kn_e (K := K) (O := O) (q := n) (by omega) hO (by omega)
      have b := bo_1 K (by omega) O hO n (by omega) hs
      have bk := bz K (by omega) n (by omega)
      have bo := bz O hO n (by omega)
      have hxn := hx n (by omega)
      have lb := lf_b hB hth (x := dx K kn) (y := dx D dn) b0
      have l15 := B4 (wd 3 n) b0
      have hlt : (zI (lf nq nd wd th (dx K kn) (dx D dn) (wd 3 n)) < nI (wd 4 n)) = (lf nq nd wd th (dx K kn) (dx D dn) (wd 3 n) < (wd 4 n : Int)) := by
        rw [zI_n, zI_lt (by omega) (by omega) (by omega) (by omega)]
      show _ = k _ (nI (n + 1)) B
      unfold sX8_layState_18 gX8_layState_75 gX8_layState_76 gX8_layState_97 gX8_layState_113
      by_cases c : n = bq
      · refine Eq.trans ?_ (mx_r0 (n := n) (f := fun q => bh wd me q (Vv nt nq nd wd th won kn dn me bq (K ||| 2 ^ q) O D) (Vv nt nq nd wd th won kn dn me bq (K ||| 2 ^ q) (O ||| 2 ^ q) D)) (p := fun q => q ≠ bq ∧ bi K q = 0 ∧ (wd 4 q : Int) ≤ lf nq nd wd th (dx K kn) (dx D dn) (wd 3 q)) (fun z => z.1 c) (fun v => k v (nI (n + 1)) B))
        have ct : (nI n = x4) = True := eq_true (by rw [hxn]; exact c)
        simp (disch := omega) only [↓reduceIte, if_pos, if_neg, bd_some, nmV_e, inB_in, nI_cl, nI_leE, nI_ltE, nI_eqE, nI_add, pk_mul, lit_e, in_0_1, in_0_2, in_0_4, in_0_9, in_1_9, in_1_6, in_1_30, in_0_255, nI_ti, bI_i, bI_r, bI_j, bW_i, bW_j, bA_i, bA_j, bO_i, bO_r, bO_j, bJ_i, bJ_r, bJ_j, w2, ct, ite_self]
      · by_cases c1 : bi K n = 0
        · have bz0 : bi K n + bi O n = 0 := b.mpr c1
          by_cases c2 : lf nq nd wd th (dx K kn) (dx D dn) (wd 3 n) < (wd 4 n : Int)
          · refine Eq.trans ?_ (mx_r0 (n := n) (f := fun q => bh wd me q (Vv nt nq nd wd th won kn dn me bq (K ||| 2 ^ q) O D) (Vv nt nq nd wd th won kn dn me bq (K ||| 2 ^ q) (O ||| 2 ^ q) D)) (p := fun q => q ≠ bq ∧ bi K q = 0 ∧ (wd 4 q : Int) ≤ lf nq nd wd th (dx K kn) (dx D dn) (wd 3 q)) (fun z => by have := z.2.2; omega) (fun v => k v (nI (n + 1)) B))
            simp (disch := omega) only [↓reduceIte, if_pos, if_neg, bd_some, nmV_e, inB_in, nI_cl, nI_leE, nI_ltE, nI_eqE, nI_add, pk_mul, lit_e, in_0_1, in_0_2, in_0_4, in_0_9, in_1_9, in_1_6, in_1_30, in_0_255, nI_ti, bI_i, bI_r, bI_j, bW_i, bW_j, bA_i, bA_j, bO_i, bO_r, bO_j, bJ_i, bJ_r, bJ_j, w2, hxn, c, e, bz0, m0, m1, l15, hlt, c2, ite_self]
          · obtain ⟨t1, t2⟩ := tq n hn c1
            have vb1 := V_l (K ||| 2 ^ n) O D (or_lt hK hn)
            have vb2 := V_l (K ||| 2 ^ n) (O ||| 2 ^ n) D (or_lt hK hn)
            have hb8 := bh8 (me := me) (Sm := B) hBM hn (show K < 16 by omega) hO (show D < 16 by omega) hs c1 (by rw [B3 14 (by omega)]; exact t1) (by rw [B3 14 (by omega)]; exact t2) (by omega) (by omega)
            have hg := hgb n hn c1
            refine Eq.trans ?_ (mx_r1 (n := n) (f := fun q => bh wd me q (Vv nt nq nd wd th won kn dn me bq (K ||| 2 ^ q) O D) (Vv nt nq nd wd th won kn dn me bq (K ||| 2 ^ q) (O ||| 2 ^ q) D)) (p := fun q => q ≠ bq ∧ bi K q = 0 ∧ (wd 4 q : Int) ≤ lf nq nd wd th (dx K kn) (dx D dn) (wd 3 q)) ⟨c, c1, by omega⟩ (by omega) ⟨by omega, by omega⟩ (fun v => k v (nI (n + 1)) B))
            simp (disch := omega) only [↓reduceIte, if_pos, if_neg, bd_some, nmV_e, inB_in, nI_cl, nI_leE, nI_ltE, nI_eqE, nI_add, pk_mul, lit_e, in_0_1, in_0_2, in_0_4, in_0_9, in_1_9, in_1_6, in_1_30, in_0_255, nI_ti, bI_i, bI_r, bI_j, bW_i, bW_j, bA_i, bA_j, bO_i, bO_r, bO_j, bJ_i, bJ_r, bJ_j, w2, hxn, c, e, bz0, m0, m1, l15, hlt, c2, hb8, x1]
        · have bz0 : ¬ bi K n + bi O n = 0 := fun z => c1 (b.mp z)
          refine Eq.trans ?_ (mx_r0 (n := n) (f := fun q => bh wd me q (Vv nt nq nd wd th won kn dn me bq (K ||| 2 ^ q) O D) (Vv nt nq nd wd th won kn dn me bq (K ||| 2 ^ q) (O ||| 2 ^ q) D)) (p := fun q => q ≠ bq ∧ bi K q = 0 ∧ (wd 4 q : Int) ≤ lf nq nd wd th (dx K kn) (dx D dn) (wd 3 q)) (fun z => c1 z.2.1) (fun v => k v (nI (n + 1)) B))
          simp (disch := omega) only [↓reduceIte, if_pos, if_neg, bd_some, nmV_e, inB_in, nI_cl, nI_leE, nI_ltE, nI_eqE, nI_add, pk_mul, lit_e, in_0_1, in_0_2, in_0_4, in_0_9, in_1_9, in_1_6, in_1_30, in_0_255, nI_ti, bI_i, bI_r, bI_j, bW_i, bW_j, bA_i, bA_j, bO_i, bO_r, bO_j, bJ_i, bJ_r, bJ_j, w2, hxn, c, e, bz0, ite_self]
    · unfold sX8_layState_18
      rw [w2, if_pos (nI_le (Nat.le_refl nq) (by omega))]
      rfl
  have r2 : lk3 (sX8_layState_124 (nI (t3 K + t3 O)) (nI D) (nI (1 - nb me)) x4) 1000 (zI (mx (eR nt nq nd wd th won me (dx K kn) K O (dx D dn)) (fun q => bh wd me q (Vv nt nq nd wd th won kn dn me bq (K ||| 2 ^ q) O D) (Vv nt nq nd wd th won kn dn me bq (K ||| 2 ^ q) (O ||| 2 ^ q) D)) (fun q => q ≠ bq ∧ bi K q = 0 ∧ (wd 4 q : Int) ≤ lf nq nd wd th (dx K kn) (dx D dn) (wd 3 q)) nq)) (nI 0) B = some (bW B 14 (pl K O D) (zI (mx (mx (eR nt nq nd wd th won me (dx K kn) K O (dx D dn)) (fun q => bh wd me q (Vv nt nq nd wd th won kn dn me bq (K ||| 2 ^ q) O D) (Vv nt nq nd wd th won kn dn me bq (K ||| 2 ^ q) (O ||| 2 ^ q) D)) (fun q => q ≠ bq ∧ bi K q = 0 ∧ (wd 4 q : Int) ≤ lf nq nd wd th (dx K kn) (dx D dn) (wd 3 q)) nq) (fun d => Vv nt nq nd wd th won kn dn me bq K O (D ||| 2 ^ d)) (fun d => bi D d = 0 ∧ (wd 10 d : Int) ≤ lf nq nd wd th (dx K kn) (dx D dn) (wd 9 d)) nd))) := by
    refine lk3_run (fun n => zI (mx (mx (eR nt nq nd wd th won me (dx K kn) K O (dx D dn)) (fun q => bh wd me q (Vv nt nq nd wd th won kn dn me bq (K ||| 2 ^ q) O D) (Vv nt nq nd wd th won kn dn me bq (K ||| 2 ^ q) (O ||| 2 ^ q) D)) (fun q => q ≠ bq ∧ bi K q = 0 ∧ (wd 4 q : Int) ≤ lf nq nd wd th (dx K kn) (dx D dn) (wd 3 q)) nq) (fun d => Vv nt nq nd wd th won kn dn me bq K O (D ||| 2 ^ d)) (fun d => bi D d = 0 ∧ (wd 10 d : Int) ≤ lf nq nd wd th (dx K kn) (dx D dn) (wd 9 d)) n)) (fun n => nI n) (fun _ => B) nd (fun k n hn => ?_) (fun k => ?_) 1000 (by omega)
    · obtain ⟨b0, b1, b2, b3, b4⟩ := hB.2.2.2.2.2 n hn
      obtain ⟨m0, m1, m2, m3, m4⟩ := hwB.2.2.2.2.2 n hn
      have ab := B_b n (by omega)
      have e := has8 (kn := D) (j := n) (by omega) (by omega)
      have lb := lf_b hB hth (x := dx K kn) (y := dx D dn) b3
      have l15 := B4 (wd 9 n) b3
      have hlt : (zI (lf nq nd wd th (dx K kn) (dx D dn) (wd 9 n)) < nI (wd 10 n)) = (lf nq nd wd th (dx K kn) (dx D dn) (wd 9 n) < (wd 10 n : Int)) := by
        rw [zI_n, zI_lt (by omega) (by omega) (by omega) (by omega)]
      show _ = k _ (nI (n + 1)) B
      unfold sX8_layState_124 gX8_layState_176 gX8_layState_177 gX8_layState_205 gX8_layState_221
      generalize mx (eR nt nq nd wd th won me (dx K kn) K O (dx D dn)) (fun q => bh wd me q (Vv nt nq nd wd th won kn dn me bq (K ||| 2 ^ q) O D) (Vv nt nq nd wd th won kn dn me bq (K ||| 2 ^ q) (O ||| 2 ^ q) D)) (fun q => q ≠ bq ∧ bi K q = 0 ∧ (wd 4 q : Int) ≤ lf nq nd wd th (dx K kn) (dx D dn) (wd 3 q)) nq = M at ab ⊢
      by_cases c1 : bi D n = 0
      · have c' : D / 2 ^ n % 2 = 0 := c1
        by_cases c2 : lf nq nd wd th (dx K kn) (dx D dn) (wd 9 n) < (wd 10 n : Int)
        · refine Eq.trans ?_ (mx_r0 (n := n) (b := M) (f := fun d => Vv nt nq nd wd th won kn dn me bq K O (D ||| 2 ^ d)) (p := fun d => bi D d = 0 ∧ (wd 10 d : Int) ≤ lf nq nd wd th (dx K kn) (dx D dn) (wd 9 d)) (fun z => by have := z.2; omega) (fun v => k v (nI (n + 1)) B))
          simp (disch := omega) only [↓reduceIte, if_pos, if_neg, bd_some, nmV_e, inB_in, nI_cl, nI_leE, nI_ltE, nI_eqE, nI_add, pk_mul, lit_e, in_0_1, in_0_2, in_0_4, in_0_9, in_1_9, in_1_6, in_1_30, in_0_255, nI_ti, bI_i, bI_r, bI_j, bW_i, bW_j, bA_i, bA_j, bO_i, bO_r, bO_j, bJ_i, bJ_r, bJ_j, w3, e, c', m3, m4, l15, hlt, c2, ite_self]
        · have t1 := td n hn c1
          have d16 := or16 D (by omega) n (by omega)
          have i1 : 16 * (t3 K + t3 O) + (D ||| 2 ^ n) = pl K O (D ||| 2 ^ n) := by unfold pl; omega
          have pb1 := pl_b (K := K) (O := O) (D := D ||| 2 ^ n) (by omega) hO d16
          have vb1 := V_l K O (D ||| 2 ^ n) hK
          have l14 : B.2.1 14 (pl K O (D ||| 2 ^ n)) = zI (Vv nt nq nd wd th won kn dn me bq K O (D ||| 2 ^ n)) := by rw [B3 14 (by omega)]; exact t1
          refine Eq.trans ?_ (mx_r1 (n := n) (b := M) (f := fun d => Vv nt nq nd wd th won kn dn me bq K O (D ||| 2 ^ d)) (p := fun d => bi D d = 0 ∧ (wd 10 d : Int) ≤ lf nq nd wd th (dx K kn) (dx D dn) (wd 9 d)) ⟨c1, by omega⟩ (by omega) ⟨by omega, by omega⟩ (fun v => k v (nI (n + 1)) B))
          simp (disch := omega) only [↓reduceIte, if_pos, if_neg, bd_some, nmV_e, inB_in, nI_cl, nI_leE, nI_ltE, nI_eqE, nI_add, pk_mul, lit_e, in_0_1, in_0_2, in_0_4, in_0_9, in_1_9, in_1_6, in_1_30, in_0_255, nI_ti, bI_i, bI_r, bI_j, bW_i, bW_j, bA_i, bA_j, bO_i, bO_r, bO_j, bJ_i, bJ_r, bJ_j, w3, e, c', m3, m4, l15, hlt, c2, x1, shl_n, fa_or, i1, l14]
      · have c' : D / 2 ^ n % 2 = 1 := (bz D (by omega) n (by omega)).resolve_left c1
        refine Eq.trans ?_ (mx_r0 (n := n) (b := M) (f := fun d => Vv nt nq nd wd th won kn dn me bq K O (D ||| 2 ^ d)) (p := fun d => bi D d = 0 ∧ (wd 10 d : Int) ≤ lf nq nd wd th (dx K kn) (dx D dn) (wd 9 d)) (fun z => c1 z.1) (fun v => k v (nI (n + 1)) B))
        simp (disch := omega) only [↓reduceIte, if_pos, if_neg, bd_some, nmV_e, inB_in, nI_cl, nI_leE, nI_ltE, nI_eqE, nI_add, pk_mul, lit_e, in_0_1, in_0_2, in_0_4, in_0_9, in_1_9, in_1_6, in_1_30, in_0_255, nI_ti, bI_i, bI_r, bI_j, bW_i, bW_j, bA_i, bA_j, bO_i, bO_r, bO_j, bJ_i, bJ_r, bJ_j, w3, e, c', x1, ite_self]
    · unfold sX8_layState_124
      rw [w3, if_pos (nI_le (Nat.le_refl nd) (by omega))]
      simp (disch := omega) only [↓reduceIte, if_pos, if_neg, bd_some, nmV_e, inB_in, nI_cl, nI_leE, nI_ltE, nI_eqE, nI_add, pk_mul, lit_e, in_0_1, in_0_2, in_0_4, in_0_9, in_1_9, in_1_6, in_1_30, in_0_255, nI_ti, bI_i, bI_r, bI_j, bW_i, bW_j, bA_i, bA_j, bO_i, bO_r, bO_j, bJ_i, bJ_r, bJ_j, i0]
  refine ⟨bW B 14 (pl K O D) (zI (Vv nt nq nd wd th won kn dn me bq K O D)), B1, B2, fun r hr hr2 => (if_neg hr).trans (B3 r hr2), ?_, ?_⟩
  · show upd (B.2.1 14) _ _ = _
    rw [B3 14 (by omega)]
  · unfold fX8_layState
    rw [A5, bd_some, ← hBe, hend, bd_some]
    refine r1.trans (r2.trans ?_)
    rw [← V_eq hB hK hD]
theorem TR_w (hnq : nq ≤ 4) (hnd : nd ≤ 4) {T : Nat → Int32} {P P' : Nat → Nat → Nat → Prop} (hT : TR nt nq nd wd th won kn dn me bq on T P) {K O D : Nat} {v : Int32} (hv : vd nq nd kn dn on 9 K O D) (he : v = zI (Vv nt nq nd wd th won kn dn me bq K O D)) (hP : ∀ K' O' D', vd nq nd kn dn on 9 K' O' D' → P' K' O' D' → P K' O' D' ∨ (K' = K ∧ O' = O ∧ D' = D)) : TR nt nq nd wd th won kn dn me bq on (upd T (pl K O D) v) P' := by
  have hp := p2 hnq
  have hp2 := p2 hnd
  intro K' O' D' hv' hp'
  rw [upd_a]
  by_cases c : pl K' O' D' = pl K O D
  · rw [if_pos c]
    obtain ⟨v1, v2, v3, v4, v5, v6, v7, v8⟩ := hv
    obtain ⟨u1, u2, u3, u4, u5, u6, u7, u8⟩ := hv'
    obtain ⟨e1, e2, e3⟩ := pl_in (by omega) u5 (by omega) u6 (by omega) v5 (by omega) v6 c
    rw [e1, e2, e3]; exact he
  · rw [if_neg c]
    rcases hP K' O' D' hv' hp' with q | ⟨q1, q2, q3⟩
    · exact hT K' O' D' hv' q
    · exact absurd (by rw [q1, q2, q3]) c
/-- how far it is laid -/
def far (nq l c t K O D : Nat) : Prop := nq - pc K < l ∨ (nq - pc K = l ∧ (t3 K + t3 O < c ∨ (t3 K + t3 O = c ∧ 16 ≤ D + t)))
theorem lb24 (h : MC nt nq nd wd th won kn dn Sm) (hon : on < 16) (hbit : ∀ q, q < nq → bi on q = if bi kn q = 1 then wd 11 q else 0) (hok : on &&& kn = on) {x4 : Int32} (hx : ∀ q, q < 4 → (nI q = x4) = (q = bq)) {l c : Nat} (hl : l ≤ nq) (hc : c < 81) (hT : TR nt nq nd wd th won kn dn me bq on (Sm.2.1 14) (far nq l c 0)) : ∃ S', S'.1 = Sm.1 ∧ S'.2.2 = Sm.2.2 ∧ (∀ r, r ≠ 14 → r ≠ 15 → S'.2.1 r = Sm.2.1 r) ∧ TR nt nq nd wd th won kn dn me bq on (S'.2.1 14) (far nq l (c + 1) 0) ∧ ∀ k2 k13, lk4 (sX8_layBest_24 (nI (1 - nb me)) x4 k2 k13) 1000 (nI l) (nI c) (nI 15) Sm = k13 (nI l) (nI (c + 1)) S' := by
  have h0 := h
  obtain ⟨hB, hwm, hs7, k0, k1, k2, k3, k4, k5, k6⟩ := h
  have hnq := hB.2.1
  have hnd := hB.2.2.1
  have hp := p2 hnq
  have hp2 := p2 hnd
  obtain ⟨o1, o2, o3, o4⟩ := t3_of c hc
  obtain ⟨K, hKe⟩ : ∃ K, K = kOf c := ⟨_, rfl⟩
  obtain ⟨O, hOe⟩ : ∃ O, O = oOf c := ⟨_, rfl⟩
  rw [← hKe, ← hOe] at o3 o4
  rw [← hKe] at o1
  rw [← hOe] at o2
  obtain ⟨a1, a2, a3, S', ⟨e1, e2, e3, e4, e5, e6, e7⟩, hF⟩ := lk4_invK (κ := (Int32 → Bk → Option Bk) × (Int32 → Int32 → Bk → Option Bk)) (f := fun p => sX8_layBest_24 (nI (1 - nb me)) x4 p.1 p.2) (fun t a1 a2 a3 S' => a1 = nI l ∧ a2 = nI c ∧ a3 = zI (15 - (t : Int)) ∧ S'.1 = Sm.1 ∧ S'.2.2 = Sm.2.2 ∧ (∀ r, r ≠ 14 → r ≠ 15 → S'.2.1 r = Sm.2.1 r) ∧ TR nt nq nd wd th won kn dn me bq on (S'.2.1 14) (far nq l c t)) 16 (fun t a1 a2 a3 S' ht hI => by
    obtain ⟨e1, e2, e3, e4, e5, e6, e7⟩ := hI
    obtain ⟨D, hD⟩ : ∃ D, D = 15 - t := ⟨_, rfl⟩
    have e3' : a3 = nI D := by rw [e3, zI_n]; congr 1; omega
    have en : nI D + (-1 : Int32) = zI (15 - ((t + 1 : Nat) : Int)) := by rw [zI_m1]; congr 1; omega
    subst e1 e2
    rw [e3']
    have hM : MC nt nq nd wd th won kn dn S' := MC_cg h0 e4 e6
    have w2 : S'.1 4 = nI nq := hM.2.1.2.1
    have hi := is_e (D := D) hM hon hbit hok o1 o2 o3 (by omega)
    rw [o4] at hi
    have hnl : ¬ nI D < nI 0 := nI_nlt (by omega) (by omega)
    have same : ∀ K' O' D', vd nq nd kn dn on 9 K' O' D' → t3 K' + t3 O' = c → K' = K ∧ O' = O := fun K' O' D' hv' he => by
      have q := of_t3 K' (by have := hv'.1; omega) O' hv'.2.2.2.2.1 hv'.2.2.2.2.2.1
      rw [he] at q
      exact ⟨q.1.symm.trans hKe.symm, q.2.symm.trans hOe.symm⟩
    have skip : (vd nq nd kn dn on 9 K O D → nq - pc K ≠ l) → TR nt nq nd wd th won kn dn me bq on (S'.2.1 14) (far nq l c (t + 1)) := fun hne K' O' D' hv' hp' => e7 K' O' D' hv' (by
      rcases hp' with z | ⟨z1, z2 | ⟨z2, z3⟩⟩
      · exact Or.inl z
      · exact Or.inr ⟨z1, Or.inl z2⟩
      · obtain ⟨q1, q2⟩ := same K' O' D' hv' z2
        rcases Nat.lt_or_ge D' (16 - t) with y | y
        · have e : D' = D := by omega
          rw [q1, q2, e] at hv'
          rw [q1] at z1
          exact absurd z1 (hne hv')
        · exact Or.inr ⟨z1, Or.inr ⟨z2, by omega⟩⟩)
    by_cases hv : vd nq nd kn dn on 9 K O D
    · have hi1 := hi.1 hv
      have hkb := kb_e hM hv.1 o2 o3
      rw [o4] at hkb
      have hm := many_e K o1
      have hpc := pc_le nq hnq K hv.1
      have hlf : nI nq - nI (pc K) = nI (nq - pc K) := by
        rw [zI_n, zI_n, zI_n, zI_sub]; congr 1; omega
      by_cases cl : nq - pc K = l
      · obtain ⟨C, C1, C2, C3, C4, C5⟩ := ls8 (me := me) (bq := bq) hM hv hx (fun q hq hz => by
          have vq := vd_q hnq (show kn < 16 by omega) hv hq hz (by omega)
          have lt := pc_lt nq hnq K hv.1 q hq hz
          have po := pc_or K o1 q (by omega) hz
          exact ⟨e7 _ _ _ vq.1 (Or.inl (by omega)), e7 _ _ _ vq.2 (Or.inl (by omega))⟩) (fun d hd hz => by
          have g := or_gt D (by omega) d (by omega) hz
          exact e7 _ _ _ (vd_d hnd (show dn < 16 by omega) hv hd) (Or.inr ⟨cl, Or.inr ⟨o4, by omega⟩⟩))
        rw [o4] at C5
        refine ⟨nI l, nI c, zI (15 - ((t + 1 : Nat) : Int)), C, fun x k => ?_, rfl, rfl, rfl, C1.trans e4, C2.trans e5, fun r r1 r2 => (C3 r r1 r2).trans (e6 r r1 r2), ?_⟩
        · show sX8_layBest_24 _ _ x.1 x.2 k _ _ _ _ = _
          unfold sX8_layBest_24 gX8_layBest_68
          rw [if_neg (show ¬ nI D < 0 from hnl), hi1, bd_some, if_neg (show ¬ nI 1 = 0 by decide), hkb, bd_some, hm, bd_some, w2, hlf, if_pos (by rw [cl]), C5, bd_some, en]
        · rw [C4]
          refine TR_w hnq hnd e7 hv rfl (fun K' O' D' hv' hp' => ?_)
          rcases hp' with z | ⟨z1, z2 | ⟨z2, z3⟩⟩
          · exact Or.inl (Or.inl z)
          · exact Or.inl (Or.inr ⟨z1, Or.inl z2⟩)
          · obtain ⟨q1, q2⟩ := same K' O' D' hv' z2
            rcases Nat.lt_or_ge D' (16 - t) with y | y
            · exact Or.inr ⟨q1, q2, by omega⟩
            · exact Or.inl (Or.inr ⟨z1, Or.inr ⟨z2, by omega⟩⟩)
      · refine ⟨nI l, nI c, zI (15 - ((t + 1 : Nat) : Int)), S', fun x k => ?_, rfl, rfl, rfl, e4, e5, e6, skip (fun _ => cl)⟩
        show sX8_layBest_24 _ _ x.1 x.2 k _ _ _ _ = _
        unfold sX8_layBest_24 gX8_layBest_68
        rw [if_neg (show ¬ nI D < 0 from hnl), hi1, bd_some, if_neg (show ¬ nI 1 = 0 by decide), hkb, bd_some, hm, bd_some, w2, hlf, if_neg (by rw [nI_eqE (by omega) (by omega)]; exact cl), en]
    · have hi1 := hi.2 hv
      refine ⟨nI l, nI c, zI (15 - ((t + 1 : Nat) : Int)), S', fun x k => ?_, rfl, rfl, rfl, e4, e5, e6, skip (fun z => absurd z hv)⟩
      show sX8_layBest_24 _ _ x.1 x.2 k _ _ _ _ = _
      unfold sX8_layBest_24 gX8_layBest_68
      rw [if_neg (show ¬ nI D < 0 from hnl), hi1, bd_some, if_pos (show nI 0 = 0 from rfl), en]) (nI l) (nI c) (nI 15) Sm ⟨rfl, rfl, rfl, rfl, rfl, fun _ _ _ => rfl, hT⟩
  refine ⟨S', e4, e5, e6, fun K' O' D' hv' hp' => e7 K' O' D' hv' ?_, fun k2 k13 => ?_⟩
  · rcases hp' with z | ⟨z1, z2 | ⟨z2, z3⟩⟩
    · exact Or.inl z
    · refine Or.inr ⟨z1, ?_⟩
      rcases Nat.lt_or_ge (t3 K' + t3 O') c with y | y
      · exact Or.inl y
      · exact Or.inr ⟨by omega, by omega⟩
    · have := hv'.2.1
      omega
  · obtain ⟨k, hk⟩ := hF (k2, k13) 1000 (by omega)
    refine hk.trans ?_
    subst e1 e2
    show sX8_layBest_24 _ _ k2 k13 k _ _ _ _ = _
    unfold sX8_layBest_24
    rw [e3, if_pos (show zI (15 - ((16 : Nat) : Int)) < 0 by decide), nI_succ]
theorem lb13 (h : MC nt nq nd wd th won kn dn Sm) (hon : on < 16) (hbit : ∀ q, q < nq → bi on q = if bi kn q = 1 then wd 11 q else 0) (hok : on &&& kn = on) {x4 : Int32} (hx : ∀ q, q < 4 → (nI q = x4) = (q = bq)) {l : Nat} (hl : l ≤ nq) (hT : TR nt nq nd wd th won kn dn me bq on (Sm.2.1 14) (far nq l 0 0)) : ∃ S', S'.1 = Sm.1 ∧ S'.2.2 = Sm.2.2 ∧ (∀ r, r ≠ 14 → r ≠ 15 → S'.2.1 r = Sm.2.1 r) ∧ TR nt nq nd wd th won kn dn me bq on (S'.2.1 14) (far nq (l + 1) 0 0) ∧ ∀ k2, lk3 (sX8_layBest_13 (nI (1 - nb me)) x4 k2) 1000 (nI l) (nI 0) Sm = k2 (nI (l + 1)) S' := by
  have h0 := h
  obtain ⟨hB, hwm, -⟩ := h
  have hnq := hB.2.1
  have hp := p2 hnq
  obtain ⟨a1, a2, S', ⟨e1, e2, e4, e5, e6, e7⟩, hF⟩ := lk3_invK (f := sX8_layBest_13 (nI (1 - nb me)) x4) (fun t a1 a2 S' => a1 = nI l ∧ a2 = nI t ∧ S'.1 = Sm.1 ∧ S'.2.2 = Sm.2.2 ∧ (∀ r, r ≠ 14 → r ≠ 15 → S'.2.1 r = Sm.2.1 r) ∧ TR nt nq nd wd th won kn dn me bq on (S'.2.1 14) (far nq l t 0)) 81 (fun t a1 a2 S' ht hI => by
    obtain ⟨e1, e2, e4, e5, e6, e7⟩ := hI
    subst e1 e2
    have hM : MC nt nq nd wd th won kn dn S' := MC_cg h0 e4 e6
    obtain ⟨C, C1, C2, C3, C4, C5⟩ := lb24 (me := me) (bq := bq) hM hon hbit hok hx hl ht e7
    refine ⟨nI l, nI (t + 1), C, fun k2 k => ?_, rfl, rfl, C1.trans e4, C2.trans e5, fun r r1 r2 => (C3 r r1 r2).trans (e6 r r1 r2), C4⟩
    unfold sX8_layBest_13
    have e81 : ¬ nI 81 ≤ nI t := nI_ge ht (by omega)
    rw [if_neg (show ¬ (81 : Int32) ≤ nI t from e81)]
    exact C5 k2 k) (nI l) (nI 0) Sm ⟨rfl, rfl, rfl, rfl, fun _ _ _ => rfl, hT⟩
  refine ⟨S', e4, e5, e6, fun K' O' D' hv' hp' => e7 K' O' D' hv' ?_, fun k2 => ?_⟩
  · have l1 := t3_l K' (by have := hv'.1; omega)
    have l2 := t3_l O' hv'.2.2.2.2.1
    have hp3 := p2 hB.2.2.1
    have hD' := hv'.2.1
    unfold far at hp' ⊢
    omega
  · obtain ⟨k, hk⟩ := hF k2 1000 (by omega)
    refine hk.trans ?_
    subst e1 e2
    unfold sX8_layBest_13
    rw [if_pos (show (81 : Int32) ≤ nI 81 from nI_le (Nat.le_refl 81) (by omega)), nI_succ]
theorem lb8 (h : MC nt nq nd wd th won kn dn Sm) (hon : on < 16) (hbit : ∀ q, q < nq → bi on q = if bi kn q = 1 then wd 11 q else 0) (hok : on &&& kn = on) {x4 : Int32} (hx : ∀ q, q < 4 → (nI q = x4) = (q = bq)) : ∃ S', S'.1 = Sm.1 ∧ S'.2.2 = Sm.2.2 ∧ (∀ r, r ≠ 14 → r ≠ 15 → S'.2.1 r = Sm.2.1 r) ∧ TR nt nq nd wd th won kn dn me bq on (S'.2.1 14) (fun _ _ _ => True) ∧ fX8_layBest Sm (nI (1 - nb me)) x4 = some S' := by
  have h0 := h
  obtain ⟨hB, hwm, -⟩ := h
  have hnq := hB.2.1
  have hp := p2 hnq
  have hp3 := p2 hB.2.2.1
  have w2 := hwm.2.1
  obtain ⟨a1, S', ⟨e1, e4, e5, e6, e7⟩, hF⟩ := lk2_inv (f := sX8_layBest_2 (nI (1 - nb me)) x4) (fun t a1 S' => a1 = nI t ∧ S'.1 = Sm.1 ∧ S'.2.2 = Sm.2.2 ∧ (∀ r, r ≠ 14 → r ≠ 15 → S'.2.1 r = Sm.2.1 r) ∧ TR nt nq nd wd th won kn dn me bq on (S'.2.1 14) (far nq t 0 0)) (nq + 1) (fun t a1 S' ht hI => by
    obtain ⟨e1, e4, e5, e6, e7⟩ := hI
    subst e1
    have hM : MC nt nq nd wd th won kn dn S' := MC_cg h0 e4 e6
    obtain ⟨C, C1, C2, C3, C4, C5⟩ := lb13 (me := me) (bq := bq) hM hon hbit hok hx (show t ≤ nq by omega) e7
    refine ⟨nI (t + 1), C, fun k => ?_, rfl, C1.trans e4, C2.trans e5, fun r r1 r2 => (C3 r r1 r2).trans (e6 r r1 r2), C4⟩
    unfold sX8_layBest_2
    rw [e4, w2, if_neg (nI_nlt (by omega) (by omega))]
    exact C5 k) (nI 0) Sm ⟨rfl, rfl, rfl, fun _ _ _ => rfl, fun K' O' D' hv' hp' => by
      have hD' := hv'.2.1
      unfold far at hp'
      omega⟩
  obtain ⟨k, hk⟩ := hF 1000 (by omega)
  refine ⟨S', e4, e5, e6, fun K' O' D' hv' _ => e7 K' O' D' hv' (Or.inl (by omega)), hk.trans ?_⟩
  subst e1
  unfold sX8_layBest_2
  rw [e4, w2, if_pos (nI_lt (by omega) (by omega))]
end
