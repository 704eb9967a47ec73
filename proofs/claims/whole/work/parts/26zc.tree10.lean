theorem fst_ex (p : Nat → Prop) : ∀ n : Nat, ∃ L, L ≤ n ∧ (∀ i, i < L → ¬ p i) ∧ (L < n → p L)
  | 0 => ⟨0, Nat.le_refl 0, fun i hi => absurd hi (by omega), fun h => absurd h (by omega)⟩
  | n + 1 => by
    obtain ⟨L, h1, h2, h3⟩ := fst_ex p n
    by_cases c : L < n
    · exact ⟨L, by omega, h2, fun _ => h3 c⟩
    · have e : L = n := by omega
      by_cases d : p n
      · exact ⟨n, by omega, fun i hi => h2 i (by omega), fun _ => d⟩
      · refine ⟨n + 1, Nat.le_refl _, fun i hi => ?_, fun h => absurd h (by omega)⟩
        by_cases f : i = n
        · rw [f]; exact d
        · exact h2 i (by omega)
theorem sI_0 {f : Nat → Int} : ∀ {n : Nat}, (∀ i, i < n → f i = 0) → sI f n = 0
  | 0, _ => rfl
  | n + 1, h => by
    unfold sI
    rw [sI_0 (fun i hi => h i (by omega)), h n (by omega)]; rfl
theorem bi_0 (i : Nat) : bi 0 i = 0 := by
  show 0 / 2 ^ i % 2 = 0
  rw [Nat.zero_div]
/-- the first step, by what is first -/
def fa (e : Prop) [Decidable e] (L1 L2 nq nd : Nat) : Nat := if e then 0 else if L1 < nq then L1 + 1 else if L2 < nd then L2 + 5 else 0
section
variable (nt nq nd : Nat) (wd : Nat → Nat → Nat) (th : Nat → Nat) (won : Int) (kn dn : Nat) (me : Bool) (bq : Nat) (on : Nat)
def FQ (q : Nat) : Prop := (bi kn q = 0 ∧ wd 4 q ≤ th (wd 3 q)) ∧ bh wd me q (Vv nt nq nd wd th won kn dn me bq (kn ||| 2 ^ q) on dn) (Vv nt nq nd wd th won kn dn me bq (kn ||| 2 ^ q) (on ||| 2 ^ q) dn) = Vv nt nq nd wd th won kn dn me bq kn on dn
def FD (d : Nat) : Prop := (bi dn d = 0 ∧ wd 10 d ≤ th (wd 9 d)) ∧ Vv nt nq nd wd th won kn dn me bq kn on (dn ||| 2 ^ d) = Vv nt nq nd wd th won kn dn me bq kn on dn
end
section
variable {nt nq nd : Nat} {wd : Nat → Nat → Nat} {th td tb : Nat → Nat} {won : Int} {kn dn : Nat} {me : Bool} {bq on : Nat} {Sw Ss Sr Sm S' : Bk}
theorem lf_00 {t : Nat} (hk : kn < 16) (hd : dn < 16) : lf nq nd wd th (dx kn kn) (dx dn dn) t = th t := by
  rw [dx_self kn hk, dx_self dn hd]
  unfold lf lfq lfd
  rw [sI_0 (fun i _ => if_neg (fun z => absurd z.1 (by rw [bi_0]; decide))), sI_0 (fun i _ => if_neg (fun z => absurd z.1 (by rw [bi_0]; decide)))]
  omega
theorem rch_00 (hk : kn < 16) (hd : dn < 16) : rch nt nq nd wd th (dx kn kn) (dx dn dn) := fun t _ => by
  rw [lf_00 hk hd]; omega
/-- the reference's first step -/
theorem fo8 (h : MC nt nq nd wd th won kn dn Sm) (hq8 : SQ nt nq nd wd Ss (Sm.2.1 7) th td tb kn dn) (hon : on < 16) (hbit : ∀ q, q < nq → bi on q = if bi kn q = 1 then wd 11 q else 0) (hok : on &&& kn = on) (hT : TR nt nq nd wd th won kn dn me bq on (Sm.2.1 14) (fun _ _ _ => True)) {L1 L2 : Nat} (p1 : L1 ≤ nq ∧ (∀ i, i < L1 → ¬ FQ nt nq nd wd th won kn dn me bq on i) ∧ (L1 < nq → FQ nt nq nd wd th won kn dn me bq on L1)) (q1 : L2 ≤ nd ∧ (∀ i, i < L2 → ¬ FD nt nq nd wd th won kn dn me bq on i) ∧ (L2 < nd → FD nt nq nd wd th won kn dn me bq on L2)) : ∃ S', S'.1 = Sm.1 ∧ S'.2.2 = Sm.2.2 ∧ (∀ r, r ≠ 14 → r ≠ 15 → S'.2.1 r = Sm.2.1 r) ∧ fX8_firstOf Sm (nI (1 - nb me)) = some (nI (fa (eR nt nq nd wd th won me (dx kn kn) kn on (dx dn dn) = Vv nt nq nd wd th won kn dn me bq kn on dn) L1 L2 nq nd), S') := by
  have h0 := h
  obtain ⟨hB, hwm, hs7, k0, k1, k2, k3, k4, k5, k6⟩ := h
  have hth : ∀ t, t < nt → th t ≤ 9 := fun t ht => (hs7 t ht).2
  have hw : -36 ≤ won ∧ won ≤ 36 := ⟨k5, k6⟩
  have hnq := hB.2.1
  have hnd := hB.2.2.1
  have hp := p2 hnq
  have hp2 := p2 hnd
  obtain ⟨p1, p2, p3⟩ := p1
  obtain ⟨q1, q2, q3⟩ := q1
  have hv : vd nq nd kn dn on 9 kn on dn := vd_now k1 k3 hon hok (by show kn &&& 0 = 0; exact Nat.and_zero kn)
  have hc := cn_e h0 hon hbit hok
  obtain ⟨A, A1, A2, A3, A4, A5⟩ := lt_e h0 k1 hon hok (show dn < 16 by omega)
  obtain ⟨B, hBe⟩ : ∃ B, B = bA (bA (bA (bA (bO Sm A) 2 (A.2.1 2)) 3 (A.2.1 3)) 7 (A.2.1 7)) 15 (A.2.1 15) := ⟨_, rfl⟩
  have B1 : B.1 = Sm.1 := by rw [hBe]; exact A1
  have B2 : B.2.2 = Sm.2.2 := by rw [hBe]; exact A2
  have B3 : ∀ r, r ≠ 15 → B.2.1 r = Sm.2.1 r := fun r hr => by
    rw [hBe]
    show (if r = 15 then A.2.1 15 else if r = 7 then A.2.1 7 else if r = 3 then A.2.1 3 else if r = 2 then A.2.1 2 else Sm.2.1 r) = _
    rw [if_neg hr]
    split
    · rename_i e; rw [e]; exact A3 7 (by omega)
    · split
      · rename_i e; rw [e]; exact A3 3 (by omega)
      · split
        · rename_i e; rw [e]; exact A3 2 (by omega)
        · rfl
  have B4 : ∀ t, t < nt → B.2.1 15 t = zI (lf nq nd wd th (dx kn kn) (dx dn dn) t) := fun t ht => by
    rw [hBe]; exact A4 t ht
  have hBM : MC nt nq nd wd th won kn dn B := MC_cg h0 B1 (fun r _ hr => B3 r hr)
  have hend := ed8 (me := me) hBM k1 hon hok (show dn < 16 by omega) B4
  have hwB := hBM.2.1
  have w2 := hwB.2.1
  have w3 := hwB.2.2.1
  have hqB : SQ nt nq nd wd Ss (B.2.1 7) th td tb kn dn := by rw [B3 7 (by omega)]; exact hq8
  have eb := eR_b (me := me) hB hth hw (x := dx kn kn) (O := on) (y := dx dn dn) k1
  have mb := Mb_b (me := me) (K := kn) hnq
  have V_M : ∀ K O D, K < 2 ^ nq → -Mb nq me K ≤ Vv nt nq nd wd th won kn dn me bq K O D ∧ Vv nt nq nd wd th won kn dn me bq K O D ≤ Mb nq me K := fun K O D hK => Vf_b hB hth hw _ K O D hK
  have V_l : ∀ K O D, K < 2 ^ nq → -60000000 ≤ Vv nt nq nd wd th won kn dn me bq K O D ∧ Vv nt nq nd wd th won kn dn me bq K O D ≤ 60000000 := fun K O D hK => V_b hB hth hw K O D hK
  have vb := V_l kn on dn k1
  have pb := pl_b (K := kn) (O := on) (D := dn) (by omega) hon (by omega)
  have i0 : 16 * (t3 kn + t3 on) + dn = pl kn on dn := by unfold pl; omega
  have l1 := t3_l kn (by omega)
  have l2 := t3_l on hon
  have t14 : ∀ K O D, vd nq nd kn dn on 9 K O D → B.2.1 14 (pl K O D) = zI (Vv nt nq nd wd th won kn dn me bq K O D) := fun K O D hv => by
    rw [B3 14 (by omega)]; exact hT K O D hv trivial
  have tm : Sm.2.1 14 (pl kn on dn) = zI (Vv nt nq nd wd th won kn dn me bq kn on dn) := hT kn on dn hv trivial
  have x1 : ¬ nI 1 = nI 0 := by decide
  have r2 : lk5 (sX8_firstOf_99 (nI (1 - nb me))) 1000 (nI (t3 kn + t3 on)) (nI dn) (zI (Vv nt nq nd wd th won kn dn me bq kn on dn)) (nI 0) B = some (nI (if L2 < nd then L2 + 5 else 0), B) := by
    refine lk5_run (fun _ => nI (t3 kn + t3 on)) (fun _ => nI dn) (fun _ => zI (Vv nt nq nd wd th won kn dn me bq kn on dn)) (fun n => nI n) (fun _ => B) L2 (fun k n hn => ?_) (fun k => ?_) 1000 (by omega)
    · have r := ra8 hB hwB hqB (q := n) (by omega)
      have hne := q2 n hn
      unfold FD at hne
      unfold sX8_firstOf_99 gX8_firstOf_147
      by_cases c : dn / 2 ^ n % 2 = 0 ∧ wd 10 n ≤ th (wd 9 n)
      · have d16 := or16 dn (by omega) n (by omega)
        have pb1 := pl_b (K := kn) (O := on) (D := dn ||| 2 ^ n) (by omega) hon d16
        have i1 : 16 * (t3 kn + t3 on) + (dn ||| 2 ^ n) = pl kn on (dn ||| 2 ^ n) := by unfold pl; omega
        have t1 := t14 kn on (dn ||| 2 ^ n) (vd_d hnd (by omega) hv (by omega))
        have vb1 := V_l kn on (dn ||| 2 ^ n) k1
        have ne : (zI (Vv nt nq nd wd th won kn dn me bq kn on (dn ||| 2 ^ n)) = zI (Vv nt nq nd wd th won kn dn me bq kn on dn)) = False := by
          rw [zI_eq (by omega) (by omega) (by omega) (by omega)]
          exact eq_false (fun z => hne ⟨c, z⟩)
        simp (disch := omega) only [↓reduceIte, if_pos, if_neg, bd_some, nmV_e, inB_in, nI_cl, nI_leE, nI_ltE, nI_eqE, nI_add, pk_mul, lit_e, in_0_1, in_0_2, in_0_4, in_0_9, in_1_9, in_1_6, in_1_30, in_0_255, nI_ti, bI_i, bI_r, bI_j, bW_i, bW_j, bA_i, bA_j, bO_i, bO_r, bO_j, bJ_i, bJ_r, bJ_j, w3, r, nAd0, c, and_self, shl_n, fa_or, i1, t1, ne]
      · simp (disch := omega) only [↓reduceIte, if_pos, if_neg, bd_some, nmV_e, inB_in, nI_cl, nI_leE, nI_ltE, nI_eqE, nI_add, pk_mul, lit_e, in_0_1, in_0_2, in_0_4, in_0_9, in_1_9, in_1_6, in_1_30, in_0_255, nI_ti, bI_i, bI_r, bI_j, bW_i, bW_j, bA_i, bA_j, bO_i, bO_r, bO_j, bJ_i, bJ_r, bJ_j, w3, r, nAd0, c]
    · unfold sX8_firstOf_99 gX8_firstOf_147
      by_cases c0 : L2 < nd
      · have r := ra8 hB hwB hqB (q := L2) c0
        obtain ⟨c, hV⟩ := q3 c0
        have c : dn / 2 ^ L2 % 2 = 0 ∧ wd 10 L2 ≤ th (wd 9 L2) := c
        have d16 := or16 dn (by omega) L2 (by omega)
        have pb1 := pl_b (K := kn) (O := on) (D := dn ||| 2 ^ L2) (by omega) hon d16
        have i1 : 16 * (t3 kn + t3 on) + (dn ||| 2 ^ L2) = pl kn on (dn ||| 2 ^ L2) := by unfold pl; omega
        have t1 := t14 kn on (dn ||| 2 ^ L2) (vd_d hnd (by omega) hv (by omega))
        rw [hV] at t1
        simp (disch := omega) only [↓reduceIte, if_pos, if_neg, bd_some, nmV_e, inB_in, nI_cl, nI_leE, nI_ltE, nI_eqE, nI_add, pk_mul, lit_e, in_0_1, in_0_2, in_0_4, in_0_9, in_1_9, in_1_6, in_1_30, in_0_255, nI_ti, bI_i, bI_r, bI_j, bW_i, bW_j, bA_i, bA_j, bO_i, bO_r, bO_j, bJ_i, bJ_r, bJ_j, w3, r, nAd0, c, and_self, shl_n, fa_or, i1, t1, c0]
      · have e : L2 = nd := by omega
        rw [if_neg c0, e, w3, if_pos (nI_le (Nat.le_refl nd) (by omega))]
        rfl
  have r1 : lk5 (sX8_firstOf_49 (nI (1 - nb me))) 1000 (nI (t3 kn + t3 on)) (nI dn) (zI (Vv nt nq nd wd th won kn dn me bq kn on dn)) (nI 0) B = some (nI (if L1 < nq then L1 + 1 else if L2 < nd then L2 + 5 else 0), B) := by
    refine lk5_run (fun _ => nI (t3 kn + t3 on)) (fun _ => nI dn) (fun _ => zI (Vv nt nq nd wd th won kn dn me bq kn on dn)) (fun n => nI n) (fun _ => B) L1 (fun k n hn => ?_) (fun k => ?_) 1000 (by omega)
    · have r := rd8 hB hwB hqB (q := n) (by omega)
      have hne := p2 n hn
      unfold FQ at hne
      unfold sX8_firstOf_49 gX8_firstOf_90
      by_cases c : kn / 2 ^ n % 2 = 0 ∧ wd 4 n ≤ th (wd 3 n)
      · have vq := vd_q hnq (show kn < 16 by omega) hv (q := n) (by omega) c.1 (by omega)
        have ok := or_lt k1 (show n < nq by omega)
        have vb1 := V_l (kn ||| 2 ^ n) on dn ok
        have vb2 := V_l (kn ||| 2 ^ n) (on ||| 2 ^ n) dn ok
        have hb8 := bh8 (me := me) (Sm := B) hBM (show n < nq by omega) (show kn < 16 by omega) hon (show dn < 16 by omega) hok c.1 (t14 _ _ _ vq.1) (t14 _ _ _ vq.2) (by omega) (by omega)
        have hbb := bh_b (me := me) hB (show n < nq by omega) k1 c.1 (V_M _ on dn ok) (V_M _ (on ||| 2 ^ n) dn ok)
        have ne : (zI (bh wd me n (Vv nt nq nd wd th won kn dn me bq (kn ||| 2 ^ n) on dn) (Vv nt nq nd wd th won kn dn me bq (kn ||| 2 ^ n) (on ||| 2 ^ n) dn)) = zI (Vv nt nq nd wd th won kn dn me bq kn on dn)) = False := by
          rw [zI_eq (by omega) (by omega) (by omega) (by omega)]
          exact eq_false (fun z => hne ⟨c, z⟩)
        simp (disch := omega) only [↓reduceIte, if_pos, if_neg, bd_some, nmV_e, inB_in, nI_cl, nI_leE, nI_ltE, nI_eqE, nI_add, pk_mul, lit_e, in_0_1, in_0_2, in_0_4, in_0_9, in_1_9, in_1_6, in_1_30, in_0_255, nI_ti, bI_i, bI_r, bI_j, bW_i, bW_j, bA_i, bA_j, bO_i, bO_r, bO_j, bJ_i, bJ_r, bJ_j, w2, r, nDq0, c, and_self, hb8, ne]
      · simp (disch := omega) only [↓reduceIte, if_pos, if_neg, bd_some, nmV_e, inB_in, nI_cl, nI_leE, nI_ltE, nI_eqE, nI_add, pk_mul, lit_e, in_0_1, in_0_2, in_0_4, in_0_9, in_1_9, in_1_6, in_1_30, in_0_255, nI_ti, bI_i, bI_r, bI_j, bW_i, bW_j, bA_i, bA_j, bO_i, bO_r, bO_j, bJ_i, bJ_r, bJ_j, w2, r, nDq0, c]
    · unfold sX8_firstOf_49 gX8_firstOf_90
      by_cases c0 : L1 < nq
      · have r := rd8 hB hwB hqB (q := L1) c0
        obtain ⟨c, hV⟩ := p3 c0
        have c : kn / 2 ^ L1 % 2 = 0 ∧ wd 4 L1 ≤ th (wd 3 L1) := c
        have vq := vd_q hnq (show kn < 16 by omega) hv (q := L1) (by omega) c.1 (by omega)
        have ok := or_lt k1 c0
        have vb1 := V_l (kn ||| 2 ^ L1) on dn ok
        have vb2 := V_l (kn ||| 2 ^ L1) (on ||| 2 ^ L1) dn ok
        have hb8 := bh8 (me := me) (Sm := B) hBM c0 (show kn < 16 by omega) hon (show dn < 16 by omega) hok c.1 (t14 _ _ _ vq.1) (t14 _ _ _ vq.2) (by omega) (by omega)
        rw [hV] at hb8
        simp (disch := omega) only [↓reduceIte, if_pos, if_neg, bd_some, nmV_e, inB_in, nI_cl, nI_leE, nI_ltE, nI_eqE, nI_add, pk_mul, lit_e, in_0_1, in_0_2, in_0_4, in_0_9, in_1_9, in_1_6, in_1_30, in_0_255, nI_ti, bI_i, bI_r, bI_j, bW_i, bW_j, bA_i, bA_j, bO_i, bO_r, bO_j, bJ_i, bJ_r, bJ_j, w2, r, nDq0, c, and_self, hb8, c0]
      · have e : L1 = nq := by omega
        rw [if_neg c0, e, w2, if_pos (nI_le (Nat.le_refl nq) (by omega))]
        exact r2
  refine ⟨B, B1, B2, fun r _ hr => B3 r hr, ?_⟩
  have i13 : ∀ k : Option (Int32 × Bk), inB 16 (13 : Int32) k = k := fun k => inB_in (n := 16) (i := 13) (by omega) (by omega)
  have c13 : (13 : Int32).toNatClampNeg = 13 := by decide
  have m16 : (16 : Int32) * nI (t3 kn + t3 on) + nI dn = nI (pl kn on dn) := by
    rw [← i0]
    simp (disch := omega) only [↓reduceIte, if_pos, if_neg, bd_some, nmV_e, inB_in, nI_cl, nI_leE, nI_ltE, nI_eqE, nI_add, pk_mul, lit_e, in_0_1, in_0_2, in_0_4, in_0_9, in_1_9, in_1_6, in_1_30, in_0_255, nI_ti, bI_i, bI_r, bI_j, bW_i, bW_j, bA_i, bA_j, bO_i, bO_r, bO_j, bJ_i, bJ_r, bJ_j]
  unfold fX8_firstOf fa
  rw [hc, bd_some, i13, c13, k2, m16, inB_in pb (by omega), nI_cl (show pl kn on dn < 2147483648 by omega), tm, A5, bd_some, ← hBe, hend, bd_some]
  by_cases c : eR nt nq nd wd th won me (dx kn kn) kn on (dx dn dn) = Vv nt nq nd wd th won kn dn me bq kn on dn
  · rw [if_pos (by rw [c]), if_pos c]; rfl
  · rw [if_neg (by rw [zI_eq (by omega) (by omega) (by omega) (by omega)]; exact c), if_neg c]
    exact r1
end
