theorem tn_e : ∀ n, n < 5 → fX8_ten (nI n) = some (zI (10 ^ n)) := by decide +kernel
theorem hh_e {s : Int} {h : Nat} (hh : h ≤ 9) : (10 - (h : Int)) * -s + (h : Int) * s = s * (2 * (h : Int) - 10) := by
  rcases (show h = 0 ∨ h = 1 ∨ h = 2 ∨ h = 3 ∨ h = 4 ∨ h = 5 ∨ h = 6 ∨ h = 7 ∨ h = 8 ∨ h = 9 by omega) with e | e | e | e | e | e | e | e | e | e <;> subst e <;> omega
section
variable {nt nq nd : Nat} {wd : Nat → Nat → Nat} {th : Nat → Nat} {won : Int} {kn dn : Nat} {me : Bool} {bq on : Nat} {Sm S' : Bk}
theorem wb_e (h : MC nt nq nd wd th won kn dn Sm) {D q a : Nat} (hD : D < 16) (hq : q < nq) (ha : a ≤ 1) : fX8_winsBy Sm (nI D) (nI q) (nI a) = some (zI (if a = 1 then sw wd (dx D dn) q nd else -sw wd (dx D dn) q nd)) := by
  obtain ⟨hB, hwm, hs7, k0, k1, k2, k3, k4, k5, k6⟩ := h
  have hnq := hB.2.1
  have hnd := hB.2.2.1
  have hp2 := p2 hnd
  have w3 := hwm.2.2.1
  have yl := dx_l hD (show dn < 16 by omega)
  have ey : nI D &&& (nI dn ^^^ -nI 1) = nI (dx D dn) := an_e D hD dn (by omega)
  have e0 : nI 0 = zI (if a = 1 then sw wd (dx D dn) q 0 else -sw wd (dx D dn) q 0) := by
    show zI 0 = zI (if a = 1 then 0 else -0)
    congr 1
    split <;> rfl
  show lk2 (sX8_winsBy_6 Sm (nI D) (nI q) (nI a)) 1000 (nI 0) (nI 0) = _
  refine Eq.trans (congrArg (fun z => lk2 (sX8_winsBy_6 Sm (nI D) (nI q) (nI a)) 1000 z (nI 0)) e0) ?_
  refine lk2_run (fun n => zI (if a = 1 then sw wd (dx D dn) q n else -sw wd (dx D dn) q n)) (fun n => nI n) nd (fun k n hn => ?_) (fun k => ?_) 1000 (by omega)
  · obtain ⟨b0, b1, b2, b3, b4⟩ := hB.2.2.2.2.2 n hn
    obtain ⟨m0, m1, m2, m3, m4⟩ := hwm.2.2.2.2.2 n hn
    have e := has8 (kn := dx D dn) (j := n) (by omega) (by omega)
    have hst : ∀ v : Int32, (zI (if a = 1 then sw wd (dx D dn) q n else -sw wd (dx D dn) q n) + v = zI (if a = 1 then sw wd (dx D dn) q (n + 1) else -sw wd (dx D dn) q (n + 1))) → k (zI (if a = 1 then sw wd (dx D dn) q n else -sw wd (dx D dn) q n) + v) (nI (n + 1)) = k (zI (if a = 1 then sw wd (dx D dn) q (n + 1) else -sw wd (dx D dn) q (n + 1))) (nI (n + 1)) := fun v hv => by rw [hv]
    have hsw : sw wd (dx D dn) q (n + 1) = sw wd (dx D dn) q n + if bi (dx D dn) n = 1 ∧ wd 6 n = q then sg wd n else 0 := rfl
    unfold sX8_winsBy_6 gX8_winsBy_51 gX8_winsBy_52 gX8_winsBy_106
    by_cases c : bi (dx D dn) n = 1
    · have c' : dx D dn / 2 ^ n % 2 = 1 := c
      by_cases c6 : wd 6 n = q
      · rw [if_pos ⟨c, c6⟩] at hsw
        by_cases c7 : wd 7 n = a
        · have hv := hst (nI (wd 8 n)) (by
            rw [hsw, zI_n, zI_add]
            congr 1
            unfold sg
            split
            · rw [if_pos (by omega)]
            · rw [if_neg (by omega)]; omega)
          refine Eq.trans ?_ hv
          simp (disch := omega) only [↓reduceIte, if_pos, if_neg, bd_some, nmV_e, inB_in, nI_cl, nI_leE, nI_ltE, nI_eqE, nI_add, pk_mul, lit_e, in_0_1, in_0_2, in_0_4, in_0_9, in_1_9, in_1_6, in_1_30, in_0_255, nI_ti, bI_i, bI_r, bI_j, bW_i, bW_j, bA_i, bA_j, bO_i, bO_r, bO_j, bJ_i, bJ_r, bJ_j, w3, k2, ey, e, c', m0, m1, m2, c6, c7]
        · have hv := hst (-nI (wd 8 n)) (by
            rw [hsw, zI_n, zI_neg, zI_add]
            congr 1
            unfold sg
            split
            · rw [if_neg (by omega)]
            · rw [if_pos (by omega)]; omega)
          refine Eq.trans ?_ hv
          simp (disch := omega) only [↓reduceIte, if_pos, if_neg, bd_some, nmV_e, inB_in, nI_cl, nI_leE, nI_ltE, nI_eqE, nI_add, pk_mul, lit_e, in_0_1, in_0_2, in_0_4, in_0_9, in_1_9, in_1_6, in_1_30, in_0_255, nI_ti, bI_i, bI_r, bI_j, bW_i, bW_j, bA_i, bA_j, bO_i, bO_r, bO_j, bJ_i, bJ_r, bJ_j, w3, k2, ey, e, c', m0, m1, m2, c6, c7]
      · rw [if_neg (fun z => c6 z.2), Int.add_zero] at hsw
        have hv := hst (nI 0) (by rw [hsw]; exact Int32.add_zero _)
        refine Eq.trans ?_ hv
        simp (disch := omega) only [↓reduceIte, if_pos, if_neg, bd_some, nmV_e, inB_in, nI_cl, nI_leE, nI_ltE, nI_eqE, nI_add, pk_mul, lit_e, in_0_1, in_0_2, in_0_4, in_0_9, in_1_9, in_1_6, in_1_30, in_0_255, nI_ti, bI_i, bI_r, bI_j, bW_i, bW_j, bA_i, bA_j, bO_i, bO_r, bO_j, bJ_i, bJ_r, bJ_j, w3, k2, ey, e, c', m0, c6]
    · have c' : dx D dn / 2 ^ n % 2 = 0 := (bz _ yl n (by omega)).resolve_right c
      rw [if_neg (fun z => c z.1), Int.add_zero] at hsw
      have hv := hst (nI 0) (by rw [hsw]; exact Int32.add_zero _)
      refine Eq.trans ?_ hv
      simp (disch := omega) only [↓reduceIte, if_pos, if_neg, bd_some, nmV_e, inB_in, nI_cl, nI_leE, nI_ltE, nI_eqE, nI_add, pk_mul, lit_e, in_0_1, in_0_2, in_0_4, in_0_9, in_1_9, in_1_6, in_1_30, in_0_255, nI_ti, bI_i, bI_r, bI_j, bW_i, bW_j, bA_i, bA_j, bO_i, bO_r, bO_j, bJ_i, bJ_r, bJ_j, w3, k2, ey, e, c']
  · unfold sX8_winsBy_6
    rw [w3, if_pos (nI_le (Nat.le_refl nd) (by omega))]
/-- what one has if it ends there -/
theorem ed8 (h : MC nt nq nd wd th won kn dn Sm) {K O D : Nat} (hK : K < 2 ^ nq) (hO : O < 16) (hs : O &&& K = O) (hD : D < 16) (h15 : ∀ t, t < nt → Sm.2.1 15 t = zI (lf nq nd wd th (dx K kn) (dx D dn) t)) : fX8_endOf Sm (nI (t3 K + t3 O)) (nI D) (nI (1 - nb me)) = some (zI (eR nt nq nd wd th won me (dx K kn) K O (dx D dn))) := by
  have h0 := h
  obtain ⟨hB, hwm, hs7, k0, k1, k2, k3, k4, k5, k6⟩ := h
  have hnt := hB.1
  have hnq := hB.2.1
  have hnd := hB.2.2.1
  have hp := p2 hnq
  have hp2 := p2 hnd
  have w2 := hwm.2.1
  have hpc := pc_le nq hnq K hK
  have hm := many_e K (by omega)
  have hkb := kb_e h0 hK hO hs
  have hwo := w8 hB hwm (np := 4) hnt (by omega) (Sm.2.1 15)
  have hw := wS_z hB (P := Sm.2.1 15) (l := lf nq nd wd th (dx K kn) (dx D dn)) (Nat.le_refl nt) (fun t ht => by
    have hb := lf_b hB (fun t ht => (hs7 t ht).2) (x := dx K kn) (y := dx D dn) ht
    exact ⟨h15 t ht, by omega, by omega⟩)
  have hlf : nI nq - nI (pc K) = nI (nq - pc K) := by
    rw [zI_n, zI_n, zI_n, zI_sub]; congr 1; omega
  have hbs : (1000 : Int32) + zI won + zI (wI wd (lf nq nd wd th (dx K kn) (dx D dn)) nt) = zI (bse nt nq nd wd th won (dx K kn) (dx D dn)) := by
    rw [show (1000 : Int32) = zI 1000 from rfl, zI_add, zI_add]; rfl
  have i15 : ∀ k : Option Int32, inB 16 (15 : Int32) k = k := fun k => inB_in (n := 16) (i := 15) (by omega) (by omega)
  have c15 : (15 : Int32).toNatClampNeg = 15 := by decide
  have ht := tn_e (nq - pc K) (by omega)
  have hkn : ∀ n, n < nq → fX8_knows (nI (t3 K + t3 O)) (nI n) = some (nI (bi K n + bi O n)) := fun n hn => kn_e (by omega) hO (by omega)
  have hb1 : ∀ n, n < nq → (bi K n + bi O n = 0 ↔ bi K n = 0) := fun n hn => bo_1 K (by omega) O hO n (by omega) hs
  have hwb0 : ∀ n, n < nq → fX8_winsBy Sm (nI D) (nI n) (nI 0) = some (zI (-sw wd (dx D dn) n nd)) := fun n hn => wb_e h0 (a := 0) hD hn (by omega)
  have hwb1 : ∀ n, n < nq → fX8_winsBy Sm (nI D) (nI n) (nI 1) = some (zI (sw wd (dx D dn) n nd)) := fun n hn => wb_e h0 (a := 1) hD hn (by omega)
  have hle : ∀ n, (zI (sw wd (dx D dn) n nd) ≤ zI (-sw wd (dx D dn) n nd)) = (sw wd (dx D dn) n nd ≤ -sw wd (dx D dn) n nd) := fun n => by
    have s := sw_b hB (y := dx D dn) (q := n) (Nat.le_refl nd)
    rw [zI_le (by omega) (by omega) (by omega) (by omega)]
  have hkk : ∀ n, n < nq → bi K n = 1 → (if nI (bi K n + bi O n) = nI 1 then zI (-sw wd (dx D dn) n nd) else zI (sw wd (dx D dn) n nd)) = zI (sgn O (sw wd (dx D dn) n nd) n) := fun n hn c => by
    unfold sgn
    rcases bz O hO n (by omega) with c2 | c2
    · rw [c, c2, if_pos rfl, if_neg (by omega)]
    · rw [c, c2, if_neg (by decide), if_pos rfl]
  cases me with
  | true =>
    have fin : lk3 (sX8_endOf_59 Sm (nI (t3 K + t3 O)) (nI D) (nI 0)) 1000 (nI (nq - pc K)) (zI (bse nt nq nd wd th won (dx K kn) (dx D dn) * 10 ^ (nq - pc K) + sI (fun q => if bi K q = 1 then sgn O (sw wd (dx D dn) q nd) q * 10 ^ (nq - pc K) else sw wd (dx D dn) q nd * (2 * (wd 5 q : Int) - 10) * 10 ^ (nq - pc K - 1)) 0)) (nI 0) = some (zI (bse nt nq nd wd th won (dx K kn) (dx D dn) * 10 ^ (nq - pc K) + sI (fun q => if bi K q = 1 then sgn O (sw wd (dx D dn) q nd) q * 10 ^ (nq - pc K) else sw wd (dx D dn) q nd * (2 * (wd 5 q : Int) - 10) * 10 ^ (nq - pc K - 1)) nq)) := by
      refine lk3_run (fun _ => nI (nq - pc K)) (fun n => zI (bse nt nq nd wd th won (dx K kn) (dx D dn) * 10 ^ (nq - pc K) + sI (fun q => if bi K q = 1 then sgn O (sw wd (dx D dn) q nd) q * 10 ^ (nq - pc K) else sw wd (dx D dn) q nd * (2 * (wd 5 q : Int) - 10) * 10 ^ (nq - pc K - 1)) n)) (fun n => nI n) nq (fun k n hn => ?_) (fun k => ?_) 1000 (by omega)
      · obtain ⟨b0, b1, b2, b3, b4⟩ := hB.2.2.2.2.1 n hn
        obtain ⟨m0, m1, m2, m3⟩ := hwm.2.2.2.2.1 n hn
        have f1 := hwb0 n hn
        have f2 := hwb1 n hn
        have f3 := hkn n hn
        have f4 := hb1 n hn
        have bk := bz K (by omega) n (by omega)
        have bo := bz O hO n (by omega)
        have hst : ∀ (v : Int32) (dl : Int), v = zI dl → (if bi K n = 1 then sgn O (sw wd (dx D dn) n nd) n * 10 ^ (nq - pc K) else sw wd (dx D dn) n nd * (2 * (wd 5 n : Int) - 10) * 10 ^ (nq - pc K - 1)) = dl → k (nI (nq - pc K)) (zI (bse nt nq nd wd th won (dx K kn) (dx D dn) * 10 ^ (nq - pc K) + sI (fun q => if bi K q = 1 then sgn O (sw wd (dx D dn) q nd) q * 10 ^ (nq - pc K) else sw wd (dx D dn) q nd * (2 * (wd 5 q : Int) - 10) * 10 ^ (nq - pc K - 1)) n) + v) (nI (n + 1)) = k (nI (nq - pc K)) (zI (bse nt nq nd wd th won (dx K kn) (dx D dn) * 10 ^ (nq - pc K) + sI (fun q => if bi K q = 1 then sgn O (sw wd (dx D dn) q nd) q * 10 ^ (nq - pc K) else sw wd (dx D dn) q nd * (2 * (wd 5 q : Int) - 10) * 10 ^ (nq - pc K - 1)) (n + 1))) (nI (n + 1)) := fun v dl hv hd => by
          show _ = k _ (zI (_ + (sI _ n + if bi K n = 1 then _ else _))) (nI (n + 1))
          rw [hd, hv, zI_add, Int.add_assoc]
        generalize zI (bse nt nq nd wd th won (dx K kn) (dx D dn) * 10 ^ (nq - pc K) + sI (fun q => if bi K q = 1 then sgn O (sw wd (dx D dn) q nd) q * 10 ^ (nq - pc K) else sw wd (dx D dn) q nd * (2 * (wd 5 q : Int) - 10) * 10 ^ (nq - pc K - 1)) n) = A at hst ⊢
        unfold sX8_endOf_59 gX8_endOf_123 gX8_endOf_138 gX8_endOf_204 gX8_endOf_207
        by_cases c : bi K n = 1
        · have f5 := hkk n hn c
          have c0 : ¬ nI (bi K n + bi O n) = nI 0 := by
            rw [nI_eqE (by omega) (by omega)]
            omega
          have v : zI (sgn O (sw wd (dx D dn) n nd) n) * zI (10 ^ (nq - pc K)) = zI (sgn O (sw wd (dx D dn) n nd) n * 10 ^ (nq - pc K)) := zI_mul _ _
          refine Eq.trans ?_ (hst _ _ v (if_pos c))
          rw [← f5]
          by_cases c1 : nI (bi K n + bi O n) = nI 1
          · rw [if_pos c1]
            simp (disch := omega) only [↓reduceIte, if_pos, if_neg, bd_some, nmV_e, inB_in, nI_cl, nI_leE, nI_ltE, nI_eqE, nI_add, pk_mul, lit_e, in_0_1, in_0_2, in_0_4, in_0_9, in_1_9, in_1_6, in_1_30, in_0_255, nI_ti, bI_i, bI_r, bI_j, bW_i, bW_j, bA_i, bA_j, bO_i, bO_r, bO_j, bJ_i, bJ_r, bJ_j, w2, f1, f2, f3, m3, c0, c1, ht, ite_self]
          · rw [if_neg c1]
            simp (disch := omega) only [↓reduceIte, if_pos, if_neg, bd_some, nmV_e, inB_in, nI_cl, nI_leE, nI_ltE, nI_eqE, nI_add, pk_mul, lit_e, in_0_1, in_0_2, in_0_4, in_0_9, in_1_9, in_1_6, in_1_30, in_0_255, nI_ti, bI_i, bI_r, bI_j, bW_i, bW_j, bA_i, bA_j, bO_i, bO_r, bO_j, bJ_i, bJ_r, bJ_j, w2, f1, f2, f3, m3, c0, c1, ht, ite_self]
        · have c0 : bi K n + bi O n = 0 := f4.mpr (bk.resolve_right c)
          have lt := pc_lt nq hnq K hK n hn (bk.resolve_right c)
          have ht1 := tn_e (nq - pc K - 1) (by omega)
          have hl1 : nI (nq - pc K) - nI 1 = nI (nq - pc K - 1) := by
            rw [zI_n, zI_n, zI_n, zI_sub]; congr 1; omega
          have v : ((nI 10 - nI (wd 5 n)) * zI (-sw wd (dx D dn) n nd) + nI (wd 5 n) * zI (sw wd (dx D dn) n nd)) * zI (10 ^ (nq - pc K - 1)) = zI (sw wd (dx D dn) n nd * (2 * (wd 5 n : Int) - 10) * 10 ^ (nq - pc K - 1)) := by
            rw [zI_n, zI_n, zI_sub, zI_mul, zI_mul, zI_add, zI_mul]
            congr 2
            exact hh_e b3
          refine Eq.trans ?_ (hst _ _ v (if_neg c))
          rw [c0] at f3
          have c1 : ¬ nI 0 = nI 1 := by decide
          simp (disch := omega) only [↓reduceIte, if_pos, if_neg, bd_some, nmV_e, inB_in, nI_cl, nI_leE, nI_ltE, nI_eqE, nI_add, pk_mul, lit_e, in_0_1, in_0_2, in_0_4, in_0_9, in_1_9, in_1_6, in_1_30, in_0_255, nI_ti, bI_i, bI_r, bI_j, bW_i, bW_j, bA_i, bA_j, bO_i, bO_r, bO_j, bJ_i, bJ_r, bJ_j, w2, f1, f2, f3, m3, c1, hl1, ht1, ite_self]
      · unfold sX8_endOf_59
        rw [w2, if_pos (nI_le (Nat.le_refl nq) (by omega))]
    unfold fX8_endOf gX8_endOf_54
    have x0 : nI (1 - nb true) = nI 0 := rfl
    rw [x0, hkb, bd_some, hm, bd_some, i15, hwo, bd_some, hw, if_pos (show nI 0 = 0 from rfl), w2, hlf, ht, bd_some, c15, k4, hbs]
    have e0 : zI (bse nt nq nd wd th won (dx K kn) (dx D dn)) * zI (10 ^ (nq - pc K)) = zI (bse nt nq nd wd th won (dx K kn) (dx D dn) * 10 ^ (nq - pc K) + sI (fun q => if bi K q = 1 then sgn O (sw wd (dx D dn) q nd) q * 10 ^ (nq - pc K) else sw wd (dx D dn) q nd * (2 * (wd 5 q : Int) - 10) * 10 ^ (nq - pc K - 1)) 0) := by
      rw [zI_mul, show ∀ f, sI f 0 = 0 from fun _ => rfl, Int.add_zero]
    rw [e0]
    refine Eq.trans fin ?_
    unfold eR
    rw [if_pos rfl]
  | false =>
    have fin : lk3 (sX8_endOf_59 Sm (nI (t3 K + t3 O)) (nI D) (nI 1)) 1000 (nI (nq - pc K)) (zI (bse nt nq nd wd th won (dx K kn) (dx D dn) + sI (fun q => if bi K q = 1 then sgn O (sw wd (dx D dn) q nd) q else if sw wd (dx D dn) q nd < 0 then sw wd (dx D dn) q nd else -sw wd (dx D dn) q nd) 0)) (nI 0) = some (zI (bse nt nq nd wd th won (dx K kn) (dx D dn) + sI (fun q => if bi K q = 1 then sgn O (sw wd (dx D dn) q nd) q else if sw wd (dx D dn) q nd < 0 then sw wd (dx D dn) q nd else -sw wd (dx D dn) q nd) nq)) := by
      refine lk3_run (fun _ => nI (nq - pc K)) (fun n => zI (bse nt nq nd wd th won (dx K kn) (dx D dn) + sI (fun q => if bi K q = 1 then sgn O (sw wd (dx D dn) q nd) q else if sw wd (dx D dn) q nd < 0 then sw wd (dx D dn) q nd else -sw wd (dx D dn) q nd) n)) (fun n => nI n) nq (fun k n hn => ?_) (fun k => ?_) 1000 (by omega)
      · obtain ⟨b0, b1, b2, b3, b4⟩ := hB.2.2.2.2.1 n hn
        obtain ⟨m0, m1, m2, m3⟩ := hwm.2.2.2.2.1 n hn
        have f1 := hwb0 n hn
        have f2 := hwb1 n hn
        have f3 := hkn n hn
        have f4 := hb1 n hn
        have f6 := hle n
        have bk := bz K (by omega) n (by omega)
        have bo := bz O hO n (by omega)
        have hst : ∀ (v : Int32) (dl : Int), v = zI dl → (if bi K n = 1 then sgn O (sw wd (dx D dn) n nd) n else if sw wd (dx D dn) n nd < 0 then sw wd (dx D dn) n nd else -sw wd (dx D dn) n nd) = dl → k (nI (nq - pc K)) (zI (bse nt nq nd wd th won (dx K kn) (dx D dn) + sI (fun q => if bi K q = 1 then sgn O (sw wd (dx D dn) q nd) q else if sw wd (dx D dn) q nd < 0 then sw wd (dx D dn) q nd else -sw wd (dx D dn) q nd) n) + v) (nI (n + 1)) = k (nI (nq - pc K)) (zI (bse nt nq nd wd th won (dx K kn) (dx D dn) + sI (fun q => if bi K q = 1 then sgn O (sw wd (dx D dn) q nd) q else if sw wd (dx D dn) q nd < 0 then sw wd (dx D dn) q nd else -sw wd (dx D dn) q nd) (n + 1))) (nI (n + 1)) := fun v dl hv hd => by
          show _ = k _ (zI (_ + (sI _ n + if bi K n = 1 then _ else if sw wd (dx D dn) n nd < 0 then _ else _))) (nI (n + 1))
          rw [hd, hv, zI_add, Int.add_assoc]
        generalize zI (bse nt nq nd wd th won (dx K kn) (dx D dn) + sI (fun q => if bi K q = 1 then sgn O (sw wd (dx D dn) q nd) q else if sw wd (dx D dn) q nd < 0 then sw wd (dx D dn) q nd else -sw wd (dx D dn) q nd) n) = A at hst ⊢
        unfold sX8_endOf_59 gX8_endOf_123 gX8_endOf_138 gX8_endOf_158 gX8_endOf_207
        have x1 : ¬ nI 1 = nI 0 := by decide
        by_cases c : bi K n = 1
        · have f5 := hkk n hn c
          have c0 : ¬ nI (bi K n + bi O n) = nI 0 := by
            rw [nI_eqE (by omega) (by omega)]
            omega
          refine Eq.trans ?_ (hst _ _ rfl (if_pos c))
          rw [← f5]
          by_cases c1 : nI (bi K n + bi O n) = nI 1
          · rw [if_pos c1]
            simp (disch := omega) only [↓reduceIte, if_pos, if_neg, bd_some, nmV_e, inB_in, nI_cl, nI_leE, nI_ltE, nI_eqE, nI_add, pk_mul, lit_e, in_0_1, in_0_2, in_0_4, in_0_9, in_1_9, in_1_6, in_1_30, in_0_255, nI_ti, bI_i, bI_r, bI_j, bW_i, bW_j, bA_i, bA_j, bO_i, bO_r, bO_j, bJ_i, bJ_r, bJ_j, w2, f1, f2, f3, m3, c0, c1, x1, ite_self]
          · rw [if_neg c1]
            simp (disch := omega) only [↓reduceIte, if_pos, if_neg, bd_some, nmV_e, inB_in, nI_cl, nI_leE, nI_ltE, nI_eqE, nI_add, pk_mul, lit_e, in_0_1, in_0_2, in_0_4, in_0_9, in_1_9, in_1_6, in_1_30, in_0_255, nI_ti, bI_i, bI_r, bI_j, bW_i, bW_j, bA_i, bA_j, bO_i, bO_r, bO_j, bJ_i, bJ_r, bJ_j, w2, f1, f2, f3, m3, c0, c1, x1, ite_self]
        · have c0 : bi K n + bi O n = 0 := f4.mpr (bk.resolve_right c)
          have c1 : ¬ nI 0 = nI 1 := by decide
          rw [c0] at f3
          by_cases c2 : sw wd (dx D dn) n nd ≤ -sw wd (dx D dn) n nd
          · have v : (if sw wd (dx D dn) n nd < 0 then sw wd (dx D dn) n nd else -sw wd (dx D dn) n nd) = sw wd (dx D dn) n nd := by
              split <;> omega
            refine Eq.trans ?_ (hst _ _ rfl ((if_neg c).trans v))
            simp (disch := omega) only [↓reduceIte, if_pos, if_neg, bd_some, nmV_e, inB_in, nI_cl, nI_leE, nI_ltE, nI_eqE, nI_add, pk_mul, lit_e, in_0_1, in_0_2, in_0_4, in_0_9, in_1_9, in_1_6, in_1_30, in_0_255, nI_ti, bI_i, bI_r, bI_j, bW_i, bW_j, bA_i, bA_j, bO_i, bO_r, bO_j, bJ_i, bJ_r, bJ_j, w2, f1, f2, f3, m3, c1, x1, f6, c2, ite_self]
          · have v : (if sw wd (dx D dn) n nd < 0 then sw wd (dx D dn) n nd else -sw wd (dx D dn) n nd) = -sw wd (dx D dn) n nd := by
              split <;> omega
            refine Eq.trans ?_ (hst _ _ rfl ((if_neg c).trans v))
            simp (disch := omega) only [↓reduceIte, if_pos, if_neg, bd_some, nmV_e, inB_in, nI_cl, nI_leE, nI_ltE, nI_eqE, nI_add, pk_mul, lit_e, in_0_1, in_0_2, in_0_4, in_0_9, in_1_9, in_1_6, in_1_30, in_0_255, nI_ti, bI_i, bI_r, bI_j, bW_i, bW_j, bA_i, bA_j, bO_i, bO_r, bO_j, bJ_i, bJ_r, bJ_j, w2, f1, f2, f3, m3, c1, x1, f6, c2, ite_self]
      · unfold sX8_endOf_59
        rw [w2, if_pos (nI_le (Nat.le_refl nq) (by omega))]
    unfold fX8_endOf gX8_endOf_54
    have x0 : nI (1 - nb false) = nI 1 := rfl
    rw [x0, hkb, bd_some, hm, bd_some, i15, hwo, bd_some, hw, if_neg (show ¬ nI 1 = 0 by decide), w2, hlf, c15, k4, hbs]
    have e0 : zI (bse nt nq nd wd th won (dx K kn) (dx D dn)) = zI (bse nt nq nd wd th won (dx K kn) (dx D dn) + sI (fun q => if bi K q = 1 then sgn O (sw wd (dx D dn) q nd) q else if sw wd (dx D dn) q nd < 0 then sw wd (dx D dn) q nd else -sw wd (dx D dn) q nd) 0) := by
      rw [show ∀ f, sI f 0 = 0 from fun _ => rfl, Int.add_zero]
    rw [e0]
    refine Eq.trans fin ?_
    unfold eR
    rw [if_neg (show ¬ (false = true) by decide)]
theorem bh8 (h : MC nt nq nd wd th won kn dn Sm) {K O D q : Nat} (hq : q < nq) (hK : K < 16) (hO : O < 16) (hD : D < 16) (hs : O &&& K = O) (hz : bi K q = 0) {a b : Int} (ha : Sm.2.1 14 (pl (K ||| 2 ^ q) O D) = zI a) (hb : Sm.2.1 14 (pl (K ||| 2 ^ q) (O ||| 2 ^ q) D) = zI b) (ba : -2000000000 ≤ a ∧ a ≤ 2000000000) (bb : -2000000000 ≤ b ∧ b ≤ 2000000000) : fX8_behind Sm (nI (t3 K + t3 O)) (nI D) (nI q) (nI (1 - nb me)) = some (zI (bh wd me q a b)) := by
  obtain ⟨hB, hwm, -⟩ := h
  have hnq := hB.2.1
  obtain ⟨m0, m1, m2, m3⟩ := hwm.2.2.2.2.1 q hq
  have k16 := or16 K hK q (by omega)
  have o16 := or16 O hO q (by omega)
  have oz := sub_c4 O hO K hK q (by omega) hs hz
  have tk := t3_or K hK q (by omega) hz
  have to := t3_or O hO q (by omega) oz
  have l1 := t3_l _ k16
  have l2 := t3_l _ hO
  have l3 := t3_l _ o16
  have l4 := t3_l _ hK
  have ht := three_e q (by omega)
  have i1 : 16 * (t3 K + t3 O + 3 ^ q) + D = pl (K ||| 2 ^ q) O D := by unfold pl; rw [tk]; omega
  have i2 : 16 * (t3 K + t3 O + 2 * 3 ^ q) + D = pl (K ||| 2 ^ q) (O ||| 2 ^ q) D := by unfold pl; rw [tk, to]; omega
  have p1 := pl_b (D := D) k16 hO hD
  have p2' := pl_b (D := D) k16 o16 hD
  have e : (zI b ≤ zI a) = (b ≤ a) := zI_le (by omega) (by omega) (by omega) (by omega)
  unfold fX8_behind bh
  cases me with
  | true =>
    have x0 : nI (1 - nb true) = nI 0 := rfl
    rw [x0]
    simp (disch := omega) only [↓reduceIte, if_pos, if_neg, bd_some, nmV_e, inB_in, nI_cl, nI_leE, nI_ltE, nI_eqE, nI_add, pk_mul, lit_e, in_0_1, in_0_2, in_0_4, in_0_9, in_1_9, in_1_6, in_1_30, in_0_255, nI_ti, bI_i, bI_r, bI_j, bW_i, bW_j, bA_i, bA_j, bO_i, bO_r, bO_j, bJ_i, bJ_r, bJ_j, ht, i1, i2, ha, hb, m3]
    rw [zI_n, zI_n, zI_sub, zI_mul, zI_mul, zI_add]
    rfl
  | false =>
    have x0 : nI (1 - nb false) = nI 1 := rfl
    have x1 : ¬ nI 1 = nI 0 := by decide
    have x2 : ¬ (false = true) := by decide
    rw [x0]
    by_cases c : b ≤ a
    · simp (disch := omega) only [↓reduceIte, if_pos, if_neg, bd_some, nmV_e, inB_in, nI_cl, nI_leE, nI_ltE, nI_eqE, nI_add, pk_mul, lit_e, in_0_1, in_0_2, in_0_4, in_0_9, in_1_9, in_1_6, in_1_30, in_0_255, nI_ti, bI_i, bI_r, bI_j, bW_i, bW_j, bA_i, bA_j, bO_i, bO_r, bO_j, bJ_i, bJ_r, bJ_j, ht, i1, i2, ha, hb, m3, x1, x2, e, c]
    · simp (disch := omega) only [↓reduceIte, if_pos, if_neg, bd_some, nmV_e, inB_in, nI_cl, nI_leE, nI_ltE, nI_eqE, nI_add, pk_mul, lit_e, in_0_1, in_0_2, in_0_4, in_0_9, in_1_9, in_1_6, in_1_30, in_0_255, nI_ti, bI_i, bI_r, bI_j, bW_i, bW_j, bA_i, bA_j, bO_i, bO_r, bO_j, bJ_i, bJ_r, bJ_j, ht, i1, i2, ha, hb, m3, x1, x2, e, c]
end
