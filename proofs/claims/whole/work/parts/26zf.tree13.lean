theorem bS_b {p : Nat → Prop} [DecidablePred p] : ∀ {n q : Nat}, q < n → bS p n / 2 ^ q % 2 = if p q then 1 else 0
  | 0, q, h => absurd h (by omega)
  | n + 1, q, h => by
    have lt := bS_lt (p := p) n
    unfold bS
    by_cases c : q = n
    · subst c
      by_cases d : p q
      · rw [if_pos d, if_pos d, bt_or, if_pos rfl]
      · rw [if_neg d, if_neg d, Nat.div_eq_of_lt lt]
    · have i := bS_b (p := p) (n := n) (q := q) (by omega)
      by_cases d : p n
      · rw [if_pos d, bt_or, if_neg c]; exact i
      · rw [if_neg d]; exact i
theorem an_p2 : ∀ k, k < 16 → ∀ q, q < 4 → bi k q = 0 → k &&& 2 ^ q = 0 := by decide +kernel
section
variable (nt nq nd : Nat) (wd : Nat → Nat → Nat) (th : Nat → Nat) (won : Int) (kn dn : Nat) (on : Nat)
def Wn (q : Nat) : Int := Vv nt nq nd wd th won kn dn false q kn on dn
def Dn (q : Nat) : Int := bh wd false q (Vv nt nq nd wd th won kn dn false 9 (kn ||| 2 ^ q) on dn) (Vv nt nq nd wd th won kn dn false 9 (kn ||| 2 ^ q) (on ||| 2 ^ q) dn)
end
section
variable {nt nq nd : Nat} {wd : Nat → Nat → Nat} {th td tb : Nat → Nat} {won : Int} {kn dn : Nat} {me : Bool} {bq on : Nat} {Sw Ss Sr Sm S' : Bk}
theorem Wn_b (h : MC nt nq nd wd th won kn dn Sm) {q : Nat} : -60000000 ≤ Wn nt nq nd wd th won kn dn on q ∧ Wn nt nq nd wd th won kn dn on q ≤ 60000000 := by
  obtain ⟨hB, hwm, hs7, k0, k1, k2, k3, k4, k5, k6⟩ := h
  exact V_b hB (fun t ht => (hs7 t ht).2) ⟨k5, k6⟩ _ _ _ k1
theorem Dn_b (h : MC nt nq nd wd th won kn dn Sm) {q : Nat} (hq : q < nq) (hz : bi kn q = 0) : -60000000 ≤ Dn nt nq nd wd th won kn dn on q ∧ Dn nt nq nd wd th won kn dn on q ≤ 60000000 := by
  obtain ⟨hB, hwm, hs7, k0, k1, k2, k3, k4, k5, k6⟩ := h
  have hth : ∀ t, t < nt → th t ≤ 9 := fun t ht => (hs7 t ht).2
  have hw : -36 ≤ won ∧ won ≤ 36 := ⟨k5, k6⟩
  have ok := or_lt k1 hq
  have mb := Mb_b (me := false) (K := kn) hB.2.1
  have V_M : ∀ K O D, K < 2 ^ nq → -Mb nq false K ≤ Vv nt nq nd wd th won kn dn false 9 K O D ∧ Vv nt nq nd wd th won kn dn false 9 K O D ≤ Mb nq false K := fun K O D hK => Vf_b hB hth hw _ K O D hK
  have := bh_b (me := false) hB hq k1 hz (V_M _ on dn ok) (V_M _ (on ||| 2 ^ q) dn ok)
  unfold Dn
  omega
/-- what the reference would regret -/
theorem ro8 (h : MC nt nq nd wd th won kn dn Sm) (hon : on < 16) (hbit : ∀ q, q < nq → bi on q = if bi kn q = 1 then wd 11 q else 0) (hok : on &&& kn = on) {q : Nat} (hq : q < nq) (hz : bi kn q = 0) : ∃ S', S'.1 = Sm.1 ∧ S'.2.2 = Sm.2.2 ∧ (∀ r, r ≠ 14 → r ≠ 15 → S'.2.1 r = Sm.2.1 r) ∧ fX8_regretOf Sm (nI q) = some (zI (if Wn nt nq nd wd th won kn dn on q ≤ Dn nt nq nd wd th won kn dn on q then 0 else Wn nt nq nd wd th won kn dn on q - Dn nt nq nd wd th won kn dn on q), S') := by
  have wb := Wn_b (on := on) h (q := q)
  have db := Dn_b (on := on) h hq hz
  have hnq := h.1.2.1
  obtain ⟨A, a1, a2, a3, a4, a5⟩ := lb8 (me := false) (bq := q) (x4 := nI q) h hon hbit hok (fun i hi => nI_eqE (by omega) (by omega))
  have hA : MC nt nq nd wd th won kn dn A := MC_cg h a1 a3
  have e1 := bw8 hA hon hbit hok a4
  obtain ⟨B, b1, b2, b3, b4, b5⟩ := lb8 (me := false) (bq := 9) hA hon hbit hok no9
  have hB : MC nt nq nd wd th won kn dn B := MC_cg hA b1 b3
  have e2 := cn_e hB hon hbit hok
  have e3 := bh_now8 hB hon hok b4 hq hz
  have k2 := hB.2.2.2.2.2.1
  have a5 : fX8_layBest Sm (nI 1) (nI q) = some A := a5
  have b5 : fX8_layBest A (nI 1) (-nI 9) = some B := b5
  have e3 : fX8_behind B (nI (t3 kn + t3 on)) (nI dn) (nI q) (nI 1) = some (zI (Dn nt nq nd wd th won kn dn on q)) := e3
  have e1 : fX8_bestNow A = some (zI (Wn nt nq nd wd th won kn dn on q)) := e1
  have hle : (zI (Wn nt nq nd wd th won kn dn on q) ≤ zI (Dn nt nq nd wd th won kn dn on q)) = (Wn nt nq nd wd th won kn dn on q ≤ Dn nt nq nd wd th won kn dn on q) := zI_le (by omega) (by omega) (by omega) (by omega)
  refine ⟨B, b1.trans a1, b2.trans a2, fun r r1 r2 => (b3 r r1 r2).trans (a3 r r1 r2), ?_⟩
  unfold fX8_regretOf
  by_cases c : Wn nt nq nd wd th won kn dn on q ≤ Dn nt nq nd wd th won kn dn on q
  · rw [if_pos c]
    simp (disch := omega) only [↓reduceIte, if_pos, if_neg, bd_some, nmV_e, inB_in, nI_cl, nI_leE, nI_ltE, nI_eqE, nI_add, pk_mul, lit_e, in_0_1, in_0_2, in_0_4, in_0_9, in_1_9, in_1_6, in_1_30, in_0_255, nI_ti, bI_i, bI_r, bI_j, bW_i, bW_j, bA_i, bA_j, bO_i, bO_r, bO_j, bJ_i, bJ_r, bJ_j, a5, e1, b5, e2, k2, e3, hle, c]
    rfl
  · rw [if_neg c]
    simp (disch := omega) only [↓reduceIte, if_pos, if_neg, bd_some, nmV_e, inB_in, nI_cl, nI_leE, nI_ltE, nI_eqE, nI_add, pk_mul, lit_e, in_0_1, in_0_2, in_0_4, in_0_9, in_1_9, in_1_6, in_1_30, in_0_255, nI_ti, bI_i, bI_r, bI_j, bW_i, bW_j, bA_i, bA_j, bO_i, bO_r, bO_j, bJ_i, bJ_r, bJ_j, a5, e1, b5, e2, k2, e3, hle, c]
    rw [zI_sub]
/-- what the class finds behind a question, and without it -/
theorem wi7 (h : CC nt nq nd wd th won kn dn Sw Ss) (hon : on < 16) (hok : on &&& kn = on) (hn1 : Sw.1 2 &&& Ss.1 0 = nI on) {q : Nat} (hq : q < nq) (hz : bi kn q = 0) : ∃ S', (∀ r, r ≠ 2 → r ≠ 3 → r ≠ 4 → S'.2.1 r = Sr.2.1 r) ∧ fX5_grow Sw Ss Sr (nI 0) (nI (2 ^ q)) = some (zI (Wn nt nq nd wd th won kn dn on q), S') := by
  have hC := h
  obtain ⟨hB, hwc, hth0, k0, k1, k2, k3, k4, k5, k6⟩ := h
  have hp := p2 hB.2.1
  have hp2 := p2 hB.2.2.1
  have hnq := hB.2.1
  have b0 : bb q = 2 ^ q := by unfold bb; exact if_pos (by omega)
  have hb : kn &&& bb q = 0 := by rw [b0]; exact an_p2 kn (by omega) q (by omega) hz
  obtain ⟨S7, a1, a2, a3, a4⟩ := grow7 (Sr := Sr) (me := false) (bq := q) hC hon hok hn1 hb
  rw [cvn (by omega) (by omega), b0] at a4
  have a4 : fX5_grow Sw Ss Sr (nI 0) (nI (2 ^ q)) = some (zI (1 * Wn nt nq nd wd th won kn dn on q), S7) := a4
  rw [Int.one_mul] at a4
  exact ⟨S7, a2, a4⟩
theorem be7 (h : CC nt nq nd wd th won kn dn Sw Ss) (hon : on < 16) (hok : on &&& kn = on) (hn1 : Sw.1 2 &&& Ss.1 0 = nI on) (h0 : Sr.1 0 = nI (nb false)) (hT : TB nt nq nd wd th won kn dn false 9 on (Sr.2.1 2) (fun _ _ _ => True)) {q : Nat} (hq : q < nq) (hz : bi kn q = 0) (hf : wd 4 q ≤ th (wd 3 q)) : fX5_behindNow Sw Ss Sr (nI q) = some (zI (Dn nt nq nd wd th won kn dn on q)) := by
  have e := bn7 (me := false) (bq := 9) h hon hok hn1 (by omega) h0 hT hq hz
  obtain ⟨hB, hwc, hth0, k0, k1, k2, k3, k4, k5, k6⟩ := h
  have hp := p2 hB.2.1
  have hp2 := p2 hB.2.2.1
  rw [gq_1 hB (by omega) (by omega) (Nat.and_self kn) hq hz (rch_00 (by omega) (by omega)) (by rw [lf_00 (by omega) (by omega)]; omega)] at e
  have e : fX5_behindNow Sw Ss Sr (nI q) = some (zI (1 * Dn nt nq nd wd th won kn dn on q)) := e
  rw [Int.one_mul] at e
  exact e
end
theorem st_regret {Se Sx Sw Ss Sy Sz Sc : Bk} {ro : Nat} {Sg : Bk} {Sp : Nat → Bk} {Sm : Bk} (Sr : Bk) (hR : Rel Se Sx Sw Ss Sy Sz Sc ro Sg Sp Sm) (x1 : Int32) : ∃ (u7 : Int32 × Bk) (u8 : Int32 × Bk), fX7_regret Se Sw Ss Sr x1 = some u7 ∧ fX8_regret Sm x1 = some u8 ∧ u7.1 = u8.1 ∧ Rel Se Sx Sw Ss Sy Sz Sc ro Sg Sp (bA (bA (bA (bA (bA (bA (bO Sm u8.2) 1 (u8.2.2.1 1)) 2 (u8.2.2.1 2)) 3 (u8.2.2.1 3)) 7 (u8.2.2.1 7)) 14 (u8.2.2.1 14)) 15 (u8.2.2.1 15)) := by
  have hR0 := hR
  obtain ⟨nt, nq, nd, wd, hB, hwc, hwm, hs, ht, ha, hk, hg, hj⟩ := hR
  have fin : ∀ (r : Int32) (S7 S8 : Bk), fX7_regret Se Sw Ss Sr x1 = some (r, S7) → fX8_regret Sm x1 = some (r, S8) → S8.1 = (bI Sm 0 (nI 0)).1 → S8.2.2 = Sm.2.2 → (∀ i, i ≠ 14 → i ≠ 15 → S8.2.1 i = Sm.2.1 i) → ∃ (u7 : Int32 × Bk) (u8 : Int32 × Bk), fX7_regret Se Sw Ss Sr x1 = some u7 ∧ fX8_regret Sm x1 = some u8 ∧ u7.1 = u8.1 ∧ Rel Se Sx Sw Ss Sy Sz Sc ro Sg Sp (bA (bA (bA (bA (bA (bA (bO Sm u8.2) 1 (u8.2.2.1 1)) 2 (u8.2.2.1 2)) 3 (u8.2.2.1 3)) 7 (u8.2.2.1 7)) 14 (u8.2.2.1 14)) 15 (u8.2.2.1 15)) := by
    intro r S7 S8 c7 c8 d1 d2 d3
    refine ⟨(r, S7), (r, S8), c7, c8, rfl, rel_sm hR0 ?_ ?_ ?_ ?_ ?_ ?_ rfl (d3 1 (by omega) (by omega)) (d3 2 (by omega) (by omega)) (d3 3 (by omega) (by omega)) (d3 7 (by omega) (by omega)) rfl rfl rfl rfl rfl d2⟩
    · show S8.1 1 = _; rw [d1]; rfl
    · show S8.1 3 = _; rw [d1]; rfl
    · show S8.1 4 = _; rw [d1]; rfl
    · show S8.1 5 = _; rw [d1]; rfl
    · show S8.1 9 = _; rw [d1]; rfl
    · show S8.1 10 = _; rw [d1]; rfl
  obtain ⟨th, td, tb, kn, dn, h⟩ := sr_sq hs
  have hnq := hB.2.1
  have hwm' : RWm nt nq nd wd (bI Sm 0 (nI 0)) := hwm
  have h' : SQ nt nq nd wd Ss ((bI Sm 0 (nI 0)).2.1 7) th td tb kn dn := h
  have w4 : (bI Sm 0 (nI 0)).1 4 = nI nq := hwm.2.1
  have nq8 := noQ (bI Sm 0 (nI 0)) x1 (n := nq) (by omega) w4
  have m1 : ¬ -nI 1 = nI 0 := by decide
  have x0 : ¬ nI 1 = nI 0 := by decide
  have out : (x1.toInt < 0 ∨ (nq : Int) ≤ x1.toInt) → fX7_regret Se Sw Ss Sr x1 = some (-nI 1, Sr) ∧ fX8_regret Sm x1 = some (-nI 1, bI Sm 0 (nI 0)) := fun hx => by
    have r := rd7n (S := Ss) hwc hnq hx
    rw [if_neg (by omega)] at nq8
    constructor
    · unfold fX7_regret
      rw [r, bd_some, if_neg (show ¬ -nI 1 = 0 from m1)]
    · unfold fX8_regret
      rw [show fX8_noQuestion (bI Sm 0 (0 : Int32)) x1 = some 1 from nq8, bd_some, if_neg (show ¬ (1 : Int32) = 0 by decide)]
      rfl
  rcases ix x1 nq (by omega) with ⟨c, c'⟩ | ⟨c, c'⟩ | ⟨j, hj2, rfl⟩
  · obtain ⟨o1, o2⟩ := out (Or.inl c')
    exact fin _ Sr _ o1 o2 rfl rfl (fun _ _ _ => rfl)
  · obtain ⟨o1, o2⟩ := out (Or.inr c')
    exact fin _ Sr _ o1 o2 rfl rfl (fun _ _ _ => rfl)
  · rw [nI_ti (by omega), if_pos (by omega)] at nq8
    have r7 := rd7 hB hwc h hj2
    have r8 : fX8_noDrink (bI Sm 0 (nI 0)) (Sm.2.1 7) 16 (nI j) = some (nDq wd th kn j) := rd8 hB hwm' h' hj2
    have nq8 : fX8_noQuestion (bI Sm 0 (nI 0)) (nI j) = some (nI 0) := nq8
    by_cases c : kn / 2 ^ j % 2 = 0 ∧ wd 4 j ≤ th (wd 3 j)
    · have hz : bi kn j = 0 := c.1
      obtain ⟨won, on, hC, hM, hon, hbit, hok, hn1⟩ := cm_e hB hwc hwm' h'
      have wb := Wn_b (on := on) hM (q := j)
      have db := Dn_b (on := on) hM hj2 hz
      obtain ⟨S8, d1, d2, d3, d4⟩ := ro8 hM hon hbit hok hj2 hz
      obtain ⟨S7, a1, a2, a3, a4⟩ := grow7 (Sr := Sr) (me := false) (bq := 9) hC hon hok hn1 (by show kn &&& 0 = 0; exact Nat.and_zero kn)
      have a4 : fX5_grow Sw Ss Sr (nI 0) (nI 0) = _ := a4
      have e1 := be7 hC hon hok hn1 a1 a3 hj2 hz c.2
      obtain ⟨S9, b1, b2⟩ := wi7 (Sr := S7) hC hon hok hn1 hj2 hz
      have cz : (nDq wd th kn j = nI 0) = True := by rw [nDq0]; exact eq_true c
      generalize Wn nt nq nd wd th won kn dn on j = W at wb d4 b2
      generalize Dn nt nq nd wd th won kn dn on j = D at db d4 e1
      have hlt : (nI 0 < zI W - zI D) = (D < W) := by
        rw [zI_sub, show nI 0 = zI 0 from rfl, zI_lt (by omega) (by omega) (by omega) (by omega)]
        exact propext ⟨fun _ => by omega, fun _ => by omega⟩
      refine fin (zI (if W ≤ D then 0 else W - D)) S9 S8 ?_ ?_ d1 d2 d3
      · unfold fX7_regret
        by_cases c2 : W ≤ D
        · have c3 : ¬ D < W := by omega
          rw [if_pos c2]
          simp (disch := omega) only [↓reduceIte, if_pos, if_neg, bd_some, nmV_e, inB_in, nI_cl, nI_leE, nI_ltE, nI_eqE, nI_add, pk_mul, lit_e, in_0_1, in_0_2, in_0_4, in_0_9, in_1_9, in_1_6, in_1_30, in_0_255, nI_ti, bI_i, bI_r, bI_j, bW_i, bW_j, bA_i, bA_j, bO_i, bO_r, bO_j, bJ_i, bJ_r, bJ_j, r7, cz, a4, e1, shl_n, b2, hlt, c3]
          rfl
        · have c3 : D < W := by omega
          rw [if_neg c2]
          simp (disch := omega) only [↓reduceIte, if_pos, if_neg, bd_some, nmV_e, inB_in, nI_cl, nI_leE, nI_ltE, nI_eqE, nI_add, pk_mul, lit_e, in_0_1, in_0_2, in_0_4, in_0_9, in_1_9, in_1_6, in_1_30, in_0_255, nI_ti, bI_i, bI_r, bI_j, bW_i, bW_j, bA_i, bA_j, bO_i, bO_r, bO_j, bJ_i, bJ_r, bJ_j, r7, cz, a4, e1, shl_n, b2, hlt, c3]
          rw [zI_sub]
      · unfold fX8_regret
        simp (disch := omega) only [↓reduceIte, if_pos, if_neg, bd_some, nmV_e, inB_in, nI_cl, nI_leE, nI_ltE, nI_eqE, nI_add, pk_mul, lit_e, in_0_1, in_0_2, in_0_4, in_0_9, in_1_9, in_1_6, in_1_30, in_0_255, nI_ti, bI_i, bI_r, bI_j, bW_i, bW_j, bA_i, bA_j, bO_i, bO_r, bO_j, bJ_i, bJ_r, bJ_j, nq8, r8, cz, d4]
    · have cz : (nDq wd th kn j = nI 0) = False := by rw [nDq0]; exact eq_false c
      refine fin (nDq wd th kn j) Sr (bI Sm 0 (nI 0)) ?_ ?_ rfl rfl (fun _ _ _ => rfl)
      · unfold fX7_regret
        simp (disch := omega) only [↓reduceIte, if_pos, if_neg, bd_some, nmV_e, inB_in, nI_cl, nI_leE, nI_ltE, nI_eqE, nI_add, pk_mul, lit_e, in_0_1, in_0_2, in_0_4, in_0_9, in_1_9, in_1_6, in_1_30, in_0_255, nI_ti, bI_i, bI_r, bI_j, bW_i, bW_j, bA_i, bA_j, bO_i, bO_r, bO_j, bJ_i, bJ_r, bJ_j, r7, cz]
      · unfold fX8_regret
        simp (disch := omega) only [↓reduceIte, if_pos, if_neg, bd_some, nmV_e, inB_in, nI_cl, nI_leE, nI_ltE, nI_eqE, nI_add, pk_mul, lit_e, in_0_1, in_0_2, in_0_4, in_0_9, in_1_9, in_1_6, in_1_30, in_0_255, nI_ti, bI_i, bI_r, bI_j, bW_i, bW_j, bA_i, bA_j, bO_i, bO_r, bO_j, bJ_i, bJ_r, bJ_j, nq8, r8, cz]
