theorem u64_lN (y : UInt64) : y.toInt64 = lN y.toNat := by
  apply Int64.toBitVec_inj.1
  apply BitVec.eq_of_toNat_eq
  show y.toNat = (BitVec.ofNat 64 y.toNat).toNat
  rw [BitVec.toNat_ofNat, Nat.mod_eq_of_lt y.toNat_lt]
theorem s33 : ((nI 33).toInt64.toUInt64 &&& Int64.toUInt64 63).toNat % 64 = 33 := by decide +kernel
/-- the drinker's choice -/
theorem ch (v : Int64) : ∃ c : Nat, c < 8 ∧ ((v.toUInt64 >>> ((nI 33).toInt64.toUInt64 &&& Int64.toUInt64 63)).toInt64).toInt32 &&& nI 7 = nI c ∧ ((v.toUInt64 >>> ((nI 33).toInt64.toUInt64 &&& Int64.toUInt64 63)).toInt64 - (v.toUInt64 >>> ((nI 33).toInt64.toUInt64 &&& Int64.toUInt64 63)).toInt64 / (8 : Int64) * (8 : Int64)).toInt32 = nI c := by
  obtain ⟨k, hk, e⟩ : ∃ k : Nat, k < 2147483648 ∧ (v.toUInt64 >>> ((nI 33).toInt64.toUInt64 &&& Int64.toUInt64 63)).toInt64 = lN k := by
    refine ⟨_, ?_, u64_lN _⟩
    rw [UInt64.toNat_shiftRight, s33, Nat.shiftRight_eq_div_pow]
    have := v.toUInt64.toNat_lt
    omega
  refine ⟨k % 8, by omega, ?_, ?_⟩
  · rw [e, lN_i]
    exact pk_andN (by omega) 3 (by decide)
  · rw [e, show (8 : Int64) = lN 8 from rfl, pk_lRem (by omega) (by omega) (by omega), lN_i]
section
variable {nt nq nd : Nat} {wd : Nat → Nat → Nat} {Sw Sd Sm : Bk}
theorem tc (hB : WB nt nq nd wd) (hwc : RWc nt nq nd wd Sw) (hwm : RWm nt nq nd wd Sm) (hs : SR nt nq nd wd Sd (Sm.2.1 8)) {m i c : Nat} (hc : c < 8) : ∃ (S1 Q : Bk), fX3_tryChoice Sw Sd (nI c) = some S1 ∧ S1.2.1 3 = Sd.2.1 3 ∧ SR nt nq nd wd S1 (Q.2.1 8) ∧ Q.1 = Sm.1 ∧ Q.2.2 = Sm.2.2 ∧ (∀ r, r ≠ 8 → Q.2.1 r = Sm.2.1 r) ∧ ∀ k, (if Sm.1 4 ≤ nI c then gX8_drinkers_111 (nI m) k (nI i) (nI c) Sm else (fX8_noDrink Sm (Sm.2.1 8) 16 (nI c)).bind (fun u15 => (if u15 = nI 0 then (fX8_goDrink Sm (Sm.2.1 8) 16 (nI c)).bind (fun u18 => gX8_drinkers_111 (nI m) k (nI i) (nI c) (bA Sm 8 u18)) else gX8_drinkers_111 (nI m) k (nI i) (nI c) Sm))) = gX8_drinkers_151 (nI m) k (nI i) Q := by
  have hnt := hB.1
  have hnq := hB.2.1
  have hnd := hB.2.2.1
  have v4 := hwm.2.1
  have v5 := hwm.2.2.1
  obtain ⟨th, td, tb, kn, dn, h⟩ := sr_sq hs
  by_cases c4 : c < 4
  · by_cases cq : c < nq
    · have r7 := rd7 hB hwc h cq
      have r8 := rd8 hB hwm h cq
      by_cases cc : kn / 2 ^ c % 2 = 0 ∧ wd 4 c ≤ th (wd 3 c)
      · obtain ⟨S', P, k1, k2, k3, k4⟩ := dk hB hwc hwm h cq cc.2
        refine ⟨S', bA Sm 8 P, ?_, k3, k4, rfl, rfl, fun r hr => if_neg hr, fun k => ?_⟩
        · unfold fX3_tryChoice
          simp (disch := omega) only [↓reduceIte, if_pos, if_neg, bd_some, nmV_e, inB_in, nI_cl, nI_leE, nI_ltE, nI_eqE, nI_add, pk_mul, lit_e, in_0_1, in_0_2, in_0_4, in_0_9, in_1_9, in_1_6, in_1_30, in_0_255, nI_ti, bI_i, bI_r, bI_j, bW_i, bW_j, bA_i, bA_j, bO_i, bO_r, bO_j, bJ_i, bJ_r, bJ_j, r7, nDq0, cc, k1, and_self]
        · rw [v4]
          unfold gX8_drinkers_111
          simp (disch := omega) only [↓reduceIte, if_pos, if_neg, bd_some, nmV_e, inB_in, nI_cl, nI_leE, nI_ltE, nI_eqE, nI_add, pk_mul, lit_e, in_0_1, in_0_2, in_0_4, in_0_9, in_1_9, in_1_6, in_1_30, in_0_255, nI_ti, bI_i, bI_r, bI_j, bW_i, bW_j, bA_i, bA_j, bO_i, bO_r, bO_j, bJ_i, bJ_r, bJ_j, r8, nDq0, cc, k2, and_self]
      · refine ⟨Sd, Sm, ?_, rfl, hs, rfl, rfl, fun r hr => rfl, fun k => ?_⟩
        · unfold fX3_tryChoice
          simp (disch := omega) only [↓reduceIte, if_pos, if_neg, bd_some, nmV_e, inB_in, nI_cl, nI_leE, nI_ltE, nI_eqE, nI_add, pk_mul, lit_e, in_0_1, in_0_2, in_0_4, in_0_9, in_1_9, in_1_6, in_1_30, in_0_255, nI_ti, bI_i, bI_r, bI_j, bW_i, bW_j, bA_i, bA_j, bO_i, bO_r, bO_j, bJ_i, bJ_r, bJ_j, r7, nDq0, cc]
        · rw [v4]
          unfold gX8_drinkers_111
          simp (disch := omega) only [↓reduceIte, if_pos, if_neg, bd_some, nmV_e, inB_in, nI_cl, nI_leE, nI_ltE, nI_eqE, nI_add, pk_mul, lit_e, in_0_1, in_0_2, in_0_4, in_0_9, in_1_9, in_1_6, in_1_30, in_0_255, nI_ti, bI_i, bI_r, bI_j, bW_i, bW_j, bA_i, bA_j, bO_i, bO_r, bO_j, bJ_i, bJ_r, bJ_j, r8, nDq0, cc]
    · have r7 := rd7n (S := Sd) (x := nI c) hwc hnq (Or.inr (by rw [nI_ti (by omega)]; omega))
      have ne : ¬ (-nI 1 = nI 0) := by decide
      refine ⟨Sd, Sm, ?_, rfl, hs, rfl, rfl, fun r hr => rfl, fun k => ?_⟩
      · unfold fX3_tryChoice
        simp (disch := omega) only [↓reduceIte, if_pos, if_neg, bd_some, nmV_e, inB_in, nI_cl, nI_leE, nI_ltE, nI_eqE, nI_add, pk_mul, lit_e, in_0_1, in_0_2, in_0_4, in_0_9, in_1_9, in_1_6, in_1_30, in_0_255, nI_ti, bI_i, bI_r, bI_j, bW_i, bW_j, bA_i, bA_j, bO_i, bO_r, bO_j, bJ_i, bJ_r, bJ_j, r7, ne]
      · rw [v4]
        unfold gX8_drinkers_111
        simp (disch := omega) only [↓reduceIte, if_pos, if_neg, bd_some, nmV_e, inB_in, nI_cl, nI_leE, nI_ltE, nI_eqE, nI_add, pk_mul, lit_e, in_0_1, in_0_2, in_0_4, in_0_9, in_1_9, in_1_6, in_1_30, in_0_255, nI_ti, bI_i, bI_r, bI_j, bW_i, bW_j, bA_i, bA_j, bO_i, bO_r, bO_j, bJ_i, bJ_r, bJ_j]
  · obtain ⟨d, rfl⟩ : ∃ d, c = d + 4 := ⟨c - 4, by omega⟩
    have e4 : nI (d + 4) - nI 4 = nI d := (pk_sub (by omega)).trans (congrArg nI (by omega))
    by_cases cq : d < nd
    · have r7 := ra7 hB hwc h cq
      have r8 := ra8 hB hwm h cq
      by_cases cc : dn / 2 ^ d % 2 = 0 ∧ wd 10 d ≤ th (wd 9 d)
      · obtain ⟨S', P, k1, k2, k3, k4⟩ := co hB hwc hwm h cq cc.1 cc.2
        refine ⟨S', bA Sm 8 P, ?_, k3, k4, rfl, rfl, fun r hr => if_neg hr, fun k => ?_⟩
        · unfold fX3_tryChoice
          simp (disch := omega) only [↓reduceIte, if_pos, if_neg, bd_some, nmV_e, inB_in, nI_cl, nI_leE, nI_ltE, nI_eqE, nI_add, pk_mul, lit_e, in_0_1, in_0_2, in_0_4, in_0_9, in_1_9, in_1_6, in_1_30, in_0_255, nI_ti, bI_i, bI_r, bI_j, bW_i, bW_j, bA_i, bA_j, bO_i, bO_r, bO_j, bJ_i, bJ_r, bJ_j, r7, nAd0, cc, k1, e4, and_self]
        · rw [v4]
          unfold gX8_drinkers_111
          simp (disch := omega) only [↓reduceIte, if_pos, if_neg, bd_some, nmV_e, inB_in, nI_cl, nI_leE, nI_ltE, nI_eqE, nI_add, pk_mul, lit_e, in_0_1, in_0_2, in_0_4, in_0_9, in_1_9, in_1_6, in_1_30, in_0_255, nI_ti, bI_i, bI_r, bI_j, bW_i, bW_j, bA_i, bA_j, bO_i, bO_r, bO_j, bJ_i, bJ_r, bJ_j, r8, nAd0, cc, k2, e4, v5, and_self]
      · refine ⟨Sd, Sm, ?_, rfl, hs, rfl, rfl, fun r hr => rfl, fun k => ?_⟩
        · unfold fX3_tryChoice
          simp (disch := omega) only [↓reduceIte, if_pos, if_neg, bd_some, nmV_e, inB_in, nI_cl, nI_leE, nI_ltE, nI_eqE, nI_add, pk_mul, lit_e, in_0_1, in_0_2, in_0_4, in_0_9, in_1_9, in_1_6, in_1_30, in_0_255, nI_ti, bI_i, bI_r, bI_j, bW_i, bW_j, bA_i, bA_j, bO_i, bO_r, bO_j, bJ_i, bJ_r, bJ_j, r7, nAd0, cc, e4]
        · rw [v4]
          unfold gX8_drinkers_111
          simp (disch := omega) only [↓reduceIte, if_pos, if_neg, bd_some, nmV_e, inB_in, nI_cl, nI_leE, nI_ltE, nI_eqE, nI_add, pk_mul, lit_e, in_0_1, in_0_2, in_0_4, in_0_9, in_1_9, in_1_6, in_1_30, in_0_255, nI_ti, bI_i, bI_r, bI_j, bW_i, bW_j, bA_i, bA_j, bO_i, bO_r, bO_j, bJ_i, bJ_r, bJ_j, r8, nAd0, cc, e4, v5]
    · have r7 := ra7n (S := Sd) (x := nI d) hwc hnd (Or.inr (by rw [nI_ti (by omega)]; omega))
      have ne : ¬ (-nI 1 = nI 0) := by decide
      refine ⟨Sd, Sm, ?_, rfl, hs, rfl, rfl, fun r hr => rfl, fun k => ?_⟩
      · unfold fX3_tryChoice
        simp (disch := omega) only [↓reduceIte, if_pos, if_neg, bd_some, nmV_e, inB_in, nI_cl, nI_leE, nI_ltE, nI_eqE, nI_add, pk_mul, lit_e, in_0_1, in_0_2, in_0_4, in_0_9, in_1_9, in_1_6, in_1_30, in_0_255, nI_ti, bI_i, bI_r, bI_j, bW_i, bW_j, bA_i, bA_j, bO_i, bO_r, bO_j, bJ_i, bJ_r, bJ_j, r7, ne, e4]
      · rw [v4]
        unfold gX8_drinkers_111
        simp (disch := omega) only [↓reduceIte, if_pos, if_neg, bd_some, nmV_e, inB_in, nI_cl, nI_leE, nI_ltE, nI_eqE, nI_add, pk_mul, lit_e, in_0_1, in_0_2, in_0_4, in_0_9, in_1_9, in_1_6, in_1_30, in_0_255, nI_ti, bI_i, bI_r, bI_j, bW_i, bW_j, bA_i, bA_j, bO_i, bO_r, bO_j, bJ_i, bJ_r, bJ_j, e4, v5]
theorem dr7x {Ss : Bk} {m i : Nat} (hm : m ≤ 30) (hi : i = m) {Se Sd : Bk} {r : Int32} (e7 : fX3_estate Sw Sd = some r) (k) : sX7_drinkers_27 Sw Ss (nI m) k (nI i) Se Sd = some (r, Se, Sd) := by
  unfold sX7_drinkers_27
  rw [if_pos (nI_le (by omega) (by omega)), e7, bd_some]
theorem dr8x {m i : Nat} (hm : m ≤ 30) (hi : i = m) {Sm : Bk} {r : Int32} (e8 : fX8_estateOf Sm (Sm.2.1 8) 16 = some r) (k) : sX8_drinkers_48 (nI m) k (nI i) Sm = some (r, Sm) := by
  unfold sX8_drinkers_48
  rw [if_pos (nI_le (by omega) (by omega)), e8, bd_some]
theorem dr7s {Ss : Bk} {m i c : Nat} (hm : m ≤ 30) (hi : i < m) {Se Sd S1 S2 : Bk} {v : Int64} {r : Int32} (hv : Se.2.2 * (6364136223846793005 : Int64) + (1442695040888963407 : Int64) = v) (e1 : ((v.toUInt64 >>> ((nI 33).toInt64.toUInt64 &&& Int64.toUInt64 63)).toInt64).toInt32 &&& nI 7 = nI c) (k1 : fX3_tryChoice Sw Sd (nI c) = some S1) (d1 : fX3_passDay Sw (bA (bA (bO Sd S1) 1 (S1.2.1 1)) 2 (S1.2.1 2)) = some (r, S2)) (k) : sX7_drinkers_27 Sw Ss (nI m) k (nI i) Se Sd = k (nI (i + 1)) (bJ Se v) S2 := by
  unfold sX7_drinkers_27
  rw [hv, if_neg (nI_ge hi (by omega)), nmV_e]
  refine (congrArg (fun z => Option.bind (fX3_tryChoice Sw Sd z) _) e1).trans ?_
  show Option.bind (fX3_tryChoice Sw Sd (nI c)) _ = _
  rw [k1, bd_some, d1, bd_some, nI_succ]
theorem dr8s {m i c : Nat} (hm : m ≤ 30) (hi : i < m) {Sm : Bk} {v : Int64} (hv : Sm.2.2 * (6364136223846793005 : Int64) + (1442695040888963407 : Int64) = v) (e2 : ((v.toUInt64 >>> ((nI 33).toInt64.toUInt64 &&& Int64.toUInt64 63)).toInt64 - (v.toUInt64 >>> ((nI 33).toInt64.toUInt64 &&& Int64.toUInt64 63)).toInt64 / (8 : Int64) * (8 : Int64)).toInt32 = nI c) (k) : sX8_drinkers_48 (nI m) k (nI i) Sm = (if (bJ Sm v).1 4 ≤ nI c then gX8_drinkers_111 (nI m) k (nI i) (nI c) (bJ Sm v) else (fX8_noDrink (bJ Sm v) ((bJ Sm v).2.1 8) 16 (nI c)).bind (fun u15 => (if u15 = nI 0 then (fX8_goDrink (bJ Sm v) ((bJ Sm v).2.1 8) 16 (nI c)).bind (fun u18 => gX8_drinkers_111 (nI m) k (nI i) (nI c) (bA (bJ Sm v) 8 u18)) else gX8_drinkers_111 (nI m) k (nI i) (nI c) (bJ Sm v)))) := by
  unfold sX8_drinkers_48
  rw [hv, if_neg (nI_ge hi (by omega)), nmV_e]
  rw [show (33 : Int32) = nI 33 from rfl, e2]
  rfl
theorem drl (hB : WB nt nq nd wd) (hwc : RWc nt nq nd wd Sw) (Ss : Bk) {m : Nat} (hm : m ≤ 30) : ∀ (n i F : Nat) (Se Sd Sm : Bk), i + n = m → n < F → RWm nt nq nd wd Sm → SR nt nq nd wd Sd (Sm.2.1 8) → Se.2.2 = Sm.2.2 → ∃ (r : Int32) (Se' Sd' Sm' : Bk), lk3 (sX7_drinkers_27 Sw Ss (nI m)) F (nI i) Se Sd = some (r, Se', Sd') ∧ lk2 (sX8_drinkers_48 (nI m)) F (nI i) Sm = some (r, Sm') ∧ Se'.1 = Se.1 ∧ Se'.2.2 = Sm'.2.2 ∧ Sm'.1 = Sm.1 ∧ ∀ r, r ≠ 8 → Sm'.2.1 r = Sm.2.1 r := by
  intro n
  induction n with
  | zero =>
    intro i F Se Sd Sm hi hF hwm hs hj
    obtain ⟨F, rfl⟩ : ∃ F', F = F' + 1 := ⟨F - 1, by omega⟩
    have e7 := es7 hB hwc Sd
    have e8 := es8 hB hwm (Sm.2.1 8)
    rw [es_eq hs] at e7
    refine ⟨nI 1000 + Sm.2.1 8 15 + wS wd (Sm.2.1 8) nt, Se, Sd, Sm, ?_, ?_, rfl, hj, rfl, fun _ _ => rfl⟩
    · exact dr7x hm (by omega) e7 _
    · exact dr8x hm (by omega) e8 _
  | succ n ih =>
    intro i F Se Sd Sm hi hF hwm hs hj
    obtain ⟨F, rfl⟩ : ∃ F', F = F' + 1 := ⟨F - 1, by omega⟩
    obtain ⟨v, hv⟩ : ∃ v : Int64, Sm.2.2 * (6364136223846793005 : Int64) + (1442695040888963407 : Int64) = v := ⟨_, rfl⟩
    obtain ⟨c, hc, e1, e2⟩ := ch v
    obtain ⟨S1, Q, k1, k2, k3, k4, k5, k6, k7⟩ := tc (Sm := bJ Sm v) (m := m) (i := i) hB hwc hwm hs hc
    have hwQ : RWm nt nq nd wd Q := rwm_cg hwm (by rw [k4]; rfl) (by rw [k4]; rfl) (by rw [k4]; rfl) (k6 1 (by omega)) (k6 2 (by omega)) (k6 3 (by omega))
    have k8 := sr_m3 (S := Sd) hB.1 k3 k2
    obtain ⟨r, S2, P2, d1, d2, d3⟩ := pd hB hwc hwQ k8
    obtain ⟨r', Se', Sd', Sm', f1, f2, f3, f4, f5, f6⟩ := ih (i + 1) F (bJ Se v) S2 (bA Q 8 P2) (by omega) (by omega) (rwm_cg hwQ rfl rfl rfl rfl rfl rfl) d3 k5.symm
    refine ⟨r', Se', Sd', Sm', ?_, ?_, f3, f4, f5.trans k4, fun r hr => (f6 r hr).trans ((if_neg hr).trans (k6 r hr))⟩
    · exact (dr7s hm (by omega) (by rw [hj]; exact hv) e1 k1 d1 _).trans f1
    · refine ((dr8s hm (by omega) hv e2 _).trans (k7 _)).trans ?_
      unfold gX8_drinkers_151
      rw [d2, bd_some, ← nI_succ]
      exact f2
theorem dr22 {S : Bk} {x : Int32} : ∃ u, (∀ r, lk2 (sX8_drinkers_48 x) 1000 (nI 0) u = r → lk2 (sX8_drinkers_22 x) 1000 (nI 0) S = r) ∧ CP S u 8 0 16 (S.2.1 7) := by
  obtain ⟨a, S', ⟨e1, e2⟩, hF⟩ := lk2_inv (f := sX8_drinkers_22 x) (fun t a S' => a = nI t ∧ CP S S' 8 0 t (S.2.1 7)) 16 (fun t a S' ht hI => by
    obtain ⟨e1, e2⟩ := hI
    refine ⟨nI (t + 1), bW S' 8 (0 + t) (S.2.1 7 t), fun k => ?_, rfl, cp_s e2⟩
    subst e1
    have q2 := e2.2.2.1 7 (by omega)
    unfold sX8_drinkers_22
    simp (disch := omega) only [↓reduceIte, if_pos, if_neg, bd_some, nmV_e, inB_in, nI_cl, nI_leE, nI_ltE, nI_eqE, nI_add, pk_mul, lit_e, in_0_1, in_0_2, in_0_4, in_0_9, in_1_9, in_1_6, in_1_30, in_0_255, nI_ti, bI_i, bI_r, bI_j, bW_i, bW_j, bA_i, bA_j, bO_i, bO_r, bO_j, bJ_i, bJ_r, bJ_j, q2, Nat.zero_add]) (nI 0) S ⟨rfl, cp_0⟩
  obtain ⟨k, hk⟩ := hF 1000 (by omega)
  refine ⟨S', fun r e => hk.trans ?_, e2⟩
  subst e1
  unfold sX8_drinkers_22
  simp (disch := omega) only [↓reduceIte, if_pos, if_neg, bd_some, nmV_e, inB_in, nI_cl, nI_leE, nI_ltE, nI_eqE, nI_add, pk_mul, lit_e, in_0_1, in_0_2, in_0_4, in_0_9, in_1_9, in_1_6, in_1_30, in_0_255, nI_ti, bI_i, bI_r, bI_j, bW_i, bW_j, bA_i, bA_j, bO_i, bO_r, bO_j, bJ_i, bJ_r, bJ_j]
  exact e
end
theorem st_drinkers {Se Sx Sw Ss Sy Sz Sc : Bk} {ro : Nat} {Sg : Bk} {Sp : Nat → Bk} {Sm : Bk} (Sd : Bk) (hR : Rel Se Sx Sw Ss Sy Sz Sc ro Sg Sp Sm) (x1 : Int32) : ∃ (u7 : Int32 × Bk × Bk) (u8 : Int32 × Bk), fX7_drinkers Se Sw Ss Sd x1 = some u7 ∧ fX8_drinkers Sm x1 = some u8 ∧ u7.1 = u8.1 ∧ Rel (bO Se u7.2.1) Sx Sw Ss Sy Sz Sc ro Sg Sp (bA (bA (bA (bA (bA (bO Sm u8.2) 1 (u8.2.2.1 1)) 2 (u8.2.2.1 2)) 3 (u8.2.2.1 3)) 7 (u8.2.2.1 7)) 8 (u8.2.2.1 8)) := by
  have hR0 := hR
  obtain ⟨nt, nq, nd, wd, hB, hwc, hwm, hs, ht, ha, hk, hg, hj⟩ := hR
  have hnt := hB.1
  have hno : fX7_drinkers Se Sw Ss Sd x1 = some (-nI 2, Se, Sd) → fX8_drinkers Sm x1 = some (-nI 2, bI Sm 0 (nI 0)) → ∃ (u7 : Int32 × Bk × Bk) (u8 : Int32 × Bk), fX7_drinkers Se Sw Ss Sd x1 = some u7 ∧ fX8_drinkers Sm x1 = some u8 ∧ u7.1 = u8.1 ∧ Rel (bO Se u7.2.1) Sx Sw Ss Sy Sz Sc ro Sg Sp (bA (bA (bA (bA (bA (bO Sm u8.2) 1 (u8.2.2.1 1)) 2 (u8.2.2.1 2)) 3 (u8.2.2.1 3)) 7 (u8.2.2.1 7)) 8 (u8.2.2.1 8)) := fun c7 c8 => ⟨_, _, c7, c8, rfl, rel_sm hR0 rfl rfl rfl rfl rfl rfl rfl rfl rfl rfl rfl rfl rfl rfl rfl rfl rfl⟩
  rcases ix x1 31 (by omega) with ⟨c, c'⟩ | ⟨c, c'⟩ | ⟨m, hm, rfl⟩
  · refine hno ?_ ?_
    · unfold fX7_drinkers
      simp (disch := omega) only [↓reduceIte, if_pos, if_neg, bd_some, nmV_e, inB_in, nI_cl, nI_leE, nI_ltE, nI_eqE, nI_add, pk_mul, lit_e, in_0_1, in_0_2, in_0_4, in_0_9, in_1_9, in_1_6, in_1_30, in_0_255, nI_ti, bI_i, bI_r, bI_j, bW_i, bW_j, bA_i, bA_j, bO_i, bO_r, bO_j, bJ_i, bJ_r, bJ_j, i32_lt]
    · unfold fX8_drinkers
      simp (disch := omega) only [↓reduceIte, if_pos, if_neg, bd_some, nmV_e, inB_in, nI_cl, nI_leE, nI_ltE, nI_eqE, nI_add, pk_mul, lit_e, in_0_1, in_0_2, in_0_4, in_0_9, in_1_9, in_1_6, in_1_30, in_0_255, nI_ti, bI_i, bI_r, bI_j, bW_i, bW_j, bA_i, bA_j, bO_i, bO_r, bO_j, bJ_i, bJ_r, bJ_j]
  · refine hno ?_ ?_
    · unfold fX7_drinkers
      simp (disch := omega) only [↓reduceIte, if_pos, if_neg, bd_some, nmV_e, inB_in, nI_cl, nI_leE, nI_ltE, nI_eqE, nI_add, pk_mul, lit_e, in_0_1, in_0_2, in_0_4, in_0_9, in_1_9, in_1_6, in_1_30, in_0_255, nI_ti, bI_i, bI_r, bI_j, bW_i, bW_j, bA_i, bA_j, bO_i, bO_r, bO_j, bJ_i, bJ_r, bJ_j, i32_lt, i32_le]
    · unfold fX8_drinkers
      simp (disch := omega) only [↓reduceIte, if_pos, if_neg, bd_some, nmV_e, inB_in, nI_cl, nI_leE, nI_ltE, nI_eqE, nI_add, pk_mul, lit_e, in_0_1, in_0_2, in_0_4, in_0_9, in_1_9, in_1_6, in_1_30, in_0_255, nI_ti, bI_i, bI_r, bI_j, bW_i, bW_j, bA_i, bA_j, bO_i, bO_r, bO_j, bJ_i, bJ_r, bJ_j]
  · by_cases c0 : m = 0
    · subst c0
      refine hno ?_ ?_
      · unfold fX7_drinkers
        simp (disch := omega) only [↓reduceIte, if_pos, if_neg, bd_some, nmV_e, inB_in, nI_cl, nI_leE, nI_ltE, nI_eqE, nI_add, pk_mul, lit_e, in_0_1, in_0_2, in_0_4, in_0_9, in_1_9, in_1_6, in_1_30, in_0_255, nI_ti, bI_i, bI_r, bI_j, bW_i, bW_j, bA_i, bA_j, bO_i, bO_r, bO_j, bJ_i, bJ_r, bJ_j]
      · unfold fX8_drinkers
        simp (disch := omega) only [↓reduceIte, if_pos, if_neg, bd_some, nmV_e, inB_in, nI_cl, nI_leE, nI_ltE, nI_eqE, nI_add, pk_mul, lit_e, in_0_1, in_0_2, in_0_4, in_0_9, in_1_9, in_1_6, in_1_30, in_0_255, nI_ti, bI_i, bI_r, bI_j, bW_i, bW_j, bA_i, bA_j, bO_i, bO_r, bO_j, bJ_i, bJ_r, bJ_j]
    · obtain ⟨cc, k1, k2⟩ := cf (nt := nt) (nq := nq) (nd := nd) (wd := wd) hnt Sd Ss
      obtain ⟨u, hu, x1, x2, x3, x4⟩ := dr22 (S := bI Sm 0 (nI 0)) (x := nI m)
      have hwu : RWm nt nq nd wd u := rwm_cg hwm (by rw [x1]; rfl) (by rw [x1]; rfl) (by rw [x1]; rfl) (x3 1 (by omega)) (x3 2 (by omega)) (x3 3 (by omega))
      have hsu : SR nt nq nd wd cc (u.2.1 8) := sr_cg (k2 _ hs) hnt rfl rfl rfl rfl (fun _ _ => rfl) (fun _ _ => rfl) (fun _ _ => rfl) (fun j hj => by rw [x4, if_pos (by omega)]; rfl)
      obtain ⟨r, Se', Sd', Sm', f1, f2, f3, f4, f5, f6⟩ := drl hB hwc Ss (m := m) (by omega) m 0 1000 Se cc u (by omega) (by omega) hwu hsu (hj.trans x2.symm)
      have c7 : fX7_drinkers Se Sw Ss Sd (nI m) = some (r, Se', Sd') := by
        unfold fX7_drinkers
        simp (disch := omega) only [↓reduceIte, if_pos, if_neg, bd_some, nmV_e, inB_in, nI_cl, nI_leE, nI_ltE, nI_eqE, nI_add, pk_mul, lit_e, in_0_1, in_0_2, in_0_4, in_0_9, in_1_9, in_1_6, in_1_30, in_0_255, nI_ti, bI_i, bI_r, bI_j, bW_i, bW_j, bA_i, bA_j, bO_i, bO_r, bO_j, bJ_i, bJ_r, bJ_j, k1]
        exact f1
      have c8 : fX8_drinkers Sm (nI m) = some (r, Sm') := by
        unfold fX8_drinkers
        simp (disch := omega) only [↓reduceIte, if_pos, if_neg, bd_some, nmV_e, inB_in, nI_cl, nI_leE, nI_ltE, nI_eqE, nI_add, pk_mul, lit_e, in_0_1, in_0_2, in_0_4, in_0_9, in_1_9, in_1_6, in_1_30, in_0_255, nI_ti, bI_i, bI_r, bI_j, bW_i, bW_j, bA_i, bA_j, bO_i, bO_r, bO_j, bJ_i, bJ_r, bJ_j]
        exact hu _ f2
      refine ⟨_, _, c7, c8, rfl, rel_a (Se := Se) (Sm := Sm) hB hwc hwm ht hk hg (congrFun f3 0) ?_ ?_ ?_ ?_ ?_ rfl ?_ ?_ ?_ rfl rfl rfl rfl f4 ?_ ?_⟩
      · show Sm'.1 1 = _; rw [f5, x1]; rfl
      · show Sm'.1 3 = _; rw [f5, x1]; rfl
      · show Sm'.1 4 = _; rw [f5, x1]; rfl
      · show Sm'.1 5 = _; rw [f5, x1]; rfl
      · show Sm'.1 10 = _; rw [f5, x1]; rfl
      · show Sm'.2.1 1 = _; rw [f6 1 (by omega), x3 1 (by omega)]; rfl
      · show Sm'.2.1 2 = _; rw [f6 2 (by omega), x3 2 (by omega)]; rfl
      · show Sm'.2.1 3 = _; rw [f6 3 (by omega), x3 3 (by omega)]; rfl
      · refine sr_cg hs hnt rfl rfl rfl rfl (fun _ _ => rfl) (fun _ _ => rfl) (fun _ _ => rfl) (fun j hj => ?_)
        show Sm'.2.1 7 j = _; rw [f6 7 (by omega), x3 7 (by omega)]; rfl
      · obtain ⟨n, hn, a1, a2, a3⟩ := ha
        refine ⟨n, hn, a1, ?_, a3⟩
        show Sm'.1 9 = _; rw [f5, x1]; exact a2
