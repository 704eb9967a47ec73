theorem an_e : ∀ s, s < 16 → ∀ d, d < 16 → nI s &&& (nI d ^^^ -nI 1) = nI (s &&& (15 ^^^ d)) := by decide +kernel
theorem an_l : ∀ s, s < 16 → ∀ d, d < 16 → s &&& (15 ^^^ d) < 16 := by decide +kernel
theorem an_b : ∀ s, s < 16 → ∀ d, d < 16 → ∀ i, i < 4 → (s &&& (15 ^^^ d)) / 2 ^ i % 2 = if s / 2 ^ i % 2 = 1 ∧ d / 2 ^ i % 2 = 0 then 1 else 0 := by decide +kernel
def lkS (wd : Nat → Nat → Nat) (s dn t : Nat) : Nat → Nat
  | 0 => 0
  | n + 1 => lkS wd s dn t n + if s / 2 ^ n % 2 = 1 ∧ dn / 2 ^ n % 2 = 0 ∧ wd 9 n = t then wd 10 n else 0
section
variable {nt nq nd : Nat} {wd : Nat → Nat → Nat} {S Sw Sm : Bk} {pg : Nat → Int32} {th td tb : Nat → Nat} {kn dn : Nat}
theorem lkS_b (hB : WB nt nq nd wd) {s t : Nat} : ∀ {n : Nat}, n ≤ nd → lkS wd s dn t n ≤ 9 * n
  | 0, _ => by unfold lkS; omega
  | n + 1, h => by
    have i := lkS_b hB (n := n) (s := s) (t := t) (by omega)
    obtain ⟨b0, b1, b2, b3, b4⟩ := hB.2.2.2.2.2 n (by omega)
    unfold lkS
    split <;> omega
theorem lc7 (hB : WB nt nq nd wd) (hwc : RWc nt nq nd wd Sw) (h : SQ nt nq nd wd S pg th td tb kn dn) {s : Nat} (hs : s < 2 ^ nd) : fX3_lacking Sw S (nI s) = some (nI (bS (fun t => th t < lkS wd s dn t nd) nt)) := by
  have hnt := hB.1
  have hnd := hB.2.2.1
  have hp := p2 hnd
  have w1 := hwc.1
  have w3 := hwc.2.2.1
  have hdn := h.2.2.2.2.2.2.1
  unfold fX3_lacking
  refine lk2_run (fun t => nI (bS (fun t => th t < lkS wd s dn t nd) t)) (fun t => nI t) nt (fun k t ht => ?_) (fun k => ?_) 1000 (by omega)
  · have s1 := (h.1 t ht).1
    have s3 := (h.1 t ht).2.2.1
    unfold sX3_lacking_4
    simp (disch := omega) only [↓reduceIte, if_pos, if_neg, bd_some, nmV_e, inB_in, nI_cl, nI_leE, nI_ltE, nI_eqE, nI_add, pk_mul, lit_e, in_0_1, in_0_2, in_0_4, in_0_9, in_1_9, in_1_6, in_1_30, in_0_255, nI_ti, bI_i, bI_r, bI_j, bW_i, bW_j, bA_i, bA_j, bO_i, bO_r, bO_j, bJ_i, bJ_r, bJ_j, w1]
    refine lk4_run (fun _ => nI (bS (fun t => th t < lkS wd s dn t nd) t)) (fun _ => nI t) (fun d => nI (lkS wd s dn t d)) (fun d => nI d) nd (fun k2 d hd => ?_) (fun k2 => ?_) 1000 (by omega)
    · obtain ⟨g0, g1, g2, g3, g4⟩ := hwc.2.2.2.2.2.1 d hd
      obtain ⟨b0, b1, b2, b3, b4⟩ := hB.2.2.2.2.2 d hd
      have k7 := dn7 (j := d) h.2.2.2.2.1 (by omega) (by omega)
      unfold sX3_lacking_21 gX3_lacking_81
      show _ = k2 _ _ (nI (lkS wd s dn t d + if _ then _ else _)) (nI (d + 1))
      by_cases c1 : s / 2 ^ d % 2 = 1
      · by_cases c2 : dn / 2 ^ d % 2 = 0
        · by_cases c3 : wd 9 d = t
          · simp (disch := omega) only [↓reduceIte, if_pos, if_neg, bd_some, nmV_e, inB_in, nI_cl, nI_leE, nI_ltE, nI_eqE, nI_add, pk_mul, lit_e, in_0_1, in_0_2, in_0_4, in_0_9, in_1_9, in_1_6, in_1_30, in_0_255, nI_ti, bI_i, bI_r, bI_j, bW_i, bW_j, bA_i, bA_j, bO_i, bO_r, bO_j, bJ_i, bJ_r, bJ_j, w3, bit_n, k7, g3, g4]
          · simp (disch := omega) only [↓reduceIte, if_pos, if_neg, bd_some, nmV_e, inB_in, nI_cl, nI_leE, nI_ltE, nI_eqE, nI_add, pk_mul, lit_e, in_0_1, in_0_2, in_0_4, in_0_9, in_1_9, in_1_6, in_1_30, in_0_255, nI_ti, bI_i, bI_r, bI_j, bW_i, bW_j, bA_i, bA_j, bO_i, bO_r, bO_j, bJ_i, bJ_r, bJ_j, w3, bit_n, k7, g3, g4, Nat.add_zero]
        · simp (disch := omega) only [↓reduceIte, if_pos, if_neg, bd_some, nmV_e, inB_in, nI_cl, nI_leE, nI_ltE, nI_eqE, nI_add, pk_mul, lit_e, in_0_1, in_0_2, in_0_4, in_0_9, in_1_9, in_1_6, in_1_30, in_0_255, nI_ti, bI_i, bI_r, bI_j, bW_i, bW_j, bA_i, bA_j, bO_i, bO_r, bO_j, bJ_i, bJ_r, bJ_j, w3, bit_n, k7, g3, g4, Nat.add_zero]
      · simp (disch := omega) only [↓reduceIte, if_pos, if_neg, bd_some, nmV_e, inB_in, nI_cl, nI_leE, nI_ltE, nI_eqE, nI_add, pk_mul, lit_e, in_0_1, in_0_2, in_0_4, in_0_9, in_1_9, in_1_6, in_1_30, in_0_255, nI_ti, bI_i, bI_r, bI_j, bW_i, bW_j, bA_i, bA_j, bO_i, bO_r, bO_j, bJ_i, bJ_r, bJ_j, w3, bit_n, k7, g3, g4, Nat.add_zero]
    · have lb := lkS_b (dn := dn) (s := s) (t := t) hB (Nat.le_refl nd)
      unfold sX3_lacking_21 gX3_lacking_104
      show _ = k (nI (if _ then _ else _)) (nI (t + 1))
      by_cases c : th t < lkS wd s dn t nd
      · simp (disch := omega) only [↓reduceIte, if_pos, if_neg, bd_some, nmV_e, inB_in, nI_cl, nI_leE, nI_ltE, nI_eqE, nI_add, pk_mul, lit_e, in_0_1, in_0_2, in_0_4, in_0_9, in_1_9, in_1_6, in_1_30, in_0_255, nI_ti, bI_i, bI_r, bI_j, bW_i, bW_j, bA_i, bA_j, bO_i, bO_r, bO_j, bJ_i, bJ_r, bJ_j, w3, s1, shl_n, fa_or]
      · simp (disch := omega) only [↓reduceIte, if_pos, if_neg, bd_some, nmV_e, inB_in, nI_cl, nI_leE, nI_ltE, nI_eqE, nI_add, pk_mul, lit_e, in_0_1, in_0_2, in_0_4, in_0_9, in_1_9, in_1_6, in_1_30, in_0_255, nI_ti, bI_i, bI_r, bI_j, bW_i, bW_j, bA_i, bA_j, bO_i, bO_r, bO_j, bJ_i, bJ_r, bJ_j, w3, s1]
  · unfold sX3_lacking_4
    simp (disch := omega) only [↓reduceIte, if_pos, if_neg, bd_some, nmV_e, inB_in, nI_cl, nI_leE, nI_ltE, nI_eqE, nI_add, pk_mul, lit_e, in_0_1, in_0_2, in_0_4, in_0_9, in_1_9, in_1_6, in_1_30, in_0_255, nI_ti, bI_i, bI_r, bI_j, bW_i, bW_j, bA_i, bA_j, bO_i, bO_r, bO_j, bJ_i, bJ_r, bJ_j, w1]
end
theorem st_shortFor {Se Sx Sw Ss Sy Sz Sc : Bk} {ro : Nat} {Sg : Bk} {Sp : Nat → Bk} {Sm : Bk} (hR : Rel Se Sx Sw Ss Sy Sz Sc ro Sg Sp Sm) (x1 : Int32) : ∃ (u7 : Int32) (u8 : Int32 × Bk), fX7_shortFor Se Sw Ss x1 = some u7 ∧ fX8_shortFor Sm x1 = some u8 ∧ u7 = u8.1 ∧ Rel Se Sx Sw Ss Sy Sz Sc ro Sg Sp (bA (bA (bO Sm u8.2) 3 (u8.2.2.1 3)) 7 (u8.2.2.1 7)) := by
  have hR0 := hR
  obtain ⟨nt, nq, nd, wd, hB, hwc, hwm, hs, ht, ha, hk, hg, hj⟩ := hR
  suffices hfin : ∃ r : Int32, fX7_shortFor Se Sw Ss x1 = some r ∧ fX8_shortFor Sm x1 = some (r, bI Sm 0 (nI 0)) from by
    obtain ⟨r, c7, c8⟩ := hfin
    exact ⟨r, (r, bI Sm 0 (nI 0)), c7, c8, rfl, rel_sm hR0 rfl rfl rfl rfl rfl rfl rfl rfl rfl rfl rfl rfl rfl rfl rfl rfl rfl⟩
  obtain ⟨th, td, tb, kn, dn, h⟩ := sr_sq hs
  have hnt := hB.1
  have hnd := hB.2.2.1
  have hp := p2 hnd
  have w3 := hwc.2.2.1
  have v1 := hwm.1
  have v3 := hwm.2.2.1
  have hdn := h.2.2.2.2.2.2.1
  have kd := h.2.2.2.2.2.1
  have hin := in_n x1 (n := 2 ^ nd) (by omega)
  have hsh : (1 : Int32) <<< (nI nd &&& 31) = nI (2 ^ nd) := shl1_e (by omega)
  rcases ix x1 (2 ^ nd) (by omega) with ⟨c, c'⟩ | ⟨c, c'⟩ | ⟨s, hs2, rfl⟩
  · refine ⟨-2, ?_, ?_⟩
    · unfold fX7_shortFor
      rw [if_pos c]
    · unfold fX8_shortFor
      rw [v3, hsh, hin]
      simp (disch := omega) only [↓reduceIte, if_pos, if_neg, bd_some, nmV_e, inB_in, nI_cl, nI_leE, nI_ltE, nI_eqE, nI_add, pk_mul, lit_e, in_0_1, in_0_2, in_0_4, in_0_9, in_1_9, in_1_6, in_1_30, in_0_255, nI_ti, bI_i, bI_r, bI_j, bW_i, bW_j, bA_i, bA_j, bO_i, bO_r, bO_j, bJ_i, bJ_r, bJ_j]
  · refine ⟨-2, ?_, ?_⟩
    · unfold fX7_shortFor
      rw [w3, hsh, if_neg (by rw [i32_lt]; show ¬ _ < (0 : Int); omega), if_neg (Int32.not_lt.mpr c)]
    · unfold fX8_shortFor
      rw [v3, hsh, hin]
      simp (disch := omega) only [↓reduceIte, if_pos, if_neg, bd_some, nmV_e, inB_in, nI_cl, nI_leE, nI_ltE, nI_eqE, nI_add, pk_mul, lit_e, in_0_1, in_0_2, in_0_4, in_0_9, in_1_9, in_1_6, in_1_30, in_0_255, nI_ti, bI_i, bI_r, bI_j, bW_i, bW_j, bA_i, bA_j, bO_i, bO_r, bO_j, bJ_i, bJ_r, bJ_j]
  · refine ⟨nI (bS (fun t => th t < lkS wd s dn t nd) nt), ?_, ?_⟩
    · unfold fX7_shortFor
      rw [w3, hsh, lc7 hB hwc h hs2]
      simp (disch := omega) only [↓reduceIte, if_pos, if_neg, bd_some, nmV_e, inB_in, nI_cl, nI_leE, nI_ltE, nI_eqE, nI_add, pk_mul, lit_e, in_0_1, in_0_2, in_0_4, in_0_9, in_1_9, in_1_6, in_1_30, in_0_255, nI_ti, bI_i, bI_r, bI_j, bW_i, bW_j, bA_i, bA_j, bO_i, bO_r, bO_j, bJ_i, bJ_r, bJ_j]
    · unfold fX8_shortFor
      rw [v3, hsh, hin]
      simp (disch := omega) only [↓reduceIte, if_pos, if_neg, bd_some, nmV_e, inB_in, nI_cl, nI_leE, nI_ltE, nI_eqE, nI_add, pk_mul, lit_e, in_0_1, in_0_2, in_0_4, in_0_9, in_1_9, in_1_6, in_1_30, in_0_255, nI_ti, bI_i, bI_r, bI_j, bW_i, bW_j, bA_i, bA_j, bO_i, bO_r, bO_j, bJ_i, bJ_r, bJ_j]
      refine lk3_run (fun t => nI (bS (fun t => th t < lkS wd s dn t nd) t)) (fun t => nI t) (fun _ => bI Sm 0 (nI 0)) nt (fun k t ht => ?_) (fun k => ?_) 1000 (by omega)
      · have s1 := (h.1 t ht).2.1
        have s3 := (h.1 t ht).2.2.1
        unfold sX8_shortFor_30
        simp (disch := omega) only [↓reduceIte, if_pos, if_neg, bd_some, nmV_e, inB_in, nI_cl, nI_leE, nI_ltE, nI_eqE, nI_add, pk_mul, lit_e, in_0_1, in_0_2, in_0_4, in_0_9, in_1_9, in_1_6, in_1_30, in_0_255, nI_ti, bI_i, bI_r, bI_j, bW_i, bW_j, bA_i, bA_j, bO_i, bO_r, bO_j, bJ_i, bJ_r, bJ_j, v1]
        refine lk5_run (fun _ => nI (bS (fun t => th t < lkS wd s dn t nd) t)) (fun _ => nI t) (fun d => nI (lkS wd s dn t d)) (fun d => nI d) (fun _ => bI Sm 0 (nI 0)) nd (fun k2 d hd => ?_) (fun k2 => ?_) 1000 (by omega)
        · obtain ⟨m0, m1, m2, m3, m4⟩ := hwm.2.2.2.2.2 d hd
          obtain ⟨b0, b1, b2, b3, b4⟩ := hB.2.2.2.2.2 d hd
          have k8 := has8 (kn := s &&& (15 ^^^ dn)) (j := d) (by have := an_l s (by omega) dn (by omega); omega) (by omega)
          rw [an_b s (by omega) dn (by omega) d (by omega)] at k8
          have ae := an_e s (by omega) dn (by omega)
          unfold sX8_shortFor_44 gX8_shortFor_103 gX8_shortFor_104
          show _ = k2 _ _ (nI (lkS wd s dn t d + if _ then _ else _)) (nI (d + 1)) _
          by_cases c1 : s / 2 ^ d % 2 = 1
          · by_cases c2 : dn / 2 ^ d % 2 = 0
            · by_cases c3 : wd 9 d = t
              · simp (disch := omega) only [↓reduceIte, if_pos, if_neg, bd_some, nmV_e, inB_in, nI_cl, nI_leE, nI_ltE, nI_eqE, nI_add, pk_mul, lit_e, in_0_1, in_0_2, in_0_4, in_0_9, in_1_9, in_1_6, in_1_30, in_0_255, nI_ti, bI_i, bI_r, bI_j, bW_i, bW_j, bA_i, bA_j, bO_i, bO_r, bO_j, bJ_i, bJ_r, bJ_j, v3, kd, ae, k8, m3, m4]
              · simp (disch := omega) only [↓reduceIte, if_pos, if_neg, bd_some, nmV_e, inB_in, nI_cl, nI_leE, nI_ltE, nI_eqE, nI_add, pk_mul, lit_e, in_0_1, in_0_2, in_0_4, in_0_9, in_1_9, in_1_6, in_1_30, in_0_255, nI_ti, bI_i, bI_r, bI_j, bW_i, bW_j, bA_i, bA_j, bO_i, bO_r, bO_j, bJ_i, bJ_r, bJ_j, v3, kd, ae, k8, m3, m4, Nat.add_zero]
            · simp (disch := omega) only [↓reduceIte, if_pos, if_neg, bd_some, nmV_e, inB_in, nI_cl, nI_leE, nI_ltE, nI_eqE, nI_add, pk_mul, lit_e, in_0_1, in_0_2, in_0_4, in_0_9, in_1_9, in_1_6, in_1_30, in_0_255, nI_ti, bI_i, bI_r, bI_j, bW_i, bW_j, bA_i, bA_j, bO_i, bO_r, bO_j, bJ_i, bJ_r, bJ_j, v3, kd, ae, k8, m3, m4, Nat.add_zero]
          · simp (disch := omega) only [↓reduceIte, if_pos, if_neg, bd_some, nmV_e, inB_in, nI_cl, nI_leE, nI_ltE, nI_eqE, nI_add, pk_mul, lit_e, in_0_1, in_0_2, in_0_4, in_0_9, in_1_9, in_1_6, in_1_30, in_0_255, nI_ti, bI_i, bI_r, bI_j, bW_i, bW_j, bA_i, bA_j, bO_i, bO_r, bO_j, bJ_i, bJ_r, bJ_j, v3, kd, ae, k8, m3, m4, Nat.add_zero]
        · have lb := lkS_b (dn := dn) (s := s) (t := t) hB (Nat.le_refl nd)
          unfold sX8_shortFor_44 gX8_shortFor_132
          show _ = k (nI (if _ then _ else _)) (nI (t + 1)) _
          by_cases c : th t < lkS wd s dn t nd
          · simp (disch := omega) only [↓reduceIte, if_pos, if_neg, bd_some, nmV_e, inB_in, nI_cl, nI_leE, nI_ltE, nI_eqE, nI_add, pk_mul, lit_e, in_0_1, in_0_2, in_0_4, in_0_9, in_1_9, in_1_6, in_1_30, in_0_255, nI_ti, bI_i, bI_r, bI_j, bW_i, bW_j, bA_i, bA_j, bO_i, bO_r, bO_j, bJ_i, bJ_r, bJ_j, v3, s1, shl_n, fa_or]
          · simp (disch := omega) only [↓reduceIte, if_pos, if_neg, bd_some, nmV_e, inB_in, nI_cl, nI_leE, nI_ltE, nI_eqE, nI_add, pk_mul, lit_e, in_0_1, in_0_2, in_0_4, in_0_9, in_1_9, in_1_6, in_1_30, in_0_255, nI_ti, bI_i, bI_r, bI_j, bW_i, bW_j, bA_i, bA_j, bO_i, bO_r, bO_j, bJ_i, bJ_r, bJ_j, v3, s1, or_0]
      · unfold sX8_shortFor_30
        simp (disch := omega) only [↓reduceIte, if_pos, if_neg, bd_some, nmV_e, inB_in, nI_cl, nI_leE, nI_ltE, nI_eqE, nI_add, pk_mul, lit_e, in_0_1, in_0_2, in_0_4, in_0_9, in_1_9, in_1_6, in_1_30, in_0_255, nI_ti, bI_i, bI_r, bI_j, bW_i, bW_j, bA_i, bA_j, bO_i, bO_r, bO_j, bJ_i, bJ_r, bJ_j, v1]
/-- a stretch of row r written over -/
def CP (S S' : Bk) (r a n : Nat) (g : Nat → Int32) : Prop := S'.1 = S.1 ∧ S'.2.2 = S.2.2 ∧ (∀ i, i ≠ r → S'.2.1 i = S.2.1 i) ∧ ∀ j, S'.2.1 r j = if a ≤ j ∧ j < a + n then g (j - a) else S.2.1 r j
theorem cp_0 {S : Bk} {r a : Nat} {g : Nat → Int32} : CP S S r a 0 g := ⟨rfl, rfl, fun _ _ => rfl, fun j => by rw [if_neg (by omega)]⟩
theorem cp_s {S S' : Bk} {r a n : Nat} {g : Nat → Int32} (h : CP S S' r a n g) : CP S (bW S' r (a + n) (g n)) r a (n + 1) g := by
  obtain ⟨h1, h2, h3, h4⟩ := h
  refine ⟨h1, h2, fun i hi => (if_neg hi).trans (h3 i hi), fun j => ?_⟩
  have e : (bW S' r (a + n) (g n)).2.1 r j = if j = a + n then g n else S'.2.1 r j := by
    rw [bW_r, if_pos rfl, upd_a]
  rw [e]
  by_cases c : j = a + n
  · rw [if_pos c, if_pos (by omega), show j - a = n by omega]
  · rw [if_neg c, h4 j]
    by_cases c2 : a ≤ j ∧ j < a + n
    · rw [if_pos c2, if_pos (by omega)]
    · rw [if_neg c2, if_neg (by omega)]
theorem nt49 {S : Bk} {n : Nat} (hn : n < 14) (h : S.1 9 = nI n) : ∃ u, gX8_note_49 S = some (bI u 9 (nI (n + 1))) ∧ CP S u 9 (16 * n) 16 (S.2.1 7) := by
  obtain ⟨a, S', ⟨e1, e2⟩, hF⟩ := lk2_inv (f := sX8_note_51) (fun t a S' => a = nI t ∧ CP S S' 9 (16 * n) t (S.2.1 7)) 16 (fun t a S' ht hI => by
    obtain ⟨e1, e2⟩ := hI
    refine ⟨nI (t + 1), bW S' 9 (16 * n + t) (S.2.1 7 t), fun k => ?_, rfl, cp_s e2⟩
    subst e1
    have q1 : S'.1 9 = nI n := by rw [e2.1]; exact h
    have q2 := e2.2.2.1 7 (by omega)
    unfold sX8_note_51
    simp (disch := omega) only [↓reduceIte, if_pos, if_neg, bd_some, nmV_e, inB_in, nI_cl, nI_leE, nI_ltE, nI_eqE, nI_add, pk_mul, lit_e, in_0_1, in_0_2, in_0_4, in_0_9, in_1_9, in_1_6, in_1_30, in_0_255, nI_ti, bI_i, bI_r, bI_j, bW_i, bW_j, bA_i, bA_j, bO_i, bO_r, bO_j, bJ_i, bJ_r, bJ_j, q1, q2]) (nI 0) S ⟨rfl, cp_0⟩
  obtain ⟨k, hk⟩ := hF 1000 (by omega)
  refine ⟨S', ?_, e2⟩
  unfold gX8_note_49
  refine hk.trans ?_
  subst e1
  have q1 : S'.1 9 = nI n := by rw [e2.1]; exact h
  unfold sX8_note_51
  simp (disch := omega) only [↓reduceIte, if_pos, if_neg, bd_some, nmV_e, inB_in, nI_cl, nI_leE, nI_ltE, nI_eqE, nI_add, pk_mul, lit_e, in_0_1, in_0_2, in_0_4, in_0_9, in_1_9, in_1_6, in_1_30, in_0_255, nI_ti, bI_i, bI_r, bI_j, bW_i, bW_j, bA_i, bA_j, bO_i, bO_r, bO_j, bJ_i, bJ_r, bJ_j, q1]
theorem nt11x {S : Bk} (h : S.1 9 = nI 14) (k : Int32 → Bk → Option Bk) : sX8_note_11 k (nI 208) S = gX8_note_49 (bI S 9 (nI 13)) := by
  unfold sX8_note_11
  rw [if_pos (show (208 : Int32) ≤ nI 208 from nI_le (Nat.le_refl 208) (by omega)), nmV_e, h]
  rw [show nI 14 - 1 = nI 13 from nI_pred 13]
theorem nt11s {S : Bk} {t : Nat} (ht : t < 208) (k : Int32 → Bk → Option Bk) : sX8_note_11 k (nI t) S = k (nI (t + 1)) (bW S 9 t (S.2.1 9 (t + 16))) := by
  unfold sX8_note_11
  rw [if_neg (show ¬ (208 : Int32) ≤ nI t from nI_ge (b := 208) ht (by omega)), show nI t + 16 = nI (t + 16) from nI_add t 16, inB_in (show t + 16 < 224 by omega) (by omega), nmV_e, inB_in (show t < 224 by omega) (by omega), nmV_e, nI_cl (by omega), nI_cl (by omega), nI_succ]
theorem nt11 {S : Bk} (h : S.1 9 = nI 14) : ∃ S', lk2 sX8_note_11 1000 (nI 0) S = gX8_note_49 (bI S' 9 (nI 13)) ∧ CP S S' 9 0 208 (fun j => S.2.1 9 (j + 16)) := by
  obtain ⟨a, S', ⟨e1, e2⟩, hF⟩ := lk2_inv (f := sX8_note_11) (fun t a S' => a = nI t ∧ CP S S' 9 0 t (fun j => S.2.1 9 (j + 16))) 208 (fun t a S' ht hI => by
    obtain ⟨e1, e2⟩ := hI
    refine ⟨nI (t + 1), bW S' 9 (0 + t) (S.2.1 9 (t + 16)), fun k => ?_, rfl, cp_s e2⟩
    subst e1
    have q2 : S'.2.1 9 (t + 16) = S.2.1 9 (t + 16) := by rw [e2.2.2.2, if_neg (by omega)]
    rw [nt11s ht, q2, Nat.zero_add]) (nI 0) S ⟨rfl, cp_0⟩
  obtain ⟨k, hk⟩ := hF 1000 (by omega)
  refine ⟨S', hk.trans ?_, e2⟩
  subst e1
  exact nt11x (by rw [e2.1]; exact h) k
theorem nt8 {S : Bk} {n : Nat} (hn : n ≤ 14) (h : S.1 9 = nI n) : ∃ u n', fX8_note S = some u ∧ n' = (if n = 14 then 14 else n + 1) ∧ u.1 = upd S.1 9 (nI n') ∧ u.2.2 = S.2.2 ∧ (∀ i, i ≠ 9 → u.2.1 i = S.2.1 i) ∧ ∀ i k, i < n' → k < 16 → u.2.1 9 (16 * i + k) = if i + 1 = n' then S.2.1 7 k else S.2.1 9 (16 * (if n = 14 then i + 1 else i) + k) := by
  by_cases c : n = 14
  · subst c
    obtain ⟨S', hk, e2⟩ := nt11 h
    obtain ⟨u, f1, f2⟩ := nt49 (S := bI S' 9 (nI 13)) (n := 13) (by omega) rfl
    obtain ⟨x1, x2, x3, x4⟩ := e2
    obtain ⟨y1, y2, y3, y4⟩ := f2
    refine ⟨bI u 9 (nI 14), 14, ?_, rfl, ?_, y2.trans x2, fun i hi => (y3 i hi).trans (x3 i hi), fun i k hi hk2 => ?_⟩
    · unfold fX8_note
      simp (disch := omega) only [↓reduceIte, if_pos, if_neg, bd_some, nmV_e, inB_in, nI_cl, nI_leE, nI_ltE, nI_eqE, nI_add, pk_mul, lit_e, in_0_1, in_0_2, in_0_4, in_0_9, in_1_9, in_1_6, in_1_30, in_0_255, nI_ti, bI_i, bI_r, bI_j, bW_i, bW_j, bA_i, bA_j, bO_i, bO_r, bO_j, bJ_i, bJ_r, bJ_j, h]
      exact hk.trans f1
    · show upd u.1 9 (nI 14) = _
      rw [y1]
      funext j
      show (if j = 9 then nI 14 else if j = 9 then nI 13 else S'.1 j) = if j = 9 then nI 14 else S.1 j
      rw [x1]
      by_cases c : j = 9
      · rw [if_pos c, if_pos c]
      · rw [if_neg c, if_neg c, if_neg c]
    · show u.2.1 9 (16 * i + k) = _
      rw [y4]
      by_cases c : i + 1 = 14
      · rw [if_pos (by omega), if_pos c]
        show S'.2.1 7 _ = _
        rw [x3 7 (by omega), show 16 * i + k - 16 * 13 = k by omega]
      · rw [if_neg (by omega), if_neg c, if_pos rfl]
        show S'.2.1 9 _ = _
        rw [x4, if_pos (by omega)]
        show S.2.1 9 (16 * i + k - 0 + 16) = _
        rw [show 16 * i + k - 0 + 16 = 16 * (i + 1) + k by omega]
  · obtain ⟨u, f1, f2⟩ := nt49 (S := S) (n := n) (by omega) h
    obtain ⟨y1, y2, y3, y4⟩ := f2
    refine ⟨bI u 9 (nI (n + 1)), n + 1, ?_, by rw [if_neg c], ?_, y2, y3, fun i k hi hk2 => ?_⟩
    · unfold fX8_note
      simp (disch := omega) only [↓reduceIte, if_pos, if_neg, bd_some, nmV_e, inB_in, nI_cl, nI_leE, nI_ltE, nI_eqE, nI_add, pk_mul, lit_e, in_0_1, in_0_2, in_0_4, in_0_9, in_1_9, in_1_6, in_1_30, in_0_255, nI_ti, bI_i, bI_r, bI_j, bW_i, bW_j, bA_i, bA_j, bO_i, bO_r, bO_j, bJ_i, bJ_r, bJ_j, h]
      exact f1
    · show upd u.1 9 _ = _
      rw [y1]
    · show u.2.1 9 (16 * i + k) = _
      rw [y4]
      by_cases c2 : i = n
      · rw [if_pos (by omega), if_pos (by omega), show 16 * i + k - 16 * n = k by omega]
      · rw [if_neg (by omega), if_neg (by omega), if_neg c]
theorem cf {nt nq nd : Nat} {wd : Nat → Nat → Nat} (hnt : nt ≤ 4) (D So : Bk) : ∃ c, fX3_copyFrom D So = some c ∧ ∀ pg, SR nt nq nd wd So pg → SR nt nq nd wd c pg := by
  refine ⟨_, rfl, fun pg h => sr_cg h hnt rfl rfl rfl rfl (fun t ht => ?_) (fun t ht => ?_) (fun t ht => ?_) (fun _ _ => rfl)⟩
  · show va_cpy (So.2.1 1) (D.2.1 1) 0 0 4 t = _
    rw [pk_cpy_in (by omega) (by omega), Nat.sub_zero, Nat.zero_add]
  · show va_cpy (So.2.1 2) (D.2.1 2) 0 0 4 t = _
    rw [pk_cpy_in (by omega) (by omega), Nat.sub_zero, Nat.zero_add]
  · show va_cpy (So.2.1 3) (D.2.1 3) 0 0 4 t = _
    rw [pk_cpy_in (by omega) (by omega), Nat.sub_zero, Nat.zero_add]
theorem vu_s {f : Nat → Bk} {k j : Nat} {v : Bk} (h : j = k) : va_up f k v j = v := if_pos h
theorem vu_n {f : Nat → Bk} {k j : Nat} {v : Bk} (h : j ≠ k) : va_up f k v j = f j := if_neg h
/-- what is remembered -/
theorem rm {nt nq nd : Nat} {wd : Nat → Nat → Nat} {Ss Sc Sm Sn : Bk} {ro : Nat} {Sp : Nat → Bk} (hnt : nt ≤ 4) (hs : SR nt nq nd wd Ss (Sm.2.1 7)) (ha : RA nt nq nd wd Sc ro Sp Sm) (q7 : Sn.2.1 7 = Sm.2.1 7) (q9 : Sn.2.1 9 = Sm.2.1 9) (qi : Sn.1 9 = Sm.1 9) : ∃ v u n', fX0_remember Sc ro Sp Ss = some v ∧ fX8_note Sn = some u ∧ u.1 = upd Sn.1 9 (nI n') ∧ u.2.2 = Sn.2.2 ∧ (∀ i, i ≠ 9 → u.2.1 i = Sn.2.1 i) ∧ ∀ X : Bk, X.1 9 = nI n' → X.2.1 9 = u.2.1 9 → RA nt nq nd wd v.1 v.2.1 v.2.2 X := by
  obtain ⟨n, hn, a1, a2, a3⟩ := ha
  obtain ⟨u, n', f1, f2, f3, f4, f5, f6⟩ := nt8 (S := Sn) hn (qi.trans a2)
  rw [q7, q9] at f6
  by_cases c : n = 14
  · subst c
    rw [if_pos rfl] at f2
    subst f2
    obtain ⟨cc, k1, k2⟩ := cf (nt := nt) (nq := nq) (nd := nd) (wd := wd) hnt (Sp (ro % 14)) Ss
    refine ⟨(bI Sc 0 14, ro + 1, va_up Sp (ro % 14) cc), u, 14, ?_, f1, f3, f4, f5, fun X x1 x2 => ⟨14, by omega, rfl, x1, fun i hi => ?_⟩⟩
    · unfold fX0_remember
      rw [if_pos (show Sc.1 0 = 14 from a1), k1, bd_some]
    · by_cases c2 : i = 13
      · subst c2
        show SR nt nq nd wd (va_up Sp (ro % 14) cc ((13 + (ro + 1)) % 14)) _
        rw [show va_up Sp (ro % 14) cc ((13 + (ro + 1)) % 14) = cc from vu_s (by omega)]
        refine sr_cg (k2 _ hs) hnt rfl rfl rfl rfl (fun _ _ => rfl) (fun _ _ => rfl) (fun _ _ => rfl) (fun j hj => ?_)
        show X.2.1 9 (16 * 13 + j) = _
        rw [x2, f6 13 j (by omega) hj, if_pos rfl]
      · show SR nt nq nd wd (va_up Sp (ro % 14) cc ((i + (ro + 1)) % 14)) _
        rw [show va_up Sp (ro % 14) cc ((i + (ro + 1)) % 14) = Sp ((i + (ro + 1)) % 14) from vu_n (by omega), show i + (ro + 1) = i + 1 + ro by omega]
        refine sr_cg (a3 (i + 1) (by omega)) hnt rfl rfl rfl rfl (fun _ _ => rfl) (fun _ _ => rfl) (fun _ _ => rfl) (fun j hj => ?_)
        show X.2.1 9 (16 * i + j) = _
        rw [x2, f6 i j (by omega) hj, if_neg (by omega), if_pos rfl]
  · rw [if_neg c] at f2
    subst f2
    obtain ⟨cc, k1, k2⟩ := cf (nt := nt) (nq := nq) (nd := nd) (wd := wd) hnt (Sp ((n + ro) % 14)) Ss
    refine ⟨(bI Sc 0 (nI (n + 1)), ro, va_up Sp ((n + ro) % 14) cc), u, n + 1, ?_, f1, f3, f4, f5, fun X x1 x2 => ⟨n + 1, by omega, rfl, x1, fun i hi => ?_⟩⟩
    · unfold fX0_remember
      rw [a1]
      simp (disch := omega) only [↓reduceIte, if_pos, if_neg, bd_some, nmV_e, inB_in, nI_cl, nI_leE, nI_ltE, nI_eqE, nI_add, pk_mul, lit_e, in_0_1, in_0_2, in_0_4, in_0_9, in_1_9, in_1_6, in_1_30, in_0_255, nI_ti, bI_i, bI_r, bI_j, bW_i, bW_j, bA_i, bA_j, bO_i, bO_r, bO_j, bJ_i, bJ_r, bJ_j, k1]
    · by_cases c2 : i = n
      · subst c2
        show SR nt nq nd wd (va_up Sp ((i + ro) % 14) cc ((i + ro) % 14)) _
        rw [show va_up Sp ((i + ro) % 14) cc ((i + ro) % 14) = cc from vu_s rfl]
        refine sr_cg (k2 _ hs) hnt rfl rfl rfl rfl (fun _ _ => rfl) (fun _ _ => rfl) (fun _ _ => rfl) (fun j hj => ?_)
        show X.2.1 9 (16 * i + j) = _
        rw [x2, f6 i j (by omega) hj, if_pos rfl]
      · show SR nt nq nd wd (va_up Sp ((n + ro) % 14) cc ((i + ro) % 14)) _
        rw [show va_up Sp ((n + ro) % 14) cc ((i + ro) % 14) = Sp ((i + ro) % 14) from vu_n (by omega)]
        refine sr_cg (a3 i (by omega)) hnt rfl rfl rfl rfl (fun _ _ => rfl) (fun _ _ => rfl) (fun _ _ => rfl) (fun j hj => ?_)
        show X.2.1 9 (16 * i + j) = _
        rw [x2, f6 i j (by omega) hj, if_neg (by omega), if_neg c]
