theorem three_e : ∀ q, q < 5 → fX8_three (nI q) = some (nI (3 ^ q)) := by decide +kernel
theorem many_e : ∀ K, K < 16 → fX8_many (nI K) = some (nI (pc K)) := by decide +kernel
theorem p3 {q : Nat} (h : q ≤ 4) : 3 ^ q ≤ 81 := by
  have : 3 ^ q ≤ 3 ^ 4 := Nat.pow_le_pow_right (by omega) h
  omega
theorem kn_e {K O q : Nat} (hK : K < 16) (hO : O < 16) (hq : q < 4) : fX8_knows (nI (t3 K + t3 O)) (nI q) = some (nI (bi K q + bi O q)) := by
  have l1 := t3_l K hK
  have l2 := t3_l O hO
  have h1 := three_e q (by omega)
  have h2 := p3 (q := q) (by omega)
  have h3 : 0 < 3 ^ q := Nat.pow_pos (by omega)
  have hd : (t3 K + t3 O) / 3 ^ q ≤ t3 K + t3 O := Nat.div_le_self _ _
  unfold fX8_knows nzA
  rw [h1, bd_some, if_neg (nI_ne0 h3 (by omega)), nI_div (by omega) h3 (by omega), show (3 : Int32) = nI 3 from rfl, pk_rem (by omega) (by omega) (by omega), t3_d K hK O hO q hq]
theorem md_s : ∀ K, K < 16 → ∀ n, n < 4 → (if bi K n = 0 then K % 2 ^ n else K % 2 ^ n ||| 2 ^ n) = K % 2 ^ (n + 1) := by decide +kernel
theorem t3_s : ∀ K, K < 16 → ∀ n, n < 4 → t3 (K % 2 ^ (n + 1)) = t3 (K % 2 ^ n) + 3 ^ n * bi K n := by decide +kernel
theorem bo_1 : ∀ K, K < 16 → ∀ O, O < 16 → ∀ q, q < 4 → O &&& K = O → (bi K q + bi O q = 0 ↔ bi K q = 0) := by decide +kernel
/-- what stands ready for the reference -/
def MC (nt nq nd : Nat) (wd : Nat → Nat → Nat) (th : Nat → Nat) (won : Int) (kn dn : Nat) (Sm : Bk) : Prop := WB nt nq nd wd ∧ RWm nt nq nd wd Sm ∧ (∀ t, t < nt → Sm.2.1 7 t = nI (th t) ∧ th t ≤ 9) ∧ Sm.2.1 7 12 = nI kn ∧ kn < 2 ^ nq ∧ Sm.2.1 7 13 = nI dn ∧ dn < 2 ^ nd ∧ Sm.2.1 7 15 = zI won ∧ -36 ≤ won ∧ won ≤ 36
section
variable {nt nq nd : Nat} {wd : Nat → Nat → Nat} {th : Nat → Nat} {won : Int} {kn dn : Nat} {me : Bool} {bq on : Nat} {Sm S' : Bk}
theorem MC_cg (h : MC nt nq nd wd th won kn dn Sm) (h1 : S'.1 = Sm.1) (h2 : ∀ r, r ≠ 14 → r ≠ 15 → S'.2.1 r = Sm.2.1 r) : MC nt nq nd wd th won kn dn S' := by
  obtain ⟨hB, hwm, hs, k0, k1, k2, k3, k4, k5⟩ := h
  refine ⟨hB, rwm_cg hwm (by rw [h1]) (by rw [h1]) (by rw [h1]) (h2 1 (by omega) (by omega)) (h2 2 (by omega) (by omega)) (h2 3 (by omega) (by omega)), ?_, ?_, k1, ?_, k3, ?_, k5⟩ <;> rw [h2 7 (by omega) (by omega)]
  · exact hs
  · exact k0
  · exact k2
  · exact k4
theorem kb_e (h : MC nt nq nd wd th won kn dn Sm) {K O : Nat} (hK : K < 2 ^ nq) (hO : O < 16) (hs : O &&& K = O) : fX8_knownBy Sm (nI (t3 K + t3 O)) = some (nI K) := by
  obtain ⟨hB, hwm, -⟩ := h
  have hnq := hB.2.1
  have hp := p2 hnq
  have w2 := hwm.2.1
  unfold fX8_knownBy
  refine (lk2_run (f := sX8_knownBy_4 Sm (nI (t3 K + t3 O))) (fun n => nI (K % 2 ^ n)) (fun n => nI n) nq (r := some (nI K)) (fun k n hn => ?_) (fun k => ?_) 1000 (by omega) : lk2 (sX8_knownBy_4 Sm (nI (t3 K + t3 O))) 1000 (nI (K % 2 ^ 0)) (nI 0) = _) |> Eq.trans (by rw [Nat.pow_zero, Nat.mod_one]; rfl)
  · have e := kn_e (K := K) (O := O) (q := n) (by omega) hO (by omega)
    have b := bo_1 K (by omega) O hO n (by omega) hs
    have m := md_s K (by omega) n (by omega)
    have bk := bz K (by omega) n (by omega)
    have bo := bz O hO n (by omega)
    unfold sX8_knownBy_4 gX8_knownBy_28
    rw [w2, if_neg (nI_ge hn (by omega)), e, bd_some, ← m, nI_succ]
    by_cases c : bi K n = 0
    · rw [if_pos (show nI (bi K n + bi O n) = 0 by rw [b.mpr c]; rfl), if_pos c, show (0 : Int32) = nI 0 from rfl, or_0]
    · rw [if_neg (show ¬ nI (bi K n + bi O n) = 0 from nI_ne0 (by omega) (by omega)), if_neg c, shl1_e (by omega), fa_or]
  · unfold sX8_knownBy_4
    rw [w2, if_pos (nI_le (Nat.le_refl nq) (by omega)), Nat.mod_eq_of_lt hK]
theorem cn_e (h : MC nt nq nd wd th won kn dn Sm) (hon : on < 16) (hbit : ∀ q, q < nq → bi on q = if bi kn q = 1 then wd 11 q else 0) (hok : on &&& kn = on) : fX8_codeNow Sm = some (nI (t3 kn + t3 on)) := by
  obtain ⟨hB, hwm, hs, k0, k1, -⟩ := h
  have hnq := hB.2.1
  have hp := p2 hnq
  have w2 := hwm.2.1
  have hon2 : on < 2 ^ nq := Nat.lt_of_le_of_lt (by rw [← hok]; exact Nat.and_le_right) k1
  unfold fX8_codeNow
  refine (lk2_run (f := sX8_codeNow_4 Sm) (fun n => nI (t3 (kn % 2 ^ n) + t3 (on % 2 ^ n))) (fun n => nI n) nq (r := some (nI (t3 kn + t3 on))) (fun k n hn => ?_) (fun k => ?_) 1000 (by omega) : lk2 (sX8_codeNow_4 Sm) 1000 (nI (t3 (kn % 2 ^ 0) + t3 (on % 2 ^ 0))) (nI 0) = _) |> Eq.trans (by rw [Nat.pow_zero, Nat.mod_one, Nat.mod_one]; rfl)
  · have e := has8 (kn := kn) (j := n) (by omega) (by omega)
    have s1 := t3_s kn (by omega) n (by omega)
    have s2 := t3_s on hon n (by omega)
    have hb := hbit n hn
    have t := three_e n (by omega)
    have p := p3 (q := n) (by omega)
    obtain ⟨m0, m1, m2, m3⟩ := hwm.2.2.2.2.1 n hn
    obtain ⟨b0, b1, b2, b3, b4⟩ := hB.2.2.2.2.1 n hn
    have l1 := t3_l (kn % 2 ^ n) (by have := Nat.mod_le kn (2 ^ n); omega)
    have l2 := t3_l (on % 2 ^ n) (by have := Nat.mod_le on (2 ^ n); omega)
    show _ = k (nI (t3 (kn % 2 ^ (n + 1)) + t3 (on % 2 ^ (n + 1)))) (nI (n + 1))
    rw [s1, s2, hb]
    unfold sX8_codeNow_4 gX8_codeNow_48
    by_cases c : bi kn n = 1
    · have c' : kn / 2 ^ n % 2 = 1 := c
      rw [if_pos c, c]
      rcases (show wd 11 n = 0 ∨ wd 11 n = 1 by omega) with q | q
      · simp (disch := omega) only [↓reduceIte, if_pos, if_neg, bd_some, nmV_e, inB_in, nI_cl, nI_leE, nI_ltE, nI_eqE, nI_add, pk_mul, lit_e, in_0_1, in_0_2, in_0_4, in_0_9, in_1_9, in_1_6, in_1_30, in_0_255, nI_ti, bI_i, bI_r, bI_j, bW_i, bW_j, bA_i, bA_j, bO_i, bO_r, bO_j, bJ_i, bJ_r, bJ_j, w2, k0, e, t, m2, q]
        rw [show t3 (kn % 2 ^ n) + t3 (on % 2 ^ n) + 3 ^ n * (1 + 0) = t3 (kn % 2 ^ n) + 3 ^ n * 1 + (t3 (on % 2 ^ n) + 3 ^ n * 0) by omega]
      · simp (disch := omega) only [↓reduceIte, if_pos, if_neg, bd_some, nmV_e, inB_in, nI_cl, nI_leE, nI_ltE, nI_eqE, nI_add, pk_mul, lit_e, in_0_1, in_0_2, in_0_4, in_0_9, in_1_9, in_1_6, in_1_30, in_0_255, nI_ti, bI_i, bI_r, bI_j, bW_i, bW_j, bA_i, bA_j, bO_i, bO_r, bO_j, bJ_i, bJ_r, bJ_j, w2, k0, e, t, m2, q]
        rw [show t3 (kn % 2 ^ n) + t3 (on % 2 ^ n) + 3 ^ n * (1 + 1) = t3 (kn % 2 ^ n) + 3 ^ n * 1 + (t3 (on % 2 ^ n) + 3 ^ n * 1) by omega]
    · have c0 : bi kn n = 0 := (bz kn (by omega) n (by omega)).resolve_right c
      have c' : kn / 2 ^ n % 2 = 0 := c0
      rw [if_neg c, c0, Nat.mul_zero, Nat.add_zero, Nat.add_zero]
      simp (disch := omega) only [↓reduceIte, if_pos, if_neg, bd_some, nmV_e, inB_in, nI_cl, nI_leE, nI_ltE, nI_eqE, nI_add, pk_mul, lit_e, in_0_1, in_0_2, in_0_4, in_0_9, in_1_9, in_1_6, in_1_30, in_0_255, nI_ti, bI_i, bI_r, bI_j, bW_i, bW_j, bA_i, bA_j, bO_i, bO_r, bO_j, bJ_i, bJ_r, bJ_j, w2, k0, e, Nat.add_zero]
  · unfold sX8_codeNow_4
    rw [w2, if_pos (nI_le (Nat.le_refl nq) (by omega)), Nat.mod_eq_of_lt k1, Nat.mod_eq_of_lt hon2]
/-- what is there -/
theorem lt_e (h : MC nt nq nd wd th won kn dn Sm) {K O D : Nat} (hK : K < 2 ^ nq) (hO : O < 16) (hs : O &&& K = O) (hD : D < 16) : ∃ S', S'.1 = Sm.1 ∧ S'.2.2 = Sm.2.2 ∧ (∀ r, r ≠ 15 → S'.2.1 r = Sm.2.1 r) ∧ (∀ t, t < nt → S'.2.1 15 t = zI (lf nq nd wd th (dx K kn) (dx D dn) t)) ∧ fX8_layThere Sm (nI (t3 K + t3 O)) (nI D) = some S' := by
  have h0 := h
  obtain ⟨hB, hwm, hs7, k0, k1, k2, k3, k4, k5, k6⟩ := h
  have hnt := hB.1
  have hnq := hB.2.1
  have hnd := hB.2.2.1
  have hp := p2 hnq
  have hp2 := p2 hnd
  have w2 := hwm.2.1
  have w3 := hwm.2.2.1
  have xl := dx_l (show K < 16 by omega) (show kn < 16 by omega)
  have yl := dx_l hD (show dn < 16 by omega)
  have ex : nI K &&& (nI kn ^^^ (-1 : Int32)) = nI (dx K kn) := an_e K (by omega) kn (by omega)
  have ey : nI D &&& (nI dn ^^^ -nI 1) = nI (dx D dn) := an_e D hD dn (by omega)
  obtain ⟨a1, a2, A, ⟨f1, f2, f3, f4, f5, f6⟩, hA⟩ := lk3_inv (f := sX8_layThere_19 (nI (t3 K + t3 O)) (nI D)) (fun n a1 a2 S' => a1 = nI (dx K kn) ∧ a2 = nI n ∧ S'.1 = Sm.1 ∧ S'.2.2 = Sm.2.2 ∧ (∀ r, r ≠ 15 → S'.2.1 r = Sm.2.1 r) ∧ ∀ t, t < n → S'.2.1 15 t = Sm.2.1 7 t) 4 (fun n a1 a2 S' hn hI => by
    obtain ⟨f1, f2, f3, f4, f5, f6⟩ := hI
    subst f1 f2
    have e7 := f5 7 (by omega)
    refine ⟨nI (dx K kn), nI (n + 1), bW S' 15 n (Sm.2.1 7 n), fun k => ?_, rfl, rfl, f3, f4, fun r hr => (if_neg hr).trans (f5 r hr), fun t ht => ?_⟩
    · unfold sX8_layThere_19
      simp (disch := omega) only [↓reduceIte, if_pos, if_neg, bd_some, nmV_e, inB_in, nI_cl, nI_leE, nI_ltE, nI_eqE, nI_add, pk_mul, lit_e, in_0_1, in_0_2, in_0_4, in_0_9, in_1_9, in_1_6, in_1_30, in_0_255, nI_ti, bI_i, bI_r, bI_j, bW_i, bW_j, bA_i, bA_j, bO_i, bO_r, bO_j, bJ_i, bJ_r, bJ_j, e7]
    · show (if t = n then Sm.2.1 7 n else S'.2.1 15 t) = _
      by_cases c : t = n
      · rw [if_pos c, c]
      · rw [if_neg c]; exact f6 t (by omega)) (nI (dx K kn)) (nI 0) Sm ⟨rfl, rfl, rfl, rfl, fun _ _ => rfl, fun t ht => absurd ht (by omega)⟩
  obtain ⟨b1, b2, B, ⟨g1, g2, g3, g4, g5, g6⟩, hBB⟩ := lk3_inv (f := sX8_layThere_48 (nI (t3 K + t3 O)) (nI D)) (fun n a1 a2 S' => a1 = nI (dx K kn) ∧ a2 = nI n ∧ S'.1 = Sm.1 ∧ S'.2.2 = Sm.2.2 ∧ (∀ r, r ≠ 15 → S'.2.1 r = Sm.2.1 r) ∧ ∀ t, t < nt → S'.2.1 15 t = zI (th t - lfq wd (dx K kn) t n)) nq (fun n a1 a2 S' hn hI => by
    obtain ⟨g1, g2, g3, g4, g5, g6⟩ := hI
    subst g1 g2
    obtain ⟨b0, b1, b2, b3, b4⟩ := hB.2.2.2.2.1 n hn
    obtain ⟨m0, m1, m2, m3⟩ := hwm.2.2.2.2.1 n hn
    have q3 := g6 (wd 3 n) b0
    have e2 := g5 2 (by omega)
    have e := has8 (kn := dx K kn) (j := n) (by omega) (by omega)
    have w2' : S'.1 4 = nI nq := by rw [g3]; exact w2
    obtain ⟨δ, hδ⟩ : ∃ δ : Nat, δ = if bi (dx K kn) n = 1 then wd 4 n else 0 := ⟨_, rfl⟩
    refine ⟨nI (dx K kn), nI (n + 1), bW S' 15 (wd 3 n) (zI (th (wd 3 n) - lfq wd (dx K kn) (wd 3 n) n) - nI δ), fun k => ?_, rfl, rfl, g3, g4, fun r hr => (if_neg hr).trans (g5 r hr), fun t ht => ?_⟩
    · unfold sX8_layThere_48 gX8_layThere_96
      by_cases c : bi (dx K kn) n = 1
      · have c' : dx K kn / 2 ^ n % 2 = 1 := c
        rw [if_pos c] at hδ
        subst hδ
        simp (disch := omega) only [↓reduceIte, if_pos, if_neg, bd_some, nmV_e, inB_in, nI_cl, nI_leE, nI_ltE, nI_eqE, nI_add, pk_mul, lit_e, in_0_1, in_0_2, in_0_4, in_0_9, in_1_9, in_1_6, in_1_30, in_0_255, nI_ti, bI_i, bI_r, bI_j, bW_i, bW_j, bA_i, bA_j, bO_i, bO_r, bO_j, bJ_i, bJ_r, bJ_j, w2', e2, m0, m1, e, q3]
      · have c' : dx K kn / 2 ^ n % 2 = 0 := (bz _ xl n (by omega)).resolve_right c
        rw [if_neg c] at hδ
        subst hδ
        simp (disch := omega) only [↓reduceIte, if_pos, if_neg, bd_some, nmV_e, inB_in, nI_cl, nI_leE, nI_ltE, nI_eqE, nI_add, pk_mul, lit_e, in_0_1, in_0_2, in_0_4, in_0_9, in_1_9, in_1_6, in_1_30, in_0_255, nI_ti, bI_i, bI_r, bI_j, bW_i, bW_j, bA_i, bA_j, bO_i, bO_r, bO_j, bJ_i, bJ_r, bJ_j, w2', e2, m0, m1, e, q3]
    · have er : (bW S' 15 (wd 3 n) (zI (th (wd 3 n) - lfq wd (dx K kn) (wd 3 n) n) - nI δ)).2.1 15 t = if t = wd 3 n then zI (th (wd 3 n) - lfq wd (dx K kn) (wd 3 n) n) - nI δ else S'.2.1 15 t := rfl
      rw [er]
      show _ = zI (th t - (lfq wd (dx K kn) t n + if bi (dx K kn) n = 1 ∧ wd 3 n = t then (wd 4 n : Int) else 0))
      by_cases c2 : t = wd 3 n
      · subst c2
        rw [if_pos rfl, zI_n, zI_sub, hδ]
        by_cases c : bi (dx K kn) n = 1
        · rw [if_pos c, if_pos ⟨c, rfl⟩]; congr 1; omega
        · rw [if_neg c, if_neg (fun z => c z.1)]; congr 1; omega
      · rw [if_neg c2, if_neg (fun q => c2 q.2.symm), g6 t ht]
        congr 1; omega) (nI (dx K kn)) (nI 0) A ⟨rfl, rfl, f3, f4, f5, fun t ht => by rw [f6 t (by omega), (hs7 t ht).1]; show zI (th t : Int) = zI (th t - 0); rw [Int.sub_zero]⟩
  obtain ⟨c1, C, ⟨i2, i3, i4, i5, i6⟩, hCC⟩ := lk2_inv (f := sX8_layThere_107 (nI (t3 K + t3 O)) (nI D)) (fun n a2 S' => a2 = nI n ∧ S'.1 = Sm.1 ∧ S'.2.2 = Sm.2.2 ∧ (∀ r, r ≠ 15 → S'.2.1 r = Sm.2.1 r) ∧ ∀ t, t < nt → S'.2.1 15 t = zI (th t - lfq wd (dx K kn) t nq - lfd wd (dx D dn) t n)) nd (fun n a2 S' hn hI => by
    obtain ⟨g2, g3, g4, g5, g6⟩ := hI
    subst g2
    obtain ⟨b0, b1, b2, b3, b4⟩ := hB.2.2.2.2.2 n hn
    obtain ⟨m0, m1, m2, m3, m4⟩ := hwm.2.2.2.2.2 n hn
    have q3 := g6 (wd 9 n) b3
    have e3 := g5 3 (by omega)
    have e7 := g5 7 (by omega)
    have e := has8 (kn := dx D dn) (j := n) (by omega) (by omega)
    have w3' : S'.1 5 = nI nd := by rw [g3]; exact w3
    obtain ⟨δ, hδ⟩ : ∃ δ : Nat, δ = if bi (dx D dn) n = 1 then wd 10 n else 0 := ⟨_, rfl⟩
    refine ⟨nI (n + 1), bW S' 15 (wd 9 n) (zI (th (wd 9 n) - lfq wd (dx K kn) (wd 9 n) nq - lfd wd (dx D dn) (wd 9 n) n) - nI δ), fun k => ?_, rfl, g3, g4, fun r hr => (if_neg hr).trans (g5 r hr), fun t ht => ?_⟩
    · unfold sX8_layThere_107 gX8_layThere_167
      by_cases c : bi (dx D dn) n = 1
      · have c' : dx D dn / 2 ^ n % 2 = 1 := c
        rw [if_pos c] at hδ
        subst hδ
        simp (disch := omega) only [↓reduceIte, if_pos, if_neg, bd_some, nmV_e, inB_in, nI_cl, nI_leE, nI_ltE, nI_eqE, nI_add, pk_mul, lit_e, in_0_1, in_0_2, in_0_4, in_0_9, in_1_9, in_1_6, in_1_30, in_0_255, nI_ti, bI_i, bI_r, bI_j, bW_i, bW_j, bA_i, bA_j, bO_i, bO_r, bO_j, bJ_i, bJ_r, bJ_j, w3', e3, e7, k2, ey, m3, m4, e, q3]
      · have c' : dx D dn / 2 ^ n % 2 = 0 := (bz _ yl n (by omega)).resolve_right c
        rw [if_neg c] at hδ
        subst hδ
        simp (disch := omega) only [↓reduceIte, if_pos, if_neg, bd_some, nmV_e, inB_in, nI_cl, nI_leE, nI_ltE, nI_eqE, nI_add, pk_mul, lit_e, in_0_1, in_0_2, in_0_4, in_0_9, in_1_9, in_1_6, in_1_30, in_0_255, nI_ti, bI_i, bI_r, bI_j, bW_i, bW_j, bA_i, bA_j, bO_i, bO_r, bO_j, bJ_i, bJ_r, bJ_j, w3', e3, e7, k2, ey, m3, m4, e, q3]
    · have er : (bW S' 15 (wd 9 n) (zI (th (wd 9 n) - lfq wd (dx K kn) (wd 9 n) nq - lfd wd (dx D dn) (wd 9 n) n) - nI δ)).2.1 15 t = if t = wd 9 n then zI (th (wd 9 n) - lfq wd (dx K kn) (wd 9 n) nq - lfd wd (dx D dn) (wd 9 n) n) - nI δ else S'.2.1 15 t := rfl
      rw [er]
      show _ = zI (th t - lfq wd (dx K kn) t nq - (lfd wd (dx D dn) t n + if bi (dx D dn) n = 1 ∧ wd 9 n = t then (wd 10 n : Int) else 0))
      by_cases c2 : t = wd 9 n
      · subst c2
        rw [if_pos rfl, zI_n, zI_sub, hδ]
        by_cases c : bi (dx D dn) n = 1
        · rw [if_pos c, if_pos ⟨c, rfl⟩]; congr 1; omega
        · rw [if_neg c, if_neg (fun z => c z.1)]; congr 1; omega
      · rw [if_neg c2, if_neg (fun q => c2 q.2.symm), g6 t ht]
        congr 1; omega) (nI 0) B ⟨rfl, g3, g4, g5, fun t ht => by rw [g6 t ht]; show _ = zI (th t - lfq wd (dx K kn) t nq - 0); rw [Int.sub_zero]⟩
  refine ⟨C, i3, i4, i5, i6, ?_⟩
  obtain ⟨ka, hka⟩ := hA 1000 (by omega)
  obtain ⟨kb, hkb⟩ := hBB 1000 (by omega)
  obtain ⟨kc, hkc⟩ := hCC 1000 (by omega)
  unfold fX8_layThere
  rw [kb_e h0 hK hO hs, bd_some]
  show inB 16 (nI 12) (lk3 (sX8_layThere_19 (nI (t3 K + t3 O)) (nI D)) 1000 (nI K &&& (Sm.2.1 7 (nI 12).toNatClampNeg ^^^ (-1 : Int32))) (nI 0) Sm) = some C
  rw [inB_in (n := 16) (i := 12) (by omega) (by omega), nI_cl (n := 12) (by omega), k0, ex]
  refine hka.trans ?_
  subst f1 f2
  unfold sX8_layThere_19
  rw [if_pos (show (4 : Int32) ≤ nI 4 from nI_le (Nat.le_refl 4) (by omega))]
  refine hkb.trans ?_
  subst g1 g2
  unfold sX8_layThere_48
  rw [g3, w2, if_pos (nI_le (Nat.le_refl nq) (by omega))]
  refine hkc.trans ?_
  subst i2
  unfold sX8_layThere_107
  rw [i3, w3, if_pos (nI_le (Nat.le_refl nd) (by omega))]
end
