theorem zI_pos (n : Nat) : zI (n : Int) = nI n := rfl
section
variable {nt nq nd : Nat} {wd : Nat → Nat → Nat} {th : Nat → Nat} {won : Int} {kn dn : Nat} {me : Bool} {bq : Nat} {Sw Ss Sr Sm : Bk}
theorem wS_z (hB : WB nt nq nd wd) {P : Nat → Int32} {l : Nat → Int} : ∀ {n : Nat}, n ≤ nt → (∀ t, t < n → P t = zI (l t) ∧ -1000 ≤ l t ∧ l t ≤ 1000) → wS wd P n = zI (wI wd l n)
  | 0, _, _ => rfl
  | n + 1, hn, h => by
    obtain ⟨h1, h2, h3⟩ := h n (by omega)
    obtain ⟨b0, b1, b2, b3⟩ := hB.2.2.2.1 n (by omega)
    have i := wS_z hB (P := P) (l := l) (n := n) (by omega) (fun t ht => h t (by omega))
    have e : (P n < nI (wd 0 n)) = (l n < (wd 0 n : Int)) := by
      rw [h1, zI_n, zI_lt (by omega) (by omega) (by omega) (by omega)]
    show wS wd P n + (if wd 2 n = 3 ∧ P n < nI (wd 0 n) then 0 else P n * nI (wd 1 n)) = zI (wI wd l n + if wd 2 n = 3 ∧ l n < (wd 0 n : Int) then 0 else l n * (wd 1 n : Int))
    rw [i]
    by_cases c : wd 2 n = 3 ∧ l n < (wd 0 n : Int)
    · rw [if_pos c, if_pos (by rw [e]; exact c), ← zI_add]; rfl
    · rw [if_neg c, if_neg (by rw [e]; exact c), ← zI_add, ← zI_mul, h1]; rfl
theorem in3_e : ∀ K, K < 16 → in3 K = nI (t3 K) := by decide +kernel
theorem an15 : ∀ K, K < 16 → nI K &&& nI 15 = nI K := by decide +kernel
theorem and16 : ∀ a, a < 16 → ∀ b, b < 16 → a &&& b < 16 := by decide +kernel
theorem place_e {K O D : Nat} (hK : K < 16) (hO : O < 16) (hD : D < 16) (hs : O &&& K = O) : fX5_place (nI K) (nI O) (nI D) = some (nI ((t3 K + t3 O) * 16 + D)) := by
  have e1 := an15 K hK
  have e2 := an15 O hO
  have e3 := an15 D hD
  have e4 : nI O &&& nI K = nI O := by rw [fa_and, hs]
  have i1 := in3_e K hK
  have i2 := in3_e O hO
  unfold fX5_place
  rw [show (15 : Int32) = nI 15 from rfl, e4, e1, e2, e3]
  simp (disch := omega) only [↓reduceIte, if_pos, if_neg, bd_some, nmV_e, inB_in, nI_cl, nI_leE, nI_ltE, nI_eqE, nI_add, pk_mul, lit_e, in_0_1, in_0_2, in_0_4, in_0_9, in_1_9, in_1_6, in_1_30, in_0_255, nI_ti, bI_i, bI_r, bI_j, bW_i, bW_j, bA_i, bA_j, bO_i, bO_r, bO_j, bJ_i, bJ_r, bJ_j, i1, i2]
/-- what stands ready for the class -/
def CC (nt nq nd : Nat) (wd : Nat → Nat → Nat) (th : Nat → Nat) (won : Int) (kn dn : Nat) (Sw Ss : Bk) : Prop := WB nt nq nd wd ∧ RWc nt nq nd wd Sw ∧ (∀ t, t < nt → Ss.2.1 1 t = nI (th t) ∧ th t ≤ 9) ∧ Ss.1 0 = nI kn ∧ kn < 2 ^ nq ∧ Ss.1 1 = nI dn ∧ dn < 2 ^ nd ∧ Ss.1 3 = zI won ∧ -36 ≤ won ∧ won ≤ 36
theorem lq27 (h : CC nt nq nd wd th won kn dn Sw Ss) {x y : Nat} (hx : x < 16) (hl : ∀ t, t < nt → Sr.2.1 3 t = nI (th t)) : ∃ S', Sr.1 = S'.1 ∧ (∀ r, r ≠ 3 → S'.2.1 r = Sr.2.1 r) ∧ (∀ t, t < nt → S'.2.1 3 t = zI (th t - lfq wd x t nq)) ∧ lk2 (sX5_layOut_27 Sw Ss (nI x) (nI y)) 1000 (nI 0) Sr = lk2 (sX5_layOut_81 Sw Ss (nI x) (nI y)) 1000 (nI 0) S' := by
  obtain ⟨hB, hwc, -⟩ := h
  have hnt := hB.1
  have hnq := hB.2.1
  have w1 := hwc.2.1
  obtain ⟨a, S', ⟨e1, e2, e3, e4⟩, hF⟩ := lk2_inv (f := sX5_layOut_27 Sw Ss (nI x) (nI y)) (fun n a S' => a = nI n ∧ Sr.1 = S'.1 ∧ (∀ r, r ≠ 3 → S'.2.1 r = Sr.2.1 r) ∧ ∀ t, t < nt → S'.2.1 3 t = zI (th t - lfq wd x t n)) nq (fun n a S' hn hI => by
    obtain ⟨e1, e2, e3, e4⟩ := hI
    subst e1
    obtain ⟨b0, b1, b2, b3, b4⟩ := hB.2.2.2.2.1 n hn
    obtain ⟨g0, g1, g2⟩ := hwc.2.2.2.2.1 n hn
    have q3 := e4 (wd 3 n) b0
    by_cases c : bi x n = 1
    · have c' : x / 2 ^ n % 2 = 1 := c
      refine ⟨nI (n + 1), bW S' 3 (wd 3 n) (zI (th (wd 3 n) - lfq wd x (wd 3 n) n) - nI (wd 4 n)), fun k => ?_, rfl, e2, fun r hr => (if_neg hr).trans (e3 r hr), fun t ht => ?_⟩
      · unfold sX5_layOut_27 gX5_layOut_73
        simp (disch := omega) only [↓reduceIte, if_pos, if_neg, bd_some, nmV_e, inB_in, nI_cl, nI_leE, nI_ltE, nI_eqE, nI_add, pk_mul, lit_e, in_0_1, in_0_2, in_0_4, in_0_9, in_1_9, in_1_6, in_1_30, in_0_255, nI_ti, bI_i, bI_r, bI_j, bW_i, bW_j, bA_i, bA_j, bO_i, bO_r, bO_j, bJ_i, bJ_r, bJ_j, w1, bit_n, g0, g1, q3]
      · have er : (bW S' 3 (wd 3 n) (zI (th (wd 3 n) - lfq wd x (wd 3 n) n) - nI (wd 4 n))).2.1 3 t = if t = wd 3 n then zI (th (wd 3 n) - lfq wd x (wd 3 n) n) - nI (wd 4 n) else S'.2.1 3 t := rfl
        rw [er]
        show _ = zI (th t - (lfq wd x t n + if bi x n = 1 ∧ wd 3 n = t then (wd 4 n : Int) else 0))
        by_cases c2 : t = wd 3 n
        · subst c2
          rw [if_pos rfl, if_pos ⟨c, rfl⟩, zI_n, zI_sub]
          congr 1; omega
        · rw [if_neg c2, if_neg (fun q => c2 q.2.symm), e4 t ht]
          congr 1; omega
    · have c' : ¬ x / 2 ^ n % 2 = 1 := c
      refine ⟨nI (n + 1), S', fun k => ?_, rfl, e2, e3, fun t ht => ?_⟩
      · unfold sX5_layOut_27 gX5_layOut_73
        simp (disch := omega) only [↓reduceIte, if_pos, if_neg, bd_some, nmV_e, inB_in, nI_cl, nI_leE, nI_ltE, nI_eqE, nI_add, pk_mul, lit_e, in_0_1, in_0_2, in_0_4, in_0_9, in_1_9, in_1_6, in_1_30, in_0_255, nI_ti, bI_i, bI_r, bI_j, bW_i, bW_j, bA_i, bA_j, bO_i, bO_r, bO_j, bJ_i, bJ_r, bJ_j, w1, bit_n]
      · show _ = zI (th t - (lfq wd x t n + if bi x n = 1 ∧ wd 3 n = t then (wd 4 n : Int) else 0))
        rw [if_neg (fun q => c q.1), e4 t ht]
        congr 1; omega) (nI 0) Sr ⟨rfl, rfl, fun _ _ => rfl, fun t ht => (hl t ht).trans (by show zI (th t : Int) = zI (th t - 0); rw [Int.sub_zero])⟩
  obtain ⟨k, hk⟩ := hF 1000 (by omega)
  refine ⟨S', e2, e3, e4, hk.trans ?_⟩
  subst e1
  unfold sX5_layOut_27
  rw [w1, if_pos (nI_le (Nat.le_refl nq) (by omega))]
  rfl
theorem sg_e (hB : WB nt nq nd wd) (hwc : RWc nt nq nd wd Sw) {d : Nat} (hd : d < nd) : fX6_swing Sw (nI d) = some (zI (sg wd d)) := by
  have hnd := hB.2.2.1
  obtain ⟨b0, b1, b2, b3, b4⟩ := hB.2.2.2.2.2 d hd
  obtain ⟨g0, g1, g2, g3, g4⟩ := hwc.2.2.2.2.2.1 d hd
  unfold fX6_swing sg
  by_cases c : wd 7 d = 1
  · simp (disch := omega) only [↓reduceIte, if_pos, if_neg, bd_some, nmV_e, inB_in, nI_cl, nI_leE, nI_ltE, nI_eqE, nI_add, pk_mul, lit_e, in_0_1, in_0_2, in_0_4, in_0_9, in_1_9, in_1_6, in_1_30, in_0_255, nI_ti, bI_i, bI_r, bI_j, bW_i, bW_j, bA_i, bA_j, bO_i, bO_r, bO_j, bJ_i, bJ_r, bJ_j, g1, g2]
    rw [zI_n]
  · simp (disch := omega) only [↓reduceIte, if_pos, if_neg, bd_some, nmV_e, inB_in, nI_cl, nI_leE, nI_ltE, nI_eqE, nI_add, pk_mul, lit_e, in_0_1, in_0_2, in_0_4, in_0_9, in_1_9, in_1_6, in_1_30, in_0_255, nI_ti, bI_i, bI_r, bI_j, bW_i, bW_j, bA_i, bA_j, bO_i, bO_r, bO_j, bJ_i, bJ_r, bJ_j, g1, g2]
    rw [zI_n, zI_neg]
theorem ld81 (h : CC nt nq nd wd th won kn dn Sw Ss) {x y : Nat} {l0 : Nat → Int} (hy : y < 16) (hl : ∀ t, t < nt → Sr.2.1 3 t = zI (l0 t)) (h4 : ∀ q, q < nq → Sr.2.1 4 q = zI 0) : ∃ S', Sr.1 = S'.1 ∧ (∀ r, r ≠ 3 → r ≠ 4 → S'.2.1 r = Sr.2.1 r) ∧ (∀ t, t < nt → S'.2.1 3 t = zI (l0 t - lfd wd y t nd)) ∧ (∀ q, q < nq → S'.2.1 4 q = zI (sw wd y q nd)) ∧ lk2 (sX5_layOut_81 Sw Ss (nI x) (nI y)) 1000 (nI 0) Sr = lk2 (sX5_layOut_160 Sw Ss (nI x) (nI y)) 1000 (nI 0) S' := by
  obtain ⟨hB, hwc, -⟩ := h
  have hnt := hB.1
  have hnq := hB.2.1
  have hnd := hB.2.2.1
  have w1 := hwc.2.2.1
  obtain ⟨a, S', ⟨e1, e2, e3, e4, e5⟩, hF⟩ := lk2_inv (f := sX5_layOut_81 Sw Ss (nI x) (nI y)) (fun n a S' => a = nI n ∧ Sr.1 = S'.1 ∧ (∀ r, r ≠ 3 → r ≠ 4 → S'.2.1 r = Sr.2.1 r) ∧ (∀ t, t < nt → S'.2.1 3 t = zI (l0 t - lfd wd y t n)) ∧ ∀ q, q < nq → S'.2.1 4 q = zI (sw wd y q n)) nd (fun n a S' hn hI => by
    obtain ⟨e1, e2, e3, e4, e5⟩ := hI
    subst e1
    obtain ⟨b0, b1, b2, b3, b4⟩ := hB.2.2.2.2.2 n hn
    obtain ⟨g0, g1, g2, g3, g4⟩ := hwc.2.2.2.2.2.1 n hn
    have q3 := e4 (wd 9 n) b3
    have q4 := e5 (wd 6 n) b0
    have hsg := sg_e hB hwc hn
    by_cases c : bi y n = 1
    · have c' : y / 2 ^ n % 2 = 1 := c
      refine ⟨nI (n + 1), bW (bW S' 3 (wd 9 n) (zI (l0 (wd 9 n) - lfd wd y (wd 9 n) n) - nI (wd 10 n))) 4 (wd 6 n) (zI (sw wd y (wd 6 n) n) + zI (sg wd n)), fun k => ?_, rfl, e2, fun r hr hr4 => (if_neg hr4).trans ((if_neg hr).trans (e3 r hr hr4)), fun t ht => ?_, fun q hq => ?_⟩
      · unfold sX5_layOut_81 gX5_layOut_152
        simp (disch := omega) only [↓reduceIte, if_pos, if_neg, bd_some, nmV_e, inB_in, nI_cl, nI_leE, nI_ltE, nI_eqE, nI_add, pk_mul, lit_e, in_0_1, in_0_2, in_0_4, in_0_9, in_1_9, in_1_6, in_1_30, in_0_255, nI_ti, bI_i, bI_r, bI_j, bW_i, bW_j, bA_i, bA_j, bO_i, bO_r, bO_j, bJ_i, bJ_r, bJ_j, w1, bit_n, g0, g3, g4, q3, q4, hsg]
      · have er : (bW (bW S' 3 (wd 9 n) (zI (l0 (wd 9 n) - lfd wd y (wd 9 n) n) - nI (wd 10 n))) 4 (wd 6 n) (zI (sw wd y (wd 6 n) n) + zI (sg wd n))).2.1 3 t = if t = wd 9 n then zI (l0 (wd 9 n) - lfd wd y (wd 9 n) n) - nI (wd 10 n) else S'.2.1 3 t := rfl
        rw [er]
        show _ = zI (l0 t - (lfd wd y t n + if bi y n = 1 ∧ wd 9 n = t then (wd 10 n : Int) else 0))
        by_cases c2 : t = wd 9 n
        · subst c2
          rw [if_pos rfl, if_pos ⟨c, rfl⟩, zI_n, zI_sub]
          congr 1; omega
        · rw [if_neg c2, if_neg (fun q => c2 q.2.symm), e4 t ht]
          congr 1; omega
      · have er : (bW (bW S' 3 (wd 9 n) (zI (l0 (wd 9 n) - lfd wd y (wd 9 n) n) - nI (wd 10 n))) 4 (wd 6 n) (zI (sw wd y (wd 6 n) n) + zI (sg wd n))).2.1 4 q = if q = wd 6 n then zI (sw wd y (wd 6 n) n) + zI (sg wd n) else S'.2.1 4 q := rfl
        rw [er]
        show _ = zI (sw wd y q n + if bi y n = 1 ∧ wd 6 n = q then sg wd n else 0)
        by_cases c2 : q = wd 6 n
        · subst c2
          rw [if_pos rfl, if_pos ⟨c, rfl⟩, zI_add]
        · rw [if_neg c2, if_neg (fun q => c2 q.2.symm), e5 q hq]
          congr 1; omega
    · have c' : ¬ y / 2 ^ n % 2 = 1 := c
      refine ⟨nI (n + 1), S', fun k => ?_, rfl, e2, e3, fun t ht => ?_, fun q hq => ?_⟩
      · unfold sX5_layOut_81 gX5_layOut_152
        simp (disch := omega) only [↓reduceIte, if_pos, if_neg, bd_some, nmV_e, inB_in, nI_cl, nI_leE, nI_ltE, nI_eqE, nI_add, pk_mul, lit_e, in_0_1, in_0_2, in_0_4, in_0_9, in_1_9, in_1_6, in_1_30, in_0_255, nI_ti, bI_i, bI_r, bI_j, bW_i, bW_j, bA_i, bA_j, bO_i, bO_r, bO_j, bJ_i, bJ_r, bJ_j, w1, bit_n]
      · show _ = zI (l0 t - (lfd wd y t n + if bi y n = 1 ∧ wd 9 n = t then (wd 10 n : Int) else 0))
        rw [if_neg (fun q => c q.1), e4 t ht]
        congr 1; omega
      · show _ = zI (sw wd y q n + if bi y n = 1 ∧ wd 6 n = q then sg wd n else 0)
        rw [if_neg (fun q => c q.1), e5 q hq]
        congr 1; omega) (nI 0) Sr ⟨rfl, rfl, fun _ _ _ => rfl, fun t ht => (hl t ht).trans (by show zI (l0 t) = zI (l0 t - 0); rw [Int.sub_zero]), fun q hq => h4 q hq⟩
  obtain ⟨k, hk⟩ := hF 1000 (by omega)
  refine ⟨S', e2, e3, e4, e5, hk.trans ?_⟩
  subst e1
  unfold sX5_layOut_81
  rw [w1, if_pos (nI_le (Nat.le_refl nd) (by omega))]
  rfl
/-- what is laid out -/
theorem lo7 (h : CC nt nq nd wd th won kn dn Sw Ss) {x y : Nat} (hx : x < 16) (hy : y < 16) : ∃ S' : Bk, S'.1 0 = Sr.1 0 ∧ S'.1 1 = Sr.1 1 ∧ (∀ r, r ≠ 3 → r ≠ 4 → S'.2.1 r = Sr.2.1 r) ∧ (∀ q, q < nq → S'.2.1 4 q = zI (sw wd y q nd)) ∧ ((rch nt nq nd wd th x y ∧ S'.1 2 = zI (bse nt nq nd wd th won x y) ∧ fX5_layOut Sw Ss Sr (nI x) (nI y) = some (nI 1, S')) ∨ (¬ rch nt nq nd wd th x y ∧ fX5_layOut Sw Ss Sr (nI x) (nI y) = some (nI 0, S'))) := by
  have h0 := h
  obtain ⟨hB, hwc, hs, k0, k1, k2, k3, k4, k5, k6⟩ := h
  have hnt := hB.1
  have hnq := hB.2.1
  have w1 := hwc.1
  obtain ⟨f4, a4, b4⟩ := fill4 (Sr.2.1 4)
  obtain ⟨A, A1, A2, A3, A4⟩ := lq27 (Sr := bA (bA Sr 3 (va_cpy (Ss.2.1 1) (Sr.2.1 3) 0 0 4)) 4 f4) (y := y) h0 hx (fun t ht => by
    show va_cpy (Ss.2.1 1) (Sr.2.1 3) 0 0 4 t = _
    rw [pk_cpy_in (by omega) (by omega), Nat.sub_zero, Nat.zero_add]
    exact (hs t ht).1)
  obtain ⟨C, C1, C2, C3, C4, C5⟩ := ld81 (Sr := A) (x := x) (y := y) (l0 := fun t => (th t : Int) - lfq wd x t nq) h0 hy A3 (fun q hq => by
    rw [A2 4 (by omega)]
    exact b4 q (by omega))
  have hlay : fX5_layOut Sw Ss Sr (nI x) (nI y) = lk2 (sX5_layOut_160 Sw Ss (nI x) (nI y)) 1000 (nI 0) C := by
    unfold fX5_layOut
    rw [show fJ7_fill_53178 (Sr.2.1 4) 4 0 = some f4 from a4, bd_some]
    exact A4.trans C5
  have hrow : ∀ r, r ≠ 3 → r ≠ 4 → C.2.1 r = Sr.2.1 r := fun r h3 h4 => by
    rw [C2 r h3 h4, A2 r h3]
    exact (if_neg h4).trans (if_neg h3)
  have hint : C.1 = Sr.1 := C1.symm.trans A1.symm
  have hlf : ∀ t, t < nt → C.2.1 3 t = zI (lf nq nd wd th x y t) := fun t ht => C3 t ht
  have hstep : ∀ (k) (t : Nat), t < nt → sX5_layOut_160 Sw Ss (nI x) (nI y) k (nI t) C = if 0 ≤ lf nq nd wd th x y t then k (nI (t + 1)) C else some (nI 0, C) := fun k t ht => by
    have hb := lf_b hB (fun t ht => (hs t ht).2) (x := x) (y := y) ht
    unfold sX5_layOut_160
    rw [w1, if_neg (nI_ge ht (by omega)), inB_in (show t < 4 by omega) (by omega), nI_cl (by omega), hlf t ht]
    have e : ((0 : Int32) ≤ zI (lf nq nd wd th x y t)) = (0 ≤ lf nq nd wd th x y t) := by
      rw [show (0 : Int32) = zI 0 from rfl, zI_le (by omega) (by omega) (by omega) (by omega)]
    by_cases c : 0 ≤ lf nq nd wd th x y t
    · rw [if_pos c, if_pos (by rw [e]; exact c), nI_succ]
    · rw [if_neg c, if_neg (by rw [e]; exact c)]; rfl
  by_cases c : rch nt nq nd wd th x y
  · have hw := wS_z hB (P := C.2.1 3) (l := lf nq nd wd th x y) (Nat.le_refl nt) (fun t ht => by
      have hb := lf_b hB (fun t ht => (hs t ht).2) (x := x) (y := y) ht
      exact ⟨hlf t ht, by omega, by omega⟩)
    have w6' := w6 hB hwc (np := 4) hnt (by omega) (C.2.1 3)
    refine ⟨bI C 2 (zI (bse nt nq nd wd th won x y)), ?_, ?_, hrow, C4, Or.inl ⟨c, rfl, hlay.trans ?_⟩⟩
    · show C.1 0 = _; rw [hint]
    · show C.1 1 = _; rw [hint]
    · refine lk2_run (fun t => nI t) (fun _ => C) nt (fun k t ht => ?_) (fun k => ?_) 1000 (by omega)
      · rw [hstep k t ht, if_pos (c t ht)]
      · unfold sX5_layOut_160 fX3_base
        rw [w1, if_pos (nI_le (Nat.le_refl nt) (by omega)), bd_some, w6', bd_some, nmV_e, hw, k4, show (1000 : Int32) = zI 1000 from rfl, zI_add, zI_add]
        rfl
  · refine ⟨C, ?_, ?_, hrow, C4, Or.inr ⟨c, hlay.trans ?_⟩⟩
    · rw [hint]
    · rw [hint]
    · have ex : ∃ t, t < nt ∧ ¬ 0 ≤ lf nq nd wd th x y t := by
        by_cases q : ∃ t, t < nt ∧ ¬ 0 ≤ lf nq nd wd th x y t
        · exact q
        · exact absurd (fun t ht => Int.not_lt.mp (fun hl => q ⟨t, ht, by omega⟩)) c
      obtain ⟨L, ⟨h1, h2⟩, h3⟩ := pk_least (fun t => t < nt ∧ ¬ 0 ≤ lf nq nd wd th x y t) ex
      refine lk2_run (fun t => nI t) (fun _ => C) L (fun k t ht => ?_) (fun k => ?_) 1000 (by omega)
      · have : 0 ≤ lf nq nd wd th x y t := by
          rcases Int.lt_or_le (lf nq nd wd th x y t) 0 with q | q
          · exact absurd ⟨by omega, by omega⟩ (h3 t ht)
          · exact q
        rw [hstep k t (by omega), if_pos this]
      · rw [hstep k L h1, if_neg h2]
end
