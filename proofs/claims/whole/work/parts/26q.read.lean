theorem nat_of {x : Int32} (h : 0 ≤ x.toInt) : x = nI x.toNatClampNeg ∧ (x.toNatClampNeg : Int) = x.toInt := by
  obtain ⟨j, hj, e⟩ := nI_of (x := x) (by rw [i32_lt]; show ¬ _ < (0 : Int); omega)
  subst e
  rw [nI_cl (by omega), nI_ti (by omega)]
  exact ⟨rfl, rfl⟩
section
variable {n L m ρ c cnt base i : Nat} {lo hi : Nat → Nat} {Sx Sw Sm : Bk} {x3 : Int32}
/-- one part is read by both -/
theorem rpart (hn : n ≤ 64) (hL : 0 < L ∧ L < 100) (hm1 : 1 ≤ m) (hm : m ≤ 5) (hi1 : 1 ≤ i) (hi2 : i < n) (hlo : ∀ k, k < m → fX6_lowest (nI L) (nI k) = some (nI (lo k)) ∧ lo k ≤ 9) (hhi : ∀ k, k < m → fX6_highest Sw (nI L) (nI k) = some (nI (hi k)) ∧ hi k ≤ 9) (hfo : fX6_figuresOf (nI L) = some (nI m)) (hmb : fX6_mayBegin Sw (nI L) = some (nI 1)) (hx : Sx.1 0 = nI n) (hs1 : Sm.1 1 = nI n) (hs2 : Sm.1 2 = nI i) (htx : ∀ j, j < n → Sx.2.1 0 j = Sm.2.1 0 j) (hl : Sm.2.1 0 i = nI L) (hP : PART n m ρ c cnt base lo hi Sm i) (hadd : ∀ (P : Nat → Int32) (g : Nat → Nat) (Sm' : Bk), (∀ k, k < m → P k = nI (g k) ∧ lo k ≤ g k ∧ g k ≤ hi k) → (∀ q, q ≠ 2 → q ≠ c → Sm'.1 q = Sm.1 q) → (∀ r, r ≠ ρ → Sm'.2.1 r = Sm.2.1 r) → (∀ x, x < base ∨ base + m ≤ x → Sm'.2.1 ρ x = Sm.2.1 ρ x) → Sm'.1 c = nI (cnt + 1) → (∀ k, k < m → Sm'.2.1 ρ (base + k) = nI (g k)) → ∃ u nt' nq' nd' wd', fX6_add Sw P 5 (nI L) = some u ∧ RD nt' nq' nd' wd' u Sm') (F7 F8 : Nat) (hF7 : m < F7) : ∃ Sx' Sm' : Bk, Sx'.1 = Sx.1 ∧ Sx'.2.1 0 = Sx.2.1 0 ∧ (∀ q, q ≠ 2 → q ≠ c → Sm'.1 q = Sm.1 q) ∧ (∀ r, r ≠ ρ → Sm'.2.1 r = Sm.2.1 r) ∧ Sm'.2.2 = Sm.2.2 ∧ ((∃ p, p ≤ n ∧ lk5 sX4_readInto_11 (F7 + 1) (nI 0) x3 (nI i) Sx Sw = some (nI p, Sx', Sw) ∧ lk1 sX8_readWell_45 (F8 + 1) Sm = some (nI p, Sm')) ∨ (i + 1 + m ≤ n ∧ Sm'.1 2 = nI (i + 1 + m) ∧ ∃ u nt' nq' nd' wd', RD nt' nq' nd' wd' u Sm' ∧ lk5 sX4_readInto_11 (F7 + 1) (nI 0) x3 (nI i) Sx Sw = lk5 sX4_readInto_11 (F7 - m) (nI 0) (nI m) (nI (i + 1 + m)) Sx' u ∧ lk1 sX8_readWell_45 (F8 + 1) Sm = lk1 sX8_readWell_45 F8 Sm')) := by
  obtain ⟨r, rfl⟩ : ∃ r, m = r + 1 := ⟨m - 1, by omega⟩
  have hlx : Sx.2.1 0 i = nI L := (htx i hi2).trans hl
  have st : lk5 sX4_readInto_11 (F7 + 1) (nI 0) x3 (nI i) Sx Sw = lk5 sX4_readInto_11 F7 (nI L) (nI 0) (nI (i + 1)) Sx Sw := by
    show sX4_readInto_11 (lk5 sX4_readInto_11 F7) (nI 0) x3 (nI i) Sx Sw = _
    generalize lk5 sX4_readInto_11 F7 = K
    unfold sX4_readInto_11 gX4_readInto_145
    simp (disch := omega) only [↓reduceIte, if_pos, if_neg, bd_some, nmV_e, inB_in, nI_cl, nI_leE, nI_ltE, nI_eqE, nI_add, pk_mul, lit_e, in_0_1, in_0_2, in_0_4, in_0_9, in_1_9, in_1_6, in_1_30, in_0_255, nI_ti, bI_i, bI_r, bI_j, bW_i, bW_j, bA_i, bA_j, bO_i, bO_r, bO_j, bJ_i, bJ_r, bJ_j, hx, hlx, hmb]
  obtain ⟨Sx', x1, x2, -, x4⟩ := cscan (Sw := Sw) hn hL hm hlo hhi hfo r 0 (i + 1) F7 Sx (by omega) (by omega) (by omega) hF7 hx
  rw [fl_cg htx] at x4
  obtain ⟨Sm', y1, y2, y3, y4, y5⟩ := hP
  have hrw : ∀ u : Int32 × Bk, fX8_readPart Sm = some u → lk1 sX8_readWell_45 (F8 + 1) Sm = if u.1 = 0 then some (u.2.1 2, u.2) else lk1 sX8_readWell_45 F8 u.2 := fun u hu => by
    show sX8_readWell_45 (lk1 sX8_readWell_45 F8) Sm = _
    generalize lk1 sX8_readWell_45 F8 = K
    unfold sX8_readWell_45
    rw [if_neg (show ¬ Sm.1 1 ≤ Sm.1 2 by rw [hs1, hs2]; exact nI_ge hi2 (by omega)), hu, bd_some]
  refine ⟨Sx', Sm', x1, x2, y1, y2, y3, ?_⟩
  rcases x4 with ⟨p, z1, z2⟩ | ⟨z1, z2, z3⟩
  · rcases y5 with ⟨p', w1, w2, w3⟩ | ⟨w1, -⟩
    · rw [z1] at w1
      have e : p = p' := Option.some.inj w1
      subst e
      refine Or.inl ⟨p, (fl_s (by omega) z1).2, st.trans z2, (hrw _ w2).trans ?_⟩
      rw [if_pos (show nI 0 = 0 from rfl), w3]
    · rw [z1] at w1
      cases w1
  · rcases y5 with ⟨p', w1, -⟩ | ⟨-, w2, w3, w4, w5⟩
    · rw [z1] at w1
      cases w1
    · have fn := fl_n z1
      have hv : ∀ k, k < r + 1 → Sm.2.1 0 (i + 1 + k) - nI 48 = nI (Sm.2.1 0 (i + 1 + k) - nI 48).toNatClampNeg ∧ lo k ≤ (Sm.2.1 0 (i + 1 + k) - nI 48).toNatClampNeg ∧ (Sm.2.1 0 (i + 1 + k) - nI 48).toNatClampNeg ≤ hi k := fun k hk => by
        obtain ⟨f1, f2, f3⟩ := fn k hk
        rw [Nat.zero_add] at f2 f3
        obtain ⟨g1, g2⟩ := nat_of (x := Sm.2.1 0 (i + 1 + k) - nI 48) (by omega)
        exact ⟨g1, by omega, by omega⟩
      obtain ⟨u, nt', nq', nd', wd', a1, a2⟩ := hadd (Sx'.2.1 1) (fun k => (Sm.2.1 0 (i + 1 + k) - nI 48).toNatClampNeg) Sm' (fun k hk => ⟨by
        have := z2 k hk
        rw [Nat.zero_add, htx _ (fn k hk).1] at this
        exact this.trans (hv k hk).1, (hv k hk).2⟩) y1 y2 y4 w4 (fun k hk => (w5 k hk).trans (hv k hk).1)
      refine Or.inr ⟨?_, w3, u, nt', nq', nd', wd', a2, ?_, ?_⟩
      · have := (fn r (by omega)).1
        omega
      · refine st.trans (z3.trans ?_)
        rw [a1, bd_some]
      · refine (hrw _ w2).trans ?_
        rw [if_neg (show ¬ nI 1 = 0 by decide)]
end
theorem rmain {n : Nat} (hn : n ≤ 64) : ∀ (s i F7 F8 : Nat) (x3 : Int32) (Sx Sw Sm : Bk) (nt nq nd : Nat) (wd : Nat → Nat → Nat), n - i ≤ s → 1 ≤ i → i ≤ n → n - i + 10 < F7 → n - i + 10 < F8 → Sx.1 0 = nI n → Sm.1 1 = nI n → Sm.1 2 = nI i → (∀ j, j < n → Sx.2.1 0 j = Sm.2.1 0 j) → RD nt nq nd wd Sw Sm → ∃ (r : Int32) (Sx' Sw' Sm' : Bk), lk5 sX4_readInto_11 F7 (nI 0) x3 (nI i) Sx Sw = some (r, Sx', Sw') ∧ lk1 sX8_readWell_45 F8 Sm = some (r, Sm') ∧ Sx'.1 = Sx.1 ∧ Sx'.2.1 0 = Sx.2.1 0 ∧ (∀ q, q ≠ 2 → q ≠ 6 → q ≠ 7 → q ≠ 8 → Sm'.1 q = Sm.1 q) ∧ (∀ r, r ≠ 4 → r ≠ 5 → r ≠ 6 → Sm'.2.1 r = Sm.2.1 r) ∧ Sm'.2.2 = Sm.2.2 ∧ (r = -nI 9 → ∃ nt nq nd wd, RD nt nq nd wd Sw' Sm') := by
  intro s
  induction s with
  | zero =>
    intro i F7 F8 x3 Sx Sw Sm nt nq nd wd hs hi1 hi2 hF7 hF8 hx h1 h2 htx hR
    obtain ⟨F7, rfl⟩ : ∃ F', F7 = F' + 1 := ⟨F7 - 1, by omega⟩
    obtain ⟨F8, rfl⟩ : ∃ F', F8 = F' + 1 := ⟨F8 - 1, by omega⟩
    have e : i = n := by omega
    subst e
    refine ⟨-nI 9, Sx, Sw, Sm, ?_, ?_, rfl, rfl, fun _ _ _ _ _ => rfl, fun _ _ _ _ => rfl, rfl, fun _ => ⟨nt, nq, nd, wd, hR⟩⟩
    · show sX4_readInto_11 _ (nI 0) x3 (nI i) Sx Sw = _
      unfold sX4_readInto_11
      simp (disch := omega) only [↓reduceIte, if_pos, if_neg, bd_some, nmV_e, inB_in, nI_cl, nI_leE, nI_ltE, nI_eqE, nI_add, pk_mul, lit_e, in_0_1, in_0_2, in_0_4, in_0_9, in_1_9, in_1_6, in_1_30, in_0_255, nI_ti, bI_i, bI_r, bI_j, bW_i, bW_j, bA_i, bA_j, bO_i, bO_r, bO_j, bJ_i, bJ_r, bJ_j, hx]
    · show sX8_readWell_45 _ Sm = _
      unfold sX8_readWell_45
      simp (disch := omega) only [↓reduceIte, if_pos, if_neg, bd_some, nmV_e, inB_in, nI_cl, nI_leE, nI_ltE, nI_eqE, nI_add, pk_mul, lit_e, in_0_1, in_0_2, in_0_4, in_0_9, in_1_9, in_1_6, in_1_30, in_0_255, nI_ti, bI_i, bI_r, bI_j, bW_i, bW_j, bA_i, bA_j, bO_i, bO_r, bO_j, bJ_i, bJ_r, bJ_j, h1, h2]
  | succ s ih =>
    intro i F7 F8 x3 Sx Sw Sm nt nq nd wd hs hi1 hi2 hF7 hF8 hx h1 h2 htx hR
    by_cases hin : i = n
    · exact ih i F7 F8 x3 Sx Sw Sm nt nq nd wd (by omega) hi1 hi2 hF7 hF8 hx h1 h2 htx hR
    obtain ⟨F7, rfl⟩ : ∃ F', F7 = F' + 1 := ⟨F7 - 1, by omega⟩
    obtain ⟨F8, rfl⟩ : ∃ F', F8 = F' + 1 := ⟨F8 - 1, by omega⟩
    have hR0 := hR
    obtain ⟨⟨b1, b2, b3, b4, b5, b6⟩, ⟨w1, w2, w3, w4, w5, w6, w7⟩, ⟨v1, v2, v3, v4, v5, v6⟩⟩ := hR
    have v1' : Sm.1 6 = nI nt := v1
    have v2' : Sm.1 7 = nI nq := v2
    have v3' : Sm.1 8 = nI nd := v3
    have hq1 : 1 ≤ nq → 1 ≤ nt := fun h => by
      have := (b5 0 (by omega)).1
      omega
    have fin : ∀ (m ρ c : Nat) (Sx' Sm' : Bk), (c = 6 ∨ c = 7 ∨ c = 8) → (ρ = 4 ∨ ρ = 5 ∨ ρ = 6) → m ≤ 5 → Sx'.1 = Sx.1 → Sx'.2.1 0 = Sx.2.1 0 → (∀ q, q ≠ 2 → q ≠ c → Sm'.1 q = Sm.1 q) → (∀ r, r ≠ ρ → Sm'.2.1 r = Sm.2.1 r) → Sm'.2.2 = Sm.2.2 → ((∃ p, p ≤ n ∧ lk5 sX4_readInto_11 (F7 + 1) (nI 0) x3 (nI i) Sx Sw = some (nI p, Sx', Sw) ∧ lk1 sX8_readWell_45 (F8 + 1) Sm = some (nI p, Sm')) ∨ (i + 1 + m ≤ n ∧ Sm'.1 2 = nI (i + 1 + m) ∧ ∃ u nt' nq' nd' wd', RD nt' nq' nd' wd' u Sm' ∧ lk5 sX4_readInto_11 (F7 + 1) (nI 0) x3 (nI i) Sx Sw = lk5 sX4_readInto_11 (F7 - m) (nI 0) (nI m) (nI (i + 1 + m)) Sx' u ∧ lk1 sX8_readWell_45 (F8 + 1) Sm = lk1 sX8_readWell_45 F8 Sm')) → ∃ (r : Int32) (Sx' Sw' Sm' : Bk), lk5 sX4_readInto_11 (F7 + 1) (nI 0) x3 (nI i) Sx Sw = some (r, Sx', Sw') ∧ lk1 sX8_readWell_45 (F8 + 1) Sm = some (r, Sm') ∧ Sx'.1 = Sx.1 ∧ Sx'.2.1 0 = Sx.2.1 0 ∧ (∀ q, q ≠ 2 → q ≠ 6 → q ≠ 7 → q ≠ 8 → Sm'.1 q = Sm.1 q) ∧ (∀ r, r ≠ 4 → r ≠ 5 → r ≠ 6 → Sm'.2.1 r = Sm.2.1 r) ∧ Sm'.2.2 = Sm.2.2 ∧ (r = -nI 9 → ∃ nt nq nd wd, RD nt nq nd wd Sw' Sm') := by
      intro m ρ c Sx' Sm' hc hρ hm x1 x2 y1 y2 y3 hz
      rcases hz with ⟨p, z0, z1, z2⟩ | ⟨z0, z1, u, nt', nq', nd', wd', z2, z3, z4⟩
      · refine ⟨nI p, Sx', Sw, Sm', z1, z2, x1, x2, fun q a b c d => y1 q a (by omega), fun r a b c => y2 r (by omega), y3, fun e => ?_⟩
        have := congrArg Int32.toInt e
        rw [nI_ti (by omega)] at this
        exact absurd this (by show ¬ _ = (-9 : Int); omega)
      · obtain ⟨r, Sx2, Sw2, Sm2, k1, k2, k3, k4, k5, k6, k7, k8⟩ := ih (i + 1 + m) (F7 - m) F8 (nI m) Sx' u Sm' nt' nq' nd' wd' (by omega) (by omega) z0 (by omega) (by omega) (by rw [x1]; exact hx) ((y1 1 (by omega) (by omega)).trans h1) z1 (fun j hj => by rw [x2, y2 0 (by omega)]; exact htx j hj) z2
        exact ⟨r, Sx2, Sw2, Sm2, z3.trans k1, z4.trans k2, k3.trans x1, k4.trans x2, fun q a b c d => (k5 q a b c d).trans (y1 q a (by omega)), fun r a b c => (k6 r a b c).trans (y2 r (by omega)), k7.trans y3, k8⟩
    by_cases cT : Sm.2.1 0 i = nI 84 ∧ nt < 4
    · have hmb : fX6_mayBegin Sw (nI 84) = some (nI 1) := by
        unfold fX6_mayBegin
        simp (disch := omega) only [↓reduceIte, if_pos, if_neg, bd_some, nmV_e, inB_in, nI_cl, nI_leE, nI_ltE, nI_eqE, nI_add, pk_mul, lit_e, in_0_1, in_0_2, in_0_4, in_0_9, in_1_9, in_1_6, in_1_30, in_0_255, nI_ti, bI_i, bI_r, bI_j, bW_i, bW_j, bA_i, bA_j, bO_i, bO_r, bO_j, bJ_i, bJ_r, bJ_j, w1]
      obtain ⟨Sx', Sm', x1, x2, y1, y2, y3, z⟩ := rpart (x3 := x3) hn (L := 84) (by omega) (by omega) (by omega) hi1 (by omega) lT hT rfl hmb hx h1 h2 htx cT.1 (partT hn (by omega) h1 h2 v1' cT.2 cT.1) (fun P g S' a1 a2 a3 a4 a5 a6 => by
        obtain ⟨u, e1, e2⟩ := addT hR0 cT.2 a1 a2 a3 a4 a5 a6
        exact ⟨u, _, _, _, _, e1, e2⟩) F7 F8 (by omega)
      exact fin 3 4 6 Sx' Sm' (by omega) (by omega) (by omega) x1 x2 y1 y2 y3 z
    by_cases cQ : Sm.2.1 0 i = nI 81 ∧ 1 ≤ nt ∧ nq < 4
    · have hmb : fX6_mayBegin Sw (nI 81) = some (nI 1) := by
        unfold fX6_mayBegin
        simp (disch := omega) only [↓reduceIte, if_pos, if_neg, bd_some, nmV_e, inB_in, nI_cl, nI_leE, nI_ltE, nI_eqE, nI_add, pk_mul, lit_e, in_0_1, in_0_2, in_0_4, in_0_9, in_1_9, in_1_6, in_1_30, in_0_255, nI_ti, bI_i, bI_r, bI_j, bW_i, bW_j, bA_i, bA_j, bO_i, bO_r, bO_j, bJ_i, bJ_r, bJ_j, w1, w2]
      obtain ⟨Sx', Sm', x1, x2, y1, y2, y3, z⟩ := rpart (x3 := x3) hn (L := 81) (by omega) (by omega) (by omega) hi1 (by omega) lQ (hQ w1 ⟨cQ.2.1, b1⟩) rfl hmb hx h1 h2 htx cQ.1 (partQ hn (by omega) h1 h2 v1' v2' ⟨cQ.2.1, b1⟩ cQ.2.2 cQ.1) (fun P g S' a1 a2 a3 a4 a5 a6 => by
        obtain ⟨u, e1, e2⟩ := addQ hR0 cQ.2.1 cQ.2.2 a1 a2 a3 a4 a5 a6
        exact ⟨u, _, _, _, _, e1, e2⟩) F7 F8 (by omega)
      exact fin 4 5 7 Sx' Sm' (by omega) (by omega) (by omega) x1 x2 y1 y2 y3 z
    by_cases cD : Sm.2.1 0 i = nI 68 ∧ 1 ≤ nq ∧ nd < 4
    · have hmb : fX6_mayBegin Sw (nI 68) = some (nI 1) := by
        unfold fX6_mayBegin
        simp (disch := omega) only [↓reduceIte, if_pos, if_neg, bd_some, nmV_e, inB_in, nI_cl, nI_leE, nI_ltE, nI_eqE, nI_add, pk_mul, lit_e, in_0_1, in_0_2, in_0_4, in_0_9, in_1_9, in_1_6, in_1_30, in_0_255, nI_ti, bI_i, bI_r, bI_j, bW_i, bW_j, bA_i, bA_j, bO_i, bO_r, bO_j, bJ_i, bJ_r, bJ_j, w1, w2, w3]
      have hnt1 := hq1 cD.2.1
      obtain ⟨Sx', Sm', x1, x2, y1, y2, y3, z⟩ := rpart (x3 := x3) hn (L := 68) (by omega) (by omega) (by omega) hi1 (by omega) lD (hD w1 w2 ⟨hnt1, b1⟩ ⟨cD.2.1, b2⟩) rfl hmb hx h1 h2 htx cD.1 (partD hn (by omega) h1 h2 v1' v2' v3' ⟨hnt1, b1⟩ ⟨cD.2.1, b2⟩ cD.2.2 cD.1) (fun P g S' a1 a2 a3 a4 a5 a6 => by
        obtain ⟨u, e1, e2⟩ := addD hR0 hnt1 cD.2.1 cD.2.2 a1 a2 a3 a4 a5 a6
        exact ⟨u, _, _, _, _, e1, e2⟩) F7 F8 (by omega)
      exact fin 5 6 8 Sx' Sm' (by omega) (by omega) (by omega) x1 x2 y1 y2 y3 z
    have hlx : Sx.2.1 0 i = Sm.2.1 0 i := htx i (by omega)
    have n8 : fX8_readPart Sm = some (nI 0, Sm) := by
      unfold fX8_readPart gX8_readPart_39 gX8_readPart_75
      by_cases d1 : Sm.2.1 0 i = nI 84
      · have : ¬ nt < 4 := fun h => cT ⟨d1, h⟩
        simp (disch := omega) only [↓reduceIte, if_pos, if_neg, bd_some, nmV_e, inB_in, nI_cl, nI_leE, nI_ltE, nI_eqE, nI_add, pk_mul, lit_e, in_0_1, in_0_2, in_0_4, in_0_9, in_1_9, in_1_6, in_1_30, in_0_255, nI_ti, bI_i, bI_r, bI_j, bW_i, bW_j, bA_i, bA_j, bO_i, bO_r, bO_j, bJ_i, bJ_r, bJ_j, h2, d1, v1', v2', v3']
      · by_cases d2 : Sm.2.1 0 i = nI 81
        · by_cases d4 : nt ≤ 0
          · simp (disch := omega) only [↓reduceIte, if_pos, if_neg, bd_some, nmV_e, inB_in, nI_cl, nI_leE, nI_ltE, nI_eqE, nI_add, pk_mul, lit_e, in_0_1, in_0_2, in_0_4, in_0_9, in_1_9, in_1_6, in_1_30, in_0_255, nI_ti, bI_i, bI_r, bI_j, bW_i, bW_j, bA_i, bA_j, bO_i, bO_r, bO_j, bJ_i, bJ_r, bJ_j, h2, d2, v1', v2', v3']
          · have : ¬ nq < 4 := fun h => cQ ⟨d2, by omega, h⟩
            simp (disch := omega) only [↓reduceIte, if_pos, if_neg, bd_some, nmV_e, inB_in, nI_cl, nI_leE, nI_ltE, nI_eqE, nI_add, pk_mul, lit_e, in_0_1, in_0_2, in_0_4, in_0_9, in_1_9, in_1_6, in_1_30, in_0_255, nI_ti, bI_i, bI_r, bI_j, bW_i, bW_j, bA_i, bA_j, bO_i, bO_r, bO_j, bJ_i, bJ_r, bJ_j, h2, d2, v1', v2', v3']
        · by_cases d3 : Sm.2.1 0 i = nI 68
          · by_cases d4 : nq ≤ 0
            · simp (disch := omega) only [↓reduceIte, if_pos, if_neg, bd_some, nmV_e, inB_in, nI_cl, nI_leE, nI_ltE, nI_eqE, nI_add, pk_mul, lit_e, in_0_1, in_0_2, in_0_4, in_0_9, in_1_9, in_1_6, in_1_30, in_0_255, nI_ti, bI_i, bI_r, bI_j, bW_i, bW_j, bA_i, bA_j, bO_i, bO_r, bO_j, bJ_i, bJ_r, bJ_j, h2, d3, v1', v2', v3']
            · have : ¬ nd < 4 := fun h => cD ⟨d3, by omega, h⟩
              simp (disch := omega) only [↓reduceIte, if_pos, if_neg, bd_some, nmV_e, inB_in, nI_cl, nI_leE, nI_ltE, nI_eqE, nI_add, pk_mul, lit_e, in_0_1, in_0_2, in_0_4, in_0_9, in_1_9, in_1_6, in_1_30, in_0_255, nI_ti, bI_i, bI_r, bI_j, bW_i, bW_j, bA_i, bA_j, bO_i, bO_r, bO_j, bJ_i, bJ_r, bJ_j, h2, d3, v1', v2', v3']
          · simp (disch := omega) only [↓reduceIte, if_pos, if_neg, bd_some, nmV_e, inB_in, nI_cl, nI_leE, nI_ltE, nI_eqE, nI_add, pk_mul, lit_e, in_0_1, in_0_2, in_0_4, in_0_9, in_1_9, in_1_6, in_1_30, in_0_255, nI_ti, bI_i, bI_r, bI_j, bW_i, bW_j, bA_i, bA_j, bO_i, bO_r, bO_j, bJ_i, bJ_r, bJ_j, h2, d1, d2, d3]
    have n7 : fX6_mayBegin Sw (Sm.2.1 0 i) = some (nI 0) := by
      unfold fX6_mayBegin
      by_cases d1 : Sm.2.1 0 i = nI 84
      · have : ¬ nt < 4 := fun h => cT ⟨d1, h⟩
        simp (disch := omega) only [↓reduceIte, if_pos, if_neg, bd_some, nmV_e, inB_in, nI_cl, nI_leE, nI_ltE, nI_eqE, nI_add, pk_mul, lit_e, in_0_1, in_0_2, in_0_4, in_0_9, in_1_9, in_1_6, in_1_30, in_0_255, nI_ti, bI_i, bI_r, bI_j, bW_i, bW_j, bA_i, bA_j, bO_i, bO_r, bO_j, bJ_i, bJ_r, bJ_j, d1, w1, w2, w3]
      · by_cases d2 : Sm.2.1 0 i = nI 81
        · by_cases d4 : nq < 4
          · have : nt ≤ 0 := by
              rcases Nat.lt_or_ge 0 nt with h | h
              · exact absurd ⟨d2, h, d4⟩ cQ
              · exact h
            simp (disch := omega) only [↓reduceIte, if_pos, if_neg, bd_some, nmV_e, inB_in, nI_cl, nI_leE, nI_ltE, nI_eqE, nI_add, pk_mul, lit_e, in_0_1, in_0_2, in_0_4, in_0_9, in_1_9, in_1_6, in_1_30, in_0_255, nI_ti, bI_i, bI_r, bI_j, bW_i, bW_j, bA_i, bA_j, bO_i, bO_r, bO_j, bJ_i, bJ_r, bJ_j, d2, w1, w2, w3]
          · simp (disch := omega) only [↓reduceIte, if_pos, if_neg, bd_some, nmV_e, inB_in, nI_cl, nI_leE, nI_ltE, nI_eqE, nI_add, pk_mul, lit_e, in_0_1, in_0_2, in_0_4, in_0_9, in_1_9, in_1_6, in_1_30, in_0_255, nI_ti, bI_i, bI_r, bI_j, bW_i, bW_j, bA_i, bA_j, bO_i, bO_r, bO_j, bJ_i, bJ_r, bJ_j, d2, w1, w2, w3]
        · by_cases d3 : Sm.2.1 0 i = nI 68
          · by_cases d4 : nd < 4
            · have : nq ≤ 0 := by
                rcases Nat.lt_or_ge 0 nq with h | h
                · exact absurd ⟨d3, h, d4⟩ cD
                · exact h
              simp (disch := omega) only [↓reduceIte, if_pos, if_neg, bd_some, nmV_e, inB_in, nI_cl, nI_leE, nI_ltE, nI_eqE, nI_add, pk_mul, lit_e, in_0_1, in_0_2, in_0_4, in_0_9, in_1_9, in_1_6, in_1_30, in_0_255, nI_ti, bI_i, bI_r, bI_j, bW_i, bW_j, bA_i, bA_j, bO_i, bO_r, bO_j, bJ_i, bJ_r, bJ_j, d3, w1, w2, w3]
            · simp (disch := omega) only [↓reduceIte, if_pos, if_neg, bd_some, nmV_e, inB_in, nI_cl, nI_leE, nI_ltE, nI_eqE, nI_add, pk_mul, lit_e, in_0_1, in_0_2, in_0_4, in_0_9, in_1_9, in_1_6, in_1_30, in_0_255, nI_ti, bI_i, bI_r, bI_j, bW_i, bW_j, bA_i, bA_j, bO_i, bO_r, bO_j, bJ_i, bJ_r, bJ_j, d3, w1, w2, w3]
          · simp (disch := omega) only [↓reduceIte, if_pos, if_neg, bd_some, nmV_e, inB_in, nI_cl, nI_leE, nI_ltE, nI_eqE, nI_add, pk_mul, lit_e, in_0_1, in_0_2, in_0_4, in_0_9, in_1_9, in_1_6, in_1_30, in_0_255, nI_ti, bI_i, bI_r, bI_j, bW_i, bW_j, bA_i, bA_j, bO_i, bO_r, bO_j, bJ_i, bJ_r, bJ_j, d1, d2, d3]
    refine ⟨nI i, Sx, Sw, Sm, ?_, ?_, rfl, rfl, fun _ _ _ _ _ => rfl, fun _ _ _ _ => rfl, rfl, fun e => ?_⟩
    · show sX4_readInto_11 _ (nI 0) x3 (nI i) Sx Sw = _
      unfold sX4_readInto_11
      simp (disch := omega) only [↓reduceIte, if_pos, if_neg, bd_some, nmV_e, inB_in, nI_cl, nI_leE, nI_ltE, nI_eqE, nI_add, pk_mul, lit_e, in_0_1, in_0_2, in_0_4, in_0_9, in_1_9, in_1_6, in_1_30, in_0_255, nI_ti, bI_i, bI_r, bI_j, bW_i, bW_j, bA_i, bA_j, bO_i, bO_r, bO_j, bJ_i, bJ_r, bJ_j, hx, hlx, n7]
    · show sX8_readWell_45 _ Sm = _
      unfold sX8_readWell_45
      simp (disch := omega) only [↓reduceIte, if_pos, if_neg, bd_some, nmV_e, inB_in, nI_cl, nI_leE, nI_ltE, nI_eqE, nI_add, pk_mul, lit_e, in_0_1, in_0_2, in_0_4, in_0_9, in_1_9, in_1_6, in_1_30, in_0_255, nI_ti, bI_i, bI_r, bI_j, bW_i, bW_j, bA_i, bA_j, bO_i, bO_r, bO_j, bJ_i, bJ_r, bJ_j, h1, h2, n8]
    · have := congrArg Int32.toInt e
      rw [nI_ti (by omega)] at this
      exact absurd this (by show ¬ _ = (-9 : Int); omega)
/-- both read the text alike -/
theorem rdw {Sx Sw Sm : Bk} {n : Nat} (hn : n ≤ 64) (hx : Sx.1 0 = nI n) (h1 : Sm.1 1 = nI n) (htx : ∀ j, j < n → Sx.2.1 0 j = Sm.2.1 0 j) : ∃ (r : Int32) (Sx' Sw' Sm' : Bk), fX4_readInto Sx Sw = some (r, Sx', Sw') ∧ fX8_readWell Sm = some (r, Sm') ∧ Sx'.1 = Sx.1 ∧ Sx'.2.1 0 = Sx.2.1 0 ∧ (∀ q, q ≠ 2 → q ≠ 6 → q ≠ 7 → q ≠ 8 → Sm'.1 q = Sm.1 q) ∧ (∀ r, r ≠ 4 → r ≠ 5 → r ≠ 6 → Sm'.2.1 r = Sm.2.1 r) ∧ Sm'.2.2 = Sm.2.2 ∧ (r = -nI 9 → ∃ nt nq nd wd, RD nt nq nd wd Sw' Sm') := by
  have n09 : ¬ nI 0 = -nI 9 := by decide
  by_cases c0 : n = 0
  · subst c0
    refine ⟨nI 0, Sx, bO Sw (bI (bI (bI (bI Sw 0 (nI 0)) 1 (nI 0)) 3 (nI 0)) 2 (nI 0)), bI (bI (bI (bI Sm 2 (nI 0)) 6 (nI 0)) 7 (nI 0)) 8 (nI 0), ?_, ?_, rfl, rfl, fun q a b c d => ?_, fun _ _ _ _ => rfl, rfl, fun e => absurd e n09⟩
    · unfold fX4_readInto fX6_clear
      rw [bd_some]
      show sX4_readInto_11 _ (nI 0) (nI 0) (nI 0) Sx _ = _
      unfold sX4_readInto_11 gX4_readInto_162
      simp (disch := omega) only [↓reduceIte, if_pos, if_neg, bd_some, nmV_e, inB_in, nI_cl, nI_leE, nI_ltE, nI_eqE, nI_add, pk_mul, lit_e, in_0_1, in_0_2, in_0_4, in_0_9, in_1_9, in_1_6, in_1_30, in_0_255, nI_ti, bI_i, bI_r, bI_j, bW_i, bW_j, bA_i, bA_j, bO_i, bO_r, bO_j, bJ_i, bJ_r, bJ_j, hx]
    · unfold fX8_readWell
      simp (disch := omega) only [↓reduceIte, if_pos, if_neg, bd_some, nmV_e, inB_in, nI_cl, nI_leE, nI_ltE, nI_eqE, nI_add, pk_mul, lit_e, in_0_1, in_0_2, in_0_4, in_0_9, in_1_9, in_1_6, in_1_30, in_0_255, nI_ti, bI_i, bI_r, bI_j, bW_i, bW_j, bA_i, bA_j, bO_i, bO_r, bO_j, bJ_i, bJ_r, bJ_j, h1]
    · simp (disch := omega) only [↓reduceIte, if_pos, if_neg, bd_some, nmV_e, inB_in, nI_cl, nI_leE, nI_ltE, nI_eqE, nI_add, pk_mul, lit_e, in_0_1, in_0_2, in_0_4, in_0_9, in_1_9, in_1_6, in_1_30, in_0_255, nI_ti, bI_i, bI_r, bI_j, bW_i, bW_j, bA_i, bA_j, bO_i, bO_r, bO_j, bJ_i, bJ_r, bJ_j]
  have hx0 : Sx.2.1 0 0 = Sm.2.1 0 0 := htx 0 (by omega)
  by_cases cE : Sm.2.1 0 0 = nI 69
  · obtain ⟨r, Sx', Sw', Sm', k1, k2, k3, k4, k5, k6, k7, k8⟩ := rmain hn (n - 1) 1 999 1000 (nI 0) Sx (bO Sw (bI (bI (bI (bI Sw 0 (nI 0)) 1 (nI 0)) 3 (nI 0)) 2 (nI 0))) (bI (bI (bI (bI (bI Sm 2 (nI 0)) 6 (nI 0)) 7 (nI 0)) 8 (nI 0)) 2 (nI 1)) 0 0 0 (fun _ _ => 0) (by omega) (by omega) (by omega) (by omega) (by omega) hx h1 rfl htx ⟨⟨by omega, by omega, by omega, fun t ht => absurd ht (by omega), fun t ht => absurd ht (by omega), fun t ht => absurd ht (by omega)⟩, ⟨rfl, rfl, rfl, fun t ht => absurd ht (by omega), fun t ht => absurd ht (by omega), fun t ht => absurd ht (by omega), 0, by omega, rfl, fun t ht => absurd ht (by omega)⟩, ⟨rfl, rfl, rfl, fun t ht => absurd ht (by omega), fun t ht => absurd ht (by omega), fun t ht => absurd ht (by omega)⟩⟩
    refine ⟨r, Sx', Sw', Sm', ?_, ?_, k3, k4, fun q a b c d => ?_, k6, k7, k8⟩
    · unfold fX4_readInto fX6_clear
      rw [bd_some]
      refine Eq.trans ?_ k1
      show sX4_readInto_11 (lk5 sX4_readInto_11 999) (nI 0) (nI 0) (nI 0) Sx _ = _
      generalize lk5 sX4_readInto_11 999 = K
      unfold sX4_readInto_11 gX4_readInto_145
      simp (disch := omega) only [↓reduceIte, if_pos, if_neg, bd_some, nmV_e, inB_in, nI_cl, nI_leE, nI_ltE, nI_eqE, nI_add, pk_mul, lit_e, in_0_1, in_0_2, in_0_4, in_0_9, in_1_9, in_1_6, in_1_30, in_0_255, nI_ti, bI_i, bI_r, bI_j, bW_i, bW_j, bA_i, bA_j, bO_i, bO_r, bO_j, bJ_i, bJ_r, bJ_j, hx, hx0, cE, Nat.zero_add]
    · unfold fX8_readWell
      simp (disch := omega) only [↓reduceIte, if_pos, if_neg, bd_some, nmV_e, inB_in, nI_cl, nI_leE, nI_ltE, nI_eqE, nI_add, pk_mul, lit_e, in_0_1, in_0_2, in_0_4, in_0_9, in_1_9, in_1_6, in_1_30, in_0_255, nI_ti, bI_i, bI_r, bI_j, bW_i, bW_j, bA_i, bA_j, bO_i, bO_r, bO_j, bJ_i, bJ_r, bJ_j, h1, cE]
      exact k2
    · rw [k5 q a b c d]
      simp (disch := omega) only [↓reduceIte, if_pos, if_neg, bd_some, nmV_e, inB_in, nI_cl, nI_leE, nI_ltE, nI_eqE, nI_add, pk_mul, lit_e, in_0_1, in_0_2, in_0_4, in_0_9, in_1_9, in_1_6, in_1_30, in_0_255, nI_ti, bI_i, bI_r, bI_j, bW_i, bW_j, bA_i, bA_j, bO_i, bO_r, bO_j, bJ_i, bJ_r, bJ_j]
  · refine ⟨nI 0, Sx, bO Sw (bI (bI (bI (bI Sw 0 (nI 0)) 1 (nI 0)) 3 (nI 0)) 2 (nI 0)), bI (bI (bI (bI Sm 2 (nI 0)) 6 (nI 0)) 7 (nI 0)) 8 (nI 0), ?_, ?_, rfl, rfl, fun q a b c d => ?_, fun _ _ _ _ => rfl, rfl, fun e => absurd e n09⟩
    · unfold fX4_readInto fX6_clear
      rw [bd_some]
      show sX4_readInto_11 _ (nI 0) (nI 0) (nI 0) Sx _ = _
      unfold sX4_readInto_11
      simp (disch := omega) only [↓reduceIte, if_pos, if_neg, bd_some, nmV_e, inB_in, nI_cl, nI_leE, nI_ltE, nI_eqE, nI_add, pk_mul, lit_e, in_0_1, in_0_2, in_0_4, in_0_9, in_1_9, in_1_6, in_1_30, in_0_255, nI_ti, bI_i, bI_r, bI_j, bW_i, bW_j, bA_i, bA_j, bO_i, bO_r, bO_j, bJ_i, bJ_r, bJ_j, hx, hx0, cE]
    · unfold fX8_readWell
      simp (disch := omega) only [↓reduceIte, if_pos, if_neg, bd_some, nmV_e, inB_in, nI_cl, nI_leE, nI_ltE, nI_eqE, nI_add, pk_mul, lit_e, in_0_1, in_0_2, in_0_4, in_0_9, in_1_9, in_1_6, in_1_30, in_0_255, nI_ti, bI_i, bI_r, bI_j, bW_i, bW_j, bA_i, bA_j, bO_i, bO_r, bO_j, bJ_i, bJ_r, bJ_j, h1, cE]
    · simp (disch := omega) only [↓reduceIte, if_pos, if_neg, bd_some, nmV_e, inB_in, nI_cl, nI_leE, nI_ltE, nI_eqE, nI_add, pk_mul, lit_e, in_0_1, in_0_2, in_0_4, in_0_9, in_1_9, in_1_6, in_1_30, in_0_255, nI_ti, bI_i, bI_r, bI_j, bW_i, bW_j, bA_i, bA_j, bO_i, bO_r, bO_j, bJ_i, bJ_r, bJ_j]
theorem st_fault {Se Sx Sw Ss Sy Sz Sc : Bk} {ro : Nat} {Sg : Bk} {Sp : Nat → Bk} {Sm : Bk} (Sl : Bk) (hR : Rel Se Sx Sw Ss Sy Sz Sc ro Sg Sp Sm) : ∃ (u7 : Int32 × Bk × Bk) (u8 : Int32 × Bk), fX7_fault Se Sx Sl = some u7 ∧ fX8_fault Sm  = some u8 ∧ u7.1 = u8.1 ∧ Rel Se u7.2.1 Sw Ss Sy Sz Sc ro Sg Sp (bA (bA (bA (bA (bO Sm u8.2) 0 (u8.2.2.1 0)) 4 (u8.2.2.1 4)) 5 (u8.2.2.1 5)) 6 (u8.2.2.1 6)) := by
  have hR0 := hR
  obtain ⟨nt, nq, nd, wd, hB, hwc, hwm, hs, ⟨n, hn, e1, e2, e3⟩, ha, hk, hg, hj⟩ := hR
  obtain ⟨r, Sx', Sw', Sm', k1, k2, k3, k4, k5, k6, k7, k8⟩ := rdw (Sx := Sx) (Sw := Sl) (Sm := bI Sm 0 (nI 0)) hn e1 e2 e3
  have c7 : fX7_fault Se Sx Sl = some (r, Sx', Sw') := by
    unfold fX7_fault
    rw [k1, bd_some]
  have c8 : fX8_fault Sm = some (r, Sm') := by
    unfold fX8_fault
    simp (disch := omega) only [↓reduceIte, if_pos, if_neg, bd_some, nmV_e, inB_in, nI_cl, nI_leE, nI_ltE, nI_eqE, nI_add, pk_mul, lit_e, in_0_1, in_0_2, in_0_4, in_0_9, in_1_9, in_1_6, in_1_30, in_0_255, nI_ti, bI_i, bI_r, bI_j, bW_i, bW_j, bA_i, bA_j, bO_i, bO_r, bO_j, bJ_i, bJ_r, bJ_j, k2]
  have hm : Rel Se Sx Sw Ss Sy Sz Sc ro Sg Sp (bA (bA (bA (bA (bO Sm Sm') 0 (Sm'.2.1 0)) 4 (Sm'.2.1 4)) 5 (Sm'.2.1 5)) 6 (Sm'.2.1 6)) := rel_sm hR0 (k5 1 (by omega) (by omega) (by omega) (by omega)) (k5 3 (by omega) (by omega) (by omega) (by omega)) (k5 4 (by omega) (by omega) (by omega) (by omega)) (k5 5 (by omega) (by omega) (by omega) (by omega)) (k5 9 (by omega) (by omega) (by omega) (by omega)) (k5 10 (by omega) (by omega) (by omega) (by omega)) (k6 0 (by omega) (by omega) (by omega)) rfl rfl rfl rfl rfl rfl rfl rfl rfl k7
  refine ⟨_, _, c7, c8, rfl, ?_⟩
  obtain ⟨nt, nq, nd, wd, hB, hwc, hwm, hs, ⟨n, hn, e1, e2, e3⟩, ha, hk, hg, hj⟩ := hm
  exact ⟨nt, nq, nd, wd, hB, hwc, hwm, hs, ⟨n, hn, (congrFun k3 0).trans e1, e2, fun j hj => by rw [show Sx'.2.1 0 = Sx.2.1 0 from k4]; exact e3 j hj⟩, ha, hk, hg, hj⟩
