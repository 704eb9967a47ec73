theorem eq16 : ∀ x, x < 16 → ∀ y, y < 16 → (∀ q, q < 4 → bi x q = bi y q) → x = y := by decide +kernel
theorem bi_and : ∀ x, x < 16 → ∀ y, y < 16 → ∀ q, q < 4 → bi (x &&& y) q = bi x q * bi y q := by decide +kernel
theorem lt_bits : ∀ n, n ≤ 4 → ∀ K, K < 16 → (K < 2 ^ n ↔ ∀ q, q < 4 → n ≤ q → bi K q = 0) := by decide +kernel
def ib (nq kn on K O q : Nat) : Prop := if q < nq then (bi kn q + bi on q = 0 ∨ bi kn q + bi on q = bi K q + bi O q) else bi K q + bi O q = 0
theorem ib_vd {nq kn on K O : Nat} (hnq : nq ≤ 4) (hkn : kn < 2 ^ nq) (hon : on < 16) (hok : on &&& kn = on) (hK : K < 16) (hO : O < 16) (hs : O &&& K = O) : (∀ q, q < 4 → ib nq kn on K O q) ↔ (K < 2 ^ nq ∧ K &&& kn = kn ∧ O &&& kn = on) := by
  have hp := p2 hnq
  have kk : kn < 16 := by omega
  have ak := lt_bits nq hnq kn kk
  have aK := lt_bits nq hnq K hK
  have on_b : ∀ q, q < 4 → bi on q = bi on q * bi kn q := fun q hq => by
    have := bi_and on hon kn kk q hq
    rw [hok] at this
    exact this
  have o_b : ∀ q, q < 4 → bi O q = bi O q * bi K q := fun q hq => by
    have := bi_and O hO K hK q hq
    rw [hs] at this
    exact this
  have key : ∀ q, q < 4 → ib nq kn on K O q → bi K q * bi kn q = bi kn q ∧ bi O q * bi kn q = bi on q := fun q hq hi => by
    have b1 := bz kn kk q hq
    have b2 := bz on hon q hq
    have b3 := bz K hK q hq
    have b4 := bz O hO q hq
    have e1 := on_b q hq
    have e2 := o_b q hq
    unfold ib at hi
    rcases b1 with c | c
    · rw [c, Nat.mul_zero] at e1 ⊢
      rw [Nat.mul_zero]
      exact ⟨rfl, e1.symm⟩
    · have hlt : q < nq := by
        rcases Nat.lt_or_ge q nq with y | y
        · exact y
        · have := ak.mp hkn q hq y
          omega
      rw [if_pos hlt, c] at hi
      rw [c, Nat.mul_one, Nat.mul_one]
      rcases b3 with d | d
      · rw [d, Nat.mul_zero] at e2
        rw [d] at hi
        omega
      · rw [d] at hi
        omega
  constructor
  · intro h
    refine ⟨aK.mpr (fun q hq hn => ?_), eq16 _ (and16 K hK kn kk) kn kk (fun q hq => ?_), eq16 _ (and16 O hO kn kk) on hon (fun q hq => ?_)⟩
    · have := h q hq
      unfold ib at this
      rw [if_neg (by omega)] at this
      omega
    · rw [bi_and K hK kn kk q hq]; exact (key q hq (h q hq)).1
    · rw [bi_and O hO kn kk q hq]; exact (key q hq (h q hq)).2
  · intro ⟨h1, h2, h3⟩ q hq
    have f1 := bi_and K hK kn kk q hq
    have f2 := bi_and O hO kn kk q hq
    rw [h2] at f1
    rw [h3] at f2
    have b1 := bz kn kk q hq
    have e1 := on_b q hq
    have e2 := o_b q hq
    unfold ib
    by_cases c : q < nq
    · rw [if_pos c]
      rcases b1 with d | d
      · rw [d, Nat.mul_zero] at e1
        exact Or.inl (by omega)
      · rw [d, Nat.mul_one] at f1 f2
        exact Or.inr (by omega)
    · rw [if_neg c]
      have z := aK.mp h1 q hq (by omega)
      rw [z, Nat.mul_zero] at e2
      omega
theorem mx_r1 {b : Int} {f : Nat → Int} {p : Nat → Prop} [DecidablePred p] {n : Nat} (hp : p n) (h1 : -600000000 ≤ mx b f p n ∧ mx b f p n ≤ 600000000) (h2 : -600000000 ≤ f n ∧ f n ≤ 600000000) {ρ : Type} (k : Int32 → Option ρ) : (if zI (f n) ≤ zI (mx b f p n) then k (zI (mx b f p n)) else k (zI (f n))) = k (zI (mx b f p (n + 1))) := by
  have e : (zI (f n) ≤ zI (mx b f p n)) = (f n ≤ mx b f p n) := zI_le (by omega) (by omega) (by omega) (by omega)
  show _ = k (zI (if p n ∧ mx b f p n < f n then f n else mx b f p n))
  by_cases c : f n ≤ mx b f p n
  · rw [if_pos (by rw [e]; exact c), if_neg (fun z => by omega)]
  · rw [if_neg (by rw [e]; exact c), if_pos ⟨hp, by omega⟩]
theorem mx_r0 {b : Int} {f : Nat → Int} {p : Nat → Prop} [DecidablePred p] {n : Nat} (hp : ¬ p n) {ρ : Type} (k : Int32 → Option ρ) : k (zI (mx b f p n)) = k (zI (mx b f p (n + 1))) := by
  rw [mx_s0 hp]
section
variable (nt nq nd : Nat) (wd : Nat → Nat → Nat) (th : Nat → Nat) (won : Int) (kn dn : Nat) (me : Bool) (bq : Nat) (on : Nat)
/-- the reference's table -/
def TR (T : Nat → Int32) (P : Nat → Nat → Nat → Prop) : Prop := ∀ K O D, vd nq nd kn dn on 9 K O D → P K O D → T (pl K O D) = zI (Vv nt nq nd wd th won kn dn me bq K O D)
end
section
variable {nt nq nd : Nat} {wd : Nat → Nat → Nat} {th : Nat → Nat} {won : Int} {kn dn : Nat} {me : Bool} {bq on : Nat} {Sm S' : Bk}
theorem ib_st (h : MC nt nq nd wd th won kn dn Sm) (hon : on < 16) {K O D n : Nat} (hK : K < 16) (hO : O < 16) (hn : n < 4) (k : Int32 → Int32 → Int32 → Option Int32) : (ib nq kn on K O n → sX8_isBehind_44 Sm (nI (t3 K + t3 O)) (nI D) k (nI 1) (nI (t3 kn + t3 on)) (nI n) = k (nI 1) (nI (t3 kn + t3 on)) (nI (n + 1))) ∧ (¬ ib nq kn on K O n → sX8_isBehind_44 Sm (nI (t3 K + t3 O)) (nI D) k (nI 1) (nI (t3 kn + t3 on)) (nI n) = k (nI 0) (nI (t3 kn + t3 on)) (nI (n + 1))) := by
  obtain ⟨hB, hwm, hs7, k0, k1, -⟩ := h
  have hnq := hB.2.1
  have hp := p2 hnq
  have w2 := hwm.2.1
  have e1 := kn_e (K := K) (O := O) (q := n) hK hO hn
  have e2 := kn_e (K := kn) (O := on) (q := n) (by omega) hon hn
  have b1 := bz kn (by omega) n hn
  have b2 := bz on hon n hn
  have b3 := bz K hK n hn
  have b4 := bz O hO n hn
  have x1 : ¬ nI 1 = nI 0 := by decide
  unfold sX8_isBehind_44 gX8_isBehind_89 gX8_isBehind_111 ib
  by_cases c : n < nq
  · rw [if_pos c]
    by_cases c1 : bi kn n + bi on n = 0
    · refine ⟨fun _ => ?_, fun z => absurd (Or.inl c1) z⟩
      simp (disch := omega) only [↓reduceIte, if_pos, if_neg, bd_some, nmV_e, inB_in, nI_cl, nI_leE, nI_ltE, nI_eqE, nI_add, pk_mul, lit_e, in_0_1, in_0_2, in_0_4, in_0_9, in_1_9, in_1_6, in_1_30, in_0_255, nI_ti, bI_i, bI_r, bI_j, bW_i, bW_j, bA_i, bA_j, bO_i, bO_r, bO_j, bJ_i, bJ_r, bJ_j, w2, x1, e1, e2, c1]
    · by_cases c2 : bi kn n + bi on n = bi K n + bi O n
      · refine ⟨fun _ => ?_, fun z => absurd (Or.inr c2) z⟩
        rw [c2] at e2 c1
        simp (disch := omega) only [↓reduceIte, if_pos, if_neg, bd_some, nmV_e, inB_in, nI_cl, nI_leE, nI_ltE, nI_eqE, nI_add, pk_mul, lit_e, in_0_1, in_0_2, in_0_4, in_0_9, in_1_9, in_1_6, in_1_30, in_0_255, nI_ti, bI_i, bI_r, bI_j, bW_i, bW_j, bA_i, bA_j, bO_i, bO_r, bO_j, bJ_i, bJ_r, bJ_j, w2, x1, e1, e2, c1]
      · refine ⟨fun z => absurd z (by omega), fun _ => ?_⟩
        simp (disch := omega) only [↓reduceIte, if_pos, if_neg, bd_some, nmV_e, inB_in, nI_cl, nI_leE, nI_ltE, nI_eqE, nI_add, pk_mul, lit_e, in_0_1, in_0_2, in_0_4, in_0_9, in_1_9, in_1_6, in_1_30, in_0_255, nI_ti, bI_i, bI_r, bI_j, bW_i, bW_j, bA_i, bA_j, bO_i, bO_r, bO_j, bJ_i, bJ_r, bJ_j, w2, x1, e1, e2, c1, c2]
  · rw [if_neg c]
    by_cases c1 : bi K n + bi O n = 0
    · refine ⟨fun _ => ?_, fun z => absurd c1 z⟩
      simp (disch := omega) only [↓reduceIte, if_pos, if_neg, bd_some, nmV_e, inB_in, nI_cl, nI_leE, nI_ltE, nI_eqE, nI_add, pk_mul, lit_e, in_0_1, in_0_2, in_0_4, in_0_9, in_1_9, in_1_6, in_1_30, in_0_255, nI_ti, bI_i, bI_r, bI_j, bW_i, bW_j, bA_i, bA_j, bO_i, bO_r, bO_j, bJ_i, bJ_r, bJ_j, w2, x1, e1, c1]
    · refine ⟨fun z => absurd z c1, fun _ => ?_⟩
      simp (disch := omega) only [↓reduceIte, if_pos, if_neg, bd_some, nmV_e, inB_in, nI_cl, nI_leE, nI_ltE, nI_eqE, nI_add, pk_mul, lit_e, in_0_1, in_0_2, in_0_4, in_0_9, in_1_9, in_1_6, in_1_30, in_0_255, nI_ti, bI_i, bI_r, bI_j, bW_i, bW_j, bA_i, bA_j, bO_i, bO_r, bO_j, bJ_i, bJ_r, bJ_j, w2, x1, e1, c1]
theorem is_e (h : MC nt nq nd wd th won kn dn Sm) (hon : on < 16) (hbit : ∀ q, q < nq → bi on q = if bi kn q = 1 then wd 11 q else 0) (hok : on &&& kn = on) {K O D : Nat} (hK : K < 16) (hO : O < 16) (hs : O &&& K = O) (hD : D < 16) : (vd nq nd kn dn on 9 K O D → fX8_isBehind Sm (nI (t3 K + t3 O)) (nI D) = some (nI 1)) ∧ (¬ vd nq nd kn dn on 9 K O D → fX8_isBehind Sm (nI (t3 K + t3 O)) (nI D) = some (nI 0)) := by
  have h0 := h
  obtain ⟨hB, hwm, hs7, k0, k1, k2, k3, -⟩ := h
  have hnq := hB.2.1
  have hnd := hB.2.2.1
  have hp := p2 hnq
  have hp2 := p2 hnd
  have w3 := hwm.2.2.1
  have hc := cn_e h0 hon hbit hok
  have al := and16 D hD dn (by omega)
  have iv := ib_vd hnq k1 hon hok hK hO hs
  have x1 : ¬ nI 1 = nI 0 := by decide
  have z0 : z01 (nI 0) (some (nI 0)) = some (nI 0) := rfl
  have z1 : z01 (nI 1) (some (nI 1)) = some (nI 1) := rfl
  have hex0 : ∀ k (n : Nat), sX8_isBehind_44 Sm (nI (t3 K + t3 O)) (nI D) k (nI 0) (nI (t3 kn + t3 on)) (nI n) = some (nI 0) := fun k n => by
    unfold sX8_isBehind_44
    rw [if_pos (show nI 0 = 0 from rfl)]
    split <;> rfl
  have run0 : gX8_isBehind_34 Sm (nI (t3 K + t3 O)) (nI D) (nI 0) = some (nI 0) := by
    unfold gX8_isBehind_34
    rw [hc, bd_some]
    exact lk3_run (fun _ => nI 0) (fun _ => nI (t3 kn + t3 on)) (fun n => nI n) 0 (fun k t ht => absurd ht (by omega)) (fun k => hex0 k 0) 1000 (by omega)
  have run1 : (∀ q, q < 4 → ib nq kn on K O q) → gX8_isBehind_34 Sm (nI (t3 K + t3 O)) (nI D) (nI 1) = some (nI 1) := fun hi => by
    unfold gX8_isBehind_34
    rw [hc, bd_some]
    refine lk3_run (fun _ => nI 1) (fun _ => nI (t3 kn + t3 on)) (fun n => nI n) 4 (fun k t ht => (ib_st h0 hon hK hO ht k).1 (hi t ht)) (fun k => ?_) 1000 (by omega)
    unfold sX8_isBehind_44
    rw [if_pos (show (4 : Int32) ≤ nI 4 from nI_le (Nat.le_refl 4) (by omega))]
    rfl
  have run2 : (¬ ∀ q, q < 4 → ib nq kn on K O q) → gX8_isBehind_34 Sm (nI (t3 K + t3 O)) (nI D) (nI 1) = some (nI 0) := fun hi => by
    have ex : ∃ q, q < 4 ∧ ¬ ib nq kn on K O q := by
      by_cases q : ∃ t, t < 4 ∧ ¬ ib nq kn on K O t
      · exact q
      · exact absurd (fun t ht => Classical.byContradiction (fun hl => q ⟨t, ht, hl⟩)) hi
    obtain ⟨L, ⟨y1, y2⟩, y3⟩ := pk_least (fun t => t < 4 ∧ ¬ ib nq kn on K O t) ex
    unfold gX8_isBehind_34
    rw [hc, bd_some]
    refine (lk3_run (fun n => nI (if n ≤ L then 1 else 0)) (fun _ => nI (t3 kn + t3 on)) (fun n => nI n) (L + 1) (fun k t ht => ?_) (fun k => ?_) 1000 (by omega) : lk3 _ 1000 (nI (if 0 ≤ L then 1 else 0)) (nI (t3 kn + t3 on)) (nI 0) = some (nI 0))
    · show sX8_isBehind_44 _ _ _ k (nI (if t ≤ L then 1 else 0)) _ _ = k (nI (if t + 1 ≤ L then 1 else 0)) _ _
      rw [if_pos (show t ≤ L by omega)]
      by_cases c : t = L
      · subst c
        rw [if_neg (by omega)]
        exact (ib_st h0 hon hK hO y1 k).2 y2
      · rw [if_pos (by omega)]
        exact (ib_st h0 hon hK hO (by omega) k).1 (Classical.byContradiction (fun hl => y3 t (by omega) ⟨by omega, hl⟩))
    · show sX8_isBehind_44 _ _ _ k (nI (if L + 1 ≤ L then 1 else 0)) _ _ = _
      rw [if_neg (by omega)]
      exact hex0 k (L + 1)
  have hkb : K &&& bb 9 = 0 := by show K &&& 0 = 0; exact Nat.and_zero K
  have start : fX8_isBehind Sm (nI (t3 K + t3 O)) (nI D) = if D &&& dn = dn ∧ D < 2 ^ nd then gX8_isBehind_34 Sm (nI (t3 K + t3 O)) (nI D) (nI 1) else gX8_isBehind_34 Sm (nI (t3 K + t3 O)) (nI D) (nI 0) := by
    unfold fX8_isBehind gX8_isBehind_33
    have ha : nI D &&& nI dn = nI (D &&& dn) := fa_and D dn
    by_cases c : D &&& dn = dn
    · by_cases c2 : D < 2 ^ nd
      · rw [if_pos (show D &&& dn = dn ∧ D < 2 ^ nd from ⟨c, c2⟩)]
        have c3 : ¬ 2 ^ nd ≤ D := by omega
        rw [c] at ha
        simp (disch := omega) only [↓reduceIte, if_pos, if_neg, bd_some, nmV_e, inB_in, nI_cl, nI_leE, nI_ltE, nI_eqE, nI_add, pk_mul, lit_e, in_0_1, in_0_2, in_0_4, in_0_9, in_1_9, in_1_6, in_1_30, in_0_255, nI_ti, bI_i, bI_r, bI_j, bW_i, bW_j, bA_i, bA_j, bO_i, bO_r, bO_j, bJ_i, bJ_r, bJ_j, k2, w3, ha, shl_n, c3]
      · rw [if_neg (show ¬ (D &&& dn = dn ∧ D < 2 ^ nd) from fun z => c2 z.2)]
        have c3 : 2 ^ nd ≤ D := by omega
        rw [c] at ha
        simp (disch := omega) only [↓reduceIte, if_pos, if_neg, bd_some, nmV_e, inB_in, nI_cl, nI_leE, nI_ltE, nI_eqE, nI_add, pk_mul, lit_e, in_0_1, in_0_2, in_0_4, in_0_9, in_1_9, in_1_6, in_1_30, in_0_255, nI_ti, bI_i, bI_r, bI_j, bW_i, bW_j, bA_i, bA_j, bO_i, bO_r, bO_j, bJ_i, bJ_r, bJ_j, k2, w3, ha, shl_n, c3]
    · rw [if_neg (show ¬ (D &&& dn = dn ∧ D < 2 ^ nd) from fun z => c z.1)]
      simp (disch := omega) only [↓reduceIte, if_pos, if_neg, bd_some, nmV_e, inB_in, nI_cl, nI_leE, nI_ltE, nI_eqE, nI_add, pk_mul, lit_e, in_0_1, in_0_2, in_0_4, in_0_9, in_1_9, in_1_6, in_1_30, in_0_255, nI_ti, bI_i, bI_r, bI_j, bW_i, bW_j, bA_i, bA_j, bO_i, bO_r, bO_j, bJ_i, bJ_r, bJ_j, k2, ha, c]
  rw [start]
  constructor
  · intro ⟨v1, v2, v3, v4, v5, v6, v7, v8⟩
    rw [if_pos ⟨v4, v2⟩]
    exact run1 (iv.mpr ⟨v1, v3, v7⟩)
  · intro hv
    by_cases c : D &&& dn = dn ∧ D < 2 ^ nd
    · rw [if_pos c]
      exact run2 (fun hi => by
        obtain ⟨v1, v3, v7⟩ := iv.mp hi
        exact hv ⟨v1, c.2, v3, c.1, hO, hs, v7, hkb⟩)
    · rw [if_neg c]
      exact run0
end
