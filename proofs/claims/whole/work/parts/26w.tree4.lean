theorem sub_bits : ∀ O, O < 16 → ∀ K, K < 16 → (nI O &&& (nI K ^^^ -nI 1) = nI 0) = (O &&& K = O) := by
  intro O hO K hK
  have h : ∀ O, O < 16 → ∀ K, K < 16 → (nI O &&& (nI K ^^^ -nI 1) = nI 0 ↔ O &&& K = O) := by decide +kernel
  exact propext (h O hO K hK)
theorem or_gt : ∀ K, K < 16 → ∀ q, q < 4 → bi K q = 0 → K < K ||| 2 ^ q := by decide +kernel
theorem bar_or : ∀ K, K < 16 → ∀ b, b < 16 → ∀ q, q < 4 → K &&& b = 0 → bi b q = 0 → (K ||| 2 ^ q) &&& b = 0 := by decide +kernel
theorem and_le : ∀ a, a < 16 → ∀ b, b < 16 → a &&& b = b → b ≤ a := by decide +kernel
theorem and_sub : ∀ O, O < 16 → ∀ k, k < 16 → ∀ K, K < 16 → O &&& k = O → K &&& k = k → O ≤ K := by decide +kernel
theorem dx_self : ∀ k, k < 16 → dx k k = 0 := by decide +kernel
def pl (K O D : Nat) : Nat := (t3 K + t3 O) * 16 + D
theorem pl_in {K O D K' O' D' : Nat} (hK : K < 16) (hO : O < 16) (hD : D < 16) (hs : O &&& K = O) (hK' : K' < 16) (hO' : O' < 16) (hD' : D' < 16) (hs' : O' &&& K' = O') (e : pl K O D = pl K' O' D') : K = K' ∧ O = O' ∧ D = D' := by
  unfold pl at e
  have e1 : t3 K + t3 O = t3 K' + t3 O' := by omega
  have e2 : D = D' := by omega
  have a := of_t3 K hK O hO hs
  have b := of_t3 K' hK' O' hO' hs'
  rw [e1] at a
  exact ⟨a.1.symm.trans b.1, a.2.symm.trans b.2, e2⟩
theorem pl_b {K O D : Nat} (hK : K < 16) (hO : O < 16) (hD : D < 16) : pl K O D < 1296 := by
  have h1 := t3_l K hK
  have h2 := t3_l O hO
  unfold pl
  omega
theorem mx_s1 {b : Int} {f : Nat → Int} {p : Nat → Prop} [DecidablePred p] {n : Nat} (hp : p n) (h1 : -600000000 ≤ mx b f p n ∧ mx b f p n ≤ 600000000) (h2 : -600000000 ≤ f n ∧ f n ≤ 600000000) : (if zI (mx b f p n) < zI (f n) then zI (f n) else zI (mx b f p n)) = zI (mx b f p (n + 1)) := by
  have e : (zI (mx b f p n) < zI (f n)) = (mx b f p n < f n) := zI_lt (by omega) (by omega) (by omega) (by omega)
  show _ = zI (if p n ∧ mx b f p n < f n then f n else mx b f p n)
  by_cases c : mx b f p n < f n
  · rw [if_pos (by rw [e]; exact c), if_pos ⟨hp, c⟩]
  · rw [if_neg (by rw [e]; exact c), if_neg (fun z => c z.2)]
theorem mx_s0 {b : Int} {f : Nat → Int} {p : Nat → Prop} [DecidablePred p] {n : Nat} (hp : ¬ p n) : zI (mx b f p n) = zI (mx b f p (n + 1)) := by
  show _ = zI (if p n ∧ mx b f p n < f n then f n else mx b f p n)
  rw [if_neg (fun z => hp z.1)]
/-- a place of the tree that may be laid -/
def vd (nq nd kn dn on bq K O D : Nat) : Prop := K < 2 ^ nq ∧ D < 2 ^ nd ∧ K &&& kn = kn ∧ D &&& dn = dn ∧ O < 16 ∧ O &&& K = O ∧ O &&& kn = on ∧ K &&& bb bq = 0
section
variable (nt nq nd : Nat) (wd : Nat → Nat → Nat) (th : Nat → Nat) (won : Int) (kn dn : Nat) (me : Bool) (bq : Nat) (on : Nat)
def TB (T : Nat → Int32) (P : Nat → Nat → Nat → Prop) : Prop := ∀ K O D, vd nq nd kn dn on bq K O D → P K O D → T (pl K O D) = zI (cv nt nq nd wd th won kn dn me bq K O D)
end
section
variable {nt nq nd : Nat} {wd : Nat → Nat → Nat} {th : Nat → Nat} {won : Int} {kn dn : Nat} {me : Bool} {bq on : Nat} {Sw Ss Sr Sm : Bk}
theorem Mb_b {K : Nat} (hnq : nq ≤ 4) : Mb nq me K ≤ 60000000 := by
  unfold Mb
  split
  · rcases (show nq - pc K = 0 ∨ nq - pc K = 1 ∨ nq - pc K = 2 ∨ nq - pc K = 3 ∨ nq - pc K = 4 by omega) with h | h | h | h | h <;> rw [h] <;> decide
  · omega
theorem sc_b {z : Int} (h : -60000000 ≤ z ∧ z ≤ 60000000) : -600000000 ≤ sc me * z ∧ sc me * z ≤ 600000000 := by
  unfold sc
  split <;> omega
theorem cv_b (hB : WB nt nq nd wd) (hth : ∀ t, t < nt → th t ≤ 9) (hw : -36 ≤ won ∧ won ≤ 36) {K O D : Nat} (hK : K < 2 ^ nq) : -600000000 ≤ cv nt nq nd wd th won kn dn me bq K O D ∧ cv nt nq nd wd th won kn dn me bq K O D ≤ 600000000 := by
  have h := sc_b (me := me) (V_b (kn := kn) (dn := dn) (me := me) (bq := bq) hB hth hw K O D hK)
  by_cases c : rch nt nq nd wd th (dx K kn) (dx D dn)
  · rw [cv_y c]; exact h
  · rw [cv_n c]; omega
theorem gq_1 (hB : WB nt nq nd wd) {K O D q : Nat} (hkn : kn < 16) (hK : K < 16) (hk : K &&& kn = kn) (hq : q < nq) (h0 : bi K q = 0) (hr : rch nt nq nd wd th (dx K kn) (dx D dn)) (hc : (wd 4 q : Int) ≤ lf nq nd wd th (dx K kn) (dx D dn) (wd 3 q)) : bh wd me q (cv nt nq nd wd th won kn dn me bq (K ||| 2 ^ q) O D) (cv nt nq nd wd th won kn dn me bq (K ||| 2 ^ q) (O ||| 2 ^ q) D) = sc me * bh wd me q (Vv nt nq nd wd th won kn dn me bq (K ||| 2 ^ q) O D) (Vv nt nq nd wd th won kn dn me bq (K ||| 2 ^ q) (O ||| 2 ^ q) D) := by
  have hnq := hB.2.1
  have kq := (sub_c1 K hK kn hkn hk q (by omega)).2 h0
  have d := df_or K hK kn hkn q (by omega) kq
  have e : rch nt nq nd wd th (dx (K ||| 2 ^ q) kn) (dx D dn) := by
    show rch nt nq nd wd th ((K ||| 2 ^ q) &&& (15 ^^^ kn)) (dx D dn)
    rw [d.1]
    exact (rch_q hB hq (d.2 h0) hr).mpr hc
  rw [cv_y e, cv_y e, bh_s sc_p]
theorem gq_0 (hB : WB nt nq nd wd) {K O D q : Nat} (hkn : kn < 16) (hK : K < 16) (hk : K &&& kn = kn) (hq : q < nq) (h0 : bi K q = 0) (hr : rch nt nq nd wd th (dx K kn) (dx D dn)) (hc : ¬ (wd 4 q : Int) ≤ lf nq nd wd th (dx K kn) (dx D dn) (wd 3 q)) : bh wd me q (cv nt nq nd wd th won kn dn me bq (K ||| 2 ^ q) O D) (cv nt nq nd wd th won kn dn me bq (K ||| 2 ^ q) (O ||| 2 ^ q) D) = 0 := by
  have hnq := hB.2.1
  have kq := (sub_c1 K hK kn hkn hk q (by omega)).2 h0
  have d := df_or K hK kn hkn q (by omega) kq
  have e : ¬ rch nt nq nd wd th (dx (K ||| 2 ^ q) kn) (dx D dn) := by
    show ¬ rch nt nq nd wd th ((K ||| 2 ^ q) &&& (15 ^^^ kn)) (dx D dn)
    rw [d.1]
    exact fun z => hc ((rch_q hB hq (d.2 h0) hr).mp z)
  rw [cv_n e, cv_n e, bh_0]
theorem gd_1 (hB : WB nt nq nd wd) {K O D d : Nat} (hdn : dn < 16) (hD : D < 16) (hk : D &&& dn = dn) (hd : d < nd) (h0 : bi D d = 0) (hr : rch nt nq nd wd th (dx K kn) (dx D dn)) : ((wd 10 d : Int) ≤ lf nq nd wd th (dx K kn) (dx D dn) (wd 9 d) → cv nt nq nd wd th won kn dn me bq K O (D ||| 2 ^ d) = sc me * Vv nt nq nd wd th won kn dn me bq K O (D ||| 2 ^ d)) ∧ (¬ (wd 10 d : Int) ≤ lf nq nd wd th (dx K kn) (dx D dn) (wd 9 d) → cv nt nq nd wd th won kn dn me bq K O (D ||| 2 ^ d) = 0) := by
  have hnd := hB.2.2.1
  have kq := (sub_c1 D hD dn hdn hk d (by omega)).2 h0
  have e := df_or D hD dn hdn d (by omega) kq
  constructor
  · intro hc
    refine cv_y ?_
    show rch nt nq nd wd th (dx K kn) ((D ||| 2 ^ d) &&& (15 ^^^ dn))
    rw [e.1]
    exact (rch_d hB hd (e.2 h0) hr).mpr hc
  · intro hc
    refine cv_n ?_
    show ¬ rch nt nq nd wd th (dx K kn) ((D ||| 2 ^ d) &&& (15 ^^^ dn))
    rw [e.1]
    exact fun z => hc ((rch_d hB hd (e.2 h0) hr).mp z)
theorem most7 (h : CC nt nq nd wd th won kn dn Sw Ss) {K O D : Nat} (hK : K < 2 ^ nq) (hO : O < 16) (hs : O &&& K = O) (hD : D < 2 ^ nd) (hkK : K &&& kn = kn) (hdD : D &&& dn = dn) (hr : rch nt nq nd wd th (dx K kn) (dx D dn)) (h0 : Sr.1 0 = nI (nb me)) (h1 : Sr.1 1 = nI (bb bq)) (h2 : Sr.1 2 = zI (bse nt nq nd wd th won (dx K kn) (dx D dn))) (h4 : ∀ q, q < nq → Sr.2.1 4 q = zI (sw wd (dx D dn) q nd)) (tq : ∀ q, q < nq → bi K q = 0 → q ≠ bq → Sr.2.1 2 (pl (K ||| 2 ^ q) O D) = zI (cv nt nq nd wd th won kn dn me bq (K ||| 2 ^ q) O D) ∧ Sr.2.1 2 (pl (K ||| 2 ^ q) (O ||| 2 ^ q) D) = zI (cv nt nq nd wd th won kn dn me bq (K ||| 2 ^ q) (O ||| 2 ^ q) D)) (td : ∀ d, d < nd → bi D d = 0 → Sr.2.1 2 (pl K O (D ||| 2 ^ d)) = zI (cv nt nq nd wd th won kn dn me bq K O (D ||| 2 ^ d))) : fX5_most Sw Sr (nI K) (nI O) (nI D) = some (zI (sc me * Vv nt nq nd wd th won kn dn me bq K O D)) := by
  have hcc := h
  obtain ⟨hB, hwc, hth0, k0, k1, k2, k3, k4, k5, k6⟩ := h
  have hth : ∀ t, t < nt → th t ≤ 9 := fun t ht => (hth0 t ht).2
  have hw : -36 ≤ won ∧ won ≤ 36 := ⟨k5, k6⟩
  have hnq := hB.2.1
  have hnd := hB.2.2.1
  have hp := p2 hnq
  have hp2 := p2 hnd
  have w1 := hwc.2.1
  have w3 := hwc.2.2.1
  have bl := bb_l bq
  have he := end7 (me := me) hcc hK hO h0 h2 h4
  have eb := eR_b (me := me) hB hth hw (x := dx K kn) (O := O) (y := dx D dn) hK
  have ep := eR_0 (me := me) hB hw (K := K) (O := O) hK hr
  have mb := Mb_b (me := me) (K := K) hnq
  have V_M : ∀ K O D, K < 2 ^ nq → -Mb nq me K ≤ Vv nt nq nd wd th won kn dn me bq K O D ∧ Vv nt nq nd wd th won kn dn me bq K O D ≤ Mb nq me K := fun K O D hK => Vf_b hB hth hw _ K O D hK
  have hgb : ∀ q, q < nq → bi K q = 0 → -600000000 ≤ bh wd me q (cv nt nq nd wd th won kn dn me bq (K ||| 2 ^ q) O D) (cv nt nq nd wd th won kn dn me bq (K ||| 2 ^ q) (O ||| 2 ^ q) D) ∧ bh wd me q (cv nt nq nd wd th won kn dn me bq (K ||| 2 ^ q) O D) (cv nt nq nd wd th won kn dn me bq (K ||| 2 ^ q) (O ||| 2 ^ q) D) ≤ 600000000 := fun q hq hz => by
    by_cases c : (wd 4 q : Int) ≤ lf nq nd wd th (dx K kn) (dx D dn) (wd 3 q)
    · rw [gq_1 hB (by omega) (by omega) hkK hq hz hr c]
      have := bh_b (me := me) hB hq hK hz (V_M _ O D (or_lt hK hq)) (V_M _ (O ||| 2 ^ q) D (or_lt hK hq))
      exact sc_b (by omega)
    · rw [gq_0 hB (by omega) (by omega) hkK hq hz hr c]; omega
  have A_b : ∀ n, n ≤ nq → -600000000 ≤ mx (sc me * eR nt nq nd wd th won me (dx K kn) K O (dx D dn)) (fun q => bh wd me q (cv nt nq nd wd th won kn dn me bq (K ||| 2 ^ q) O D) (cv nt nq nd wd th won kn dn me bq (K ||| 2 ^ q) (O ||| 2 ^ q) D)) (fun q => bi K q = 0 ∧ q ≠ bq) n ∧ mx (sc me * eR nt nq nd wd th won me (dx K kn) K O (dx D dn)) (fun q => bh wd me q (cv nt nq nd wd th won kn dn me bq (K ||| 2 ^ q) O D) (cv nt nq nd wd th won kn dn me bq (K ||| 2 ^ q) (O ||| 2 ^ q) D)) (fun q => bi K q = 0 ∧ q ≠ bq) n ≤ 600000000 := fun n hn => mx_b (sc_b (by omega)) (fun i hi c => (hgb i (by omega) c.1).2)
  have A_e : mx (sc me * eR nt nq nd wd th won me (dx K kn) K O (dx D dn)) (fun q => bh wd me q (cv nt nq nd wd th won kn dn me bq (K ||| 2 ^ q) O D) (cv nt nq nd wd th won kn dn me bq (K ||| 2 ^ q) (O ||| 2 ^ q) D)) (fun q => bi K q = 0 ∧ q ≠ bq) nq = sc me * mx (eR nt nq nd wd th won me (dx K kn) K O (dx D dn)) (fun q => bh wd me q (Vv nt nq nd wd th won kn dn me bq (K ||| 2 ^ q) O D) (Vv nt nq nd wd th won kn dn me bq (K ||| 2 ^ q) (O ||| 2 ^ q) D)) (fun q => q ≠ bq ∧ bi K q = 0 ∧ (wd 4 q : Int) ≤ lf nq nd wd th (dx K kn) (dx D dn) (wd 3 q)) nq := mx_sc sc_p ep (fun i hi c => ⟨⟨c.2.1, c.1⟩, gq_1 hB (by omega) (by omega) hkK hi c.2.1 hr c.2.2⟩) (fun i hi c c2 => gq_0 hB (by omega) (by omega) hkK hi c.1 hr (fun z => c2 ⟨c.2, c.1, z⟩))
  have A_p : 0 < mx (eR nt nq nd wd th won me (dx K kn) K O (dx D dn)) (fun q => bh wd me q (Vv nt nq nd wd th won kn dn me bq (K ||| 2 ^ q) O D) (Vv nt nq nd wd th won kn dn me bq (K ||| 2 ^ q) (O ||| 2 ^ q) D)) (fun q => q ≠ bq ∧ bi K q = 0 ∧ (wd 4 q : Int) ≤ lf nq nd wd th (dx K kn) (dx D dn) (wd 3 q)) nq := Int.lt_of_lt_of_le ep (mx_ge nq)
  unfold fX5_most
  rw [he, bd_some]
  have r1 : lk2 (sX5_most_11 Sw Sr (nI K) (nI O) (nI D)) 1000 (zI (sc me * eR nt nq nd wd th won me (dx K kn) K O (dx D dn))) (nI 0) = lk2 (sX5_most_62 Sw Sr (nI K) (nI O) (nI D)) 1000 (zI (mx (sc me * eR nt nq nd wd th won me (dx K kn) K O (dx D dn)) (fun q => bh wd me q (cv nt nq nd wd th won kn dn me bq (K ||| 2 ^ q) O D) (cv nt nq nd wd th won kn dn me bq (K ||| 2 ^ q) (O ||| 2 ^ q) D)) (fun q => bi K q = 0 ∧ q ≠ bq) nq)) (nI 0) := by
    refine lk2_run (fun n => zI (mx (sc me * eR nt nq nd wd th won me (dx K kn) K O (dx D dn)) (fun q => bh wd me q (cv nt nq nd wd th won kn dn me bq (K ||| 2 ^ q) O D) (cv nt nq nd wd th won kn dn me bq (K ||| 2 ^ q) (O ||| 2 ^ q) D)) (fun q => bi K q = 0 ∧ q ≠ bq) n)) (fun n => nI n) nq (fun k n hn => ?_) (fun k => ?_) 1000 (by omega)
    · have ab := A_b n (by omega)
      have kb := or_l K (by omega) (bb bq) bl
      have e1 := or_z K (by omega) (bb bq) bl n (by omega)
      rw [bb_b (by omega)] at e1
      unfold sX5_most_11 gX5_most_53
      rw [w1, if_neg (nI_ge hn (by omega)), h1, fa_or, bit_e (show K ||| bb bq < 2147483648 by omega) (by omega)]
      by_cases c : bi K n = 0 ∧ n ≠ bq
      · have c1 : bi (K ||| bb bq) n = 0 := by
          rw [e1]; exact ⟨c.1, if_neg c.2⟩
        obtain ⟨t1, t2⟩ := tq n hn c.1 c.2
        have cb1 := cv_b (kn := kn) (dn := dn) (me := me) (bq := bq) hB hth hw (O := O) (D := D) (or_lt hK hn)
        have cb2 := cv_b (kn := kn) (dn := dn) (me := me) (bq := bq) hB hth hw (O := O ||| 2 ^ n) (D := D) (or_lt hK hn)
        have hbn := hgb n hn c.1
        rw [if_pos (show nI ((K ||| bb bq) / 2 ^ n % 2) = 0 by rw [show (K ||| bb bq) / 2 ^ n % 2 = 0 from c1]; rfl), bh7 (me := me) hcc hn (by omega) hO (by omega) hs h0 t1 t2 (by omega) (by omega), bd_some, nI_succ]
        exact congrArg (fun z => k z (nI n + 1)) (mx_s1 (n := n) c ab hbn)
      · have c1 : ¬ bi (K ||| bb bq) n = 0 := by
          rw [e1]
          intro z
          refine c ⟨z.1, fun z2 => ?_⟩
          rw [if_pos z2] at z
          exact absurd z.2 (by decide)
        have c2 : (K ||| bb bq) / 2 ^ n % 2 = 1 := (bz (K ||| bb bq) (by omega) n (by omega)).resolve_left c1
        rw [if_neg (show ¬ nI ((K ||| bb bq) / 2 ^ n % 2) = 0 by rw [c2]; decide), nI_succ]
        exact congrArg (fun z => k z (nI n + 1)) (mx_s0 (n := n) c)
    · unfold sX5_most_11
      rw [w1, if_pos (nI_le (Nat.le_refl nq) (by omega))]
      rfl
  refine r1.trans ?_
  have B_b : ∀ n, n ≤ nd → -600000000 ≤ mx (mx (sc me * eR nt nq nd wd th won me (dx K kn) K O (dx D dn)) (fun q => bh wd me q (cv nt nq nd wd th won kn dn me bq (K ||| 2 ^ q) O D) (cv nt nq nd wd th won kn dn me bq (K ||| 2 ^ q) (O ||| 2 ^ q) D)) (fun q => bi K q = 0 ∧ q ≠ bq) nq) (fun d => cv nt nq nd wd th won kn dn me bq K O (D ||| 2 ^ d)) (fun d => bi D d = 0) n ∧ mx (mx (sc me * eR nt nq nd wd th won me (dx K kn) K O (dx D dn)) (fun q => bh wd me q (cv nt nq nd wd th won kn dn me bq (K ||| 2 ^ q) O D) (cv nt nq nd wd th won kn dn me bq (K ||| 2 ^ q) (O ||| 2 ^ q) D)) (fun q => bi K q = 0 ∧ q ≠ bq) nq) (fun d => cv nt nq nd wd th won kn dn me bq K O (D ||| 2 ^ d)) (fun d => bi D d = 0) n ≤ 600000000 := fun n hn => mx_b (A_b nq (Nat.le_refl nq)) (fun i hi c => (cv_b hB hth hw hK).2)
  have r2 : lk2 (sX5_most_62 Sw Sr (nI K) (nI O) (nI D)) 1000 (zI (mx (sc me * eR nt nq nd wd th won me (dx K kn) K O (dx D dn)) (fun q => bh wd me q (cv nt nq nd wd th won kn dn me bq (K ||| 2 ^ q) O D) (cv nt nq nd wd th won kn dn me bq (K ||| 2 ^ q) (O ||| 2 ^ q) D)) (fun q => bi K q = 0 ∧ q ≠ bq) nq)) (nI 0) = some (zI (mx (mx (sc me * eR nt nq nd wd th won me (dx K kn) K O (dx D dn)) (fun q => bh wd me q (cv nt nq nd wd th won kn dn me bq (K ||| 2 ^ q) O D) (cv nt nq nd wd th won kn dn me bq (K ||| 2 ^ q) (O ||| 2 ^ q) D)) (fun q => bi K q = 0 ∧ q ≠ bq) nq) (fun d => cv nt nq nd wd th won kn dn me bq K O (D ||| 2 ^ d)) (fun d => bi D d = 0) nd)) := by
    refine lk2_run (fun n => zI (mx (mx (sc me * eR nt nq nd wd th won me (dx K kn) K O (dx D dn)) (fun q => bh wd me q (cv nt nq nd wd th won kn dn me bq (K ||| 2 ^ q) O D) (cv nt nq nd wd th won kn dn me bq (K ||| 2 ^ q) (O ||| 2 ^ q) D)) (fun q => bi K q = 0 ∧ q ≠ bq) nq) (fun d => cv nt nq nd wd th won kn dn me bq K O (D ||| 2 ^ d)) (fun d => bi D d = 0) n)) (fun n => nI n) nd (fun k n hn => ?_) (fun k => ?_) 1000 (by omega)
    · have ab := B_b n (by omega)
      unfold sX5_most_62 gX5_most_106
      have e1 : nI D ||| ((1 : Int32) <<< (nI n &&& 31)) = nI (D ||| 2 ^ n) := by rw [shl1_e (by omega), fa_or]
      rw [w3, if_neg (nI_ge hn (by omega)), bit_e (show D < 2147483648 by omega) (by omega), e1]
      by_cases c : bi D n = 0
      · have t1 := td n hn c
        have d16 := or16 D (by omega) n (by omega)
        have pb := pl_b (K := K) (O := O) (D := D ||| 2 ^ n) (by omega) hO d16
        have cb1 := cv_b (kn := kn) (dn := dn) (me := me) (bq := bq) hB hth hw (O := O) (D := D ||| 2 ^ n) hK
        rw [if_pos (show nI (D / 2 ^ n % 2) = 0 by rw [show D / 2 ^ n % 2 = 0 from c]; rfl), place_e (by omega) hO d16 hs, bd_some]
        show inB 1296 (nI (pl K O (D ||| 2 ^ n))) _ = _
        rw [inB_in pb (by omega), nI_cl (show (t3 K + t3 O) * 16 + (D ||| 2 ^ n) < 2147483648 by unfold pl at pb; omega), show Sr.2.1 2 ((t3 K + t3 O) * 16 + (D ||| 2 ^ n)) = zI (cv nt nq nd wd th won kn dn me bq K O (D ||| 2 ^ n)) from t1, nI_succ]
        exact congrArg (fun z => k z (nI n + 1)) (mx_s1 (n := n) c ab cb1)
      · have c2 : D / 2 ^ n % 2 = 1 := (bz D (by omega) n (by omega)).resolve_left c
        rw [if_neg (show ¬ nI (D / 2 ^ n % 2) = 0 by rw [c2]; decide), nI_succ]
        exact congrArg (fun z => k z (nI n + 1)) (mx_s0 (n := n) c)
    · unfold sX5_most_62
      rw [w3, if_pos (nI_le (Nat.le_refl nd) (by omega))]
  rw [r2, A_e, V_eq hB hK hD]
  congr 2
  exact mx_sc sc_p A_p (fun i hi c => ⟨c.1, (gd_1 hB (by omega) (by omega) hdD hi c.1 hr).1 c.2⟩) (fun i hi c c2 => (gd_1 hB (by omega) (by omega) hdD hi c hr).2 (fun z => c2 ⟨c, z⟩))
end
