section
variable {nt nq nd : Nat} {wd : Nat → Nat → Nat} {th : Nat → Nat} {won : Int} {kn dn : Nat} {me : Bool} {bq on : Nat} {Sw Ss Sr Sm : Bk}
theorem vd_q (hnq : nq ≤ 4) (hkn : kn < 16) {K O D q : Nat} (h : vd nq nd kn dn on bq K O D) (hq : q < nq) (h0 : bi K q = 0) (hb : q ≠ bq) : vd nq nd kn dn on bq (K ||| 2 ^ q) O D ∧ vd nq nd kn dn on bq (K ||| 2 ^ q) (O ||| 2 ^ q) D := by
  obtain ⟨v1, v2, v3, v4, v5, v6, v7, v8⟩ := h
  have hp := p2 hnq
  have s1 := sub_c1 K (by omega) kn hkn v3 q (by omega)
  have s2 := sub_c2 O v5 K (by omega) q (by omega) v6
  have s3 := sub_c3 O v5 kn hkn q (by omega) (s1.2 h0)
  have s4 := bar_or K (by omega) (bb bq) (bb_l bq) q (by omega) v8 (by rw [bb_b (by omega), if_neg hb])
  exact ⟨⟨or_lt v1 hq, v2, s1.1, v4, v5, s2.1, v7, s4⟩, ⟨or_lt v1 hq, v2, s1.1, v4, or16 O v5 q (by omega), s2.2, s3.trans v7, s4⟩⟩
theorem vd_d (hnd : nd ≤ 4) (hdn : dn < 16) {K O D d : Nat} (h : vd nq nd kn dn on bq K O D) (hd : d < nd) : vd nq nd kn dn on bq K O (D ||| 2 ^ d) := by
  obtain ⟨v1, v2, v3, v4, v5, v6, v7, v8⟩ := h
  have hp := p2 hnd
  exact ⟨v1, or_lt v2 hd, v3, (sub_c1 D (by omega) dn hdn v4 d (by omega)).1, v5, v6, v7, v8⟩
theorem TB_w (hnq : nq ≤ 4) (hnd : nd ≤ 4) {T : Nat → Int32} {P P' : Nat → Nat → Nat → Prop} (hT : TB nt nq nd wd th won kn dn me bq on T P) {K O D : Nat} {v : Int32} (hv : vd nq nd kn dn on bq K O D) (he : v = zI (cv nt nq nd wd th won kn dn me bq K O D)) (hP : ∀ K' O' D', vd nq nd kn dn on bq K' O' D' → P' K' O' D' → P K' O' D' ∨ (K' = K ∧ O' = O ∧ D' = D)) : TB nt nq nd wd th won kn dn me bq on (upd T (pl K O D) v) P' := by
  have hp := p2 hnq
  have hp2 := p2 hnd
  intro K' O' D' hv' hp'
  rw [upd_a]
  by_cases c : pl K' O' D' = pl K O D
  · rw [if_pos c]
    obtain ⟨v1, v2, v3, v4, v5, v6, v7, v8⟩ := hv
    obtain ⟨u1, u2, u3, u4, u5, u6, u7, u8⟩ := hv'
    obtain ⟨e1, e2, e3⟩ := pl_in (by omega) u5 (by omega) u6 (by omega) v5 (by omega) v6 c
    rw [e1, e2, e3]; exact he
  · rw [if_neg c]
    rcases hP K' O' D' hv' hp' with q | ⟨q1, q2, q3⟩
    · exact hT K' O' D' hv' q
    · exact absurd (by rw [q1, q2, q3]) c
theorem gw81 (h : CC nt nq nd wd th won kn dn Sw Ss) (hon : on < 16) {K D : Nat} (hK : K < 2 ^ nq) (hD : D < 2 ^ nd) (hkK : K &&& kn = kn) (hdD : D &&& dn = dn) (hok : on &&& kn = on) (hbar : K &&& bb bq = 0) (h0 : Sr.1 0 = nI (nb me)) (h1 : Sr.1 1 = nI (bb bq)) (h4 : ∀ q, q < nq → Sr.2.1 4 q = zI (sw wd (dx D dn) q nd)) {x4 : Int32} (hx : (rch nt nq nd wd th (dx K kn) (dx D dn) ∧ Sr.1 2 = zI (bse nt nq nd wd th won (dx K kn) (dx D dn)) ∧ x4 = nI 1) ∨ (¬ rch nt nq nd wd th (dx K kn) (dx D dn) ∧ x4 = nI 0)) (hT : TB nt nq nd wd th won kn dn me bq on (Sr.2.1 2) (fun K' O' D' => K < K' ∨ (K' = K ∧ D < D'))) : ∃ S', S'.1 = Sr.1 ∧ (∀ r, r ≠ 2 → S'.2.1 r = Sr.2.1 r) ∧ TB nt nq nd wd th won kn dn me bq on (S'.2.1 2) (fun K' O' D' => K < K' ∨ (K' = K ∧ D ≤ D')) ∧ ∀ k17, lk5 (sX5_growWith_81 Sw Ss (nI K) k17) 1000 (nI on) (nI D) x4 (nI on) Sr = k17 (nI on) (nI D + (-1 : Int32)) S' := by
  have hcc := h
  obtain ⟨hB, hwc, hth0, k0, k1, k2, k3, k4, k5, k6⟩ := h
  have hnq := hB.2.1
  have hnd := hB.2.2.1
  have hp := p2 hnq
  have hp2 := p2 hnd
  have oK : on ≤ K := and_sub on hon kn (by omega) K (by omega) hok hkK
  obtain ⟨a1, a2, a3, a4, S', ⟨e1, e2, e3, e4, e5, e6, e7⟩, hF⟩ := lk5_invK (f := sX5_growWith_81 Sw Ss (nI K)) (fun t a1 a2 a3 a4 S' => a1 = nI on ∧ a2 = nI D ∧ a3 = x4 ∧ a4 = nI (on + t) ∧ S'.1 = Sr.1 ∧ (∀ r, r ≠ 2 → S'.2.1 r = Sr.2.1 r) ∧ TB nt nq nd wd th won kn dn me bq on (S'.2.1 2) (fun K' O' D' => K < K' ∨ (K' = K ∧ (D < D' ∨ (D' = D ∧ O' < on + t))))) (K + 1 - on) (fun t a1 a2 a3 a4 S' ht hI => by
    obtain ⟨e1, e2, e3, e4, e5, e6, e7⟩ := hI
    subst e1 e2 e3 e4
    have hO : on + t < 16 := by omega
    have sb := sub_bits (on + t) hO K (by omega)
    have sk : nI (on + t) &&& Ss.1 0 = nI (on + t &&& kn) := by rw [k0, fa_and]
    have sl := and16 (on + t) hO kn (by omega)
    by_cases c1 : (on + t) &&& K = on + t
    · by_cases c2 : (on + t) &&& kn = on
      · have hv : vd nq nd kn dn on bq K (on + t) D := ⟨hK, hD, hkK, hdD, hO, c1, c2, hbar⟩
        have pb := pl_b (K := K) (O := on + t) (D := D) (by omega) hO (by omega)
        have hval : ∃ v, v = zI (cv nt nq nd wd th won kn dn me bq K (on + t) D) ∧ ∀ k17 k, sX5_growWith_81 Sw Ss (nI K) k17 k (nI on) (nI D) a3 (nI (on + t)) S' = k (nI on) (nI D) a3 (nI (on + t + 1)) (bW S' 2 (pl K (on + t) D) v) := by
          rcases hx with ⟨y1, y2, y3⟩ | ⟨y1, y3⟩
          · have m := most7 (Sr := S') (me := me) (bq := bq) hcc hK hO c1 hD hkK hdD y1 (by rw [e5]; exact h0) (by rw [e5]; exact h1) (by rw [e5]; exact y2) (fun q hq => by rw [e6 4 (by omega)]; exact h4 q hq) (fun q hq hz hb => by
              have g := or_gt K (by omega) q (by omega) hz
              have vq := vd_q hnq (by omega) hv hq hz hb
              exact ⟨e7 _ _ _ vq.1 (Or.inl g), e7 _ _ _ vq.2 (Or.inl g)⟩) (fun d hd hz => by
              have g := or_gt D (by omega) d (by omega) hz
              exact e7 _ _ _ (vd_d hnd (by omega) hv hd) (Or.inr ⟨rfl, Or.inl g⟩))
            refine ⟨zI (sc me * Vv nt nq nd wd th won kn dn me bq K (on + t) D), by rw [cv_y y1], fun k17 k => ?_⟩
            unfold sX5_growWith_81 gX5_growWith_138 gX5_growWith_139
            rw [if_neg (show ¬ nI K < nI (on + t) from nI_nlt (by omega) (by omega)), if_pos (show nI (on + t) &&& (nI K ^^^ (-1 : Int32)) = 0 from sb.mpr c1), if_pos (show nI (on + t) &&& Ss.1 0 = nI on by rw [sk, c2]), place_e (by omega) hO (by omega) c1, bd_some, if_neg (show ¬ a3 = 0 by rw [y3]; decide), m, bd_some]
            show inB 1296 (nI (pl K (on + t) D)) _ = _
            rw [inB_in pb (by omega), nmV_e, nI_cl (show (t3 K + t3 (on + t)) * 16 + D < 2147483648 by unfold pl at pb; omega), nI_succ]
            rfl
          · refine ⟨zI 0, by rw [cv_n y1], fun k17 k => ?_⟩
            unfold sX5_growWith_81 gX5_growWith_138 gX5_growWith_139
            rw [if_neg (show ¬ nI K < nI (on + t) from nI_nlt (by omega) (by omega)), if_pos (show nI (on + t) &&& (nI K ^^^ (-1 : Int32)) = 0 from sb.mpr c1), if_pos (show nI (on + t) &&& Ss.1 0 = nI on by rw [sk, c2]), place_e (by omega) hO (by omega) c1, bd_some, if_pos (show a3 = 0 by rw [y3]; rfl)]
            show inB 1296 (nI (pl K (on + t) D)) _ = _
            rw [inB_in pb (by omega), nmV_e, nI_cl (show (t3 K + t3 (on + t)) * 16 + D < 2147483648 by unfold pl at pb; omega), nI_succ]
            rfl
        obtain ⟨v, hv1, hv2⟩ := hval
        refine ⟨nI on, nI D, a3, nI (on + t + 1), bW S' 2 (pl K (on + t) D) v, hv2, rfl, rfl, rfl, rfl, e5, fun r hr => (if_neg hr).trans (e6 r hr), ?_⟩
        refine TB_w hnq hnd e7 hv hv1 (fun K' O' D' _ hp' => ?_)
        by_cases q : K' = K ∧ O' = on + t ∧ D' = D
        · exact Or.inr q
        · refine Or.inl ?_
          rcases hp' with z | ⟨z1, z2⟩
          · exact Or.inl z
          · exact Or.inr ⟨z1, by omega⟩
      · refine ⟨nI on, nI D, a3, nI (on + t + 1), S', fun k17 k => ?_, rfl, rfl, rfl, rfl, e5, e6, fun K' O' D' hv' hp' => e7 K' O' D' hv' ?_⟩
        · unfold sX5_growWith_81 gX5_growWith_139
          rw [if_neg (show ¬ nI K < nI (on + t) from nI_nlt (by omega) (by omega)), if_pos (show nI (on + t) &&& (nI K ^^^ (-1 : Int32)) = 0 from sb.mpr c1), if_neg (show ¬ nI (on + t) &&& Ss.1 0 = nI on by rw [sk, nI_eqE (by omega) (by omega)]; exact c2), nI_succ]
        · rcases hp' with z | ⟨z1, z2⟩
          · exact Or.inl z
          · refine Or.inr ⟨z1, ?_⟩
            rcases z2 with z | ⟨z, z3⟩
            · exact Or.inl z
            · refine Or.inr ⟨z, ?_⟩
              rcases Nat.lt_or_ge O' (on + t) with y | y
              · exact y
              · have e : O' = on + t := by omega
                rw [e] at hv'
                exact absurd hv'.2.2.2.2.2.2.1 c2
    · refine ⟨nI on, nI D, a3, nI (on + t + 1), S', fun k17 k => ?_, rfl, rfl, rfl, rfl, e5, e6, fun K' O' D' hv' hp' => e7 K' O' D' hv' ?_⟩
      · unfold sX5_growWith_81 gX5_growWith_139
        rw [if_neg (show ¬ nI K < nI (on + t) from nI_nlt (by omega) (by omega)), if_neg (show ¬ nI (on + t) &&& (nI K ^^^ (-1 : Int32)) = 0 from fun z => c1 (sb.mp z)), nI_succ]
      · rcases hp' with z | ⟨z1, z2⟩
        · exact Or.inl z
        · refine Or.inr ⟨z1, ?_⟩
          rcases z2 with z | ⟨z, z3⟩
          · exact Or.inl z
          · refine Or.inr ⟨z, ?_⟩
            rcases Nat.lt_or_ge O' (on + t) with y | y
            · exact y
            · have e : O' = on + t := by omega
              rw [e, z1] at hv'
              exact absurd hv'.2.2.2.2.2.1 c1) (nI on) (nI D) x4 (nI on) Sr ⟨rfl, rfl, rfl, rfl, rfl, fun _ _ => rfl, fun K' O' D' hv' hp' => hT K' O' D' hv' (by
    rcases hp' with z | ⟨z1, z | ⟨z2, z3⟩⟩
    · exact Or.inl z
    · exact Or.inr ⟨z1, z⟩
    · have : on ≤ O' := by rw [← hv'.2.2.2.2.2.2.1]; exact Nat.and_le_left
      omega)⟩
  refine ⟨S', e5, e6, fun K' O' D' hv' hp' => e7 K' O' D' hv' ?_, fun k17 => ?_⟩
  · rcases hp' with z | ⟨z1, z2⟩
    · exact Or.inl z
    · refine Or.inr ⟨z1, ?_⟩
      have : O' ≤ K := by rw [← z1]; rw [← hv'.2.2.2.2.2.1]; exact Nat.and_le_right
      omega
  · obtain ⟨k, hk⟩ := hF k17 1000 (by omega)
    refine hk.trans ?_
    subst e1 e2 e3 e4
    unfold sX5_growWith_81 gX5_growWith_145
    rw [if_pos (nI_lt (by omega) (by omega))]
theorem zI_m1 {D : Nat} : nI D + (-1 : Int32) = zI ((D : Int) - 1) := by
  rw [zI_n, show (-1 : Int32) = zI (-1) from rfl, zI_add]
  rfl
theorem gw7 (h : CC nt nq nd wd th won kn dn Sw Ss) (hon : on < 16) (hok : on &&& kn = on) (hn1 : Sw.1 2 &&& Ss.1 0 = nI on) {K : Nat} (hK : K < 2 ^ nq) (hkK : K &&& kn = kn) (hbar : K &&& bb bq = 0) (h0 : Sr.1 0 = nI (nb me)) (h1 : Sr.1 1 = nI (bb bq)) (hT : TB nt nq nd wd th won kn dn me bq on (Sr.2.1 2) (fun K' O' D' => K < K')) : ∃ S', S'.1 0 = nI (nb me) ∧ S'.1 1 = nI (bb bq) ∧ (∀ r, r ≠ 2 → r ≠ 3 → r ≠ 4 → S'.2.1 r = Sr.2.1 r) ∧ TB nt nq nd wd th won kn dn me bq on (S'.2.1 2) (fun K' O' D' => K ≤ K') ∧ fX5_growWith Sw Ss Sr (nI K) = some S' := by
  have hcc := h
  obtain ⟨hB, hwc, hth0, k0, k1, k2, k3, k4, k5, k6⟩ := h
  have hnq := hB.2.1
  have hnd := hB.2.2.1
  have hp := p2 hnq
  have hp2 := p2 hnd
  have w3 := hwc.2.2.1
  have ex : nI K &&& (Ss.1 0 ^^^ (-1 : Int32)) = nI (dx K kn) := by rw [k0]; exact an_e K (by omega) kn (by omega)
  obtain ⟨a1, a2, S', ⟨e1, e2, e3, e4, e5, e6⟩, hF⟩ := lk3_inv (f := sX5_growWith_17 Sw Ss (nI K)) (fun t a1 a2 S' => a1 = nI on ∧ a2 = zI ((2 ^ nd : Nat) - 1 - t) ∧ S'.1 0 = nI (nb me) ∧ S'.1 1 = nI (bb bq) ∧ (∀ r, r ≠ 2 → r ≠ 3 → r ≠ 4 → S'.2.1 r = Sr.2.1 r) ∧ TB nt nq nd wd th won kn dn me bq on (S'.2.1 2) (fun K' O' D' => K < K' ∨ (K' = K ∧ 2 ^ nd ≤ D' + t))) (2 ^ nd - dn) (fun t a1 a2 S' ht hI => by
    obtain ⟨e1, e2, e3, e4, e5, e6⟩ := hI
    obtain ⟨D, hD⟩ : ∃ D, D = 2 ^ nd - 1 - t := ⟨_, rfl⟩
    have e2' : a2 = nI D := by rw [e2, zI_n]; congr 1; omega
    have en : nI D + (-1 : Int32) = zI ((2 ^ nd : Nat) - 1 - (t + 1 : Nat)) := by rw [zI_m1]; congr 1; omega
    subst e1
    rw [e2']
    have sk : nI D &&& Ss.1 1 = nI (D &&& dn) := by rw [k2, fa_and]
    have sl := and16 D (by omega) dn (by omega)
    by_cases c : D &&& dn = dn
    · have ey : nI D &&& (Ss.1 1 ^^^ (-1 : Int32)) = nI (dx D dn) := by rw [k2]; exact an_e D (by omega) dn (by omega)
      obtain ⟨A, A1, A2, A3, A4, A5⟩ := lo7 (Sr := S') hcc (dx_l (show K < 16 by omega) (show kn < 16 by omega)) (dx_l (show D < 16 by omega) (show dn < 16 by omega))
      have hlay : ∃ x4, fX5_layOut Sw Ss S' (nI (dx K kn)) (nI (dx D dn)) = some (x4, A) ∧ ((rch nt nq nd wd th (dx K kn) (dx D dn) ∧ A.1 2 = zI (bse nt nq nd wd th won (dx K kn) (dx D dn)) ∧ x4 = nI 1) ∨ (¬ rch nt nq nd wd th (dx K kn) (dx D dn) ∧ x4 = nI 0)) := by
        rcases A5 with ⟨y1, y2, y3⟩ | ⟨y1, y2⟩
        · exact ⟨nI 1, y3, Or.inl ⟨y1, y2, rfl⟩⟩
        · exact ⟨nI 0, y2, Or.inr ⟨y1, rfl⟩⟩
      obtain ⟨x4, hl1, hl2⟩ := hlay
      obtain ⟨C, C1, C2, C3, C4⟩ := gw81 (Sr := bA (bA (bO S' A) 3 (A.2.1 3)) 4 (A.2.1 4)) hcc hon hK (show D < 2 ^ nd by omega) hkK c hok hbar (A1.trans e3) (A2.trans e4) A4 hl2 (fun K' O' D' hv hp => e6 K' O' D' hv (by
        rcases hp with z | ⟨z1, z2⟩
        · exact Or.inl z
        · exact Or.inr ⟨z1, by omega⟩))
      refine ⟨nI on, zI ((2 ^ nd : Nat) - 1 - (t + 1 : Nat)), C, fun k => ?_, rfl, rfl, ?_, ?_, fun r r2 r3 r4 => ?_, fun K' O' D' hv' hp' => C3 K' O' D' hv' ?_⟩
      · unfold sX5_growWith_17
        rw [ex, ey, hl1, bd_some]
        rw [k2, if_neg (nI_nlt (by omega) (by omega)), fa_and, if_pos (by rw [c]), ← en]
        exact C4 k
      · rw [C1]; exact A1.trans e3
      · rw [C1]; exact A2.trans e4
      · rw [C2 r r2]
        show (if r = 4 then _ else if r = 3 then _ else S'.2.1 r) = _
        rw [if_neg r4, if_neg r3]; exact e5 r r2 r3 r4
      · rcases hp' with z | ⟨z1, z2⟩
        · exact Or.inl z
        · exact Or.inr ⟨z1, by omega⟩
    · refine ⟨nI on, zI ((2 ^ nd : Nat) - 1 - (t + 1 : Nat)), S', fun k => ?_, rfl, rfl, e3, e4, e5, fun K' O' D' hv' hp' => e6 K' O' D' hv' ?_⟩
      · unfold sX5_growWith_17 gX5_growWith_145
        rw [k2, if_neg (nI_nlt (by omega) (by omega)), fa_and, if_neg (by rw [nI_eqE (by omega) (by omega)]; exact c), en]
      · rcases hp' with z | ⟨z1, z2⟩
        · exact Or.inl z
        · refine Or.inr ⟨z1, ?_⟩
          rcases Nat.lt_or_ge D D' with y | y
          · omega
          · have e : D' = D := by omega
            rw [e] at hv'
            exact absurd hv'.2.2.2.1 c) (nI on) (zI ((2 ^ nd : Nat) - 1 - (0 : Nat))) Sr ⟨rfl, rfl, h0, h1, fun _ _ _ _ => rfl, fun K' O' D' hv' hp' => hT K' O' D' hv' (by
    rcases hp' with z | ⟨z1, z2⟩
    · exact z
    · have := hv'.2.1
      omega)⟩
  obtain ⟨k, hk⟩ := hF 1000 (by omega)
  refine ⟨S', e3, e4, e5, fun K' O' D' hv' hp' => e6 K' O' D' hv' ?_, ?_⟩
  · rcases Nat.lt_or_ge K K' with z | z
    · exact Or.inl z
    · refine Or.inr ⟨by omega, ?_⟩
      have := and_le D' (by have := hv'.2.1; omega) dn (by omega) hv'.2.2.2.1
      omega
  · unfold fX5_growWith fX5_onesNow
    rw [bd_some, hn1, w3, shl1_e (by omega)]
    have ei : nI (2 ^ nd) - 1 = zI ((2 ^ nd : Nat) - 1 - (0 : Nat)) := by
      rw [zI_n, show (1 : Int32) = zI 1 from rfl, zI_sub]; congr 1; omega
    rw [ei]
    refine hk.trans ?_
    subst e1 e2
    unfold sX5_growWith_17
    rw [k2, if_pos]
    rw [zI_n, zI_lt (by omega) (by omega) (by omega) (by omega)]
    omega
theorem vd_now (hkn : kn < 2 ^ nq) (hdn : dn < 2 ^ nd) (hon : on < 16) (hok : on &&& kn = on) (hb : kn &&& bb bq = 0) : vd nq nd kn dn on bq kn on dn := ⟨hkn, hdn, Nat.and_self kn, Nat.and_self dn, hon, hok, hok, hb⟩
theorem grow7 (h : CC nt nq nd wd th won kn dn Sw Ss) (hon : on < 16) (hok : on &&& kn = on) (hn1 : Sw.1 2 &&& Ss.1 0 = nI on) (hb : kn &&& bb bq = 0) : ∃ S', S'.1 0 = nI (nb me) ∧ (∀ r, r ≠ 2 → r ≠ 3 → r ≠ 4 → S'.2.1 r = Sr.2.1 r) ∧ TB nt nq nd wd th won kn dn me bq on (S'.2.1 2) (fun _ _ _ => True) ∧ fX5_grow Sw Ss Sr (nI (nb me)) (nI (bb bq)) = some (zI (cv nt nq nd wd th won kn dn me bq kn on dn), S') := by
  have hcc := h
  obtain ⟨hB, hwc, hth0, k0, k1, k2, k3, k4, k5, k6⟩ := h
  have hnq := hB.2.1
  have hnd := hB.2.2.1
  have hp := p2 hnq
  have hp2 := p2 hnd
  have w2 := hwc.2.1
  have bl := bb_l bq
  obtain ⟨a1, S', ⟨e1, e2, e3, e4, e5⟩, hF⟩ := lk2_inv (f := sX5_grow_22 Sw Ss (nI (nb me)) (nI (bb bq))) (fun t a1 S' => a1 = zI ((2 ^ nq : Nat) - 1 - t) ∧ S'.1 0 = nI (nb me) ∧ S'.1 1 = nI (bb bq) ∧ (∀ r, r ≠ 2 → r ≠ 3 → r ≠ 4 → S'.2.1 r = Sr.2.1 r) ∧ TB nt nq nd wd th won kn dn me bq on (S'.2.1 2) (fun K' O' D' => 2 ^ nq ≤ K' + t)) (2 ^ nq - kn) (fun t a1 S' ht hI => by
    obtain ⟨e1, e2, e3, e4, e5⟩ := hI
    obtain ⟨K, hK⟩ : ∃ K, K = 2 ^ nq - 1 - t := ⟨_, rfl⟩
    have e1' : a1 = nI K := by rw [e1, zI_n]; congr 1; omega
    have en : nI K + (-1 : Int32) = zI ((2 ^ nq : Nat) - 1 - (t + 1 : Nat)) := by rw [zI_m1]; congr 1; omega
    rw [e1']
    have sl := and16 K (by omega) kn (by omega)
    have sl2 := and16 K (by omega) (bb bq) bl
    have skip : (¬ (K &&& kn = kn ∧ K &&& bb bq = 0)) → TB nt nq nd wd th won kn dn me bq on (S'.2.1 2) (fun K' O' D' => 2 ^ nq ≤ K' + (t + 1)) := fun c K' O' D' hv' hp' => e5 K' O' D' hv' (by
      rcases Nat.lt_or_ge K K' with y | y
      · omega
      · have e : K' = K := by omega
        rw [e] at hv'
        exact absurd ⟨hv'.2.2.1, hv'.2.2.2.2.2.2.2⟩ c)
    by_cases c : K &&& kn = kn
    · by_cases c2 : K &&& bb bq = 0
      · obtain ⟨C, C1, C2, C3, C4, C5⟩ := gw7 (Sr := S') hcc hon hok hn1 (show K < 2 ^ nq by omega) c c2 e2 e3 (fun K' O' D' hv hp => e5 K' O' D' hv (by omega))
        refine ⟨zI ((2 ^ nq : Nat) - 1 - (t + 1 : Nat)), C, fun k => ?_, rfl, C1, C2, fun r r2 r3 r4 => (C3 r r2 r3 r4).trans (e4 r r2 r3 r4), fun K' O' D' hv' hp' => C4 K' O' D' hv' (by omega)⟩
        unfold sX5_grow_22 gX5_grow_63
        rw [k0, if_neg (nI_nlt (by omega) (by omega)), fa_and, if_pos (by rw [c]), fa_and, if_pos (by rw [c2]; rfl), C5, bd_some, en]
      · refine ⟨zI ((2 ^ nq : Nat) - 1 - (t + 1 : Nat)), S', fun k => ?_, rfl, e2, e3, e4, skip (fun z => c2 z.2)⟩
        unfold sX5_grow_22 gX5_grow_63
        rw [k0, if_neg (nI_nlt (by omega) (by omega)), fa_and, if_pos (by rw [c]), fa_and, if_neg (show ¬ nI (K &&& bb bq) = 0 from fun z => c2 ((nI_eq (b := 0) (by omega) (by omega)).mp z)), en]
    · refine ⟨zI ((2 ^ nq : Nat) - 1 - (t + 1 : Nat)), S', fun k => ?_, rfl, e2, e3, e4, skip (fun z => c z.1)⟩
      unfold sX5_grow_22 gX5_grow_63
      rw [k0, if_neg (nI_nlt (by omega) (by omega)), fa_and, if_neg (by rw [nI_eqE (by omega) (by omega)]; exact c), en]) (zI ((2 ^ nq : Nat) - 1 - (0 : Nat))) (bI (bI Sr 0 (nI (nb me))) 1 (nI (bb bq))) ⟨rfl, rfl, rfl, fun _ _ _ _ => rfl, fun K' O' D' hv' hp' => absurd hv'.1 (by omega)⟩
  obtain ⟨k, hk⟩ := hF 1000 (by omega)
  have hall : TB nt nq nd wd th won kn dn me bq on (S'.2.1 2) (fun _ _ _ => True) := fun K' O' D' hv' _ => e5 K' O' D' hv' (by
    have := and_le K' (by have := hv'.1; omega) kn (by omega) hv'.2.2.1
    omega)
  refine ⟨S', e2, e4, hall, ?_⟩
  have hv := vd_now (bq := bq) k1 k3 hon hok hb
  have pb := pl_b (K := kn) (O := on) (D := dn) (by omega) hon (by omega)
  have ei : nI (2 ^ nq) - 1 = zI ((2 ^ nq : Nat) - 1 - (0 : Nat)) := by
    rw [zI_n, show (1 : Int32) = zI 1 from rfl, zI_sub]; congr 1; omega
  unfold fX5_grow z01
  rw [if_pos (by unfold nb; cases me; exact Or.inl rfl; exact Or.inr rfl), w2, shl1_e (by omega), ei]
  refine hk.trans ?_
  subst e1
  unfold sX5_grow_22 fX5_onesNow
  rw [hn1, k0, k2, if_pos (by rw [zI_n, zI_lt (by omega) (by omega) (by omega) (by omega)]; omega), bd_some, place_e (by omega) hon (by omega) hok, bd_some]
  show inB 1296 (nI (pl kn on dn)) _ = _
  rw [inB_in pb (by omega), nI_cl (show (t3 kn + t3 on) * 16 + dn < 2147483648 by unfold pl at pb; omega), show S'.2.1 2 ((t3 kn + t3 on) * 16 + dn) = zI (cv nt nq nd wd th won kn dn me bq kn on dn) from hall kn on dn hv trivial]
end
