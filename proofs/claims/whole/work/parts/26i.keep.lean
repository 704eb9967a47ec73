theorem kp26 {S : Bk} {x : Nat} (hx : x < 2) : ∃ u, (∀ e, (∀ S', CP S S' 10 (16 * x) 16 (S.2.1 7) → fX8_estateOf S' (S'.2.1 7) 16 = some e) → lk2 (sX8_keep_26 (nI x)) 1000 (nI 0) S = some (e, u)) ∧ CP S u 10 (16 * x) 16 (S.2.1 7) := by
  obtain ⟨a, S', ⟨e1, e2⟩, hF⟩ := lk2_inv (f := sX8_keep_26 (nI x)) (fun t a S' => a = nI t ∧ CP S S' 10 (16 * x) t (S.2.1 7)) 16 (fun t a S' ht hI => by
    obtain ⟨e1, e2⟩ := hI
    refine ⟨nI (t + 1), bW S' 10 (16 * x + t) (S.2.1 7 t), fun k => ?_, rfl, cp_s e2⟩
    subst e1
    have q2 := e2.2.2.1 7 (by omega)
    unfold sX8_keep_26
    simp (disch := omega) only [↓reduceIte, if_pos, if_neg, bd_some, nmV_e, inB_in, nI_cl, nI_leE, nI_ltE, nI_eqE, nI_add, pk_mul, lit_e, in_0_1, in_0_2, in_0_4, in_0_9, in_1_9, in_1_6, in_1_30, in_0_255, nI_ti, bI_i, bI_r, bI_j, bW_i, bW_j, bA_i, bA_j, bO_i, bO_r, bO_j, bJ_i, bJ_r, bJ_j, q2]) (nI 0) S ⟨rfl, cp_0⟩
  obtain ⟨k, hk⟩ := hF 1000 (by omega)
  refine ⟨S', fun e he => hk.trans ?_, e2⟩
  subst e1
  have q1 := he S' e2
  unfold sX8_keep_26
  simp (disch := omega) only [↓reduceIte, if_pos, if_neg, bd_some, nmV_e, inB_in, nI_cl, nI_leE, nI_ltE, nI_eqE, nI_add, pk_mul, lit_e, in_0_1, in_0_2, in_0_4, in_0_9, in_1_9, in_1_6, in_1_30, in_0_255, nI_ti, bI_i, bI_r, bI_j, bW_i, bW_j, bA_i, bA_j, bO_i, bO_r, bO_j, bJ_i, bJ_r, bJ_j, q1]
theorem ag31 {S : Bk} {x : Nat} (hx : x < 2) : ∃ u, (∀ e, fX8_estateOf (bI u 9 (nI 0)) (u.2.1 7) 16 = some e → lk2 (sX8_again_31 (nI x)) 1000 (nI 0) S = some (e, bI u 9 (nI 0))) ∧ CP S u 7 0 16 (fun k => S.2.1 10 (16 * x + k)) := by
  obtain ⟨a, S', ⟨e1, e2⟩, hF⟩ := lk2_inv (f := sX8_again_31 (nI x)) (fun t a S' => a = nI t ∧ CP S S' 7 0 t (fun k => S.2.1 10 (16 * x + k))) 16 (fun t a S' ht hI => by
    obtain ⟨e1, e2⟩ := hI
    refine ⟨nI (t + 1), bW S' 7 (0 + t) (S.2.1 10 (16 * x + t)), fun k => ?_, rfl, cp_s e2⟩
    subst e1
    have q2 := e2.2.2.1 10 (by omega)
    unfold sX8_again_31
    simp (disch := omega) only [↓reduceIte, if_pos, if_neg, bd_some, nmV_e, inB_in, nI_cl, nI_leE, nI_ltE, nI_eqE, nI_add, pk_mul, lit_e, in_0_1, in_0_2, in_0_4, in_0_9, in_1_9, in_1_6, in_1_30, in_0_255, nI_ti, bI_i, bI_r, bI_j, bW_i, bW_j, bA_i, bA_j, bO_i, bO_r, bO_j, bJ_i, bJ_r, bJ_j, q2, Nat.zero_add]) (nI 0) S ⟨rfl, cp_0⟩
  obtain ⟨k, hk⟩ := hF 1000 (by omega)
  refine ⟨S', fun e he => hk.trans ?_, e2⟩
  subst e1
  unfold sX8_again_31
  simp (disch := omega) only [↓reduceIte, if_pos, if_neg, bd_some, nmV_e, inB_in, nI_cl, nI_leE, nI_ltE, nI_eqE, nI_add, pk_mul, lit_e, in_0_1, in_0_2, in_0_4, in_0_9, in_1_9, in_1_6, in_1_30, in_0_255, nI_ti, bI_i, bI_r, bI_j, bW_i, bW_j, bA_i, bA_j, bO_i, bO_r, bO_j, bJ_i, bJ_r, bJ_j, he]
theorem or_1 : ∀ b, b < 4 → (b ||| 1) < 4 ∧ (b ||| 1) % 2 = 1 ∧ (b ||| 1) / 2 = b / 2 ∧ (b ||| 2) < 4 ∧ (b ||| 2) % 2 = b % 2 ∧ (b ||| 2) / 2 = 1 := by decide
theorem kp8 {nt nq nd : Nat} {wd : Nat → Nat → Nat} {Sm : Bk} (hB : WB nt nq nd wd) (hwm : RWm nt nq nd wd Sm) {x : Nat} (hx : x < 2) : ∃ u, fX8_keep Sm (nI x) = some (nI 1000 + Sm.2.1 7 15 + wS wd (Sm.2.1 7) nt, u) ∧ CP (bW (bI Sm 0 (nI 0)) 11 x (nI 1)) u 10 (16 * x) 16 (Sm.2.1 7) := by
  obtain ⟨u, q1, q2⟩ := kp26 (S := bW (bI Sm 0 (nI 0)) 11 x (nI 1)) hx
  refine ⟨u, ?_, q2⟩
  have e := q1 (nI 1000 + Sm.2.1 7 15 + wS wd (Sm.2.1 7) nt) (fun S' h => by
    obtain ⟨h1, h2, h3, h4⟩ := h
    have hw : RWm nt nq nd wd S' := rwm_cg hwm (by rw [h1]; rfl) (by rw [h1]; rfl) (by rw [h1]; rfl) (h3 1 (by omega)) (h3 2 (by omega)) (h3 3 (by omega))
    have := es8 hB hw (S'.2.1 7)
    have e7 : S'.2.1 7 = Sm.2.1 7 := h3 7 (by omega)
    rw [this, e7])
  have nb : vp_nar .boolean (nI 1) = nI 1 := nar_b (by omega)
  have hi : fX8_in (nI x).toInt64 (0 : Int64) (1 : Int64) = some 1 := by
    rw [in_0_1, nI_ti (by omega), if_pos (by omega)]
  unfold fX8_keep
  rw [hi, bd_some, if_neg (by decide), inB_in hx (by omega), nmV_e, nI_cl (by omega)]
  exact (congrArg (fun z => lk2 (sX8_keep_26 (nI x)) 1000 (nI 0) (bW (bI Sm 0 (nI 0)) 11 x z)) nb).trans e
theorem st_keep_0 {Se Sx Sw Ss Sy Sz Sc : Bk} {ro : Nat} {Sg : Bk} {Sp : Nat → Bk} {Sm : Bk} (hR : Rel Se Sx Sw Ss Sy Sz Sc ro Sg Sp Sm) : ∃ (u7 : Int32 × Bk × Bk) (u8 : Int32 × Bk), fX7_keep_0 Se Sw Ss Sy = some u7 ∧ fX8_keep Sm (0 : Int32) = some u8 ∧ u7.1 = u8.1 ∧ Rel u7.2.1 Sx Sw Ss u7.2.2 Sz Sc ro Sg Sp (bA (bA (bA (bA (bO Sm u8.2) 1 (u8.2.2.1 1)) 7 (u8.2.2.1 7)) 10 (u8.2.2.1 10)) 11 (u8.2.2.1 11)) := by
  obtain ⟨nt, nq, nd, wd, hB, hwc, hwm, hs, ht, ⟨n, hn, a1, a2, a3⟩, ⟨b, hb, b1, b2, b3, b4, b5⟩, hg, hj⟩ := hR
  have hnt := hB.1
  obtain ⟨u, q1, x1, x2, x3, x4⟩ := kp8 hB hwm (x := 0) (by omega)
  obtain ⟨cc, k1, k2⟩ := cf (nt := nt) (nq := nq) (nd := nd) (wd := wd) hnt Sy Ss
  have e7 := es7 hB hwc Ss
  rw [es_eq hs] at e7
  obtain ⟨o1, o2, o3, -⟩ := or_1 b hb
  have c7 : fX7_keep_0 Se Sw Ss Sy = some (nI 1000 + Sm.2.1 7 15 + wS wd (Sm.2.1 7) nt, bI Se 0 (nI (b ||| 1)), cc) := by
    have es : nI b ||| (nI 1 <<< (nI 0 &&& nI 31)) = nI (b ||| 1) := by rw [shl_n (by omega), fa_or]
    unfold fX7_keep_0
    simp (disch := omega) only [↓reduceIte, if_pos, if_neg, bd_some, nmV_e, inB_in, nI_cl, nI_leE, nI_ltE, nI_eqE, nI_add, pk_mul, lit_e, in_0_1, in_0_2, in_0_4, in_0_9, in_1_9, in_1_6, in_1_30, in_0_255, nI_ti, bI_i, bI_r, bI_j, bW_i, bW_j, bA_i, bA_j, bO_i, bO_r, bO_j, bJ_i, bJ_r, bJ_j, k1, e7, b1, es]
  refine ⟨_, _, c7, q1, rfl, nt, nq, nd, wd, hB, hwc, rwm_cg hwm ?_ ?_ ?_ ?_ rfl rfl, ?_, ?_, ⟨n, hn, a1, ?_, a3⟩, ⟨b ||| 1, o1, rfl, ?_, ?_, fun _ => ?_, fun c => ?_⟩, ?_, hj.trans x2.symm⟩
  · show u.1 3 = _; rw [x1]; rfl
  · show u.1 4 = _; rw [x1]; rfl
  · show u.1 5 = _; rw [x1]; rfl
  · show u.2.1 1 = _; rw [x3 1 (by omega)]; rfl
  · refine sr_cg hs hnt rfl rfl rfl rfl (fun _ _ => rfl) (fun _ _ => rfl) (fun _ _ => rfl) (fun j hj => ?_)
    show u.2.1 7 j = _; rw [x3 7 (by omega)]; rfl
  · obtain ⟨n, hn, e1, e2, e3⟩ := ht
    refine ⟨n, hn, e1, ?_, e3⟩
    show u.1 1 = _; rw [x1]; exact e2
  · show u.1 9 = _; rw [x1]; exact a2
  · show u.2.1 11 0 = _; rw [x3 11 (by omega), o2]; rfl
  · show u.2.1 11 1 = _; rw [x3 11 (by omega), o3]; exact b3
  · refine sr_cg (k2 _ hs) hnt rfl rfl rfl rfl (fun _ _ => rfl) (fun _ _ => rfl) (fun _ _ => rfl) (fun j hj => ?_)
    show u.2.1 10 j = _
    rw [x4, if_pos (by omega)]; rfl
  · refine sr_cg (b5 (by omega)) hnt rfl rfl rfl rfl (fun _ _ => rfl) (fun _ _ => rfl) (fun _ _ => rfl) (fun j hj => ?_)
    show u.2.1 10 (16 + j) = _
    rw [x4, if_neg (by omega)]; rfl
  · obtain ⟨n, hn, e1, e2, e3⟩ := hg
    refine ⟨n, hn, e1, ?_, e3⟩
    show u.1 10 = _; rw [x1]; exact e2
theorem st_keep_1 {Se Sx Sw Ss Sy Sz Sc : Bk} {ro : Nat} {Sg : Bk} {Sp : Nat → Bk} {Sm : Bk} (hR : Rel Se Sx Sw Ss Sy Sz Sc ro Sg Sp Sm) : ∃ (u7 : Int32 × Bk × Bk) (u8 : Int32 × Bk), fX7_keep_1 Se Sw Ss Sz = some u7 ∧ fX8_keep Sm (1 : Int32) = some u8 ∧ u7.1 = u8.1 ∧ Rel u7.2.1 Sx Sw Ss Sy u7.2.2 Sc ro Sg Sp (bA (bA (bA (bA (bO Sm u8.2) 1 (u8.2.2.1 1)) 7 (u8.2.2.1 7)) 10 (u8.2.2.1 10)) 11 (u8.2.2.1 11)) := by
  obtain ⟨nt, nq, nd, wd, hB, hwc, hwm, hs, ht, ⟨n, hn, a1, a2, a3⟩, ⟨b, hb, b1, b2, b3, b4, b5⟩, hg, hj⟩ := hR
  have hnt := hB.1
  obtain ⟨u, q1, x1, x2, x3, x4⟩ := kp8 hB hwm (x := 1) (by omega)
  obtain ⟨cc, k1, k2⟩ := cf (nt := nt) (nq := nq) (nd := nd) (wd := wd) hnt Sz Ss
  have e7 := es7 hB hwc Ss
  rw [es_eq hs] at e7
  obtain ⟨-, -, -, o1, o2, o3⟩ := or_1 b hb
  have c7 : fX7_keep_1 Se Sw Ss Sz = some (nI 1000 + Sm.2.1 7 15 + wS wd (Sm.2.1 7) nt, bI Se 0 (nI (b ||| 2)), cc) := by
    have es : nI b ||| (nI 1 <<< (nI 1 &&& nI 31)) = nI (b ||| 2) := by rw [shl_n (by omega), fa_or]
    unfold fX7_keep_1
    simp (disch := omega) only [↓reduceIte, if_pos, if_neg, bd_some, nmV_e, inB_in, nI_cl, nI_leE, nI_ltE, nI_eqE, nI_add, pk_mul, lit_e, in_0_1, in_0_2, in_0_4, in_0_9, in_1_9, in_1_6, in_1_30, in_0_255, nI_ti, bI_i, bI_r, bI_j, bW_i, bW_j, bA_i, bA_j, bO_i, bO_r, bO_j, bJ_i, bJ_r, bJ_j, k1, e7, b1, es]
  refine ⟨_, _, c7, q1, rfl, nt, nq, nd, wd, hB, hwc, rwm_cg hwm ?_ ?_ ?_ ?_ rfl rfl, ?_, ?_, ⟨n, hn, a1, ?_, a3⟩, ⟨b ||| 2, o1, rfl, ?_, ?_, fun c => ?_, fun _ => ?_⟩, ?_, hj.trans x2.symm⟩
  · show u.1 3 = _; rw [x1]; rfl
  · show u.1 4 = _; rw [x1]; rfl
  · show u.1 5 = _; rw [x1]; rfl
  · show u.2.1 1 = _; rw [x3 1 (by omega)]; rfl
  · refine sr_cg hs hnt rfl rfl rfl rfl (fun _ _ => rfl) (fun _ _ => rfl) (fun _ _ => rfl) (fun j hj => ?_)
    show u.2.1 7 j = _; rw [x3 7 (by omega)]; rfl
  · obtain ⟨n, hn, e1, e2, e3⟩ := ht
    refine ⟨n, hn, e1, ?_, e3⟩
    show u.1 1 = _; rw [x1]; exact e2
  · show u.1 9 = _; rw [x1]; exact a2
  · show u.2.1 11 0 = _; rw [x3 11 (by omega), o2]; exact b2
  · show u.2.1 11 1 = _; rw [x3 11 (by omega), o3]; rfl
  · refine sr_cg (b4 (by omega)) hnt rfl rfl rfl rfl (fun _ _ => rfl) (fun _ _ => rfl) (fun _ _ => rfl) (fun j hj => ?_)
    show u.2.1 10 j = _
    rw [x4, if_neg (by omega)]; rfl
  · refine sr_cg (k2 _ hs) hnt rfl rfl rfl rfl (fun _ _ => rfl) (fun _ _ => rfl) (fun _ _ => rfl) (fun j hj => ?_)
    show u.2.1 10 (16 + j) = _
    rw [x4, if_pos (by omega), show 16 + j - 16 * 1 = j by omega]
  · obtain ⟨n, hn, e1, e2, e3⟩ := hg
    refine ⟨n, hn, e1, ?_, e3⟩
    show u.1 10 = _; rw [x1]; exact e2
theorem n01 {x : Int32} (h0 : ¬ x = 0) (h1 : ¬ x = 1) : x.toInt < 0 ∨ 1 < x.toInt := by
  rw [i32_eq] at h0 h1
  have e0 : (0 : Int32).toInt = 0 := rfl
  have e1 : (1 : Int32).toInt = 1 := rfl
  omega
theorem st_keep_n {Se Sx Sw Ss Sy Sz Sc : Bk} {ro : Nat} {Sg : Bk} {Sp : Nat → Bk} {Sm : Bk} (hR : Rel Se Sx Sw Ss Sy Sz Sc ro Sg Sp Sm) (x1 : Int32) (h0 : ¬ x1 = 0) (h1 : ¬ x1 = 1) : ∃ (u7 : Int32) (u8 : Int32 × Bk), fX7_keep_n Se x1 = some u7 ∧ fX8_keep Sm x1 = some u8 ∧ u7 = u8.1 ∧ Rel Se Sx Sw Ss Sy Sz Sc ro Sg Sp (bA (bA (bA (bA (bO Sm u8.2) 1 (u8.2.2.1 1)) 7 (u8.2.2.1 7)) 10 (u8.2.2.1 10)) 11 (u8.2.2.1 11)) := by
  have hR0 := hR
  have c := n01 h0 h1
  have c7 : fX7_keep_n Se x1 = some (-nI 1) := by
    unfold fX7_keep_n
    rcases c with c | c
    · simp (disch := omega) only [↓reduceIte, if_pos, if_neg, bd_some, nmV_e, inB_in, nI_cl, nI_leE, nI_ltE, nI_eqE, nI_add, pk_mul, lit_e, in_0_1, in_0_2, in_0_4, in_0_9, in_1_9, in_1_6, in_1_30, in_0_255, nI_ti, bI_i, bI_r, bI_j, bW_i, bW_j, bA_i, bA_j, bO_i, bO_r, bO_j, bJ_i, bJ_r, bJ_j, i32_lt]
    · simp (disch := omega) only [↓reduceIte, if_pos, if_neg, bd_some, nmV_e, inB_in, nI_cl, nI_leE, nI_ltE, nI_eqE, nI_add, pk_mul, lit_e, in_0_1, in_0_2, in_0_4, in_0_9, in_1_9, in_1_6, in_1_30, in_0_255, nI_ti, bI_i, bI_r, bI_j, bW_i, bW_j, bA_i, bA_j, bO_i, bO_r, bO_j, bJ_i, bJ_r, bJ_j, i32_lt]
  have c8 : fX8_keep Sm x1 = some (-nI 1, bI Sm 0 (nI 0)) := by
    unfold fX8_keep
    simp (disch := omega) only [↓reduceIte, if_pos, if_neg, bd_some, nmV_e, inB_in, nI_cl, nI_leE, nI_ltE, nI_eqE, nI_add, pk_mul, lit_e, in_0_1, in_0_2, in_0_4, in_0_9, in_1_9, in_1_6, in_1_30, in_0_255, nI_ti, bI_i, bI_r, bI_j, bW_i, bW_j, bA_i, bA_j, bO_i, bO_r, bO_j, bJ_i, bJ_r, bJ_j]
  exact ⟨_, _, c7, c8, rfl, rel_sm hR0 rfl rfl rfl rfl rfl rfl rfl rfl rfl rfl rfl rfl rfl rfl rfl rfl rfl⟩
theorem st_again_n {Se Sx Sw Ss Sy Sz Sc : Bk} {ro : Nat} {Sg : Bk} {Sp : Nat → Bk} {Sm : Bk} (hR : Rel Se Sx Sw Ss Sy Sz Sc ro Sg Sp Sm) (x1 : Int32) (h0 : ¬ x1 = 0) (h1 : ¬ x1 = 1) : ∃ (u7 : Int32) (u8 : Int32 × Bk), fX7_again_n Se x1 = some u7 ∧ fX8_again Sm x1 = some u8 ∧ u7 = u8.1 ∧ Rel Se Sx Sw Ss Sy Sz Sc ro Sg Sp (bA (bA (bA (bA (bO Sm u8.2) 1 (u8.2.2.1 1)) 7 (u8.2.2.1 7)) 10 (u8.2.2.1 10)) 11 (u8.2.2.1 11)) := by
  have hR0 := hR
  have c := n01 h0 h1
  have c7 : fX7_again_n Se x1 = some (-nI 1) := by
    unfold fX7_again_n
    rcases c with c | c
    · simp (disch := omega) only [↓reduceIte, if_pos, if_neg, bd_some, nmV_e, inB_in, nI_cl, nI_leE, nI_ltE, nI_eqE, nI_add, pk_mul, lit_e, in_0_1, in_0_2, in_0_4, in_0_9, in_1_9, in_1_6, in_1_30, in_0_255, nI_ti, bI_i, bI_r, bI_j, bW_i, bW_j, bA_i, bA_j, bO_i, bO_r, bO_j, bJ_i, bJ_r, bJ_j, i32_lt]
    · simp (disch := omega) only [↓reduceIte, if_pos, if_neg, bd_some, nmV_e, inB_in, nI_cl, nI_leE, nI_ltE, nI_eqE, nI_add, pk_mul, lit_e, in_0_1, in_0_2, in_0_4, in_0_9, in_1_9, in_1_6, in_1_30, in_0_255, nI_ti, bI_i, bI_r, bI_j, bW_i, bW_j, bA_i, bA_j, bO_i, bO_r, bO_j, bJ_i, bJ_r, bJ_j, i32_lt]
  have c8 : fX8_again Sm x1 = some (-nI 1, bI Sm 0 (nI 0)) := by
    unfold fX8_again
    simp (disch := omega) only [↓reduceIte, if_pos, if_neg, bd_some, nmV_e, inB_in, nI_cl, nI_leE, nI_ltE, nI_eqE, nI_add, pk_mul, lit_e, in_0_1, in_0_2, in_0_4, in_0_9, in_1_9, in_1_6, in_1_30, in_0_255, nI_ti, bI_i, bI_r, bI_j, bW_i, bW_j, bA_i, bA_j, bO_i, bO_r, bO_j, bJ_i, bJ_r, bJ_j]
  exact ⟨_, _, c7, c8, rfl, rel_sm hR0 rfl rfl rfl rfl rfl rfl rfl rfl rfl rfl rfl rfl rfl rfl rfl rfl rfl⟩
theorem ag8 {nt nq nd : Nat} {wd : Nat → Nat → Nat} {Sm : Bk} (hB : WB nt nq nd wd) (hwm : RWm nt nq nd wd Sm) {x : Nat} (hx : x < 2) (h1 : Sm.2.1 11 x = nI 1) : ∃ u, fX8_again Sm (nI x) = some (nI 1000 + u.2.1 7 15 + wS wd (u.2.1 7) nt, bI u 9 (nI 0)) ∧ CP (bI Sm 0 (nI 0)) u 7 0 16 (fun k => Sm.2.1 10 (16 * x + k)) := by
  obtain ⟨u, q1, q2⟩ := ag31 (S := bI Sm 0 (nI 0)) hx
  have q3 := q2
  obtain ⟨h1', h2, h3, h4⟩ := q2
  have hw : RWm nt nq nd wd (bI u 9 (nI 0)) := rwm_cg hwm (by show u.1 3 = _; rw [h1']; rfl) (by show u.1 4 = _; rw [h1']; rfl) (by show u.1 5 = _; rw [h1']; rfl) (h3 1 (by omega)) (h3 2 (by omega)) (h3 3 (by omega))
  have e := q1 _ (es8 hB hw (u.2.1 7))
  refine ⟨u, ?_, q3⟩
  unfold fX8_again
  simp (disch := omega) only [↓reduceIte, if_pos, if_neg, bd_some, nmV_e, inB_in, nI_cl, nI_leE, nI_ltE, nI_eqE, nI_add, pk_mul, lit_e, in_0_1, in_0_2, in_0_4, in_0_9, in_1_9, in_1_6, in_1_30, in_0_255, nI_ti, bI_i, bI_r, bI_j, bW_i, bW_j, bA_i, bA_j, bO_i, bO_r, bO_j, bJ_i, bJ_r, bJ_j, h1]
  exact e
theorem st_again_0 {Se Sx Sw Ss Sy Sz Sc : Bk} {ro : Nat} {Sg : Bk} {Sp : Nat → Bk} {Sm : Bk} (hR : Rel Se Sx Sw Ss Sy Sz Sc ro Sg Sp Sm) : ∃ (u7 : Int32 × Bk × Bk) (u8 : Int32 × Bk), fX7_again_0 Se Sw Ss Sy Sc = some u7 ∧ fX8_again Sm (0 : Int32) = some u8 ∧ u7.1 = u8.1 ∧ Rel Se Sx Sw u7.2.1 Sy Sz (bO Sc u7.2.2) ro Sg Sp (bA (bA (bA (bA (bO Sm u8.2) 1 (u8.2.2.1 1)) 7 (u8.2.2.1 7)) 10 (u8.2.2.1 10)) 11 (u8.2.2.1 11)) := by
  have hR0 := hR
  obtain ⟨nt, nq, nd, wd, hB, hwc, hwm, hs, ht, ⟨n, hn, a1, a2, a3⟩, hk, hg, hj⟩ := hR
  have hk0 := hk
  obtain ⟨b, hb, b1, b2, b3, b4, b5⟩ := hk
  have hnt := hB.1
  have hbit : (nI b >>> (nI 0 &&& nI 31)) &&& nI 1 = nI (b % 2) := by
    rw [bit_n (by omega) (by omega)]
    congr 1
    omega
  by_cases c : b % 2 = 0
  · have c7 : fX7_again_0 Se Sw Ss Sy Sc = some (-nI 3, Ss, Sc) := by
      unfold fX7_again_0
      simp (disch := omega) only [↓reduceIte, if_pos, if_neg, bd_some, nmV_e, inB_in, nI_cl, nI_leE, nI_ltE, nI_eqE, nI_add, pk_mul, lit_e, in_0_1, in_0_2, in_0_4, in_0_9, in_1_9, in_1_6, in_1_30, in_0_255, nI_ti, bI_i, bI_r, bI_j, bW_i, bW_j, bA_i, bA_j, bO_i, bO_r, bO_j, bJ_i, bJ_r, bJ_j, b1, hbit]
    have c8 : fX8_again Sm (nI 0) = some (-nI 3, bI Sm 0 (nI 0)) := by
      unfold fX8_again
      simp (disch := omega) only [↓reduceIte, if_pos, if_neg, bd_some, nmV_e, inB_in, nI_cl, nI_leE, nI_ltE, nI_eqE, nI_add, pk_mul, lit_e, in_0_1, in_0_2, in_0_4, in_0_9, in_1_9, in_1_6, in_1_30, in_0_255, nI_ti, bI_i, bI_r, bI_j, bW_i, bW_j, bA_i, bA_j, bO_i, bO_r, bO_j, bJ_i, bJ_r, bJ_j, b2]
    exact ⟨_, _, c7, c8, rfl, rel_sm hR0 rfl rfl rfl rfl rfl rfl rfl rfl rfl rfl rfl rfl rfl rfl rfl rfl rfl⟩
  · obtain ⟨u, q1, x1, x2, x3, x4⟩ := ag8 hB hwm (x := 0) (by omega) (by rw [b2, show b % 2 = 1 by omega])
    obtain ⟨cc, k1, k2⟩ := cf (nt := nt) (nq := nq) (nd := nd) (wd := wd) hnt Ss Sy
    have hs2 : SR nt nq nd wd cc (u.2.1 7) := by
      refine sr_cg (k2 _ (b4 (by omega))) hnt rfl rfl rfl rfl (fun _ _ => rfl) (fun _ _ => rfl) (fun _ _ => rfl) (fun j hj => ?_)
      rw [x4, if_pos (by omega)]
      show Sm.2.1 10 (16 * 0 + (j - 0)) = Sm.2.1 10 (j)
      rw [show 16 * 0 + (j - 0) = j by omega]
    have e7 := es7 hB hwc cc
    rw [es_eq hs2] at e7
    have c7 : fX7_again_0 Se Sw Ss Sy Sc = some (nI 1000 + u.2.1 7 15 + wS wd (u.2.1 7) nt, cc, bI Sc 0 (nI 0)) := by
      unfold fX7_again_0
      simp (disch := omega) only [↓reduceIte, if_pos, if_neg, bd_some, nmV_e, inB_in, nI_cl, nI_leE, nI_ltE, nI_eqE, nI_add, pk_mul, lit_e, in_0_1, in_0_2, in_0_4, in_0_9, in_1_9, in_1_6, in_1_30, in_0_255, nI_ti, bI_i, bI_r, bI_j, bW_i, bW_j, bA_i, bA_j, bO_i, bO_r, bO_j, bJ_i, bJ_r, bJ_j, b1, hbit, k1, e7]
    refine ⟨_, _, c7, q1, rfl, rel_a (Sm := Sm) hB hwc hwm ht hk0 hg rfl ?_ ?_ ?_ ?_ ?_ rfl ?_ rfl rfl ?_ ?_ rfl rfl (hj.trans x2.symm) hs2 ⟨0, by omega, rfl, rfl, fun i hi => absurd hi (by omega)⟩⟩
    · show u.1 1 = _; rw [x1]; rfl
    · show u.1 3 = _; rw [x1]; rfl
    · show u.1 4 = _; rw [x1]; rfl
    · show u.1 5 = _; rw [x1]; rfl
    · show u.1 10 = _; rw [x1]; rfl
    · show u.2.1 1 = _; rw [x3 1 (by omega)]; rfl
    · show u.2.1 10 = _; rw [x3 10 (by omega)]; rfl
    · show u.2.1 11 = _; rw [x3 11 (by omega)]; rfl
theorem st_again_1 {Se Sx Sw Ss Sy Sz Sc : Bk} {ro : Nat} {Sg : Bk} {Sp : Nat → Bk} {Sm : Bk} (hR : Rel Se Sx Sw Ss Sy Sz Sc ro Sg Sp Sm) : ∃ (u7 : Int32 × Bk × Bk) (u8 : Int32 × Bk), fX7_again_1 Se Sw Ss Sz Sc = some u7 ∧ fX8_again Sm (1 : Int32) = some u8 ∧ u7.1 = u8.1 ∧ Rel Se Sx Sw u7.2.1 Sy Sz (bO Sc u7.2.2) ro Sg Sp (bA (bA (bA (bA (bO Sm u8.2) 1 (u8.2.2.1 1)) 7 (u8.2.2.1 7)) 10 (u8.2.2.1 10)) 11 (u8.2.2.1 11)) := by
  have hR0 := hR
  obtain ⟨nt, nq, nd, wd, hB, hwc, hwm, hs, ht, ⟨n, hn, a1, a2, a3⟩, hk, hg, hj⟩ := hR
  have hk0 := hk
  obtain ⟨b, hb, b1, b2, b3, b4, b5⟩ := hk
  have hnt := hB.1
  have hbit : (nI b >>> (nI 1 &&& nI 31)) &&& nI 1 = nI (b / 2) := by
    rw [bit_n (by omega) (by omega)]
    congr 1
    omega
  by_cases c : b / 2 = 0
  · have c7 : fX7_again_1 Se Sw Ss Sz Sc = some (-nI 3, Ss, Sc) := by
      unfold fX7_again_1
      simp (disch := omega) only [↓reduceIte, if_pos, if_neg, bd_some, nmV_e, inB_in, nI_cl, nI_leE, nI_ltE, nI_eqE, nI_add, pk_mul, lit_e, in_0_1, in_0_2, in_0_4, in_0_9, in_1_9, in_1_6, in_1_30, in_0_255, nI_ti, bI_i, bI_r, bI_j, bW_i, bW_j, bA_i, bA_j, bO_i, bO_r, bO_j, bJ_i, bJ_r, bJ_j, b1, hbit]
    have c8 : fX8_again Sm (nI 1) = some (-nI 3, bI Sm 0 (nI 0)) := by
      unfold fX8_again
      simp (disch := omega) only [↓reduceIte, if_pos, if_neg, bd_some, nmV_e, inB_in, nI_cl, nI_leE, nI_ltE, nI_eqE, nI_add, pk_mul, lit_e, in_0_1, in_0_2, in_0_4, in_0_9, in_1_9, in_1_6, in_1_30, in_0_255, nI_ti, bI_i, bI_r, bI_j, bW_i, bW_j, bA_i, bA_j, bO_i, bO_r, bO_j, bJ_i, bJ_r, bJ_j, b3]
    exact ⟨_, _, c7, c8, rfl, rel_sm hR0 rfl rfl rfl rfl rfl rfl rfl rfl rfl rfl rfl rfl rfl rfl rfl rfl rfl⟩
  · obtain ⟨u, q1, x1, x2, x3, x4⟩ := ag8 hB hwm (x := 1) (by omega) (by rw [b3, show b / 2 = 1 by omega])
    obtain ⟨cc, k1, k2⟩ := cf (nt := nt) (nq := nq) (nd := nd) (wd := wd) hnt Ss Sz
    have hs2 : SR nt nq nd wd cc (u.2.1 7) := by
      refine sr_cg (k2 _ (b5 (by omega))) hnt rfl rfl rfl rfl (fun _ _ => rfl) (fun _ _ => rfl) (fun _ _ => rfl) (fun j hj => ?_)
      rw [x4, if_pos (by omega)]
      show Sm.2.1 10 (16 * 1 + (j - 0)) = Sm.2.1 10 (16 + j)
      rw [show 16 * 1 + (j - 0) = 16 + j by omega]
    have e7 := es7 hB hwc cc
    rw [es_eq hs2] at e7
    have c7 : fX7_again_1 Se Sw Ss Sz Sc = some (nI 1000 + u.2.1 7 15 + wS wd (u.2.1 7) nt, cc, bI Sc 0 (nI 0)) := by
      unfold fX7_again_1
      simp (disch := omega) only [↓reduceIte, if_pos, if_neg, bd_some, nmV_e, inB_in, nI_cl, nI_leE, nI_ltE, nI_eqE, nI_add, pk_mul, lit_e, in_0_1, in_0_2, in_0_4, in_0_9, in_1_9, in_1_6, in_1_30, in_0_255, nI_ti, bI_i, bI_r, bI_j, bW_i, bW_j, bA_i, bA_j, bO_i, bO_r, bO_j, bJ_i, bJ_r, bJ_j, b1, hbit, k1, e7]
    refine ⟨_, _, c7, q1, rfl, rel_a (Sm := Sm) hB hwc hwm ht hk0 hg rfl ?_ ?_ ?_ ?_ ?_ rfl ?_ rfl rfl ?_ ?_ rfl rfl (hj.trans x2.symm) hs2 ⟨0, by omega, rfl, rfl, fun i hi => absurd hi (by omega)⟩⟩
    · show u.1 1 = _; rw [x1]; rfl
    · show u.1 3 = _; rw [x1]; rfl
    · show u.1 4 = _; rw [x1]; rfl
    · show u.1 5 = _; rw [x1]; rfl
    · show u.1 10 = _; rw [x1]; rfl
    · show u.2.1 1 = _; rw [x3 1 (by omega)]; rfl
    · show u.2.1 10 = _; rw [x3 10 (by omega)]; rfl
    · show u.2.1 11 = _; rw [x3 11 (by omega)]; rfl
