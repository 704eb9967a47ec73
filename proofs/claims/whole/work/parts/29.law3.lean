theorem eq_tm {args : Array Value} {s : State} {tm : Term} {z : Int32} (h : (Cond.eq tm (.int z)).before args s = true) : tm.eval args s none [] s = some (.int z) := by
  cases hv : tm.eval args s none [] s with
  | none => simp [Cond.before, Cond.holds, Cond.value, hv] at h
  | some w =>
    have hz : (Term.int z).eval args s none [] s = some (.int z) := rfl
    simp only [Cond.before, Cond.holds, Cond.value, hv, hz] at h
    cases w <;> simp_all
theorem law_Zs {args : Array Value} {s : State} (hts : ∀ w ∈ lw_tbl, w.before args s = true) (hgv : (Jvm.Cond.and given_1 narrow_1).before args s = true) : Zs (fun q : Nat => s.heap.size ≤ q) s s.heap := by
  have hs := flat_of_before _ hgv
  have hA : ∀ a : Nat, a < s.heap.size → ¬ (fun q : Nat => s.heap.size ≤ q) a := fun a h => Nat.not_le.mpr h
  have hw : ∀ w ∈ wT, w.before args s = true := fun w h => hts w (wT_in h)
  refine ⟨?_, ?_⟩
  · have hel : ∀ j : Nat, j < 16 → (Term.elem (.static "EyeDrink$Trees" "IN_THREES" "[I") (.int (Int32.ofNat j))).eval args s none [] s = some (.int (in3 j)) := by
      intro j hj
      rcases (show j = 0 ∨ j = 1 ∨ j = 2 ∨ j = 3 ∨ j = 4 ∨ j = 5 ∨ j = 6 ∨ j = 7 ∨ j = 8 ∨ j = 9 ∨ j = 10 ∨ j = 11 ∨ j = 12 ∨ j = 13 ∨ j = 14 ∨ j = 15 by omega) with rfl | rfl | rfl | rfl | rfl | rfl | rfl | rfl | rfl | rfl | rfl | rfl | rfl | rfl | rfl | rfl
      · exact eq_tm (z := 0) (hs _ (by decide +kernel))
      · exact eq_tm (z := 1) (hs _ (by decide +kernel))
      · exact eq_tm (z := 3) (hs _ (by decide +kernel))
      · exact eq_tm (z := 4) (hs _ (by decide +kernel))
      · exact eq_tm (z := 9) (hs _ (by decide +kernel))
      · exact eq_tm (z := 10) (hs _ (by decide +kernel))
      · exact eq_tm (z := 12) (hs _ (by decide +kernel))
      · exact eq_tm (z := 13) (hs _ (by decide +kernel))
      · exact eq_tm (z := 27) (hs _ (by decide +kernel))
      · exact eq_tm (z := 28) (hs _ (by decide +kernel))
      · exact eq_tm (z := 30) (hs _ (by decide +kernel))
      · exact eq_tm (z := 31) (hs _ (by decide +kernel))
      · exact eq_tm (z := 36) (hs _ (by decide +kernel))
      · exact eq_tm (z := 37) (hs _ (by decide +kernel))
      · exact eq_tm (z := 39) (hs _ (by decide +kernel))
      · exact eq_tm (z := 40) (hs _ (by decide +kernel))
    obtain ⟨t, h1, h2⟩ := va_Tof (args := args) (s := s) (tm := .static "EyeDrink$Trees" "IN_THREES" "[I") (ty := .int) (N := 16) (f := fun j => .int (in3 j)) (A := fun q : Nat => s.heap.size ≤ q) (by omega) (hs _ (by decide +kernel)) (eq_tm (hs _ (by decide +kernel))) hel hA
    exact ⟨t, va_Zref (hts _ wd3_20) (hw _ wd1_6) h1 hA, h2⟩
  · have hel : ∀ j : Nat, j < 7 → (Term.elem (.static "EyeDrink" "TEN_TO" "[I") (.int (Int32.ofNat j))).eval args s none [] s = some (.int (tenTo j)) := by
      intro j hj
      rcases (show j = 0 ∨ j = 1 ∨ j = 2 ∨ j = 3 ∨ j = 4 ∨ j = 5 ∨ j = 6 by omega) with rfl | rfl | rfl | rfl | rfl | rfl | rfl
      · exact eq_tm (z := 1) (hs _ (by decide +kernel))
      · exact eq_tm (z := 10) (hs _ (by decide +kernel))
      · exact eq_tm (z := 100) (hs _ (by decide +kernel))
      · exact eq_tm (z := 1000) (hs _ (by decide +kernel))
      · exact eq_tm (z := 10000) (hs _ (by decide +kernel))
      · exact eq_tm (z := 100000) (hs _ (by decide +kernel))
      · exact eq_tm (z := 1000000) (hs _ (by decide +kernel))
    obtain ⟨t, h1, h2⟩ := va_Tof (args := args) (s := s) (tm := .static "EyeDrink" "TEN_TO" "[I") (ty := .int) (N := 7) (f := fun j => .int (tenTo j)) (A := fun q : Nat => s.heap.size ≤ q) (by omega) (hs _ (by decide +kernel)) (eq_tm (hs _ (by decide +kernel))) hel hA
    exact ⟨t, va_Zref (hts _ wd3_99) (hw _ wd1_1) h1 hA, h2⟩
set_option maxHeartbeats 4000000 in
set_option maxRecDepth 100000 in
theorem law_loop {p : Program} {l : Launch} {e : Env} {s : State} {m : MethodId} {below : List Frame} {meth : Method} {c : Code} {D : va_G} {b L : Nat} {xs : Nat → Int32} (hL : L ≤ 2560) (C0 : lw_At p s m meth c b L xs) (hZ : Zs (fun q : Nat => s.heap.size ≤ q) s s.heap) (cI cZ cO : ClassId) (jhe : Nat) (hb : Nat → Nat) (ab : Nat → Nat → Nat) (sl hh : Nat → Nat) (aa : Nat → Nat → Nat) (jhm : Nat) (jam : Nat → Nat) (hK : va_K D vwCl (tyL cI cZ cO) s) : ∀ (n i : Nat) (k : Int32), k = nI i → i ≤ 2600 → L + 6 ≤ i + n → ∀ (Se Sx Sl Sw Ss Sd Sy Sz Sc : Bk) (ro : Nat) (Sr Sg : Bk) (Sp : Nat → Bk) (Sm : Bk) (H : Heap) (locs : List Loc) (ls : Array Slot), Rel Se Sx Sw Ss Sy Sz Sc ro Sg Sp Sm → va_P D vwCl (wL cI cZ cO jhe hb ab sl hh aa jhm jam Se Sx Sl Sw Ss Sd Sy Sz Sc ro Sr Sg Sp Sm) H → va_D (fun q : Nat => s.heap.size ≤ q) (wL cI cZ cO jhe hb ab sl hh aa jhm jam Se Sx Sl Sw Ss Sd Sy Sz Sc ro Sr Sg Sp Sm) → va_S (fun q : Nat => s.heap.size ≤ q) s.heap H locs → lv_has ls 4 [(0, .ref b), (1, .ref jhe), (2, .ref jhm), (3, .int k)] → W p l e room_1 s m #[Value.ref b] below meth c H locs 128 3705 (lw_Z below #[Value.ref b] s) (F0 m 18 ls []) := by
  obtain ⟨hx, hbc, hr, hml, hown, hts, hX, hbl, hlocks, hgv⟩ := id C0
  have hbc : c.code = cL_law := hbc
  have hbA : ¬ (fun q : Nat => s.heap.size ≤ q) b := Nat.not_le.mpr hbl
  intro n
  induction n using Nat.strongRecOn with
  | ind n ih =>
    intro i k hk hi hn Se Sx Sl Sw Ss Sd Sy Sz Sc ro Sr Sg Sp Sm H locs ls hR hP hD hS hl
    refine lv_iload_n hx hbc dL_law_18 rfl (lv_at hl 3 rfl) ?_
    refine lv_aload_n hx hbc dL_law_19 rfl (lv_at hl 0 rfl) ?_
    refine va_slen hx hbc hX hbl hbA hS dL_law_20 ?_
    refine lv_iconst (v := (5 : Int32)) hx hbc dL_law_21 rfl ?_
    refine lv_isub hx hbc dL_law_22 ?_
    refine lv_icmp_gt (tgt := 887) hx hbc dL_law_23 (by decide) (fun _ => ?_) (fun c1 => ?_)
    · refine lv_iconst (v := 1) hx hbc dL_law_887 (by decide) ?_
      refine va_forget (fun q hq => hS.2.2 q hq) ?_
      refine W.widen (k := 600000) (n := 7302250) (by decide) (by decide) ?_
      exact lw_ret hx hbc hr hlocks dL_law_888
    · have h5 : i + 5 ≤ L := lawIn hL hi hk c1
      refine lv_aload_n hx hbc dL_law_26 rfl (lv_at hl 0 rfl) ?_
      refine lv_iload_n hx hbc dL_law_27 rfl (lv_at hl 3 rfl) ?_
      refine va_sld hx hbc hX hbl hbA hS (by rw [hk]; exact vp_in_nI (by omega) (by omega)) dL_law_28 ?_
      refine lv_bipush (v := (31 : Int32)) hx hbc dL_law_29 rfl ?_
      refine lv_iand hx hbc dL_law_31 ?_
      obtain ⟨j, hj, ej⟩ := pk_andE (xs k.toNatClampNeg) (m := (31 : Int32)) 5 (by decide)
      rw [ej]
      have hnext : ∀ (Se Sx Sl Sw Ss Sd Sy Sz Sc : Bk) (ro : Nat) (Sr Sg : Bk) (Sp : Nat → Bk) (Sm : Bk) (H : Heap) (locs : List Loc) (ls : Array Slot), Rel Se Sx Sw Ss Sy Sz Sc ro Sg Sp Sm → va_P D vwCl (wL cI cZ cO jhe hb ab sl hh aa jhm jam Se Sx Sl Sw Ss Sd Sy Sz Sc ro Sr Sg Sp Sm) H → va_D (fun q : Nat => s.heap.size ≤ q) (wL cI cZ cO jhe hb ab sl hh aa jhm jam Se Sx Sl Sw Ss Sd Sy Sz Sc ro Sr Sg Sp Sm) → va_S (fun q : Nat => s.heap.size ≤ q) s.heap H locs → lv_has ls 4 [(0, .ref b), (1, .ref jhe), (2, .ref jhm), (3, .int k)] → W p l e room_1 s m #[Value.ref b] below meth c H locs 128 3705 (lw_Z below #[Value.ref b] s) (F0 m 881 ls []) := by
        intro Se Sx Sl Sw Ss Sd Sy Sz Sc ro Sr Sg Sp Sm H locs ls hR hP hD hS hl
        refine lv_iinc (v := k + 5) (lv' := [(3, .int (k + 5)), (0, .ref b), (1, .ref jhe), (2, .ref jhm)]) hx hbc dL_law_881 hl (k := 3) rfl rfl (by decide) rfl (fun ls hl => ?_)
        refine lv_goto (tgt := 18) hx hbc dL_law_884 (by decide) ?_
        exact ih (n - 5) (by omega) (i + 5) (k + 5) (by rw [hk]; exact nI_add i 5) (by omega) (by omega) _ _ _ _ _ _ _ _ _ _ _ _ _ _ _ _ _ hR hP hD hS (lv_sub hl [1, 2, 3, 0] rfl)
      rcases (show j = 0 ∨ j = 1 ∨ j = 2 ∨ j = 3 ∨ j = 4 ∨ j = 5 ∨ j = 6 ∨ j = 7 ∨ j = 8 ∨ j = 9 ∨ j = 10 ∨ j = 11 ∨ j = 12 ∨ j = 13 ∨ j = 14 ∨ j = 15 ∨ j = 16 ∨ j = 17 ∨ j = 18 ∨ j = 19 ∨ j = 20 ∨ j = 21 ∨ j = 22 ∨ j = 23 ∨ j = 24 ∨ j = 25 ∨ j = 26 ∨ j = 27 ∨ 28 ≤ j by omega) with rfl | rfl | rfl | rfl | rfl | rfl | rfl | rfl | rfl | rfl | rfl | rfl | rfl | rfl | rfl | rfl | rfl | rfl | rfl | rfl | rfl | rfl | rfl | rfl | rfl | rfl | rfl | rfl | hj2
      · refine lv_tableIn (tgt := 160) hx hbc dL_law_32 (by decide) (by decide) (by rfl) (by decide) ?_
        exact law_c0 hL C0 hZ cI cZ cO jhe hb ab sl hh aa jhm jam hK hk h5 hnext _ _ _ _ _ _ _ _ _ _ _ _ _ _ _ _ _ hR hP hD hS hl
      · refine lv_tableIn (tgt := 183) hx hbc dL_law_32 (by decide) (by decide) (by rfl) (by decide) ?_
        exact law_c1 hL C0 hZ cI cZ cO jhe hb ab sl hh aa jhm jam hK hk h5 hnext _ _ _ _ _ _ _ _ _ _ _ _ _ _ _ _ _ hR hP hD hS hl
      · refine lv_tableIn (tgt := 196) hx hbc dL_law_32 (by decide) (by decide) (by rfl) (by decide) ?_
        exact law_c2 hL C0 hZ cI cZ cO jhe hb ab sl hh aa jhm jam hK hk h5 hnext _ _ _ _ _ _ _ _ _ _ _ _ _ _ _ _ _ hR hP hD hS hl
      · refine lv_tableIn (tgt := 209) hx hbc dL_law_32 (by decide) (by decide) (by rfl) (by decide) ?_
        exact law_c3 hL C0 hZ cI cZ cO jhe hb ab sl hh aa jhm jam hK hk h5 hnext _ _ _ _ _ _ _ _ _ _ _ _ _ _ _ _ _ hR hP hD hS hl
      · refine lv_tableIn (tgt := 222) hx hbc dL_law_32 (by decide) (by decide) (by rfl) (by decide) ?_
        exact law_c4 hL C0 hZ cI cZ cO jhe hb ab sl hh aa jhm jam hK hk h5 hnext _ _ _ _ _ _ _ _ _ _ _ _ _ _ _ _ _ hR hP hD hS hl
      · refine lv_tableIn (tgt := 245) hx hbc dL_law_32 (by decide) (by decide) (by rfl) (by decide) ?_
        exact law_c5 hL C0 hZ cI cZ cO jhe hb ab sl hh aa jhm jam hK hk h5 hnext _ _ _ _ _ _ _ _ _ _ _ _ _ _ _ _ _ hR hP hD hS hl
      · refine lv_tableIn (tgt := 278) hx hbc dL_law_32 (by decide) (by decide) (by rfl) (by decide) ?_
        exact law_c6 hL C0 hZ cI cZ cO jhe hb ab sl hh aa jhm jam hK hk h5 hnext _ _ _ _ _ _ _ _ _ _ _ _ _ _ _ _ _ hR hP hD hS hl
      · refine lv_tableIn (tgt := 311) hx hbc dL_law_32 (by decide) (by decide) (by rfl) (by decide) ?_
        exact law_c7 hL C0 hZ cI cZ cO jhe hb ab sl hh aa jhm jam hK hk h5 hnext _ _ _ _ _ _ _ _ _ _ _ _ _ _ _ _ _ hR hP hD hS hl
      · refine lv_tableIn (tgt := 344) hx hbc dL_law_32 (by decide) (by decide) (by rfl) (by decide) ?_
        exact law_c8 hL C0 hZ cI cZ cO jhe hb ab sl hh aa jhm jam hK hk h5 hnext _ _ _ _ _ _ _ _ _ _ _ _ _ _ _ _ _ hR hP hD hS hl
      · refine lv_tableIn (tgt := 367) hx hbc dL_law_32 (by decide) (by decide) (by rfl) (by decide) ?_
        exact law_c9 hL C0 hZ cI cZ cO jhe hb ab sl hh aa jhm jam hK hk h5 hnext _ _ _ _ _ _ _ _ _ _ _ _ _ _ _ _ _ hR hP hD hS hl
      · refine lv_tableIn (tgt := 390) hx hbc dL_law_32 (by decide) (by decide) (by rfl) (by decide) ?_
        exact law_c10 hL C0 hZ cI cZ cO jhe hb ab sl hh aa jhm jam hK hk h5 hnext _ _ _ _ _ _ _ _ _ _ _ _ _ _ _ _ _ hR hP hD hS hl
      · refine lv_tableIn (tgt := 403) hx hbc dL_law_32 (by decide) (by decide) (by rfl) (by decide) ?_
        exact law_c11 hL C0 hZ cI cZ cO jhe hb ab sl hh aa jhm jam hK hk h5 hnext _ _ _ _ _ _ _ _ _ _ _ _ _ _ _ _ _ hR hP hD hS hl
      · refine lv_tableIn (tgt := 416) hx hbc dL_law_32 (by decide) (by decide) (by rfl) (by decide) ?_
        exact law_c12 hL C0 hZ cI cZ cO jhe hb ab sl hh aa jhm jam hK hk h5 hnext _ _ _ _ _ _ _ _ _ _ _ _ _ _ _ _ _ hR hP hD hS hl
      · refine lv_tableIn (tgt := 439) hx hbc dL_law_32 (by decide) (by decide) (by rfl) (by decide) ?_
        exact law_c13 hL C0 hZ cI cZ cO jhe hb ab sl hh aa jhm jam hK hk h5 hnext _ _ _ _ _ _ _ _ _ _ _ _ _ _ _ _ _ hR hP hD hS hl
      · refine lv_tableIn (tgt := 462) hx hbc dL_law_32 (by decide) (by decide) (by rfl) (by decide) ?_
        exact law_c14 hL C0 hZ cI cZ cO jhe hb ab sl hh aa jhm jam hK hk h5 hnext _ _ _ _ _ _ _ _ _ _ _ _ _ _ _ _ _ hR hP hD hS hl
      · refine lv_tableIn (tgt := 485) hx hbc dL_law_32 (by decide) (by decide) (by rfl) (by decide) ?_
        exact law_c15 hL C0 hZ cI cZ cO jhe hb ab sl hh aa jhm jam hK hk h5 hnext _ _ _ _ _ _ _ _ _ _ _ _ _ _ _ _ _ hR hP hD hS hl
      · refine lv_tableIn (tgt := 508) hx hbc dL_law_32 (by decide) (by decide) (by rfl) (by decide) ?_
        exact law_c16 hL C0 hZ cI cZ cO jhe hb ab sl hh aa jhm jam hK hk h5 hnext _ _ _ _ _ _ _ _ _ _ _ _ _ _ _ _ _ hR hP hD hS hl
      · refine lv_tableIn (tgt := 521) hx hbc dL_law_32 (by decide) (by decide) (by rfl) (by decide) ?_
        exact law_c17 hL C0 hZ cI cZ cO jhe hb ab sl hh aa jhm jam hK hk h5 hnext _ _ _ _ _ _ _ _ _ _ _ _ _ _ _ _ _ hR hP hD hS hl
      · refine lv_tableIn (tgt := 544) hx hbc dL_law_32 (by decide) (by decide) (by rfl) (by decide) ?_
        exact law_c18 hL C0 hZ cI cZ cO jhe hb ab sl hh aa jhm jam hK hk h5 hnext _ _ _ _ _ _ _ _ _ _ _ _ _ _ _ _ _ hR hP hD hS hl
      · refine lv_tableIn (tgt := 597) hx hbc dL_law_32 (by decide) (by decide) (by rfl) (by decide) ?_
        exact law_c19 hL C0 hZ cI cZ cO jhe hb ab sl hh aa jhm jam hK hk h5 hnext _ _ _ _ _ _ _ _ _ _ _ _ _ _ _ _ _ hR hP hD hS hl
      · refine lv_tableIn (tgt := 640) hx hbc dL_law_32 (by decide) (by decide) (by rfl) (by decide) ?_
        exact law_c20 hL C0 hZ cI cZ cO jhe hb ab sl hh aa jhm jam hK hk h5 hnext _ _ _ _ _ _ _ _ _ _ _ _ _ _ _ _ _ hR hP hD hS hl
      · refine lv_tableIn (tgt := 673) hx hbc dL_law_32 (by decide) (by decide) (by rfl) (by decide) ?_
        exact law_c21 hL C0 hZ cI cZ cO jhe hb ab sl hh aa jhm jam hK hk h5 hnext _ _ _ _ _ _ _ _ _ _ _ _ _ _ _ _ _ hR hP hD hS hl
      · refine lv_tableIn (tgt := 722) hx hbc dL_law_32 (by decide) (by decide) (by rfl) (by decide) ?_
        exact law_c22 hL C0 hZ cI cZ cO jhe hb ab sl hh aa jhm jam hK hk h5 hnext _ _ _ _ _ _ _ _ _ _ _ _ _ _ _ _ _ hR hP hD hS hl
      · refine lv_tableIn (tgt := 735) hx hbc dL_law_32 (by decide) (by decide) (by rfl) (by decide) ?_
        exact law_c23 hL C0 hZ cI cZ cO jhe hb ab sl hh aa jhm jam hK hk h5 hnext _ _ _ _ _ _ _ _ _ _ _ _ _ _ _ _ _ hR hP hD hS hl
      · refine lv_tableIn (tgt := 758) hx hbc dL_law_32 (by decide) (by decide) (by rfl) (by decide) ?_
        exact law_c24 hL C0 hZ cI cZ cO jhe hb ab sl hh aa jhm jam hK hk h5 hnext _ _ _ _ _ _ _ _ _ _ _ _ _ _ _ _ _ hR hP hD hS hl
      · refine lv_tableIn (tgt := 812) hx hbc dL_law_32 (by decide) (by decide) (by rfl) (by decide) ?_
        exact law_c25 hL C0 hZ cI cZ cO jhe hb ab sl hh aa jhm jam hK hk h5 hnext _ _ _ _ _ _ _ _ _ _ _ _ _ _ _ _ _ hR hP hD hS hl
      · refine lv_tableIn (tgt := 835) hx hbc dL_law_32 (by decide) (by decide) (by rfl) (by decide) ?_
        exact law_c26 hL C0 hZ cI cZ cO jhe hb ab sl hh aa jhm jam hK hk h5 hnext _ _ _ _ _ _ _ _ _ _ _ _ _ _ _ _ _ hR hP hD hS hl
      · refine lv_tableIn (tgt := 858) hx hbc dL_law_32 (by decide) (by decide) (by rfl) (by decide) ?_
        exact law_c27 hL C0 hZ cI cZ cO jhe hb ab sl hh aa jhm jam hK hk h5 hnext _ _ _ _ _ _ _ _ _ _ _ _ _ _ _ _ _ hR hP hD hS hl
      · refine lv_tableOut (tgt := 881) hx hbc dL_law_32 (Or.inr (by rw [nI_toInt (by omega)]; omega)) (by decide) ?_
        exact hnext _ _ _ _ _ _ _ _ _ _ _ _ _ _ _ _ _ hR hP hD hS hl
theorem rel0 : Rel S0 S0 S0 S0 S0 S0 S0 0 S0 (fun _ => S0) S0 := by
  refine ⟨0, 0, 0, fun _ _ => 0, ⟨by omega, by omega, by omega, fun t h => by omega, fun t h => by omega, fun t h => by omega⟩, ⟨rfl, rfl, rfl, fun t h => by omega, fun t h => by omega, fun t h => by omega, 0, by decide, rfl, fun q h => by omega⟩, ⟨rfl, rfl, rfl, fun t h => by omega, fun t h => by omega, fun t h => by omega⟩, ⟨fun _ => 0, fun _ => 0, fun _ => 0, 0, 0, fun t h => by omega, rfl, rfl, by decide, rfl, rfl, by decide, rfl, rfl, rfl⟩, ⟨0, by omega, rfl, rfl, fun j h => by omega⟩, ⟨0, by omega, rfl, rfl, fun j h => by omega⟩, ⟨0, by omega, rfl, rfl, rfl, fun h => by omega, fun h => by omega⟩, ⟨0, by omega, rfl, rfl, fun j h => by omega⟩, rfl⟩
set_option maxHeartbeats 4000000 in
set_option maxRecDepth 100000 in
theorem whole_start {p : Program} {e : Env} {s : State} {m : MethodId} {below : List Frame} {meth : Method} {c : Code} (l : Launch) {b L : Nat} {xs : Nat → Int32} (hL : L ≤ 2560) (C0 : lw_At p s m meth c b L xs) : W p l e room_1 s m #[Value.ref b] below meth c s.heap [] 0 0 (lw_Z below #[Value.ref b] s) (entryFrame m ([Value.ref b] : List Value).toArray 4) := by
  obtain ⟨hx, hbc, hr, hml, hown, hts, hX, hbl, hlocks, hgv⟩ := id C0
  have ht : ∀ w ∈ wT, w.before #[Value.ref b] s = true := fun w h => hts w (wT_in h)
  have hbc : c.code = cL_law := hbc
  have hown : s.vm.findClass "EyeDrinkLaw" = some m.cls := hown
  have hA : ∀ q : Nat, s.heap.size ≤ q → (fun q : Nat => s.heap.size ≤ q) q := fun _ h => h
  have hZ := law_Zs hts hgv
  obtain ⟨c0, i0, k0⟩ := u_known (C := RX0) (T := TX0) (N := 2) (n := 2) ht inX0 (ht _ wd1_168)
  obtain ⟨c1, i1, k1⟩ := u_known (C := RX2) (T := TX2) (N := 4) (n := 4) ht inX2 (ht _ wd1_219)
  obtain ⟨c2, i2, k2⟩ := u_known (C := RX3) (T := TX3) (N := 8) (n := 8) ht inX3 (ht _ wd1_130)
  obtain ⟨c3, i3, k3⟩ := u_known (C := RX4) (T := TX4) (N := 3) (n := 3) ht inX4 (ht _ wd1_22)
  obtain ⟨c4, i4, k4⟩ := u_known (C := RX5) (T := TX5) (N := 9) (n := 9) ht inX5 (ht _ wd1_185)
  obtain ⟨c5, i5, k5⟩ := u_known (C := RX6) (T := TX6) (N := 15) (n := 15) ht inX6 (ht _ wd1_40)
  obtain ⟨c6, i6, k6⟩ := u_known (C := RX7) (T := TX7) (N := 11) (n := 11) ht inX7 (ht _ wd1_14)
  obtain ⟨c7, i7, k7⟩ := u_known (C := RX8) (T := TX8) (N := 31) (n := 31) ht inX8 (ht _ wd3_180)
  obtain ⟨cI, kI, oI, fI, gI, dI⟩ := Cond.arrayClass_spec (ht _ wd1_38)
  obtain ⟨cZ, kZ, oZ, fZ, gZ, dZ⟩ := Cond.arrayClass_spec (ht _ wd1_238)
  obtain ⟨oO, cO, kO, fO, -, gO, dO, nO⟩ := Cond.arrayOver_spec (hts _ wd1_174)
  have hKc : ∀ (k : Nat) (q : vw_C), vwCl[k]? = some q → u_Kn s q.1 q.2.1 q.2.2 ((fun k => [c0, c1, c2, c3, c4, c5, c6, c7].getD k 0) k) ((fun k => ([i0, i1, i2, i3, i4, i5, i6, i7] : List (Nat → Nat)).getD k (fun _ => 0)) k) := by
    intro k q hq
    match k, hq with
    | 0, hq => cases hq; exact k0
    | 1, hq => cases hq; exact k1
    | 2, hq => cases hq; exact k2
    | 3, hq => cases hq; exact k3
    | 4, hq => cases hq; exact k4
    | 5, hq => cases hq; exact k5
    | 6, hq => cases hq; exact k6
    | 7, hq => cases hq; exact k7
    | k + 8, hq => simp [vwCl] at hq
  generalize (fun k => [c0, c1, c2, c3, c4, c5, c6, c7].getD k 0) = dC at hKc
  generalize (fun k => ([i0, i1, i2, i3, i4, i5, i6, i7] : List (Nat → Nat)).getD k (fun _ => 0)) = dI2 at hKc
  have hK : va_K (dC, dI2) vwCl (tyL cI cZ cO) s := by
    refine ⟨hKc, fun k q hq => ?_⟩
    match k, hq with
    | 0, hq => cases hq; exact ⟨fun n z => ⟨(fun k h => by cases h), kI, gI, oI, dI⟩, fI⟩
    | 1, hq => cases hq; exact ⟨fun n z => ⟨(fun k h => by cases h), kZ, gZ, oZ, dZ⟩, fZ⟩
    | 2, hq => cases hq; exact ⟨fun n z => ⟨(fun k h => by cases h), kO, gO, oO, dO⟩, kO, oO, gO, dO, fO, nO⟩
    | k + 3, hq => simp at hq
  have hS : va_S (fun q : Nat => s.heap.size ≤ q) s.heap s.heap [] := va_S.rf
  have hP : va_P (dC, dI2) vwCl [] s.heap := fun k q h => by simp at h
  have hD : va_D (fun q : Nat => s.heap.size ≤ q) [] := ⟨fun i j p q h => by simp at h, fun k q h => by simp at h⟩
  have hAO : va_AO "EyeDrink$Stand" s := va_AO.of (hts _ wd1_174)
  have hN1 : va_Nw (.methodLinkNest "EyeDrink" 9 yTx "EyeDrink") s := va_Nw.of rfl (hts _ wd1_23)
  have hN2 : va_Nw (.methodLinkNest "EyeDrink" 18 yWl "EyeDrink") s := va_Nw.of rfl (hts _ wd1_41)
  have hC : CallFix p m c cL_law 4 s #[Value.ref b] wT "EyeDrinkLaw" := ⟨hx, hbc, hml, hown, ht⟩
  have hl := lv_entry ([.ref b]) (n := 4) (Nat.le_of_ble_eq_true rfl)
  rw [lg_entry_eq]
  generalize (lg_sl ([.ref b]) ++ List.replicate (4 - (lg_sl ([.ref b])).length) Slot.unset).toArray = ls at hl ⊢
  have hl : lv_has ls 4 [(0, .ref b)] := hl
  refine va_new (D := (dC, dI2)) (ci := 6) (fs := [.null, .null, .null, .null, .null, .null, .null, .null, .null, .int 0, .long 0]) (C := RX7) (T := TX7) (N := 11) hx hbc ht inX7 tyX7 tyX7_ok hown (ht _ wd1_13) (ht _ wd1_14) (ht _ wd1_1) hK hP hD hS hA rfl (fun j hj => by rcases (show j = 0 ∨ j = 1 ∨ j = 2 ∨ j = 3 ∨ j = 4 ∨ j = 5 ∨ j = 6 ∨ j = 7 ∨ j = 8 ∨ j = 9 ∨ j = 10 by omega) with rfl | rfl | rfl | rfl | rfl | rfl | rfl | rfl | rfl | rfl | rfl <;> rfl) (Nat.le_of_ble_eq_true rfl) (Nat.le_of_ble_eq_true rfl) dL_law_0 (fun jhe H hP hD hS => ?_)
  have hP : va_P (dC, dI2) vwCl ([(jhe, .inr (6, [.null, .null, .null, .null, .null, .null, .null, .null, .null, .int 0, .long 0]))] ++ []) H := hP
  have hD : va_D (fun q : Nat => s.heap.size ≤ q) ([(jhe, .inr (6, [.null, .null, .null, .null, .null, .null, .null, .null, .null, .int 0, .long 0]))] ++ []) := hD
  refine W.widen (k := 1) (n := 11) (Nat.le_of_ble_eq_true rfl) (Nat.le_of_ble_eq_true rfl) ?_
  refine lv_dup hx hbc dL_law_3 rfl ?_
  refine k_I (As := []) (rest := [.ref jhe]) (wr := []) hC miX7_init rfl mjX7_init wd1_15 (qX7_init l (dC, dI2) cI cZ cO jhe H.size) ⟨rfl, rfl⟩ ⟨Nat.le_of_ble_eq_true rfl, Nat.le_of_ble_eq_true rfl⟩ hP hD hK hZ hAO hN1 hN2 hS hA (List.Perm.refl _) hl.1 rfl rfl (Nat.le_of_ble_eq_true rfl) ⟨Nat.le_of_ble_eq_true rfl, Nat.le_of_ble_eq_true rfl⟩ dL_law_4 (fun x H locs hP hD hS => ?_)
  rw [List.append_nil] at hP hD
  refine W.widen (k := 111) (n := 1912) (Nat.le_of_ble_eq_true rfl) (Nat.le_of_ble_eq_true rfl) ?_
  refine lv_astore_n (lv' := [(1, .ref jhe), (0, .ref b)]) hx hbc dL_law_7 rfl hl (by decide) rfl (fun ls hl => ?_)
  refine va_new (D := (dC, dI2)) (ci := 7) (fs := [.int 0, .null, .int 0, .int 0, .int 0, .int 0, .int 0, .null, .null, .null, .int 0, .int 0, .int 0, .null, .null, .null, .null, .null, .null, .int 0, .null, .null, .int 0, .null, .null, .long 0, .null, .null, .int 0, .int 0, .int 0]) (C := RX8) (T := TX8) (N := 31) hx hbc ht inX8 tyX8 tyX8_ok hown (ht _ wd3_179) (ht _ wd3_180) (ht _ wd1_8) hK hP hD hS hA rfl (fun j hj => by rcases (show j = 0 ∨ j = 1 ∨ j = 2 ∨ j = 3 ∨ j = 4 ∨ j = 5 ∨ j = 6 ∨ j = 7 ∨ j = 8 ∨ j = 9 ∨ j = 10 ∨ j = 11 ∨ j = 12 ∨ j = 13 ∨ j = 14 ∨ j = 15 ∨ j = 16 ∨ j = 17 ∨ j = 18 ∨ j = 19 ∨ j = 20 ∨ j = 21 ∨ j = 22 ∨ j = 23 ∨ j = 24 ∨ j = 25 ∨ j = 26 ∨ j = 27 ∨ j = 28 ∨ j = 29 ∨ j = 30 by omega) with rfl | rfl | rfl | rfl | rfl | rfl | rfl | rfl | rfl | rfl | rfl | rfl | rfl | rfl | rfl | rfl | rfl | rfl | rfl | rfl | rfl | rfl | rfl | rfl | rfl | rfl | rfl | rfl | rfl | rfl | rfl <;> rfl) (Nat.le_of_ble_eq_true rfl) (Nat.le_of_ble_eq_true rfl) dL_law_8 (fun jhm H hP hD hS => ?_)
  have hP := hP.pm (List.perm_append_comm (l₁ := (wE cI cZ cO jhe x.1 x.2.1 x.2.2.1 x.2.2.2.1 x.2.2.2.2 S0 S0 S0 S0 S0 S0 S0 S0 S0 0 S0 S0 (fun _ => S0))) (l₂ := [(jhm, .inr (7, [.int 0, .null, .int 0, .int 0, .int 0, .int 0, .int 0, .null, .null, .null, .int 0, .int 0, .int 0, .null, .null, .null, .null, .null, .null, .int 0, .null, .null, .int 0, .null, .null, .long 0, .null, .null, .int 0, .int 0, .int 0]))]))
  have hD := hD.pm (List.perm_append_comm (l₁ := (wE cI cZ cO jhe x.1 x.2.1 x.2.2.1 x.2.2.2.1 x.2.2.2.2 S0 S0 S0 S0 S0 S0 S0 S0 S0 0 S0 S0 (fun _ => S0))) (l₂ := [(jhm, .inr (7, [.int 0, .null, .int 0, .int 0, .int 0, .int 0, .int 0, .null, .null, .null, .int 0, .int 0, .int 0, .null, .null, .null, .null, .null, .null, .int 0, .null, .null, .int 0, .null, .null, .long 0, .null, .null, .int 0, .int 0, .int 0]))]))
  refine W.widen (k := 112) (n := 1943) (Nat.le_of_ble_eq_true rfl) (Nat.le_of_ble_eq_true rfl) ?_
  refine lv_dup hx hbc dL_law_11 rfl ?_
  refine k_I (As := []) (rest := [.ref jhm]) (wr := (wE cI cZ cO jhe x.1 x.2.1 x.2.2.1 x.2.2.2.1 x.2.2.2.2 S0 S0 S0 S0 S0 S0 S0 S0 S0 0 S0 S0 (fun _ => S0))) hC miX8_init rfl mjX8_init wd3_181 (qX8_init l (dC, dI2) cI cZ cO jhm H.size) ⟨rfl, rfl⟩ ⟨Nat.le_of_ble_eq_true rfl, Nat.le_of_ble_eq_true rfl⟩ hP hD hK hZ hAO hN1 hN2 hS hA (List.Perm.refl _) hl.1 rfl rfl (Nat.le_of_ble_eq_true rfl) ⟨Nat.le_of_ble_eq_true rfl, Nat.le_of_ble_eq_true rfl⟩ dL_law_12 (fun jam H locs hP hD hS => ?_)
  refine W.widen (k := 128) (n := 3705) (Nat.le_of_ble_eq_true rfl) (Nat.le_of_ble_eq_true rfl) ?_
  have hpm : (wM cI cZ jhm jam S0 ++ (wE cI cZ cO jhe x.1 x.2.1 x.2.2.1 x.2.2.2.1 x.2.2.2.2 S0 S0 S0 S0 S0 S0 S0 S0 S0 0 S0 S0 (fun _ => S0))).Perm (wL cI cZ cO jhe x.1 x.2.1 x.2.2.1 x.2.2.2.1 x.2.2.2.2 jhm jam S0 S0 S0 S0 S0 S0 S0 S0 S0 0 S0 S0 (fun _ => S0) S0) := (pm_M _ _ _).symm
  have hP := hP.pm hpm
  have hD := hD.pm hpm
  refine lv_astore_n (lv' := [(2, .ref jhm), (1, .ref jhe), (0, .ref b)]) hx hbc dL_law_15 rfl hl (by decide) rfl (fun ls hl => ?_)
  refine lv_iconst (v := (0 : Int32)) hx hbc dL_law_16 rfl ?_
  refine lv_istore_n (lv' := [(3, .int (0 : Int32)), (2, .ref jhm), (1, .ref jhe), (0, .ref b)]) hx hbc dL_law_17 rfl hl (by decide) rfl (fun ls hl => ?_)
  exact law_loop hL C0 hZ cI cZ cO jhe x.1 x.2.1 x.2.2.1 x.2.2.2.1 x.2.2.2.2 jhm jam hK (L + 6) 0 0 rfl (by omega) (by omega) S0 S0 S0 S0 S0 S0 S0 S0 S0 0 S0 S0 (fun _ => S0) S0 _ _ _ rel0 hP hD hS (lv_sub hl [3, 2, 1, 0] rfl)
-- ===== YOUR PART ENDS =====
set_option maxHeartbeats 4000000 in
theorem lw_walk (l : Launch) (b : Addr) (xs : List Int32) : MetFree l x (headSpec (Jvm.Cond.code x code maxLocals ret :: tables_1) room_1) (lw_P b xs) (fun _ _ _ _ _ => True) lw_Q := by
  refine MetFree.of_bodyS (code := code) (maxLocals := maxLocals) (ret := ret) (by decide) ?_ ?_
  · intro args s m h hn
    obtain ⟨meth, c, h1, h2, h3, h4, h5, h6, -, -⟩ := Cond.code_spec hn (atoms_spec (ws := Jvm.Cond.code x code maxLocals ret :: tables_1) h _ List.mem_cons_self)
    exact ⟨meth, c, h1, h2, h3, h4, h5, h6⟩
  · intro p e s m args below meth c s₁ B hml0 hP _
    obtain ⟨rfl, hx, hbd, hgv⟩ := hP
    obtain ⟨scr, harrAt, hlist, hof, hsmall⟩ := hx
    obtain ⟨hcb, hkn, -, -⟩ := State.arrayAt?_spec harrAt
    have hown : s.vm.findClass R_law = some m.cls := findClass_of_methodNamed B.named
    have hts0 : ∀ c ∈ (Jvm.Cond.code x code maxLocals ret :: tables_1), c.before #[Value.ref b] s = true := atoms_spec (ws := Jvm.Cond.code x code maxLocals ret :: tables_1) B.pre
    have hts : ∀ w ∈ lw_tbl, w.before #[Value.ref b] s = true := k2_hts_sels lw_privs (fun w hw => hts0 w (List.mem_cons_of_mem _ hw)) lw_privs_ok
    have hml : c.maxLocals = 4 := B.maxLocals_eq (hts0 _ List.mem_cons_self)
    have X₀ : Stand p l e room_1 s m #[Value.ref b] below meth c s₁ [] 0 0 := Stand.of_body B
    have hh0 : s₁.heap = s.heap := by rw [B.state]; rfl
    have hsz : scr.slots.size = xs.length := by rw [← Array.length_toList, hlist, List.length_map]
    have hval : ∀ j : Nat, j < xs.length → scr.slots[j]? = some (.int (xs.getD j 0)) := fun j hj => by
      rw [← Array.getElem?_toList, hlist]
      simp [hj]
    have hbl : b < s.heap.size := (Array.getElem?_eq_some_iff.mp hcb).1
    have hX : va_X b xs.length (fun j => xs.getD j 0) s s.heap := ⟨scr, hcb, hof, hkn, hsz, hval⟩
    have K : W p l e room_1 s m #[Value.ref b] below meth c s₁.heap [] 0 0 (lw_Z below #[Value.ref b] s) (entryFrame m ([Value.ref b] : List Value).toArray 4) := by
      rw [hh0]
      exact whole_start l hbd ⟨B.exec, B.bytes, B.returns, hml, hown, hts, hX, hbl, B.notSynchronized, hgv⟩
    obtain ⟨t, a1, o, b1, b2, b3⟩ := K s₁ rfl X₀
    exact ⟨t, o, a1, b1, b2, b3⟩
theorem lw_pre_spec {args : Array Value} {s : State} (h : (Jvm.Cond.and given_1 narrow_1).before args s = true) (hr : rest_1_c.before args s = true) : ∃ (b : Addr) (xs : List Int32), lw_P b xs args s := by
  have hs := flat_of_before _ h
  have hq := flat_of_before _ hr
  have hc : (Cond.count 1).before args s = true := hs _ (by decide +kernel)
  have harr : (Cond.arrayOf (.arg 0) .int).before args s = true := hs _ (by decide +kernel)
  have hle : (Cond.le (.length (.arg 0)) (.int 2560)).before args s = true := hs _ (by decide +kernel)
  have hlen : (Cond.isInt (.length (.arg 0))).before args s = true := hq _ (by decide +kernel)
  have hall : (Cond.all (.arg 0) (.isInt (.elem (.arg 0) (.index 0)))).before args s = true := hq _ (by decide +kernel)
  obtain ⟨b, xs, hb, hx⟩ := State.ints_of_pre rfl harr hlen hall
  have hsm : xs.length < 2 ^ 31 := hx.choose_spec.2.2.2
  have hev : (Term.length (.arg 0)).eval args s none [] s = some (.int xs.length.toInt32) := hx.length_eval hb
  have hv := Cond.le_ints hev (show (Term.int 2560).eval args s none [] s = some (.int 2560) from rfl)
  have hd : xs.length.toInt32 ≤ 2560 := by
    simpa [Cond.before, Cond.holds, hv] using hle
  have hN : xs.length ≤ 2560 := (Int32.ofNat_le_ofNat hsm (by decide)).mp (show Int32.ofNat xs.length ≤ Int32.ofNat 2560 from hd)
  exact ⟨b, xs, Cond.one_arg hc (show args[0]? = some (.ref b) from hb), hx, hN, h⟩
theorem lw_comes (l : Launch) : Comes l x (Jvm.Cond.code x code maxLocals ret :: tables_1) room_1 (fun tb e args s => Calls_1 tb e args s ∧ rest_1 tb e args s ∧ Pre_1 tb e args s)
    (fun _ _ args s o t => lw_Q args s o t) := by
  intro p e ha hc hk s m args below hf hfit hheap happ hpre
  obtain ⟨b, xs, hP⟩ := lw_pre_spec hpre.2.2 hpre.2.1
  obtain ⟨k, o, h1, h2, h3, hQ⟩ := lw_walk l b xs p e ha hc hk s m args below hf ((Spec.applies_iff_loose hf).mp happ).1 hP trivial
  exact ⟨k, o, h1, h2, h3, hQ⟩
theorem lw_frame {s t : State} {o : Outcome} {args : Array Value} (h : Framed s o t [] 600000 7302250) :
    Framed s o t (fieldLocs frame_1_writes args s ++ arrayLocs frame_1_arrays args s ++ staticLocs frame_1_statics s) 600000 7302250 := h
theorem lw_limb (L : Cond) (hL : ∀ (args : Array Value) (s t : State), L.after args s (.returned (some (.int 1))) t = true) :
    ArmFor flags0 classFile x code maxLocals ret World_1 tables_1 room_1 Calls_1 rest_1 Pre_1
      (fun tb e a s o t => postC L tb e a s o t ∧ Framed s o t (fieldLocs frame_1_writes a s ++ arrayLocs frame_1_arrays a s ++ staticLocs frame_1_statics s) 600000 7302250) := by
  intro l _ _ _ p e ha hc hk s m args below hf hfit hheap happ hpre
  obtain ⟨k, o, h1, h2, h3, rfl, hF⟩ := lw_comes l p e ha hc hk s m args below hf hfit hheap happ hpre
  exact ⟨k, _, h1, h2, h3, hL args s _, lw_frame hF⟩
theorem i_vc : Claimed_1_1 ∧ Claimed_1_2 := ⟨lw_limb limb_1_1 (fun args s t => by simp [limb_1_1, Cond.after, Cond.holds, Cond.value]), lw_limb limb_1_2 (fun args s t => Cond.after_iff.mpr (by
  first | (rw [show limb_1_2 = Cond.eq .result (.int 1) from rfl, Cond.eq_ints (x := 1) (y := 1) rfl rfl]; simp; done) | (simp [limb_1_2, Cond.value, Term.eval]; done)))⟩
