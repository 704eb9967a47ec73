abbrev wX6_addThing (cI cZ : ClassId) (jhw : Nat) (jaw : Nat → Nat) (jhp : Nat) (np : Nat) (Sw : Bk) (P : (Nat → Int32)) : va_W := [(jhw, .inr (5, [.int (Sw.1 0), .ref (jaw 0), .ref (jaw 1), .ref (jaw 2), .int (Sw.1 1), .ref (jaw 3), .ref (jaw 4), .ref (jaw 5), .int (Sw.1 2), .int (Sw.1 3), .ref (jaw 6), .ref (jaw 7), .ref (jaw 8), .ref (jaw 9), .ref (jaw 10)])), (jaw 0, .inl (cI, 4, .inl (Sw.2.1 0))), (jaw 1, .inl (cI, 4, .inl (Sw.2.1 1))), (jaw 2, .inl (cI, 4, .inl (Sw.2.1 2))), (jhp, .inl (cI, np, .inl P))]
def fX6_addThing (Sw : Bk) (P : (Nat → Int32)) (np : Nat) : Option (Bk) := inB np (0 : Int32) (nmV (P (0 : Int32).toNatClampNeg) (fun v2 => inB 4 (Sw.1 0) (nmV (Sw.1 0).toNatClampNeg (fun j4 => inB np (1 : Int32) (nmV (P (1 : Int32).toNatClampNeg) (fun v6 => inB 4 (Sw.1 0) (nmV (Sw.1 0).toNatClampNeg (fun j8 => inB np (2 : Int32) (nmV (P (2 : Int32).toNatClampNeg) (fun v10 => inB 4 (Sw.1 0) (nmV (Sw.1 0).toNatClampNeg (fun j12 => nmV ((Sw.1 0) + (1 : Int32)) (fun v13 => some (bI (bW (bW (bW Sw 0 j4 v2) 1 j8 v6) 2 j12 v10) 0 v13))))))))))))))
theorem miX6_addThing : MI yX6_addThing cX6_addThing 2 none 1 := ⟨wd1_3, wd2_80, by decide +kernel⟩
theorem mjX6_addThing : Cond.instanceMethod yX6_addThing ∈ wT ∧ Cond.selects yX6_addThing.cls yX6_addThing yX6_addThing ∈ wT := ⟨wd2_79, ws_0⟩
set_option maxHeartbeats 4000000 in
set_option maxRecDepth 100000 in
theorem qX6_addThing (l : Launch) (D : va_G) (cI cZ cO : ClassId) (jhw : Nat) (jaw : Nat → Nat) (jhp : Nat) (np : Nat) (Sw : Bk) (P : (Nat → Int32)) (sz : Nat) (res : Bk) (hf : fX6_addThing Sw P np = some res) : Met l yX6_addThing (Cond.code yX6_addThing cX6_addThing 2 none :: wT) (rmF 0 0) (va_Pc [.ref jhw, .ref jhp] (cW D (tyL cI cZ cO) (wX6_addThing cI cZ jhw jaw jhp np Sw P) sz)) (va_Qv (S := Unit) (fun _ => True) (fun _ => qW D (tyL cI cZ cO) (va_A (wX6_addThing cI cZ jhw jaw jhp np Sw P) sz) (wX6_addThing cI cZ jhw jaw jhp np res P)) (va_A (wX6_addThing cI cZ jhw jaw jhp np Sw P) sz)) 0 0 (va_A (wX6_addThing cI cZ jhw jaw jhp np Sw P) sz) := by
  refine met_w (by decide) (Nat.le_of_ble_eq_true rfl) ?_
  intro p e s m below meth c hx hb hr hml ht hown hlk ls hl hsz hP hK hD0 hZ
  subst hsz
  have hD := hD0.self (sz := s.heap.size)
  generalize hAe : va_A (wX6_addThing cI cZ jhw jaw jhp np Sw P) s.heap.size = A at hD hZ ⊢
  have hA : ∀ q : Nat, s.heap.size ≤ q → A q := fun q h => by rw [← hAe]; exact Or.inr h
  have hS : va_S A s.heap s.heap [] := va_S.rf
  have hown : s.vm.findClass "EyeDrink$Well" = some m.cls := hown
  have hl : lv_has ls 2 [(0, .ref jhw), (1, .ref jhp)] := hl
  unfold fX6_addThing at hf
  suffices hgo : ∀ (H : Heap) (locs : List Loc), va_P D vwCl (wX6_addThing cI cZ jhw jaw jhp np Sw P) H → va_S A s.heap H locs → W p l e (rmF 0 0) s m ([.ref jhw, .ref jhp] : List Value).toArray below meth c H locs 0 0 (MQ below (va_Qv (S := Unit) (fun _ => True) (fun _ => qW D (tyL cI cZ cO) A (wX6_addThing cI cZ jhw jaw jhp np res P)) A) ([.ref jhw, .ref jhp] : List Value).toArray s 0 0 A) (F0 m 0 ls []) from hgo s.heap [] hP hS
  intro H locs hP hS
  refine lv_aload_n hx hb dX6_addThing_0 rfl (lv_at hl 0 rfl) ?_
  refine va_get (D := D) (ci := 5) (v := .ref (jaw 0)) (C := RX6) (T := TX6) (N := 15) hx hb ht inX6 hown hK hP 0 rfl rfl 1 (by decide) (ht _ wd1_49) (fun _ h9 => h9) rfl dX6_addThing_1 ?_
  refine lv_aload_n hx hb dX6_addThing_4 rfl (lv_at hl 0 rfl) ?_
  refine va_get (D := D) (ci := 5) (v := .int (Sw.1 0)) (C := RX6) (T := TX6) (N := 15) hx hb ht inX6 hown hK hP 0 rfl rfl 0 (by decide) (ht _ wd1_45) (fun _ h9 => h9) rfl dX6_addThing_5 ?_
  refine lv_aload_n hx hb dX6_addThing_8 rfl (lv_at hl 1 rfl) ?_
  refine lv_iconst (v := (0 : Int32)) hx hb dX6_addThing_9 rfl ?_
  obtain ⟨h1, hf⟩ := inB_s hf
  refine va_iald (f := P) (n := np) hx hb hK hP 4 0 rfl rfl h1 dX6_addThing_10 ?_
  obtain ⟨v2, ev2, hf⟩ := nmV_s hf
  rw [← ev2]
  obtain ⟨h3, hf⟩ := inB_s hf
  obtain ⟨j4, ej4, hf⟩ := nmV_s hf
  refine va_iast (f := (Sw.2.1 0)) (n := 4) hx hb hK hP hD hS 1 0 rfl rfl h3 dX6_addThing_11 (fun H locs hP hD hS => ?_)
  rw [← ej4] at hP hD
  have hP : va_P D vwCl (wX6_addThing cI cZ jhw jaw jhp np (bW Sw 0 j4 v2) P) H := hP
  have hD : va_D A (wX6_addThing cI cZ jhw jaw jhp np (bW Sw 0 j4 v2) P) := hD
  refine lv_aload_n hx hb dX6_addThing_12 rfl (lv_at hl 0 rfl) ?_
  refine va_get (D := D) (ci := 5) (v := .ref (jaw 1)) (C := RX6) (T := TX6) (N := 15) hx hb ht inX6 hown hK hP 0 rfl rfl 2 (by decide) (ht _ wd1_52) (fun _ h9 => h9) rfl dX6_addThing_13 ?_
  refine lv_aload_n hx hb dX6_addThing_16 rfl (lv_at hl 0 rfl) ?_
  refine va_get (D := D) (ci := 5) (v := .int (Sw.1 0)) (C := RX6) (T := TX6) (N := 15) hx hb ht inX6 hown hK hP 0 rfl rfl 0 (by decide) (ht _ wd1_45) (fun _ h9 => h9) rfl dX6_addThing_17 ?_
  refine lv_aload_n hx hb dX6_addThing_20 rfl (lv_at hl 1 rfl) ?_
  refine lv_iconst (v := (1 : Int32)) hx hb dX6_addThing_21 rfl ?_
  obtain ⟨h5, hf⟩ := inB_s hf
  refine va_iald (f := P) (n := np) hx hb hK hP 4 0 rfl rfl h5 dX6_addThing_22 ?_
  obtain ⟨v6, ev6, hf⟩ := nmV_s hf
  rw [← ev6]
  obtain ⟨h7, hf⟩ := inB_s hf
  obtain ⟨j8, ej8, hf⟩ := nmV_s hf
  refine va_iast (f := (Sw.2.1 1)) (n := 4) hx hb hK hP hD hS 2 0 rfl rfl h7 dX6_addThing_23 (fun H locs hP hD hS => ?_)
  rw [← ej8] at hP hD
  have hP : va_P D vwCl (wX6_addThing cI cZ jhw jaw jhp np (bW (bW Sw 0 j4 v2) 1 j8 v6) P) H := hP
  have hD : va_D A (wX6_addThing cI cZ jhw jaw jhp np (bW (bW Sw 0 j4 v2) 1 j8 v6) P) := hD
  refine lv_aload_n hx hb dX6_addThing_24 rfl (lv_at hl 0 rfl) ?_
  refine va_get (D := D) (ci := 5) (v := .ref (jaw 2)) (C := RX6) (T := TX6) (N := 15) hx hb ht inX6 hown hK hP 0 rfl rfl 3 (by decide) (ht _ wd1_54) (fun _ h9 => h9) rfl dX6_addThing_25 ?_
  refine lv_aload_n hx hb dX6_addThing_28 rfl (lv_at hl 0 rfl) ?_
  refine va_get (D := D) (ci := 5) (v := .int (Sw.1 0)) (C := RX6) (T := TX6) (N := 15) hx hb ht inX6 hown hK hP 0 rfl rfl 0 (by decide) (ht _ wd1_45) (fun _ h9 => h9) rfl dX6_addThing_29 ?_
  refine lv_aload_n hx hb dX6_addThing_32 rfl (lv_at hl 1 rfl) ?_
  refine lv_iconst (v := (2 : Int32)) hx hb dX6_addThing_33 rfl ?_
  obtain ⟨h9, hf⟩ := inB_s hf
  refine va_iald (f := P) (n := np) hx hb hK hP 4 0 rfl rfl h9 dX6_addThing_34 ?_
  obtain ⟨v10, ev10, hf⟩ := nmV_s hf
  rw [← ev10]
  obtain ⟨h11, hf⟩ := inB_s hf
  obtain ⟨j12, ej12, hf⟩ := nmV_s hf
  refine va_iast (f := (Sw.2.1 2)) (n := 4) hx hb hK hP hD hS 3 0 rfl rfl h11 dX6_addThing_35 (fun H locs hP hD hS => ?_)
  rw [← ej12] at hP hD
  have hP : va_P D vwCl (wX6_addThing cI cZ jhw jaw jhp np (bW (bW (bW Sw 0 j4 v2) 1 j8 v6) 2 j12 v10) P) H := hP
  have hD : va_D A (wX6_addThing cI cZ jhw jaw jhp np (bW (bW (bW Sw 0 j4 v2) 1 j8 v6) 2 j12 v10) P) := hD
  refine lv_aload_n hx hb dX6_addThing_36 rfl (lv_at hl 0 rfl) ?_
  refine lv_dup hx hb dX6_addThing_37 rfl ?_
  refine va_get (D := D) (ci := 5) (v := .int (Sw.1 0)) (C := RX6) (T := TX6) (N := 15) hx hb ht inX6 hown hK hP 0 rfl rfl 0 (by decide) (ht _ wd1_45) (fun _ h9 => h9) rfl dX6_addThing_38 ?_
  refine lv_iconst (v := (1 : Int32)) hx hb dX6_addThing_41 rfl ?_
  refine lv_iadd hx hb dX6_addThing_42 ?_
  obtain ⟨v13, ev13, hf⟩ := nmV_s hf
  rw [← ev13]
  refine va_put (D := D) (ci := 5) (v := .int v13) (ty := .int) (C := RX6) (T := TX6) (N := 15) hx hb ht inX6 tyX6 tyX6_ok nmX6 hown hK hP hD hS 0 rfl rfl 0 (by decide) (ht _ wd1_45) (fun _ h9 => h9) rfl (tyX6_ok 0 (by decide)) rfl rfl (Nat.le_of_ble_eq_true rfl) dX6_addThing_43 (fun H locs hP hD hS => ?_)
  have hP : va_P D vwCl (wX6_addThing cI cZ jhw jaw jhp np (bI (bW (bW (bW Sw 0 j4 v2) 1 j8 v6) 2 j12 v10) 0 v13) P) H := hP
  have hD : va_D A (wX6_addThing cI cZ jhw jaw jhp np (bI (bW (bW (bW Sw 0 j4 v2) 1 j8 v6) 2 j12 v10) 0 v13) P) := hD
  cases hf
  exact W.vret hx hb hr (fun t ht9 hW => ⟨⟨(), rfl, trivial, by rw [ht9]; exact hP, va_K.moved hW.alike hK, hD⟩, hS.F ht9⟩) hS.2.2 dX6_addThing_46
def fX6_figuresOf (x0 : Int32) : Option (Int32) := (if x0 = (81 : Int32) then some (4 : Int32) else (if x0 = (84 : Int32) then some (3 : Int32) else some (5 : Int32)))
theorem miX6_figuresOf : MI yX6_figuresOf cX6_figuresOf 1 (some .int) 1 := ⟨wd1_3, wd2_70, by decide +kernel⟩
theorem mjX6_figuresOf : Cond.static yX6_figuresOf ∈ wT := wd2_69
set_option maxHeartbeats 4000000 in
set_option maxRecDepth 100000 in
theorem qX6_figuresOf (l : Launch) (x0 : Int32) (res : Int32) (hf : fX6_figuresOf x0 = some res) : Met l yX6_figuresOf (Cond.code yX6_figuresOf cX6_figuresOf 1 (some .int) :: wT) (rmF 0 0) (va_Pc [.int x0] (fun _ => True)) (vp_Si (fun r => r = res)) 0 0 (fun _ => False) := by
  refine met_p (by decide) (Nat.le_of_ble_eq_true rfl) ?_
  intro p e s m below meth c hx hb hr hml ht hown hlk ls hl
  have hown : s.vm.findClass "EyeDrink$Well" = some m.cls := hown
  have hl : lv_has ls 1 [(0, .int x0)] := hl
  unfold fX6_figuresOf at hf
  refine lv_iload_n hx hb dX6_figuresOf_0 rfl (lv_at hl 0 rfl) ?_
  by_cases c1_0 : x0 = (81 : Int32)
  · have hf := itP c1_0 hf
    refine lv_lookup (off := 29) (tgt := 30) hx hb dX6_figuresOf_1 (by decide) (by rw [c1_0]; decide) (by decide) ?_
    refine lv_iconst (v := (4 : Int32)) hx hb dX6_figuresOf_30 rfl ?_
    exact W.iret hx hb hr (fun t ht9 _ => ⟨_, rfl, Option.some.inj hf, ht9⟩) (fun _ h9 => by cases h9) dX6_figuresOf_31
  · have hf := itN c1_0 hf
    by_cases c1_1 : x0 = (84 : Int32)
    · have hf := itP c1_1 hf
      refine lv_lookup (off := 27) (tgt := 28) hx hb dX6_figuresOf_1 (by decide) (by rw [c1_1]; decide) (by decide) ?_
      refine lv_iconst (v := (3 : Int32)) hx hb dX6_figuresOf_28 rfl ?_
      exact W.iret hx hb hr (fun t ht9 _ => ⟨_, rfl, Option.some.inj hf, ht9⟩) (fun _ h9 => by cases h9) dX6_figuresOf_29
    · have hf := itN c1_1 hf
      refine lv_lookup (off := 31) (tgt := 32) hx hb dX6_figuresOf_1 (by decide) (by show Op.lookupswitch.offset [(81, 29), (84, 27)] 31 _ = 31; rw [lv_osw (k := (81 : Int32)) c1_0 (by decide), lv_osw (k := (84 : Int32)) c1_1 (by decide)]; rfl) (by decide) ?_
      refine lv_iconst (v := (5 : Int32)) hx hb dX6_figuresOf_32 rfl ?_
      exact W.iret hx hb hr (fun t ht9 _ => ⟨_, rfl, Option.some.inj hf, ht9⟩) (fun _ h9 => by cases h9) dX6_figuresOf_33
abbrev wX6_mayBegin (cI cZ : ClassId) (jhw : Nat) (jaw : Nat → Nat) (Sw : Bk) : va_W := [(jhw, .inr (5, [.int (Sw.1 0), .ref (jaw 0), .ref (jaw 1), .ref (jaw 2), .int (Sw.1 1), .ref (jaw 3), .ref (jaw 4), .ref (jaw 5), .int (Sw.1 2), .int (Sw.1 3), .ref (jaw 6), .ref (jaw 7), .ref (jaw 8), .ref (jaw 9), .ref (jaw 10)]))]
def fX6_mayBegin (Sw : Bk) (x1 : Int32) : Option (Int32) := (if x1 = (68 : Int32) then (if (4 : Int32) ≤ (Sw.1 3) then some (0 : Int32) else (if (Sw.1 1) ≤ 0 then some (0 : Int32) else some (1 : Int32))) else (if x1 = (81 : Int32) then (if (4 : Int32) ≤ (Sw.1 1) then some (0 : Int32) else (if (Sw.1 0) ≤ 0 then some (0 : Int32) else some (1 : Int32))) else (if x1 = (84 : Int32) then (if (4 : Int32) ≤ (Sw.1 0) then some (0 : Int32) else some (1 : Int32)) else some (0 : Int32))))
theorem miX6_mayBegin : MI yX6_mayBegin cX6_mayBegin 2 (some .boolean) 1 := ⟨wd1_3, wd2_60, by decide +kernel⟩
theorem mjX6_mayBegin : Cond.instanceMethod yX6_mayBegin ∈ wT ∧ Cond.selects yX6_mayBegin.cls yX6_mayBegin yX6_mayBegin ∈ wT := ⟨wd2_58, wd2_59⟩
set_option maxHeartbeats 4000000 in
set_option maxRecDepth 100000 in
theorem qX6_mayBegin (l : Launch) (D : va_G) (cI cZ cO : ClassId) (jhw : Nat) (jaw : Nat → Nat) (Sw : Bk) (x1 : Int32) (res : Int32) (hf : fX6_mayBegin Sw x1 = some res) : Met l yX6_mayBegin (Cond.code yX6_mayBegin cX6_mayBegin 2 (some .boolean) :: wT) (rmF 0 0) (va_Pc [.ref jhw, .int x1] (cR D (tyL cI cZ cO) (wX6_mayBegin cI cZ jhw jaw Sw))) (vp_Si (fun r => r = res)) 0 0 (fun _ => False) := by
  refine met_r (by decide) (Nat.le_of_ble_eq_true rfl) ?_
  intro p e s m below meth c hx hb hr hml ht hown hlk ls hl hP hK hZ
  have hS : va_S (fun _ => False) s.heap s.heap [] := va_S.rf
  have hown : s.vm.findClass "EyeDrink$Well" = some m.cls := hown
  have hl : lv_has ls 2 [(0, .ref jhw), (1, .int x1)] := hl
  unfold fX6_mayBegin at hf
  refine lv_iload_n hx hb dX6_mayBegin_0 rfl (lv_at hl 1 rfl) ?_
  by_cases c1_0 : x1 = (68 : Int32)
  · have hf := itP c1_0 hf
    refine lv_lookup (off := 70) (tgt := 71) hx hb dX6_mayBegin_1 (by decide) (by rw [c1_0]; decide) (by decide) ?_
    refine lv_aload_n hx hb dX6_mayBegin_71 rfl (lv_at hl 0 rfl) ?_
    refine va_get (D := D) (ci := 5) (v := .int (Sw.1 3)) (C := RX6) (T := TX6) (N := 15) hx hb ht inX6 hown hK hP 0 rfl rfl 9 (by decide) (ht _ wd1_75) (fun _ h9 => h9) rfl dX6_mayBegin_72 ?_
    refine lv_iconst (v := (4 : Int32)) hx hb dX6_mayBegin_75 rfl ?_
    refine lv_icmp_ge (tgt := 90) hx hb dX6_mayBegin_76 (by decide) (fun c2 => ?_) (fun c2 => ?_)
    · have hf := itP c2 hf
      refine lv_iconst (v := (0 : Int32)) hx hb dX6_mayBegin_90 rfl ?_
      exact W.zret hx hb hr rfl (fun t ht9 _ => ⟨_, rfl, Option.some.inj hf, ht9⟩) (fun _ h9 => by cases h9) dX6_mayBegin_91
    · have hf := itN c2 hf
      refine lv_aload_n hx hb dX6_mayBegin_79 rfl (lv_at hl 0 rfl) ?_
      refine va_get (D := D) (ci := 5) (v := .int (Sw.1 1)) (C := RX6) (T := TX6) (N := 15) hx hb ht inX6 hown hK hP 0 rfl rfl 4 (by decide) (ht _ wd1_57) (fun _ h9 => h9) rfl dX6_mayBegin_80 ?_
      refine lv_if_le (tgt := 90) hx hb dX6_mayBegin_83 (by decide) (fun c3 => ?_) (fun c3 => ?_)
      · have hf := itP c3 hf
        refine lv_iconst (v := (0 : Int32)) hx hb dX6_mayBegin_90 rfl ?_
        exact W.zret hx hb hr rfl (fun t ht9 _ => ⟨_, rfl, Option.some.inj hf, ht9⟩) (fun _ h9 => by cases h9) dX6_mayBegin_91
      · have hf := itN c3 hf
        refine lv_iconst (v := (1 : Int32)) hx hb dX6_mayBegin_86 rfl ?_
        refine lv_goto (tgt := 91) hx hb dX6_mayBegin_87 (by decide) ?_
        exact W.zret hx hb hr rfl (fun t ht9 _ => ⟨_, rfl, Option.some.inj hf, ht9⟩) (fun _ h9 => by cases h9) dX6_mayBegin_91
  · have hf := itN c1_0 hf
    by_cases c1_1 : x1 = (81 : Int32)
    · have hf := itP c1_1 hf
      refine lv_lookup (off := 49) (tgt := 50) hx hb dX6_mayBegin_1 (by decide) (by rw [c1_1]; decide) (by decide) ?_
      refine lv_aload_n hx hb dX6_mayBegin_50 rfl (lv_at hl 0 rfl) ?_
      refine va_get (D := D) (ci := 5) (v := .int (Sw.1 1)) (C := RX6) (T := TX6) (N := 15) hx hb ht inX6 hown hK hP 0 rfl rfl 4 (by decide) (ht _ wd1_57) (fun _ h9 => h9) rfl dX6_mayBegin_51 ?_
      refine lv_iconst (v := (4 : Int32)) hx hb dX6_mayBegin_54 rfl ?_
      refine lv_icmp_ge (tgt := 69) hx hb dX6_mayBegin_55 (by decide) (fun c4 => ?_) (fun c4 => ?_)
      · have hf := itP c4 hf
        refine lv_iconst (v := (0 : Int32)) hx hb dX6_mayBegin_69 rfl ?_
        exact W.zret hx hb hr rfl (fun t ht9 _ => ⟨_, rfl, Option.some.inj hf, ht9⟩) (fun _ h9 => by cases h9) dX6_mayBegin_70
      · have hf := itN c4 hf
        refine lv_aload_n hx hb dX6_mayBegin_58 rfl (lv_at hl 0 rfl) ?_
        refine va_get (D := D) (ci := 5) (v := .int (Sw.1 0)) (C := RX6) (T := TX6) (N := 15) hx hb ht inX6 hown hK hP 0 rfl rfl 0 (by decide) (ht _ wd1_45) (fun _ h9 => h9) rfl dX6_mayBegin_59 ?_
        refine lv_if_le (tgt := 69) hx hb dX6_mayBegin_62 (by decide) (fun c5 => ?_) (fun c5 => ?_)
        · have hf := itP c5 hf
          refine lv_iconst (v := (0 : Int32)) hx hb dX6_mayBegin_69 rfl ?_
          exact W.zret hx hb hr rfl (fun t ht9 _ => ⟨_, rfl, Option.some.inj hf, ht9⟩) (fun _ h9 => by cases h9) dX6_mayBegin_70
        · have hf := itN c5 hf
          refine lv_iconst (v := (1 : Int32)) hx hb dX6_mayBegin_65 rfl ?_
          refine lv_goto (tgt := 70) hx hb dX6_mayBegin_66 (by decide) ?_
          exact W.zret hx hb hr rfl (fun t ht9 _ => ⟨_, rfl, Option.some.inj hf, ht9⟩) (fun _ h9 => by cases h9) dX6_mayBegin_70
    · have hf := itN c1_1 hf
      by_cases c1_2 : x1 = (84 : Int32)
      · have hf := itP c1_2 hf
        refine lv_lookup (off := 35) (tgt := 36) hx hb dX6_mayBegin_1 (by decide) (by rw [c1_2]; decide) (by decide) ?_
        refine lv_aload_n hx hb dX6_mayBegin_36 rfl (lv_at hl 0 rfl) ?_
        refine va_get (D := D) (ci := 5) (v := .int (Sw.1 0)) (C := RX6) (T := TX6) (N := 15) hx hb ht inX6 hown hK hP 0 rfl rfl 0 (by decide) (ht _ wd1_45) (fun _ h9 => h9) rfl dX6_mayBegin_37 ?_
        refine lv_iconst (v := (4 : Int32)) hx hb dX6_mayBegin_40 rfl ?_
        refine lv_icmp_ge (tgt := 48) hx hb dX6_mayBegin_41 (by decide) (fun c6 => ?_) (fun c6 => ?_)
        · have hf := itP c6 hf
          refine lv_iconst (v := (0 : Int32)) hx hb dX6_mayBegin_48 rfl ?_
          exact W.zret hx hb hr rfl (fun t ht9 _ => ⟨_, rfl, Option.some.inj hf, ht9⟩) (fun _ h9 => by cases h9) dX6_mayBegin_49
        · have hf := itN c6 hf
          refine lv_iconst (v := (1 : Int32)) hx hb dX6_mayBegin_44 rfl ?_
          refine lv_goto (tgt := 49) hx hb dX6_mayBegin_45 (by decide) ?_
          exact W.zret hx hb hr rfl (fun t ht9 _ => ⟨_, rfl, Option.some.inj hf, ht9⟩) (fun _ h9 => by cases h9) dX6_mayBegin_49
      · have hf := itN c1_2 hf
        refine lv_lookup (off := 91) (tgt := 92) hx hb dX6_mayBegin_1 (by decide) (by show Op.lookupswitch.offset [(68, 70), (81, 49), (84, 35)] 91 _ = 91; rw [lv_osw (k := (68 : Int32)) c1_0 (by decide), lv_osw (k := (81 : Int32)) c1_1 (by decide), lv_osw (k := (84 : Int32)) c1_2 (by decide)]; rfl) (by decide) ?_
        refine lv_iconst (v := (0 : Int32)) hx hb dX6_mayBegin_92 rfl ?_
        exact W.zret hx hb hr rfl (fun t ht9 _ => ⟨_, rfl, Option.some.inj hf, ht9⟩) (fun _ h9 => by cases h9) dX6_mayBegin_93
abbrev wX6_add (cI cZ : ClassId) (jhw : Nat) (jaw : Nat → Nat) (jhp : Nat) (np : Nat) (Sw : Bk) (P : (Nat → Int32)) : va_W := [(jhw, .inr (5, [.int (Sw.1 0), .ref (jaw 0), .ref (jaw 1), .ref (jaw 2), .int (Sw.1 1), .ref (jaw 3), .ref (jaw 4), .ref (jaw 5), .int (Sw.1 2), .int (Sw.1 3), .ref (jaw 6), .ref (jaw 7), .ref (jaw 8), .ref (jaw 9), .ref (jaw 10)])), (jaw 0, .inl (cI, 4, .inl (Sw.2.1 0))), (jaw 1, .inl (cI, 4, .inl (Sw.2.1 1))), (jaw 2, .inl (cI, 4, .inl (Sw.2.1 2))), (jaw 3, .inl (cI, 4, .inl (Sw.2.1 3))), (jaw 4, .inl (cI, 4, .inl (Sw.2.1 4))), (jaw 5, .inl (cI, 4, .inl (Sw.2.1 5))), (jaw 6, .inl (cI, 4, .inl (Sw.2.1 6))), (jaw 7, .inl (cI, 4, .inl (Sw.2.1 7))), (jaw 8, .inl (cI, 4, .inl (Sw.2.1 8))), (jaw 9, .inl (cI, 4, .inl (Sw.2.1 9))), (jaw 10, .inl (cI, 4, .inl (Sw.2.1 10))), (jhp, .inl (cI, np, .inl P))]
def fX6_add (Sw : Bk) (P : (Nat → Int32)) (np : Nat) (x1 : Int32) : Option (Bk) := (fX6_mayBegin Sw x1).bind (fun u1 => (if u1 = 0 then some Sw else (fX6_figuresOf x1).bind (fun u4 => (if u4 ≤ (Int32.ofNat np) then (if x1 = (81 : Int32) then (fX6_addQuestion Sw P np).bind (fun u8 => some (bA (bA (bA (bO Sw u8) 3 (u8.2.1 3)) 4 (u8.2.1 4)) 5 (u8.2.1 5))) else (if x1 = (84 : Int32) then (fX6_addThing Sw P np).bind (fun u10 => some (bA (bA (bA (bO Sw u10) 0 (u10.2.1 0)) 1 (u10.2.1 1)) 2 (u10.2.1 2))) else (fX6_addDeed Sw P np).bind (fun u12 => some (bA (bA (bA (bA (bA (bO Sw u12) 6 (u12.2.1 6)) 7 (u12.2.1 7)) 8 (u12.2.1 8)) 9 (u12.2.1 9)) 10 (u12.2.1 10))))) else some Sw))))
theorem miX6_add : MI yX6_add cX6_add 3 none 2 := ⟨wd1_3, wd2_74, by decide +kernel⟩
theorem mjX6_add : Cond.instanceMethod yX6_add ∈ wT ∧ Cond.selects yX6_add.cls yX6_add yX6_add ∈ wT := ⟨wd2_72, wd2_73⟩
set_option maxHeartbeats 4000000 in
set_option maxRecDepth 100000 in
theorem qX6_add (l : Launch) (D : va_G) (cI cZ cO : ClassId) (jhw : Nat) (jaw : Nat → Nat) (jhp : Nat) (np : Nat) (Sw : Bk) (P : (Nat → Int32)) (x1 : Int32) (sz : Nat) (res : Bk) (hf : fX6_add Sw P np x1 = some res) : Met l yX6_add (Cond.code yX6_add cX6_add 3 none :: wT) (rmF 1 21) (va_Pc [.ref jhw, .int x1, .ref jhp] (cW D (tyL cI cZ cO) (wX6_add cI cZ jhw jaw jhp np Sw P) sz)) (va_Qv (S := Unit) (fun _ => True) (fun _ => qW D (tyL cI cZ cO) (va_A (wX6_add cI cZ jhw jaw jhp np Sw P) sz) (wX6_add cI cZ jhw jaw jhp np res P)) (va_A (wX6_add cI cZ jhw jaw jhp np Sw P) sz)) 0 0 (va_A (wX6_add cI cZ jhw jaw jhp np Sw P) sz) := by
  refine met_w (by decide) (Nat.le_of_ble_eq_true rfl) ?_
  intro p e s m below meth c hx hb hr hml ht hown hlk ls hl hsz hP hK hD0 hZ
  subst hsz
  have hD := hD0.self (sz := s.heap.size)
  generalize hAe : va_A (wX6_add cI cZ jhw jaw jhp np Sw P) s.heap.size = A at hD hZ ⊢
  have hA : ∀ q : Nat, s.heap.size ≤ q → A q := fun q h => by rw [← hAe]; exact Or.inr h
  have hS : va_S A s.heap s.heap [] := va_S.rf
  have hown : s.vm.findClass "EyeDrink$Well" = some m.cls := hown
  have hl : lv_has ls 3 [(0, .ref jhw), (1, .int x1), (2, .ref jhp)] := hl
  have hC : CallFix p m c cX6_add 3 s ([.ref jhw, .int x1, .ref jhp] : List Value).toArray wT "EyeDrink$Well" := ⟨hx, hb, hml, hown, ht⟩
  unfold fX6_add at hf
  suffices hgo : ∀ (H : Heap) (locs : List Loc), va_P D vwCl (wX6_add cI cZ jhw jaw jhp np Sw P) H → va_S A s.heap H locs → W p l e (rmF 1 21) s m ([.ref jhw, .int x1, .ref jhp] : List Value).toArray below meth c H locs 0 0 (MQ below (va_Qv (S := Unit) (fun _ => True) (fun _ => qW D (tyL cI cZ cO) A (wX6_add cI cZ jhw jaw jhp np res P)) A) ([.ref jhw, .int x1, .ref jhp] : List Value).toArray s 0 0 A) (F0 m 0 ls []) from hgo s.heap [] hP hS
  intro H locs hP hS
  refine lv_aload_n hx hb dX6_add_0 rfl (lv_at hl 0 rfl) ?_
  refine lv_iload_n hx hb dX6_add_1 rfl (lv_at hl 1 rfl) ?_
  obtain ⟨u1, e2, hf⟩ := bdS hf
  refine k_rV (As := [.int x1]) (rest := []) hC miX6_mayBegin mjX6_mayBegin.1 mjX6_mayBegin.2 wd2_75 (qX6_mayBegin l D cI cZ cO jhw jaw Sw x1 u1 e2) ⟨Nat.le_of_ble_eq_true rfl, Nat.le_of_ble_eq_true rfl⟩ (hP.sub [0] rfl) hK hZ hS (va_recv hK hP (ci := 5) (q0 := 0) rfl rfl) hl.1 rfl rfl (Nat.le_of_ble_eq_true rfl) dX6_add_2 ?_
  refine lv_if_eq (tgt := 17) hx hb dX6_add_5 (by decide) (fun c3 => ?_) (fun c3 => ?_)
  · have hf := itP c3 hf
    cases hf
    exact W.vret hx hb hr (fun t ht9 hW => ⟨⟨(), rfl, trivial, by rw [ht9]; exact hP, va_K.moved hW.alike hK, hD⟩, hS.F ht9⟩) hS.2.2 dX6_add_17
  · have hf := itN c3 hf
    refine lv_aload_n hx hb dX6_add_8 rfl (lv_at hl 2 rfl) ?_
    refine va_alen (v := (Int32.ofNat np)) hx hb hK hP 12 0 rfl rfl rfl dX6_add_9 ?_
    refine lv_iload_n hx hb dX6_add_10 rfl (lv_at hl 1 rfl) ?_
    obtain ⟨u4, e5, hf⟩ := bdS hf
    refine k_pS (As := [.int x1]) (rest := [.int (Int32.ofNat np)]) hC miX6_figuresOf mjX6_figuresOf wd2_76 (qX6_figuresOf l x1 u4 e5) ⟨Nat.le_of_ble_eq_true rfl, Nat.le_of_ble_eq_true rfl⟩ hl.1 rfl rfl (Nat.le_of_ble_eq_true rfl) dX6_add_11 ?_
    refine lv_icmp_ge (tgt := 18) hx hb dX6_add_14 (by decide) (fun c6 => ?_) (fun c6 => ?_)
    · have hf := itP c6 hf
      refine lv_iload_n hx hb dX6_add_18 rfl (lv_at hl 1 rfl) ?_
      by_cases c7_0 : x1 = (81 : Int32)
      · have hf := itP c7_0 hf
        refine lv_lookup (off := 33) (tgt := 52) hx hb dX6_add_19 (by decide) (by rw [c7_0]; decide) (by decide) ?_
        refine lv_aload_n hx hb dX6_add_52 rfl (lv_at hl 0 rfl) ?_
        refine lv_aload_n hx hb dX6_add_53 rfl (lv_at hl 2 rfl) ?_
        obtain ⟨u8, e9, hf⟩ := bdS hf
        refine k_wVv (ws' := (wX6_add cI cZ jhw jaw jhp np (bA (bA (bA (bO Sw u8) 3 (u8.2.1 3)) 4 (u8.2.1 4)) 5 (u8.2.1 5)) P)) (wr := [(jaw 0, .inl (cI, 4, .inl ((bA (bA (bA (bO Sw u8) 3 (u8.2.1 3)) 4 (u8.2.1 4)) 5 (u8.2.1 5)).2.1 0))), (jaw 1, .inl (cI, 4, .inl ((bA (bA (bA (bO Sw u8) 3 (u8.2.1 3)) 4 (u8.2.1 4)) 5 (u8.2.1 5)).2.1 1))), (jaw 2, .inl (cI, 4, .inl ((bA (bA (bA (bO Sw u8) 3 (u8.2.1 3)) 4 (u8.2.1 4)) 5 (u8.2.1 5)).2.1 2))), (jaw 6, .inl (cI, 4, .inl ((bA (bA (bA (bO Sw u8) 3 (u8.2.1 3)) 4 (u8.2.1 4)) 5 (u8.2.1 5)).2.1 6))), (jaw 7, .inl (cI, 4, .inl ((bA (bA (bA (bO Sw u8) 3 (u8.2.1 3)) 4 (u8.2.1 4)) 5 (u8.2.1 5)).2.1 7))), (jaw 8, .inl (cI, 4, .inl ((bA (bA (bA (bO Sw u8) 3 (u8.2.1 3)) 4 (u8.2.1 4)) 5 (u8.2.1 5)).2.1 8))), (jaw 9, .inl (cI, 4, .inl ((bA (bA (bA (bO Sw u8) 3 (u8.2.1 3)) 4 (u8.2.1 4)) 5 (u8.2.1 5)).2.1 9))), (jaw 10, .inl (cI, 4, .inl ((bA (bA (bA (bO Sw u8) 3 (u8.2.1 3)) 4 (u8.2.1 4)) 5 (u8.2.1 5)).2.1 10)))]) (As := [.ref jhp]) (rest := []) hC miX6_addQuestion mjX6_addQuestion.1 mjX6_addQuestion.2 wd2_81 (qX6_addQuestion l D cI cZ cO jhw jaw jhp np Sw P H.size u8 e9) ⟨Nat.le_of_ble_eq_true rfl, Nat.le_of_ble_eq_true rfl⟩ hP hD hK hZ hS hA [0, 4, 5, 6, 12] [1, 2, 3, 7, 8, 9, 10, 11] [8, 0, 1, 2, 9, 10, 11, 3, 4, 5, 6, 7, 12] rfl (by decide) rfl (by decide) (by decide) (by decide) rfl (va_recv hK hP (ci := 5) (q0 := 0) rfl rfl) hl.1 rfl rfl (Nat.le_of_ble_eq_true rfl) dX6_add_54 (fun H locs hP hD hS => ?_)
        refine lv_goto (tgt := 65) hx hb dX6_add_57 (by decide) ?_
        cases hf
        exact W.vret hx hb hr (fun t ht9 hW => ⟨⟨(), rfl, trivial, by rw [ht9]; exact hP, va_K.moved hW.alike hK, hD⟩, hS.F ht9⟩) hS.2.2 dX6_add_65
      · have hf := itN c7_0 hf
        by_cases c7_1 : x1 = (84 : Int32)
        · have hf := itP c7_1 hf
          refine lv_lookup (off := 25) (tgt := 44) hx hb dX6_add_19 (by decide) (by rw [c7_1]; decide) (by decide) ?_
          refine lv_aload_n hx hb dX6_add_44 rfl (lv_at hl 0 rfl) ?_
          refine lv_aload_n hx hb dX6_add_45 rfl (lv_at hl 2 rfl) ?_
          obtain ⟨u10, e11, hf⟩ := bdS hf
          refine k_wVv (ws' := (wX6_add cI cZ jhw jaw jhp np (bA (bA (bA (bO Sw u10) 0 (u10.2.1 0)) 1 (u10.2.1 1)) 2 (u10.2.1 2)) P)) (wr := [(jaw 3, .inl (cI, 4, .inl ((bA (bA (bA (bO Sw u10) 0 (u10.2.1 0)) 1 (u10.2.1 1)) 2 (u10.2.1 2)).2.1 3))), (jaw 4, .inl (cI, 4, .inl ((bA (bA (bA (bO Sw u10) 0 (u10.2.1 0)) 1 (u10.2.1 1)) 2 (u10.2.1 2)).2.1 4))), (jaw 5, .inl (cI, 4, .inl ((bA (bA (bA (bO Sw u10) 0 (u10.2.1 0)) 1 (u10.2.1 1)) 2 (u10.2.1 2)).2.1 5))), (jaw 6, .inl (cI, 4, .inl ((bA (bA (bA (bO Sw u10) 0 (u10.2.1 0)) 1 (u10.2.1 1)) 2 (u10.2.1 2)).2.1 6))), (jaw 7, .inl (cI, 4, .inl ((bA (bA (bA (bO Sw u10) 0 (u10.2.1 0)) 1 (u10.2.1 1)) 2 (u10.2.1 2)).2.1 7))), (jaw 8, .inl (cI, 4, .inl ((bA (bA (bA (bO Sw u10) 0 (u10.2.1 0)) 1 (u10.2.1 1)) 2 (u10.2.1 2)).2.1 8))), (jaw 9, .inl (cI, 4, .inl ((bA (bA (bA (bO Sw u10) 0 (u10.2.1 0)) 1 (u10.2.1 1)) 2 (u10.2.1 2)).2.1 9))), (jaw 10, .inl (cI, 4, .inl ((bA (bA (bA (bO Sw u10) 0 (u10.2.1 0)) 1 (u10.2.1 1)) 2 (u10.2.1 2)).2.1 10)))]) (As := [.ref jhp]) (rest := []) hC miX6_addThing mjX6_addThing.1 mjX6_addThing.2 wd2_77 (qX6_addThing l D cI cZ cO jhw jaw jhp np Sw P H.size u10 e11) ⟨Nat.le_of_ble_eq_true rfl, Nat.le_of_ble_eq_true rfl⟩ hP hD hK hZ hS hA [0, 1, 2, 3, 12] [4, 5, 6, 7, 8, 9, 10, 11] [8, 9, 10, 11, 0, 1, 2, 3, 4, 5, 6, 7, 12] rfl (by decide) rfl (by decide) (by decide) (by decide) rfl (va_recv hK hP (ci := 5) (q0 := 0) rfl rfl) hl.1 rfl rfl (Nat.le_of_ble_eq_true rfl) dX6_add_46 (fun H locs hP hD hS => ?_)
          refine lv_goto (tgt := 65) hx hb dX6_add_49 (by decide) ?_
          cases hf
          exact W.vret hx hb hr (fun t ht9 hW => ⟨⟨(), rfl, trivial, by rw [ht9]; exact hP, va_K.moved hW.alike hK, hD⟩, hS.F ht9⟩) hS.2.2 dX6_add_65
        · have hf := itN c7_1 hf
          refine lv_lookup (off := 41) (tgt := 60) hx hb dX6_add_19 (by decide) (by show Op.lookupswitch.offset [(81, 33), (84, 25)] 41 _ = 41; rw [lv_osw (k := (81 : Int32)) c7_0 (by decide), lv_osw (k := (84 : Int32)) c7_1 (by decide)]; rfl) (by decide) ?_
          refine lv_aload_n hx hb dX6_add_60 rfl (lv_at hl 0 rfl) ?_
          refine lv_aload_n hx hb dX6_add_61 rfl (lv_at hl 2 rfl) ?_
          obtain ⟨u12, e13, hf⟩ := bdS hf
          refine k_wVv (ws' := (wX6_add cI cZ jhw jaw jhp np (bA (bA (bA (bA (bA (bO Sw u12) 6 (u12.2.1 6)) 7 (u12.2.1 7)) 8 (u12.2.1 8)) 9 (u12.2.1 9)) 10 (u12.2.1 10)) P)) (wr := [(jaw 0, .inl (cI, 4, .inl ((bA (bA (bA (bA (bA (bO Sw u12) 6 (u12.2.1 6)) 7 (u12.2.1 7)) 8 (u12.2.1 8)) 9 (u12.2.1 9)) 10 (u12.2.1 10)).2.1 0))), (jaw 1, .inl (cI, 4, .inl ((bA (bA (bA (bA (bA (bO Sw u12) 6 (u12.2.1 6)) 7 (u12.2.1 7)) 8 (u12.2.1 8)) 9 (u12.2.1 9)) 10 (u12.2.1 10)).2.1 1))), (jaw 2, .inl (cI, 4, .inl ((bA (bA (bA (bA (bA (bO Sw u12) 6 (u12.2.1 6)) 7 (u12.2.1 7)) 8 (u12.2.1 8)) 9 (u12.2.1 9)) 10 (u12.2.1 10)).2.1 2))), (jaw 3, .inl (cI, 4, .inl ((bA (bA (bA (bA (bA (bO Sw u12) 6 (u12.2.1 6)) 7 (u12.2.1 7)) 8 (u12.2.1 8)) 9 (u12.2.1 9)) 10 (u12.2.1 10)).2.1 3))), (jaw 4, .inl (cI, 4, .inl ((bA (bA (bA (bA (bA (bO Sw u12) 6 (u12.2.1 6)) 7 (u12.2.1 7)) 8 (u12.2.1 8)) 9 (u12.2.1 9)) 10 (u12.2.1 10)).2.1 4))), (jaw 5, .inl (cI, 4, .inl ((bA (bA (bA (bA (bA (bO Sw u12) 6 (u12.2.1 6)) 7 (u12.2.1 7)) 8 (u12.2.1 8)) 9 (u12.2.1 9)) 10 (u12.2.1 10)).2.1 5)))]) (As := [.ref jhp]) (rest := []) hC miX6_addDeed mjX6_addDeed.1 mjX6_addDeed.2 wd2_85 (qX6_addDeed l D cI cZ cO jhw jaw jhp np Sw P H.size u12 e13) ⟨Nat.le_of_ble_eq_true rfl, Nat.le_of_ble_eq_true rfl⟩ hP hD hK hZ hS hA [0, 7, 8, 9, 10, 11, 12] [1, 2, 3, 4, 5, 6] [6, 0, 1, 2, 3, 4, 5, 7, 8, 9, 10, 11, 12] rfl (by decide) rfl (by decide) (by decide) (by decide) rfl (va_recv hK hP (ci := 5) (q0 := 0) rfl rfl) hl.1 rfl rfl (Nat.le_of_ble_eq_true rfl) dX6_add_62 (fun H locs hP hD hS => ?_)
          cases hf
          exact W.vret hx hb hr (fun t ht9 hW => ⟨⟨(), rfl, trivial, by rw [ht9]; exact hP, va_K.moved hW.alike hK, hD⟩, hS.F ht9⟩) hS.2.2 dX6_add_65
    · have hf := itN c6 hf
      cases hf
      exact W.vret hx hb hr (fun t ht9 hW => ⟨⟨(), rfl, trivial, by rw [ht9]; exact hP, va_K.moved hW.alike hK, hD⟩, hS.F ht9⟩) hS.2.2 dX6_add_17
abbrev wX6_clear (cI cZ : ClassId) (jhw : Nat) (jaw : Nat → Nat) (Sw : Bk) : va_W := [(jhw, .inr (5, [.int (Sw.1 0), .ref (jaw 0), .ref (jaw 1), .ref (jaw 2), .int (Sw.1 1), .ref (jaw 3), .ref (jaw 4), .ref (jaw 5), .int (Sw.1 2), .int (Sw.1 3), .ref (jaw 6), .ref (jaw 7), .ref (jaw 8), .ref (jaw 9), .ref (jaw 10)]))]
def fX6_clear (Sw : Bk) : Option (Bk) := some (bI (bI (bI (bI Sw 0 (0 : Int32)) 1 (0 : Int32)) 3 (0 : Int32)) 2 (0 : Int32))
theorem miX6_clear : MI yX6_clear cX6_clear 1 none 0 := ⟨wd1_3, wd2_56, by decide +kernel⟩
theorem mjX6_clear : Cond.instanceMethod yX6_clear ∈ wT ∧ Cond.selects yX6_clear.cls yX6_clear yX6_clear ∈ wT := ⟨wd2_54, wd2_55⟩
set_option maxHeartbeats 4000000 in
set_option maxRecDepth 100000 in
theorem qX6_clear (l : Launch) (D : va_G) (cI cZ cO : ClassId) (jhw : Nat) (jaw : Nat → Nat) (Sw : Bk) (sz : Nat) (res : Bk) (hf : fX6_clear Sw = some res) : Met l yX6_clear (Cond.code yX6_clear cX6_clear 1 none :: wT) (rmF 0 0) (va_Pc [.ref jhw] (cW D (tyL cI cZ cO) (wX6_clear cI cZ jhw jaw Sw) sz)) (va_Qv (S := Unit) (fun _ => True) (fun _ => qW D (tyL cI cZ cO) (va_A (wX6_clear cI cZ jhw jaw Sw) sz) (wX6_clear cI cZ jhw jaw res)) (va_A (wX6_clear cI cZ jhw jaw Sw) sz)) 0 0 (va_A (wX6_clear cI cZ jhw jaw Sw) sz) := by
  refine met_w (by decide) (Nat.le_of_ble_eq_true rfl) ?_
  intro p e s m below meth c hx hb hr hml ht hown hlk ls hl hsz hP hK hD0 hZ
  subst hsz
  have hD := hD0.self (sz := s.heap.size)
  generalize hAe : va_A (wX6_clear cI cZ jhw jaw Sw) s.heap.size = A at hD hZ ⊢
  have hA : ∀ q : Nat, s.heap.size ≤ q → A q := fun q h => by rw [← hAe]; exact Or.inr h
  have hS : va_S A s.heap s.heap [] := va_S.rf
  have hown : s.vm.findClass "EyeDrink$Well" = some m.cls := hown
  have hl : lv_has ls 1 [(0, .ref jhw)] := hl
  unfold fX6_clear at hf
  suffices hgo : ∀ (H : Heap) (locs : List Loc), va_P D vwCl (wX6_clear cI cZ jhw jaw Sw) H → va_S A s.heap H locs → W p l e (rmF 0 0) s m ([.ref jhw] : List Value).toArray below meth c H locs 0 0 (MQ below (va_Qv (S := Unit) (fun _ => True) (fun _ => qW D (tyL cI cZ cO) A (wX6_clear cI cZ jhw jaw res)) A) ([.ref jhw] : List Value).toArray s 0 0 A) (F0 m 0 ls []) from hgo s.heap [] hP hS
  intro H locs hP hS
  refine lv_aload_n hx hb dX6_clear_0 rfl (lv_at hl 0 rfl) ?_
  refine lv_iconst (v := (0 : Int32)) hx hb dX6_clear_1 rfl ?_
  refine va_put (D := D) (ci := 5) (v := .int (0 : Int32)) (ty := .int) (C := RX6) (T := TX6) (N := 15) hx hb ht inX6 tyX6 tyX6_ok nmX6 hown hK hP hD hS 0 rfl rfl 0 (by decide) (ht _ wd1_45) (fun _ h9 => h9) rfl (tyX6_ok 0 (by decide)) rfl rfl (Nat.le_of_ble_eq_true rfl) dX6_clear_2 (fun H locs hP hD hS => ?_)
  have hP : va_P D vwCl (wX6_clear cI cZ jhw jaw (bI Sw 0 (0 : Int32))) H := hP
  have hD : va_D A (wX6_clear cI cZ jhw jaw (bI Sw 0 (0 : Int32))) := hD
  refine lv_aload_n hx hb dX6_clear_5 rfl (lv_at hl 0 rfl) ?_
  refine lv_iconst (v := (0 : Int32)) hx hb dX6_clear_6 rfl ?_
  refine va_put (D := D) (ci := 5) (v := .int (0 : Int32)) (ty := .int) (C := RX6) (T := TX6) (N := 15) hx hb ht inX6 tyX6 tyX6_ok nmX6 hown hK hP hD hS 0 rfl rfl 4 (by decide) (ht _ wd1_57) (fun _ h9 => h9) rfl (tyX6_ok 4 (by decide)) rfl rfl (Nat.le_of_ble_eq_true rfl) dX6_clear_7 (fun H locs hP hD hS => ?_)
  have hP : va_P D vwCl (wX6_clear cI cZ jhw jaw (bI (bI Sw 0 (0 : Int32)) 1 (0 : Int32))) H := hP
  have hD : va_D A (wX6_clear cI cZ jhw jaw (bI (bI Sw 0 (0 : Int32)) 1 (0 : Int32))) := hD
  refine lv_aload_n hx hb dX6_clear_10 rfl (lv_at hl 0 rfl) ?_
  refine lv_iconst (v := (0 : Int32)) hx hb dX6_clear_11 rfl ?_
  refine va_put (D := D) (ci := 5) (v := .int (0 : Int32)) (ty := .int) (C := RX6) (T := TX6) (N := 15) hx hb ht inX6 tyX6 tyX6_ok nmX6 hown hK hP hD hS 0 rfl rfl 9 (by decide) (ht _ wd1_75) (fun _ h9 => h9) rfl (tyX6_ok 9 (by decide)) rfl rfl (Nat.le_of_ble_eq_true rfl) dX6_clear_12 (fun H locs hP hD hS => ?_)
  have hP : va_P D vwCl (wX6_clear cI cZ jhw jaw (bI (bI (bI Sw 0 (0 : Int32)) 1 (0 : Int32)) 3 (0 : Int32))) H := hP
  have hD : va_D A (wX6_clear cI cZ jhw jaw (bI (bI (bI Sw 0 (0 : Int32)) 1 (0 : Int32)) 3 (0 : Int32))) := hD
  refine lv_aload_n hx hb dX6_clear_15 rfl (lv_at hl 0 rfl) ?_
  refine lv_iconst (v := (0 : Int32)) hx hb dX6_clear_16 rfl ?_
  refine va_put (D := D) (ci := 5) (v := .int (0 : Int32)) (ty := .int) (C := RX6) (T := TX6) (N := 15) hx hb ht inX6 tyX6 tyX6_ok nmX6 hown hK hP hD hS 0 rfl rfl 8 (by decide) (ht _ wd1_73) (fun _ h9 => h9) rfl (tyX6_ok 8 (by decide)) rfl rfl (Nat.le_of_ble_eq_true rfl) dX6_clear_17 (fun H locs hP hD hS => ?_)
  have hP : va_P D vwCl (wX6_clear cI cZ jhw jaw (bI (bI (bI (bI Sw 0 (0 : Int32)) 1 (0 : Int32)) 3 (0 : Int32)) 2 (0 : Int32))) H := hP
  have hD : va_D A (wX6_clear cI cZ jhw jaw (bI (bI (bI (bI Sw 0 (0 : Int32)) 1 (0 : Int32)) 3 (0 : Int32)) 2 (0 : Int32))) := hD
  cases hf
  exact W.vret hx hb hr (fun t ht9 hW => ⟨⟨(), rfl, trivial, by rw [ht9]; exact hP, va_K.moved hW.alike hK, hD⟩, hS.F ht9⟩) hS.2.2 dX6_clear_20
abbrev wX6_highest (cI cZ : ClassId) (jhw : Nat) (jaw : Nat → Nat) (Sw : Bk) : va_W := [(jhw, .inr (5, [.int (Sw.1 0), .ref (jaw 0), .ref (jaw 1), .ref (jaw 2), .int (Sw.1 1), .ref (jaw 3), .ref (jaw 4), .ref (jaw 5), .int (Sw.1 2), .int (Sw.1 3), .ref (jaw 6), .ref (jaw 7), .ref (jaw 8), .ref (jaw 9), .ref (jaw 10)]))]
def fX6_highest (Sw : Bk) (x1 : Int32) (x2 : Int32) : Option (Int32) := (if x1 = (81 : Int32) then (if x2 = 0 then some ((Sw.1 0) - (1 : Int32)) else (if x2 = (2 : Int32) then some (1 : Int32) else some (9 : Int32))) else (if x1 = (84 : Int32) then (if x2 = (2 : Int32) then some (3 : Int32) else some (9 : Int32)) else (if x2 = 0 then some ((Sw.1 1) - (1 : Int32)) else (if x2 = (1 : Int32) then some (1 : Int32) else (if x2 = (3 : Int32) then some ((Sw.1 0) - (1 : Int32)) else some (9 : Int32))))))
theorem miX6_highest : MI yX6_highest cX6_highest 3 (some .int) 2 := ⟨wd1_3, wd2_67, by decide +kernel⟩
theorem mjX6_highest : Cond.instanceMethod yX6_highest ∈ wT ∧ Cond.selects yX6_highest.cls yX6_highest yX6_highest ∈ wT := ⟨wd2_65, wd2_66⟩
set_option maxHeartbeats 4000000 in
set_option maxRecDepth 100000 in
theorem qX6_highest (l : Launch) (D : va_G) (cI cZ cO : ClassId) (jhw : Nat) (jaw : Nat → Nat) (Sw : Bk) (x1 : Int32) (x2 : Int32) (res : Int32) (hf : fX6_highest Sw x1 x2 = some res) : Met l yX6_highest (Cond.code yX6_highest cX6_highest 3 (some .int) :: wT) (rmF 0 0) (va_Pc [.ref jhw, .int x1, .int x2] (cR D (tyL cI cZ cO) (wX6_highest cI cZ jhw jaw Sw))) (vp_Si (fun r => r = res)) 0 0 (fun _ => False) := by
  refine met_r (by decide) (Nat.le_of_ble_eq_true rfl) ?_
  intro p e s m below meth c hx hb hr hml ht hown hlk ls hl hP hK hZ
  have hS : va_S (fun _ => False) s.heap s.heap [] := va_S.rf
  have hown : s.vm.findClass "EyeDrink$Well" = some m.cls := hown
  have hl : lv_has ls 3 [(0, .ref jhw), (1, .int x1), (2, .int x2)] := hl
  unfold fX6_highest at hf
  refine lv_iload_n hx hb dX6_highest_0 rfl (lv_at hl 1 rfl) ?_
  by_cases c1_0 : x1 = (81 : Int32)
  · have hf := itP c1_0 hf
    refine lv_lookup (off := 39) (tgt := 40) hx hb dX6_highest_1 (by decide) (by rw [c1_0]; decide) (by decide) ?_
    refine lv_iload_n hx hb dX6_highest_40 rfl (lv_at hl 2 rfl) ?_
    refine lv_if_ne (tgt := 53) hx hb dX6_highest_41 (by decide) (fun c2 => ?_) (fun c2 => ?_)
    · have hf := itN c2 hf
      refine lv_iload_n hx hb dX6_highest_53 rfl (lv_at hl 2 rfl) ?_
      refine lv_iconst (v := (2 : Int32)) hx hb dX6_highest_54 rfl ?_
      refine lv_icmp_ne (tgt := 62) hx hb dX6_highest_55 (by decide) (fun c3 => ?_) (fun c3 => ?_)
      · have hf := itN c3 hf
        refine lv_bipush (v := (9 : Int32)) hx hb dX6_highest_62 rfl ?_
        exact W.iret hx hb hr (fun t ht9 _ => ⟨_, rfl, Option.some.inj hf, ht9⟩) (fun _ h9 => by cases h9) dX6_highest_64
      · have hf := itP c3 hf
        refine lv_iconst (v := (1 : Int32)) hx hb dX6_highest_58 rfl ?_
        refine lv_goto (tgt := 64) hx hb dX6_highest_59 (by decide) ?_
        exact W.iret hx hb hr (fun t ht9 _ => ⟨_, rfl, Option.some.inj hf, ht9⟩) (fun _ h9 => by cases h9) dX6_highest_64
    · have hf := itP c2 hf
      refine lv_aload_n hx hb dX6_highest_44 rfl (lv_at hl 0 rfl) ?_
      refine va_get (D := D) (ci := 5) (v := .int (Sw.1 0)) (C := RX6) (T := TX6) (N := 15) hx hb ht inX6 hown hK hP 0 rfl rfl 0 (by decide) (ht _ wd1_45) (fun _ h9 => h9) rfl dX6_highest_45 ?_
      refine lv_iconst (v := (1 : Int32)) hx hb dX6_highest_48 rfl ?_
      refine lv_isub hx hb dX6_highest_49 ?_
      refine lv_goto (tgt := 64) hx hb dX6_highest_50 (by decide) ?_
      exact W.iret hx hb hr (fun t ht9 _ => ⟨_, rfl, Option.some.inj hf, ht9⟩) (fun _ h9 => by cases h9) dX6_highest_64
  · have hf := itN c1_0 hf
    by_cases c1_1 : x1 = (84 : Int32)
    · have hf := itP c1_1 hf
      refine lv_lookup (off := 27) (tgt := 28) hx hb dX6_highest_1 (by decide) (by rw [c1_1]; decide) (by decide) ?_
      refine lv_iload_n hx hb dX6_highest_28 rfl (lv_at hl 2 rfl) ?_
      refine lv_iconst (v := (2 : Int32)) hx hb dX6_highest_29 rfl ?_
      refine lv_icmp_ne (tgt := 37) hx hb dX6_highest_30 (by decide) (fun c4 => ?_) (fun c4 => ?_)
      · have hf := itN c4 hf
        refine lv_bipush (v := (9 : Int32)) hx hb dX6_highest_37 rfl ?_
        exact W.iret hx hb hr (fun t ht9 _ => ⟨_, rfl, Option.some.inj hf, ht9⟩) (fun _ h9 => by cases h9) dX6_highest_39
      · have hf := itP c4 hf
        refine lv_iconst (v := (3 : Int32)) hx hb dX6_highest_33 rfl ?_
        refine lv_goto (tgt := 39) hx hb dX6_highest_34 (by decide) ?_
        exact W.iret hx hb hr (fun t ht9 _ => ⟨_, rfl, Option.some.inj hf, ht9⟩) (fun _ h9 => by cases h9) dX6_highest_39
    · have hf := itN c1_1 hf
      refine lv_lookup (off := 64) (tgt := 65) hx hb dX6_highest_1 (by decide) (by show Op.lookupswitch.offset [(81, 39), (84, 27)] 64 _ = 64; rw [lv_osw (k := (81 : Int32)) c1_0 (by decide), lv_osw (k := (84 : Int32)) c1_1 (by decide)]; rfl) (by decide) ?_
      refine lv_iload_n hx hb dX6_highest_65 rfl (lv_at hl 2 rfl) ?_
      refine lv_if_ne (tgt := 78) hx hb dX6_highest_66 (by decide) (fun c5 => ?_) (fun c5 => ?_)
      · have hf := itN c5 hf
        refine lv_iload_n hx hb dX6_highest_78 rfl (lv_at hl 2 rfl) ?_
        refine lv_iconst (v := (1 : Int32)) hx hb dX6_highest_79 rfl ?_
        refine lv_icmp_ne (tgt := 87) hx hb dX6_highest_80 (by decide) (fun c6 => ?_) (fun c6 => ?_)
        · have hf := itN c6 hf
          refine lv_iload_n hx hb dX6_highest_87 rfl (lv_at hl 2 rfl) ?_
          refine lv_iconst (v := (3 : Int32)) hx hb dX6_highest_88 rfl ?_
          refine lv_icmp_ne (tgt := 101) hx hb dX6_highest_89 (by decide) (fun c7 => ?_) (fun c7 => ?_)
          · have hf := itN c7 hf
            refine lv_bipush (v := (9 : Int32)) hx hb dX6_highest_101 rfl ?_
            exact W.iret hx hb hr (fun t ht9 _ => ⟨_, rfl, Option.some.inj hf, ht9⟩) (fun _ h9 => by cases h9) dX6_highest_103
          · have hf := itP c7 hf
            refine lv_aload_n hx hb dX6_highest_92 rfl (lv_at hl 0 rfl) ?_
            refine va_get (D := D) (ci := 5) (v := .int (Sw.1 0)) (C := RX6) (T := TX6) (N := 15) hx hb ht inX6 hown hK hP 0 rfl rfl 0 (by decide) (ht _ wd1_45) (fun _ h9 => h9) rfl dX6_highest_93 ?_
            refine lv_iconst (v := (1 : Int32)) hx hb dX6_highest_96 rfl ?_
            refine lv_isub hx hb dX6_highest_97 ?_
            refine lv_goto (tgt := 103) hx hb dX6_highest_98 (by decide) ?_
            exact W.iret hx hb hr (fun t ht9 _ => ⟨_, rfl, Option.some.inj hf, ht9⟩) (fun _ h9 => by cases h9) dX6_highest_103
        · have hf := itP c6 hf
          refine lv_iconst (v := (1 : Int32)) hx hb dX6_highest_83 rfl ?_
          refine lv_goto (tgt := 103) hx hb dX6_highest_84 (by decide) ?_
          exact W.iret hx hb hr (fun t ht9 _ => ⟨_, rfl, Option.some.inj hf, ht9⟩) (fun _ h9 => by cases h9) dX6_highest_103
      · have hf := itP c5 hf
        refine lv_aload_n hx hb dX6_highest_69 rfl (lv_at hl 0 rfl) ?_
        refine va_get (D := D) (ci := 5) (v := .int (Sw.1 1)) (C := RX6) (T := TX6) (N := 15) hx hb ht inX6 hown hK hP 0 rfl rfl 4 (by decide) (ht _ wd1_57) (fun _ h9 => h9) rfl dX6_highest_70 ?_
        refine lv_iconst (v := (1 : Int32)) hx hb dX6_highest_73 rfl ?_
        refine lv_isub hx hb dX6_highest_74 ?_
        refine lv_goto (tgt := 103) hx hb dX6_highest_75 (by decide) ?_
        exact W.iret hx hb hr (fun t ht9 _ => ⟨_, rfl, Option.some.inj hf, ht9⟩) (fun _ h9 => by cases h9) dX6_highest_103
def gX6_lowest_41 (x0 : Int32) (x1 : Int32)  : Option (Int32) := some (1 : Int32)
def gX6_lowest_32 (x0 : Int32) (x1 : Int32) (x2 : Int32) (y0 : Int32) : Option (Int32) := (if x2 = 0 then (if y0 = 0 then some (0 : Int32) else gX6_lowest_41 x0 x1 ) else gX6_lowest_41 x0 x1 )
def gX6_lowest_31 (x0 : Int32) (x1 : Int32) (x2 : Int32) : Option (Int32) := gX6_lowest_32 x0 x1 x2 (0 : Int32)
def gX6_lowest_15 (x0 : Int32) (x1 : Int32) (y0 : Int32) : Option (Int32) := (if x0 = (81 : Int32) then (if x1 = (1 : Int32) then gX6_lowest_32 x0 x1 y0 (1 : Int32) else gX6_lowest_31 x0 x1 y0) else gX6_lowest_31 x0 x1 y0)
def gX6_lowest_14 (x0 : Int32) (x1 : Int32)  : Option (Int32) := gX6_lowest_15 x0 x1 (0 : Int32)
def fX6_lowest (x0 : Int32) (x1 : Int32) : Option (Int32) := (if x0 = (84 : Int32) then (if x1 = 0 then gX6_lowest_15 x0 x1 (1 : Int32) else gX6_lowest_14 x0 x1 ) else gX6_lowest_14 x0 x1 )
theorem miX6_lowest : MI yX6_lowest cX6_lowest 4 (some .int) 2 := ⟨wd1_3, wd2_63, by decide +kernel⟩
theorem mjX6_lowest : Cond.static yX6_lowest ∈ wT := wd2_62
set_option maxHeartbeats 4000000 in
set_option maxRecDepth 100000 in
theorem qX6_lowest (l : Launch) (x0 : Int32) (x1 : Int32) (res : Int32) (hf : fX6_lowest x0 x1 = some res) : Met l yX6_lowest (Cond.code yX6_lowest cX6_lowest 4 (some .int) :: wT) (rmF 0 0) (va_Pc [.int x0, .int x1] (fun _ => True)) (vp_Si (fun r => r = res)) 0 0 (fun _ => False) := by
  refine met_p (by decide) (Nat.le_of_ble_eq_true rfl) ?_
  intro p e s m below meth c hx hb hr hml ht hown hlk ls hl
  have hown : s.vm.findClass "EyeDrink$Well" = some m.cls := hown
  have hl : lv_has ls 4 [(0, .int x0), (1, .int x1)] := hl
  unfold fX6_lowest at hf
  have hj41 : gX6_lowest_41 x0 x1  = some res → ∀ (ls : Array Slot), lv_has ls 4 [] → W p l e (rmF 0 0) s m ([.int x0, .int x1] : List Value).toArray below meth c s.heap [] 0 0 (MQ below (vp_Si (fun r => r = res)) ([.int x0, .int x1] : List Value).toArray s 0 0 (fun _ => False)) (F0 m 41 ls []) := by
    intro  hf ls hl
    unfold gX6_lowest_41 at hf
    refine lv_iconst (v := (1 : Int32)) hx hb dX6_lowest_41 rfl ?_
    refine lv_goto (tgt := 46) hx hb dX6_lowest_42 (by decide) ?_
    exact W.iret hx hb hr (fun t ht9 _ => ⟨_, rfl, Option.some.inj hf, ht9⟩) (fun _ h9 => by cases h9) dX6_lowest_46
  have hj32 : ∀ (x2 : Int32) (y0 : Int32), gX6_lowest_32 x0 x1 x2 y0 = some res → ∀ (ls : Array Slot), lv_has ls 4 [(2, .int x2)] → W p l e (rmF 0 0) s m ([.int x0, .int x1] : List Value).toArray below meth c s.heap [] 0 0 (MQ below (vp_Si (fun r => r = res)) ([.int x0, .int x1] : List Value).toArray s 0 0 (fun _ => False)) (F0 m 32 ls [.int y0]) := by
    intro x2 y0 hf ls hl
    unfold gX6_lowest_32 at hf
    refine lv_istore_n (lv' := [(3, .int y0), (2, .int x2)]) hx hb dX6_lowest_32 rfl hl (by decide) rfl (fun ls hl => ?_)
    refine lv_iload_n hx hb dX6_lowest_33 rfl (lv_at hl 1 rfl) ?_
    refine lv_if_ne (tgt := 41) hx hb dX6_lowest_34 (by decide) (fun c1 => ?_) (fun c1 => ?_)
    · have hf := itN c1 hf
      exact hj41  hf _ (lv_sub hl [] rfl)
    · have hf := itP c1 hf
      refine lv_iload_n hx hb dX6_lowest_37 rfl (lv_at hl 0 rfl) ?_
      refine lv_if_eq (tgt := 45) hx hb dX6_lowest_38 (by decide) (fun c2 => ?_) (fun c2 => ?_)
      · have hf := itP c2 hf
        refine lv_iconst (v := (0 : Int32)) hx hb dX6_lowest_45 rfl ?_
        exact W.iret hx hb hr (fun t ht9 _ => ⟨_, rfl, Option.some.inj hf, ht9⟩) (fun _ h9 => by cases h9) dX6_lowest_46
      · have hf := itN c2 hf
        exact hj41  hf _ (lv_sub hl [] rfl)
  have hj31 : ∀ (x2 : Int32), gX6_lowest_31 x0 x1 x2 = some res → ∀ (ls : Array Slot), lv_has ls 4 [(2, .int x2)] → W p l e (rmF 0 0) s m ([.int x0, .int x1] : List Value).toArray below meth c s.heap [] 0 0 (MQ below (vp_Si (fun r => r = res)) ([.int x0, .int x1] : List Value).toArray s 0 0 (fun _ => False)) (F0 m 31 ls []) := by
    intro x2 hf ls hl
    unfold gX6_lowest_31 at hf
    refine lv_iconst (v := (0 : Int32)) hx hb dX6_lowest_31 rfl ?_
    exact hj32 x2 (0 : Int32) hf _ (lv_sub hl [0] rfl)
  have hj15 : ∀ (y0 : Int32), gX6_lowest_15 x0 x1 y0 = some res → ∀ (ls : Array Slot), lv_has ls 4 [(0, .int x0), (1, .int x1)] → W p l e (rmF 0 0) s m ([.int x0, .int x1] : List Value).toArray below meth c s.heap [] 0 0 (MQ below (vp_Si (fun r => r = res)) ([.int x0, .int x1] : List Value).toArray s 0 0 (fun _ => False)) (F0 m 15 ls [.int y0]) := by
    intro y0 hf ls hl
    unfold gX6_lowest_15 at hf
    refine lv_istore_n (lv' := [(2, .int y0), (0, .int x0), (1, .int x1)]) hx hb dX6_lowest_15 rfl hl (by decide) rfl (fun ls hl => ?_)
    refine lv_iload_n hx hb dX6_lowest_16 rfl (lv_at hl 1 rfl) ?_
    refine lv_bipush (v := (81 : Int32)) hx hb dX6_lowest_17 rfl ?_
    refine lv_icmp_ne (tgt := 31) hx hb dX6_lowest_19 (by decide) (fun c3 => ?_) (fun c3 => ?_)
    · have hf := itN c3 hf
      exact hj31 y0 hf _ (lv_sub hl [0] rfl)
    · have hf := itP c3 hf
      refine lv_iload_n hx hb dX6_lowest_22 rfl (lv_at hl 2 rfl) ?_
      refine lv_iconst (v := (1 : Int32)) hx hb dX6_lowest_23 rfl ?_
      refine lv_icmp_ne (tgt := 31) hx hb dX6_lowest_24 (by decide) (fun c4 => ?_) (fun c4 => ?_)
      · have hf := itN c4 hf
        exact hj31 y0 hf _ (lv_sub hl [0] rfl)
      · have hf := itP c4 hf
        refine lv_iconst (v := (1 : Int32)) hx hb dX6_lowest_27 rfl ?_
        refine lv_goto (tgt := 32) hx hb dX6_lowest_28 (by decide) ?_
        exact hj32 y0 (1 : Int32) hf _ (lv_sub hl [0] rfl)
  have hj14 : gX6_lowest_14 x0 x1  = some res → ∀ (ls : Array Slot), lv_has ls 4 [(0, .int x0), (1, .int x1)] → W p l e (rmF 0 0) s m ([.int x0, .int x1] : List Value).toArray below meth c s.heap [] 0 0 (MQ below (vp_Si (fun r => r = res)) ([.int x0, .int x1] : List Value).toArray s 0 0 (fun _ => False)) (F0 m 14 ls []) := by
    intro  hf ls hl
    unfold gX6_lowest_14 at hf
    refine lv_iconst (v := (0 : Int32)) hx hb dX6_lowest_14 rfl ?_
    exact hj15 (0 : Int32) hf _ (lv_sub hl [0, 1] rfl)
  refine lv_iload_n hx hb dX6_lowest_0 rfl (lv_at hl 0 rfl) ?_
  refine lv_bipush (v := (84 : Int32)) hx hb dX6_lowest_1 rfl ?_
  refine lv_icmp_ne (tgt := 14) hx hb dX6_lowest_3 (by decide) (fun c5 => ?_) (fun c5 => ?_)
  · have hf := itN c5 hf
    exact hj14  hf _ (lv_sub hl [0, 1] rfl)
  · have hf := itP c5 hf
    refine lv_iload_n hx hb dX6_lowest_6 rfl (lv_at hl 1 rfl) ?_
    refine lv_if_ne (tgt := 14) hx hb dX6_lowest_7 (by decide) (fun c6 => ?_) (fun c6 => ?_)
    · have hf := itN c6 hf
      exact hj14  hf _ (lv_sub hl [0, 1] rfl)
    · have hf := itP c6 hf
      refine lv_iconst (v := (1 : Int32)) hx hb dX6_lowest_10 rfl ?_
      refine lv_goto (tgt := 15) hx hb dX6_lowest_11 (by decide) ?_
      exact hj15 (1 : Int32) hf _ (lv_sub hl [0, 1] rfl)
abbrev wX4_readInto (cI cZ : ClassId) (jhx : Nat) (jax : Nat → Nat) (jhw : Nat) (jaw : Nat → Nat) (Sx : Bk) (Sw : Bk) : va_W := [(jhx, .inr (3, [.ref (jax 0), .ref (jax 1), .int (Sx.1 0)])), (jax 0, .inl (cI, 64, .inl (Sx.2.1 0))), (jax 1, .inl (cI, 5, .inl (Sx.2.1 1))), (jhw, .inr (5, [.int (Sw.1 0), .ref (jaw 0), .ref (jaw 1), .ref (jaw 2), .int (Sw.1 1), .ref (jaw 3), .ref (jaw 4), .ref (jaw 5), .int (Sw.1 2), .int (Sw.1 3), .ref (jaw 6), .ref (jaw 7), .ref (jaw 8), .ref (jaw 9), .ref (jaw 10)])), (jaw 0, .inl (cI, 4, .inl (Sw.2.1 0))), (jaw 1, .inl (cI, 4, .inl (Sw.2.1 1))), (jaw 2, .inl (cI, 4, .inl (Sw.2.1 2))), (jaw 3, .inl (cI, 4, .inl (Sw.2.1 3))), (jaw 4, .inl (cI, 4, .inl (Sw.2.1 4))), (jaw 5, .inl (cI, 4, .inl (Sw.2.1 5))), (jaw 6, .inl (cI, 4, .inl (Sw.2.1 6))), (jaw 7, .inl (cI, 4, .inl (Sw.2.1 7))), (jaw 8, .inl (cI, 4, .inl (Sw.2.1 8))), (jaw 9, .inl (cI, 4, .inl (Sw.2.1 9))), (jaw 10, .inl (cI, 4, .inl (Sw.2.1 10)))]
def gX4_readInto_162 (Sx : Bk) (Sw : Bk) : Option (Int32 × Bk × Bk) := some ((Sx.1 0), Sx, Sw)
def gX4_readInto_145 (k11 : Int32 → Int32 → Int32 → Bk → Bk → Option (Int32 × Bk × Bk)) (x2 : Int32) (x3 : Int32) (x4 : Int32) (Sx : Bk) (Sw : Bk) : Option (Int32 × Bk × Bk) := k11 x2 x3 (x4 + (1 : Int32)) Sx Sw
def sX4_readInto_11 (k11 : Int32 → Int32 → Int32 → Bk → Bk → Option (Int32 × Bk × Bk)) (x2 : Int32) (x3 : Int32) (x4 : Int32) (Sx : Bk) (Sw : Bk) : Option (Int32 × Bk × Bk) := (if (Sx.1 0) ≤ x4 then (if (Sx.1 0) = 0 then gX4_readInto_162  Sx Sw else (if x2 = 0 then some ((-9 : Int32), Sx, Sw) else gX4_readInto_162  Sx Sw)) else (if x4 = 0 then inB 64 x4 ((if ((Sx.2.1 0) x4.toNatClampNeg) = (69 : Int32) then gX4_readInto_145 k11 x2 x3 x4 Sx Sw else some (x4, Sx, Sw))) else (if x2 = 0 then inB 64 x4 ((fX6_mayBegin Sw ((Sx.2.1 0) x4.toNatClampNeg)).bind (fun u23 => (if u23 = 0 then some (x4, Sx, Sw) else inB 64 x4 (gX4_readInto_145 k11 ((Sx.2.1 0) x4.toNatClampNeg) (0 : Int32) x4 Sx Sw)))) else inB 64 x4 ((if (5 : Int32) ≤ x3 then some (x4, Sx, Sw) else (fX6_lowest x2 x3).bind (fun u8 => (if (((Sx.2.1 0) x4.toNatClampNeg) - (48 : Int32)) < u8 then some (x4, Sx, Sw) else (fX6_highest Sw x2 x3).bind (fun u11 => (if (((Sx.2.1 0) x4.toNatClampNeg) - (48 : Int32)) ≤ u11 then nmV (((Sx.2.1 0) x4.toNatClampNeg) - (48 : Int32)) (fun v14 => inB 5 x3 (nmV x3.toNatClampNeg (fun j16 => (fX6_figuresOf x2).bind (fun u17 => (if (x3 + (1 : Int32)) = u17 then (fX6_add Sw (upd (Sx.2.1 1) j16 v14) 5 x2).bind (fun u20 => gX4_readInto_145 k11 (0 : Int32) (x3 + (1 : Int32)) x4 (bW Sx 1 j16 v14) u20) else gX4_readInto_145 k11 x2 (x3 + (1 : Int32)) x4 (bW Sx 1 j16 v14) Sw))))) else some (x4, Sx, Sw))))))))))
def fX4_readInto (Sx : Bk) (Sw : Bk) : Option (Int32 × Bk × Bk) := (fX6_clear Sw).bind (fun u29 => lk5 (sX4_readInto_11 ) 1000 (0 : Int32) (0 : Int32) (0 : Int32) Sx (bO Sw u29))
theorem miX4_readInto : MI yX4_readInto cX4_readInto 6 (some .int) 1 := ⟨wd1_2, wd2_52, by decide +kernel⟩
theorem mjX4_readInto : Cond.instanceMethod yX4_readInto ∈ wT ∧ Cond.selects yX4_readInto.cls yX4_readInto yX4_readInto ∈ wT := ⟨wd2_50, wd2_51⟩
set_option maxHeartbeats 4000000 in
set_option maxRecDepth 100000 in
theorem qX4_readInto (l : Launch) (D : va_G) (cI cZ cO : ClassId) (jhx : Nat) (jax : Nat → Nat) (jhw : Nat) (jaw : Nat → Nat) (Sx : Bk) (Sw : Bk) (sz : Nat) (res : Int32 × Bk × Bk) (hf : fX4_readInto Sx Sw = some res) : Met l yX4_readInto (Cond.code yX4_readInto cX4_readInto 6 (some .int) :: wT) (rmF 2 43) (va_Pc [.ref jhx, .ref jhw] (cW D (tyL cI cZ cO) (wX4_readInto cI cZ jhx jax jhw jaw Sx Sw) sz)) (va_Qi (S := Unit) (fun r _ => r = res.1) (fun _ => qW D (tyL cI cZ cO) (va_A (wX4_readInto cI cZ jhx jax jhw jaw Sx Sw) sz) (wX4_readInto cI cZ jhx jax jhw jaw res.2.1 res.2.2)) (va_A (wX4_readInto cI cZ jhx jax jhw jaw Sx Sw) sz)) 0 0 (va_A (wX4_readInto cI cZ jhx jax jhw jaw Sx Sw) sz) := by
  refine met_w (by decide) (Nat.le_of_ble_eq_true rfl) ?_
  intro p e s m below meth c hx hb hr hml ht hown hlk ls hl hsz hP hK hD0 hZ
  subst hsz
  have hD := hD0.self (sz := s.heap.size)
  generalize hAe : va_A (wX4_readInto cI cZ jhx jax jhw jaw Sx Sw) s.heap.size = A at hD hZ ⊢
  have hA : ∀ q : Nat, s.heap.size ≤ q → A q := fun q h => by rw [← hAe]; exact Or.inr h
  have hS : va_S A s.heap s.heap [] := va_S.rf
  have hown : s.vm.findClass "EyeDrink$Text" = some m.cls := hown
  have hl : lv_has ls 6 [(0, .ref jhx), (1, .ref jhw)] := hl
  have hC : CallFix p m c cX4_readInto 6 s ([.ref jhx, .ref jhw] : List Value).toArray wT "EyeDrink$Text" := ⟨hx, hb, hml, hown, ht⟩
  unfold fX4_readInto at hf
  suffices hgo : ∀ (H : Heap) (locs : List Loc), va_P D vwCl (wX4_readInto cI cZ jhx jax jhw jaw Sx Sw) H → va_S A s.heap H locs → W p l e (rmF 2 43) s m ([.ref jhx, .ref jhw] : List Value).toArray below meth c H locs 0 0 (MQ below (va_Qi (S := Unit) (fun r _ => r = res.1) (fun _ => qW D (tyL cI cZ cO) A (wX4_readInto cI cZ jhx jax jhw jaw res.2.1 res.2.2)) A) ([.ref jhx, .ref jhw] : List Value).toArray s 0 0 A) (F0 m 0 ls []) from hgo s.heap [] hP hS
  have hj162 : ∀ (Sx : Bk) (Sw : Bk), gX4_readInto_162  Sx Sw = some res → ∀ (H : Heap) (locs : List Loc) (ls : Array Slot), va_P D vwCl (wX4_readInto cI cZ jhx jax jhw jaw Sx Sw) H → va_D A (wX4_readInto cI cZ jhx jax jhw jaw Sx Sw) → va_S A s.heap H locs → lv_has ls 6 [(0, .ref jhx)] → W p l e (rmF 2 43) s m ([.ref jhx, .ref jhw] : List Value).toArray below meth c H locs 0 0 (MQ below (va_Qi (S := Unit) (fun r _ => r = res.1) (fun _ => qW D (tyL cI cZ cO) A (wX4_readInto cI cZ jhx jax jhw jaw res.2.1 res.2.2)) A) ([.ref jhx, .ref jhw] : List Value).toArray s 0 0 A) (F0 m 162 ls []) := by
    intro Sx Sw hf H locs ls hP hD hS hl
    unfold gX4_readInto_162 at hf
    refine lv_aload_n hx hb dX4_readInto_162 rfl (lv_at hl 0 rfl) ?_
    refine va_get (D := D) (ci := 3) (v := .int (Sx.1 0)) (C := RX4) (T := TX4) (N := 3) hx hb ht inX4 hown hK hP 0 rfl rfl 2 (by decide) (ht _ wd1_29) (fun _ h9 => h9) rfl dX4_readInto_163 ?_
    refine lv_goto (tgt := 171) hx hb dX4_readInto_166 (by decide) ?_
    cases hf
    exact W.iret hx hb hr (fun t ht9 hW => ⟨⟨_, (), rfl, rfl, by rw [ht9]; exact hP, va_K.moved hW.alike hK, hD⟩, hS.F ht9⟩) hS.2.2 dX4_readInto_171
  have hj11 : ∀ (x2 : Int32) (x3 : Int32) (x4 : Int32) (Sx : Bk) (Sw : Bk), lk5 (sX4_readInto_11 ) 1000 x2 x3 x4 Sx Sw = some res → ∀ (H : Heap) (locs : List Loc) (ls : Array Slot), va_P D vwCl (wX4_readInto cI cZ jhx jax jhw jaw Sx Sw) H → va_D A (wX4_readInto cI cZ jhx jax jhw jaw Sx Sw) → va_S A s.heap H locs → lv_has ls 6 [(0, .ref jhx), (1, .ref jhw), (2, .int x2), (3, .int x3), (4, .int x4)] → W p l e (rmF 2 43) s m ([.ref jhx, .ref jhw] : List Value).toArray below meth c H locs 0 0 (MQ below (va_Qi (S := Unit) (fun r _ => r = res.1) (fun _ => qW D (tyL cI cZ cO) A (wX4_readInto cI cZ jhx jax jhw jaw res.2.1 res.2.2)) A) ([.ref jhx, .ref jhw] : List Value).toArray s 0 0 A) (F0 m 11 ls []) := by
    refine lk5_w (fun (x2 : Int32) (x3 : Int32) (x4 : Int32) (Sx : Bk) (Sw : Bk) => ∀ (H : Heap) (locs : List Loc) (ls : Array Slot), va_P D vwCl (wX4_readInto cI cZ jhx jax jhw jaw Sx Sw) H → va_D A (wX4_readInto cI cZ jhx jax jhw jaw Sx Sw) → va_S A s.heap H locs → lv_has ls 6 [(0, .ref jhx), (1, .ref jhw), (2, .int x2), (3, .int x3), (4, .int x4)] → W p l e (rmF 2 43) s m ([.ref jhx, .ref jhw] : List Value).toArray below meth c H locs 0 0 (MQ below (va_Qi (S := Unit) (fun r _ => r = res.1) (fun _ => qW D (tyL cI cZ cO) A (wX4_readInto cI cZ jhx jax jhw jaw res.2.1 res.2.2)) A) ([.ref jhx, .ref jhw] : List Value).toArray s 0 0 A) (F0 m 11 ls [])) ?_ 1000
    intro k11 hk11 x2 x3 x4 Sx Sw hf H locs ls hP hD hS hl
    unfold sX4_readInto_11 at hf
    have hj145 : ∀ (x2 : Int32) (x3 : Int32) (x4 : Int32) (Sx : Bk) (Sw : Bk), gX4_readInto_145 k11 x2 x3 x4 Sx Sw = some res → ∀ (H : Heap) (locs : List Loc) (ls : Array Slot), va_P D vwCl (wX4_readInto cI cZ jhx jax jhw jaw Sx Sw) H → va_D A (wX4_readInto cI cZ jhx jax jhw jaw Sx Sw) → va_S A s.heap H locs → lv_has ls 6 [(0, .ref jhx), (1, .ref jhw), (2, .int x2), (3, .int x3), (4, .int x4)] → W p l e (rmF 2 43) s m ([.ref jhx, .ref jhw] : List Value).toArray below meth c H locs 0 0 (MQ below (va_Qi (S := Unit) (fun r _ => r = res.1) (fun _ => qW D (tyL cI cZ cO) A (wX4_readInto cI cZ jhx jax jhw jaw res.2.1 res.2.2)) A) ([.ref jhx, .ref jhw] : List Value).toArray s 0 0 A) (F0 m 145 ls []) := by
      intro x2 x3 x4 Sx Sw hf H locs ls hP hD hS hl
      unfold gX4_readInto_145 at hf
      refine lv_iinc (v := (x4 + (1 : Int32))) (lv' := [(4, .int (x4 + (1 : Int32))), (0, .ref jhx), (1, .ref jhw), (2, .int x2), (3, .int x3)]) hx hb dX4_readInto_145 hl (k := 4) rfl rfl (by decide) rfl (fun ls hl => ?_)
      refine lv_goto (tgt := 11) hx hb dX4_readInto_148 (by decide) ?_
      exact hk11 x2 x3 (x4 + (1 : Int32)) Sx Sw hf _ _ _ hP hD hS (lv_sub hl [1, 2, 3, 4, 0] rfl)
    refine lv_iload hx hb dX4_readInto_11 (lv_at hl 4 rfl) ?_
    refine lv_aload_n hx hb dX4_readInto_13 rfl (lv_at hl 0 rfl) ?_
    refine va_get (D := D) (ci := 3) (v := .int (Sx.1 0)) (C := RX4) (T := TX4) (N := 3) hx hb ht inX4 hown hK hP 0 rfl rfl 2 (by decide) (ht _ wd1_29) (fun _ h9 => h9) rfl dX4_readInto_14 ?_
    refine lv_icmp_ge (tgt := 151) hx hb dX4_readInto_17 (by decide) (fun c1 => ?_) (fun c1 => ?_)
    · have hf := itP c1 hf
      refine lv_aload_n hx hb dX4_readInto_151 rfl (lv_at hl 0 rfl) ?_
      refine va_get (D := D) (ci := 3) (v := .int (Sx.1 0)) (C := RX4) (T := TX4) (N := 3) hx hb ht inX4 hown hK hP 0 rfl rfl 2 (by decide) (ht _ wd1_29) (fun _ h9 => h9) rfl dX4_readInto_152 ?_
      refine lv_if_eq (tgt := 162) hx hb dX4_readInto_155 (by decide) (fun c2 => ?_) (fun c2 => ?_)
      · have hf := itP c2 hf
        exact hj162 Sx Sw hf _ _ _ hP hD hS (lv_sub hl [0] rfl)
      · have hf := itN c2 hf
        refine lv_iload_n hx hb dX4_readInto_158 rfl (lv_at hl 2 rfl) ?_
        refine lv_if_eq (tgt := 169) hx hb dX4_readInto_159 (by decide) (fun c3 => ?_) (fun c3 => ?_)
        · have hf := itP c3 hf
          refine lv_bipush (v := (-9 : Int32)) hx hb dX4_readInto_169 rfl ?_
          cases hf
          exact W.iret hx hb hr (fun t ht9 hW => ⟨⟨_, (), rfl, rfl, by rw [ht9]; exact hP, va_K.moved hW.alike hK, hD⟩, hS.F ht9⟩) hS.2.2 dX4_readInto_171
        · have hf := itN c3 hf
          exact hj162 Sx Sw hf _ _ _ hP hD hS (lv_sub hl [0] rfl)
    · have hf := itN c1 hf
      refine lv_iload hx hb dX4_readInto_20 (lv_at hl 4 rfl) ?_
      refine lv_if_ne (tgt := 40) hx hb dX4_readInto_22 (by decide) (fun c4 => ?_) (fun c4 => ?_)
      · have hf := itN c4 hf
        refine lv_iload_n hx hb dX4_readInto_40 rfl (lv_at hl 2 rfl) ?_
        refine lv_if_ne (tgt := 74) hx hb dX4_readInto_41 (by decide) (fun c5 => ?_) (fun c5 => ?_)
        · have hf := itN c5 hf
          refine lv_aload_n hx hb dX4_readInto_74 rfl (lv_at hl 0 rfl) ?_
          refine va_get (D := D) (ci := 3) (v := .ref (jax 0)) (C := RX4) (T := TX4) (N := 3) hx hb ht inX4 hown hK hP 0 rfl rfl 0 (by decide) (ht _ wd1_27) (fun _ h9 => h9) rfl dX4_readInto_75 ?_
          refine lv_iload hx hb dX4_readInto_78 (lv_at hl 4 rfl) ?_
          obtain ⟨h6, hf⟩ := inB_s hf
          refine va_iald (f := (Sx.2.1 0)) (n := 64) hx hb hK hP 1 0 rfl rfl h6 dX4_readInto_80 ?_
          refine lv_bipush (v := (48 : Int32)) hx hb dX4_readInto_81 rfl ?_
          refine lv_isub hx hb dX4_readInto_83 ?_
          refine lv_istore (lv' := [(5, .int (((Sx.2.1 0) x4.toNatClampNeg) - (48 : Int32))), (0, .ref jhx), (1, .ref jhw), (2, .int x2), (3, .int x3), (4, .int x4)]) hx hb dX4_readInto_84 hl (by decide) rfl (fun ls hl => ?_)
          refine lv_iload_n hx hb dX4_readInto_86 rfl (lv_at hl 4 rfl) ?_
          refine lv_iconst (v := (5 : Int32)) hx hb dX4_readInto_87 rfl ?_
          refine lv_icmp_ge (tgt := 112) hx hb dX4_readInto_88 (by decide) (fun c7 => ?_) (fun c7 => ?_)
          · have hf := itP c7 hf
            refine lv_iload hx hb dX4_readInto_112 (lv_at hl 5 rfl) ?_
            cases hf
            exact W.iret hx hb hr (fun t ht9 hW => ⟨⟨_, (), rfl, rfl, by rw [ht9]; exact hP, va_K.moved hW.alike hK, hD⟩, hS.F ht9⟩) hS.2.2 dX4_readInto_114
          · have hf := itN c7 hf
            refine lv_iload hx hb dX4_readInto_91 (lv_at hl 0 rfl) ?_
            refine lv_iload_n hx hb dX4_readInto_93 rfl (lv_at hl 3 rfl) ?_
            refine lv_iload_n hx hb dX4_readInto_94 rfl (lv_at hl 4 rfl) ?_
            obtain ⟨u8, e9, hf⟩ := bdS hf
            refine k_pS (As := [.int x2, .int x3]) (rest := [.int (((Sx.2.1 0) x4.toNatClampNeg) - (48 : Int32))]) hC miX6_lowest mjX6_lowest wd2_61 (qX6_lowest l x2 x3 u8 e9) ⟨Nat.le_of_ble_eq_true rfl, Nat.le_of_ble_eq_true rfl⟩ hl.1 rfl rfl (Nat.le_of_ble_eq_true rfl) dX4_readInto_95 ?_
            refine lv_icmp_lt (tgt := 112) hx hb dX4_readInto_98 (by decide) (fun c10 => ?_) (fun c10 => ?_)
            · have hf := itP c10 hf
              refine lv_iload hx hb dX4_readInto_112 (lv_at hl 5 rfl) ?_
              cases hf
              exact W.iret hx hb hr (fun t ht9 hW => ⟨⟨_, (), rfl, rfl, by rw [ht9]; exact hP, va_K.moved hW.alike hK, hD⟩, hS.F ht9⟩) hS.2.2 dX4_readInto_114
            · have hf := itN c10 hf
              refine lv_iload hx hb dX4_readInto_101 (lv_at hl 0 rfl) ?_
              refine lv_aload_n hx hb dX4_readInto_103 rfl (lv_at hl 2 rfl) ?_
              refine lv_iload_n hx hb dX4_readInto_104 rfl (lv_at hl 3 rfl) ?_
              refine lv_iload_n hx hb dX4_readInto_105 rfl (lv_at hl 4 rfl) ?_
              obtain ⟨u11, e12, hf⟩ := bdS hf
              refine k_rV (As := [.int x2, .int x3]) (rest := [.int (((Sx.2.1 0) x4.toNatClampNeg) - (48 : Int32))]) hC miX6_highest mjX6_highest.1 mjX6_highest.2 wd2_64 (qX6_highest l D cI cZ cO jhw jaw Sw x2 x3 u11 e12) ⟨Nat.le_of_ble_eq_true rfl, Nat.le_of_ble_eq_true rfl⟩ (hP.sub [3] rfl) hK hZ hS (va_recv hK hP (ci := 5) (q0 := 3) rfl rfl) hl.1 rfl rfl (Nat.le_of_ble_eq_true rfl) dX4_readInto_106 ?_
              refine lv_icmp_le (tgt := 115) hx hb dX4_readInto_109 (by decide) (fun c13 => ?_) (fun c13 => ?_)
              · have hf := itP c13 hf
                refine lv_aload_n hx hb dX4_readInto_115 rfl (lv_at hl 1 rfl) ?_
                refine va_get (D := D) (ci := 3) (v := .ref (jax 1)) (C := RX4) (T := TX4) (N := 3) hx hb ht inX4 hown hK hP 0 rfl rfl 1 (by decide) (ht _ wd1_28) (fun _ h9 => h9) rfl dX4_readInto_116 ?_
                refine lv_iload_n hx hb dX4_readInto_119 rfl (lv_at hl 4 rfl) ?_
                refine lv_iload hx hb dX4_readInto_120 (lv_at hl 0 rfl) ?_
                obtain ⟨v14, ev14, hf⟩ := nmV_s hf
                rw [← ev14]
                obtain ⟨h15, hf⟩ := inB_s hf
                obtain ⟨j16, ej16, hf⟩ := nmV_s hf
                refine va_iast (f := (Sx.2.1 1)) (n := 5) hx hb hK hP hD hS 2 0 rfl rfl h15 dX4_readInto_122 (fun H locs hP hD hS => ?_)
                rw [← ej16] at hP hD
                have hP : va_P D vwCl (wX4_readInto cI cZ jhx jax jhw jaw (bW Sx 1 j16 v14) Sw) H := hP
                have hD : va_D A (wX4_readInto cI cZ jhx jax jhw jaw (bW Sx 1 j16 v14) Sw) := hD
                refine lv_iinc (v := (x3 + (1 : Int32))) (lv' := [(3, .int (x3 + (1 : Int32))), (5, .int (((Sx.2.1 0) x4.toNatClampNeg) - (48 : Int32))), (0, .ref jhx), (1, .ref jhw), (2, .int x2), (4, .int x4)]) hx hb dX4_readInto_123 hl (k := 4) rfl rfl (by decide) rfl (fun ls hl => ?_)
                refine lv_iload_n hx hb dX4_readInto_126 rfl (lv_at hl 0 rfl) ?_
                refine lv_iload_n hx hb dX4_readInto_127 rfl (lv_at hl 4 rfl) ?_
                obtain ⟨u17, e18, hf⟩ := bdS hf
                refine k_pS (As := [.int x2]) (rest := [.int (x3 + (1 : Int32))]) hC miX6_figuresOf mjX6_figuresOf wd2_68 (qX6_figuresOf l x2 u17 e18) ⟨Nat.le_of_ble_eq_true rfl, Nat.le_of_ble_eq_true rfl⟩ hl.1 rfl rfl (Nat.le_of_ble_eq_true rfl) dX4_readInto_128 ?_
                refine lv_icmp_ne (tgt := 145) hx hb dX4_readInto_131 (by decide) (fun c19 => ?_) (fun c19 => ?_)
                · have hf := itN c19 hf
                  exact hj145 x2 (x3 + (1 : Int32)) x4 (bW Sx 1 j16 v14) Sw hf _ _ _ hP hD hS (lv_sub hl [2, 3, 4, 0, 5] rfl)
                · have hf := itP c19 hf
                  refine lv_aload_n hx hb dX4_readInto_134 rfl (lv_at hl 3 rfl) ?_
                  refine lv_iload_n hx hb dX4_readInto_135 rfl (lv_at hl 4 rfl) ?_
                  refine lv_aload_n hx hb dX4_readInto_136 rfl (lv_at hl 2 rfl) ?_
                  refine va_get (D := D) (ci := 3) (v := .ref (jax 1)) (C := RX4) (T := TX4) (N := 3) hx hb ht inX4 hown hK hP 0 rfl rfl 1 (by decide) (ht _ wd1_28) (fun _ h9 => h9) rfl dX4_readInto_137 ?_
                  obtain ⟨u20, e21, hf⟩ := bdS hf
                  refine k_wVv (ws' := (wX4_readInto cI cZ jhx jax jhw jaw (bW Sx 1 j16 v14) u20)) (wr := [(jhx, .inr (3, [.ref (jax 0), .ref (jax 1), .int ((bW Sx 1 j16 v14).1 0)])), (jax 0, .inl (cI, 64, .inl ((bW Sx 1 j16 v14).2.1 0)))]) (As := [.int x2, .ref (jax 1)]) (rest := []) hC miX6_add mjX6_add.1 mjX6_add.2 wd2_71 (qX6_add l D cI cZ cO jhw jaw (jax 1) (5) Sw (upd (Sx.2.1 1) j16 v14) x2 H.size u20 e21) ⟨Nat.le_of_ble_eq_true rfl, Nat.le_of_ble_eq_true rfl⟩ hP hD hK hZ hS hA [3, 4, 5, 6, 7, 8, 9, 10, 11, 12, 13, 14, 2] [0, 1] [0, 1, 14, 2, 3, 4, 5, 6, 7, 8, 9, 10, 11, 12, 13] rfl (by decide) rfl (by decide) (by decide) (by decide) rfl (va_recv hK hP (ci := 5) (q0 := 3) rfl rfl) hl.1 rfl rfl (Nat.le_of_ble_eq_true rfl) dX4_readInto_140 (fun H locs hP hD hS => ?_)
                  refine lv_iconst (v := (0 : Int32)) hx hb dX4_readInto_143 rfl ?_
                  refine lv_istore_n (lv' := [(2, .int (0 : Int32)), (3, .int (x3 + (1 : Int32))), (5, .int (((Sx.2.1 0) x4.toNatClampNeg) - (48 : Int32))), (0, .ref jhx), (1, .ref jhw), (4, .int x4)]) hx hb dX4_readInto_144 rfl hl (by decide) rfl (fun ls hl => ?_)
                  exact hj145 (0 : Int32) (x3 + (1 : Int32)) x4 (bW Sx 1 j16 v14) u20 hf _ _ _ hP hD hS (lv_sub hl [3, 4, 0, 1, 5] rfl)
              · have hf := itN c13 hf
                refine lv_iload hx hb dX4_readInto_112 (lv_at hl 5 rfl) ?_
                cases hf
                exact W.iret hx hb hr (fun t ht9 hW => ⟨⟨_, (), rfl, rfl, by rw [ht9]; exact hP, va_K.moved hW.alike hK, hD⟩, hS.F ht9⟩) hS.2.2 dX4_readInto_114
        · have hf := itP c5 hf
          refine lv_aload_n hx hb dX4_readInto_44 rfl (lv_at hl 1 rfl) ?_
          refine lv_aload_n hx hb dX4_readInto_45 rfl (lv_at hl 0 rfl) ?_
          refine va_get (D := D) (ci := 3) (v := .ref (jax 0)) (C := RX4) (T := TX4) (N := 3) hx hb ht inX4 hown hK hP 0 rfl rfl 0 (by decide) (ht _ wd1_27) (fun _ h9 => h9) rfl dX4_readInto_46 ?_
          refine lv_iload hx hb dX4_readInto_49 (lv_at hl 4 rfl) ?_
          obtain ⟨h22, hf⟩ := inB_s hf
          refine va_iald (f := (Sx.2.1 0)) (n := 64) hx hb hK hP 1 0 rfl rfl h22 dX4_readInto_51 ?_
          obtain ⟨u23, e24, hf⟩ := bdS hf
          refine k_rV (As := [.int ((Sx.2.1 0) x4.toNatClampNeg)]) (rest := []) hC miX6_mayBegin mjX6_mayBegin.1 mjX6_mayBegin.2 wd2_57 (qX6_mayBegin l D cI cZ cO jhw jaw Sw ((Sx.2.1 0) x4.toNatClampNeg) u23 e24) ⟨Nat.le_of_ble_eq_true rfl, Nat.le_of_ble_eq_true rfl⟩ (hP.sub [3] rfl) hK hZ hS (va_recv hK hP (ci := 5) (q0 := 3) rfl rfl) hl.1 rfl rfl (Nat.le_of_ble_eq_true rfl) dX4_readInto_52 ?_
          refine lv_if_ne (tgt := 61) hx hb dX4_readInto_55 (by decide) (fun c25 => ?_) (fun c25 => ?_)
          · have hf := itN c25 hf
            refine lv_aload_n hx hb dX4_readInto_61 rfl (lv_at hl 0 rfl) ?_
            refine va_get (D := D) (ci := 3) (v := .ref (jax 0)) (C := RX4) (T := TX4) (N := 3) hx hb ht inX4 hown hK hP 0 rfl rfl 0 (by decide) (ht _ wd1_27) (fun _ h9 => h9) rfl dX4_readInto_62 ?_
            refine lv_iload hx hb dX4_readInto_65 (lv_at hl 4 rfl) ?_
            obtain ⟨h26, hf⟩ := inB_s hf
            refine va_iald (f := (Sx.2.1 0)) (n := 64) hx hb hK hP 1 0 rfl rfl h26 dX4_readInto_67 ?_
            refine lv_istore_n (lv' := [(2, .int ((Sx.2.1 0) x4.toNatClampNeg)), (0, .ref jhx), (1, .ref jhw), (3, .int x3), (4, .int x4)]) hx hb dX4_readInto_68 rfl hl (by decide) rfl (fun ls hl => ?_)
            refine lv_iconst (v := (0 : Int32)) hx hb dX4_readInto_69 rfl ?_
            refine lv_istore_n (lv' := [(3, .int (0 : Int32)), (2, .int ((Sx.2.1 0) x4.toNatClampNeg)), (0, .ref jhx), (1, .ref jhw), (4, .int x4)]) hx hb dX4_readInto_70 rfl hl (by decide) rfl (fun ls hl => ?_)
            refine lv_goto (tgt := 145) hx hb dX4_readInto_71 (by decide) ?_
            exact hj145 ((Sx.2.1 0) x4.toNatClampNeg) (0 : Int32) x4 Sx Sw hf _ _ _ hP hD hS (lv_sub hl [2, 3, 1, 0, 4] rfl)
          · have hf := itP c25 hf
            refine lv_iload hx hb dX4_readInto_58 (lv_at hl 4 rfl) ?_
            cases hf
            exact W.iret hx hb hr (fun t ht9 hW => ⟨⟨_, (), rfl, rfl, by rw [ht9]; exact hP, va_K.moved hW.alike hK, hD⟩, hS.F ht9⟩) hS.2.2 dX4_readInto_60
      · have hf := itP c4 hf
        refine lv_aload_n hx hb dX4_readInto_25 rfl (lv_at hl 0 rfl) ?_
        refine va_get (D := D) (ci := 3) (v := .ref (jax 0)) (C := RX4) (T := TX4) (N := 3) hx hb ht inX4 hown hK hP 0 rfl rfl 0 (by decide) (ht _ wd1_27) (fun _ h9 => h9) rfl dX4_readInto_26 ?_
        refine lv_iload hx hb dX4_readInto_29 (lv_at hl 4 rfl) ?_
        obtain ⟨h27, hf⟩ := inB_s hf
        refine va_iald (f := (Sx.2.1 0)) (n := 64) hx hb hK hP 1 0 rfl rfl h27 dX4_readInto_31 ?_
        refine lv_bipush (v := (69 : Int32)) hx hb dX4_readInto_32 rfl ?_
        refine lv_icmp_eq (tgt := 145) hx hb dX4_readInto_34 (by decide) (fun c28 => ?_) (fun c28 => ?_)
        · have hf := itP c28 hf
          exact hj145 x2 x3 x4 Sx Sw hf _ _ _ hP hD hS (lv_sub hl [0, 1, 2, 3, 4] rfl)
        · have hf := itN c28 hf
          refine lv_iload hx hb dX4_readInto_37 (lv_at hl 4 rfl) ?_
          cases hf
          exact W.iret hx hb hr (fun t ht9 hW => ⟨⟨_, (), rfl, rfl, by rw [ht9]; exact hP, va_K.moved hW.alike hK, hD⟩, hS.F ht9⟩) hS.2.2 dX4_readInto_39
  intro H locs hP hS
  refine lv_aload_n hx hb dX4_readInto_0 rfl (lv_at hl 1 rfl) ?_
  obtain ⟨u29, e30, hf⟩ := bdS hf
  refine k_wVv (ws' := (wX4_readInto cI cZ jhx jax jhw jaw Sx (bO Sw u29))) (wr := [(jhx, .inr (3, [.ref (jax 0), .ref (jax 1), .int (Sx.1 0)])), (jax 0, .inl (cI, 64, .inl (Sx.2.1 0))), (jax 1, .inl (cI, 5, .inl (Sx.2.1 1))), (jaw 0, .inl (cI, 4, .inl ((bO Sw u29).2.1 0))), (jaw 1, .inl (cI, 4, .inl ((bO Sw u29).2.1 1))), (jaw 2, .inl (cI, 4, .inl ((bO Sw u29).2.1 2))), (jaw 3, .inl (cI, 4, .inl ((bO Sw u29).2.1 3))), (jaw 4, .inl (cI, 4, .inl ((bO Sw u29).2.1 4))), (jaw 5, .inl (cI, 4, .inl ((bO Sw u29).2.1 5))), (jaw 6, .inl (cI, 4, .inl ((bO Sw u29).2.1 6))), (jaw 7, .inl (cI, 4, .inl ((bO Sw u29).2.1 7))), (jaw 8, .inl (cI, 4, .inl ((bO Sw u29).2.1 8))), (jaw 9, .inl (cI, 4, .inl ((bO Sw u29).2.1 9))), (jaw 10, .inl (cI, 4, .inl ((bO Sw u29).2.1 10)))]) (As := []) (rest := []) hC miX6_clear mjX6_clear.1 mjX6_clear.2 wd2_53 (qX6_clear l D cI cZ cO jhw jaw Sw H.size u29 e30) ⟨Nat.le_of_ble_eq_true rfl, Nat.le_of_ble_eq_true rfl⟩ hP hD hK hZ hS hA [3] [0, 1, 2, 4, 5, 6, 7, 8, 9, 10, 11, 12, 13, 14] [0, 1, 2, 14, 3, 4, 5, 6, 7, 8, 9, 10, 11, 12, 13] rfl (by decide) rfl (by decide) (by decide) (by decide) rfl (va_recv hK hP (ci := 5) (q0 := 3) rfl rfl) hl.1 rfl rfl (Nat.le_of_ble_eq_true rfl) dX4_readInto_1 (fun H locs hP hD hS => ?_)
  refine lv_iconst (v := (0 : Int32)) hx hb dX4_readInto_4 rfl ?_
  refine lv_istore_n (lv' := [(2, .int (0 : Int32)), (0, .ref jhx), (1, .ref jhw)]) hx hb dX4_readInto_5 rfl hl (by decide) rfl (fun ls hl => ?_)
  refine lv_iconst (v := (0 : Int32)) hx hb dX4_readInto_6 rfl ?_
  refine lv_istore_n (lv' := [(3, .int (0 : Int32)), (2, .int (0 : Int32)), (0, .ref jhx), (1, .ref jhw)]) hx hb dX4_readInto_7 rfl hl (by decide) rfl (fun ls hl => ?_)
  refine lv_iconst (v := (0 : Int32)) hx hb dX4_readInto_8 rfl ?_
  refine lv_istore (lv' := [(4, .int (0 : Int32)), (3, .int (0 : Int32)), (2, .int (0 : Int32)), (0, .ref jhx), (1, .ref jhw)]) hx hb dX4_readInto_9 hl (by decide) rfl (fun ls hl => ?_)
  exact hj11 (0 : Int32) (0 : Int32) (0 : Int32) Sx (bO Sw u29) hf _ _ _ hP hD hS (lv_sub hl [3, 4, 2, 1, 0] rfl)
