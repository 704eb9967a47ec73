def fX5_place (x0 : Int32) (x1 : Int32) (x2 : Int32) : Option (Int32) := inB 16 (x0 &&& (15 : Int32)) (inB 16 ((x1 &&& x0) &&& (15 : Int32)) (some ((((in3 (x0 &&& (15 : Int32)).toNatClampNeg) + (in3 ((x1 &&& x0) &&& (15 : Int32)).toNatClampNeg)) * (16 : Int32)) + (x2 &&& (15 : Int32)))))
theorem miX5_place : MI yX5_place cX5_place 3 (some .int) 3 := ⟨wd1_6, wd3_18, by decide +kernel⟩
theorem mjX5_place : Cond.static yX5_place ∈ wT := wd3_17
set_option maxHeartbeats 4000000 in
set_option maxRecDepth 100000 in
theorem qX5_place (l : Launch) (D : va_G) (cI cZ cO : ClassId) (x0 : Int32) (x1 : Int32) (x2 : Int32) (res : Int32) (hf : fX5_place x0 x1 x2 = some res) : Met l yX5_place (Cond.code yX5_place cX5_place 3 (some .int) :: wT) (rmF 0 0) (va_Pc [.int x0, .int x1, .int x2] (cR D (tyL cI cZ cO) [])) (vp_Si (fun r => r = res)) 0 0 (fun _ => False) := by
  refine met_r (by decide) (Nat.le_of_ble_eq_true rfl) ?_
  intro p e s m below meth c hx hb hr hml ht hown hlk ls hl hP hK hZ
  have hS : va_S (fun _ => False) s.heap s.heap [] := va_S.rf
  have hown : s.vm.findClass "EyeDrink$Trees" = some m.cls := hown
  have hl : lv_has ls 3 [(0, .int x0), (1, .int x1), (2, .int x2)] := hl
  obtain ⟨⟨t3, hz3, hT3⟩, t10, hz10, hT10⟩ := id hZ
  unfold fX5_place at hf
  refine va_gets hx hb hz3 hS hown (ht _ wd3_19) (fun _ h9 => h9) dX5_place_0 ?_
  refine lv_iload_n hx hb dX5_place_3 rfl (lv_at hl 0 rfl) ?_
  refine lv_bipush (v := (15 : Int32)) hx hb dX5_place_4 rfl ?_
  refine lv_iand hx hb dX5_place_6 ?_
  obtain ⟨h1, hf⟩ := inB_s hf
  refine va_ti hx hb hT3 hS h1 rfl dX5_place_7 ?_
  refine va_gets hx hb hz3 hS hown (ht _ wd3_19) (fun _ h9 => h9) dX5_place_8 ?_
  refine lv_iload_n hx hb dX5_place_11 rfl (lv_at hl 1 rfl) ?_
  refine lv_iload_n hx hb dX5_place_12 rfl (lv_at hl 0 rfl) ?_
  refine lv_iand hx hb dX5_place_13 ?_
  refine lv_bipush (v := (15 : Int32)) hx hb dX5_place_14 rfl ?_
  refine lv_iand hx hb dX5_place_16 ?_
  obtain ⟨h2, hf⟩ := inB_s hf
  refine va_ti hx hb hT3 hS h2 rfl dX5_place_17 ?_
  refine lv_iadd hx hb dX5_place_18 ?_
  refine lv_bipush (v := (16 : Int32)) hx hb dX5_place_19 rfl ?_
  refine lv_imul hx hb dX5_place_21 ?_
  refine lv_iload_n hx hb dX5_place_22 rfl (lv_at hl 2 rfl) ?_
  refine lv_bipush (v := (15 : Int32)) hx hb dX5_place_23 rfl ?_
  refine lv_iand hx hb dX5_place_25 ?_
  refine lv_iadd hx hb dX5_place_26 ?_
  exact W.iret hx hb hr (fun t ht9 _ => ⟨_, rfl, Option.some.inj hf, ht9⟩) (fun _ h9 => by cases h9) dX5_place_27
abbrev wX5_behind (cI cZ : ClassId) (jhw : Nat) (jaw : Nat → Nat) (jhr : Nat) (jar : Nat → Nat) (jhs : Nat) (Sw : Bk) (Sr : Bk) : va_W := [(jhw, .inr (5, [.int (Sw.1 0), .ref (jaw 0), .ref (jaw 1), .ref (jaw 2), .int (Sw.1 1), .ref (jaw 3), .ref (jaw 4), .ref (jaw 5), .int (Sw.1 2), .int (Sw.1 3), .ref (jaw 6), .ref (jaw 7), .ref (jaw 8), .ref (jaw 9), .ref (jaw 10)])), (jaw 5, .inl (cI, 4, .inl (Sw.2.1 5))), (jhr, .inr (4, [.ref jhw, .ref jhs, .ref (jar 2), .ref (jar 3), .ref (jar 4), .ref (jar 5), .int (Sr.1 0), .int (Sr.1 1), .int (Sr.1 2)])), (jar 2, .inl (cI, 1296, .inl (Sr.2.1 2)))]
def fX5_behind (Sw : Bk) (Sr : Bk) (x1 : Int32) (x2 : Int32) (x3 : Int32) (x4 : Int32) : Option (Int32) := (fX5_place (x2 ||| ((1 : Int32) <<< (x1 &&& 31))) x3 x4).bind (fun u1 => inB 1296 u1 ((fX5_place (x2 ||| ((1 : Int32) <<< (x1 &&& 31))) (x3 ||| ((1 : Int32) <<< (x1 &&& 31))) x4).bind (fun u4 => inB 1296 u4 (inB 4 x1 ((if (Sr.1 0) = 0 then some (if ((Sr.2.1 2) u4.toNatClampNeg) < ((Sr.2.1 2) u1.toNatClampNeg) then ((Sr.2.1 2) u4.toNatClampNeg) else ((Sr.2.1 2) u1.toNatClampNeg)) else some ((((Sr.2.1 2) u1.toNatClampNeg) * ((10 : Int32) - ((Sw.2.1 5) x1.toNatClampNeg))) + (((Sr.2.1 2) u4.toNatClampNeg) * ((Sw.2.1 5) x1.toNatClampNeg)))))))))
theorem miX5_behind : MI yX5_behind cX5_behind 9 (some .int) 4 := ⟨wd1_6, wd3_35, by decide +kernel⟩
theorem mjX5_behind : Cond.instanceMethod yX5_behind ∈ wT ∧ Cond.selects yX5_behind.cls yX5_behind yX5_behind ∈ wT := ⟨wd3_34, ws_11⟩
set_option maxHeartbeats 4000000 in
set_option maxRecDepth 100000 in
theorem qX5_behind (l : Launch) (D : va_G) (cI cZ cO : ClassId) (jhw : Nat) (jaw : Nat → Nat) (jhr : Nat) (jar : Nat → Nat) (jhs : Nat) (Sw : Bk) (Sr : Bk) (x1 : Int32) (x2 : Int32) (x3 : Int32) (x4 : Int32) (res : Int32) (hf : fX5_behind Sw Sr x1 x2 x3 x4 = some res) : Met l yX5_behind (Cond.code yX5_behind cX5_behind 9 (some .int) :: wT) (rmF 1 22) (va_Pc [.ref jhr, .int x1, .int x2, .int x3, .int x4] (cR D (tyL cI cZ cO) (wX5_behind cI cZ jhw jaw jhr jar jhs Sw Sr))) (vp_Si (fun r => r = res)) 0 0 (fun _ => False) := by
  refine met_r (by decide) (Nat.le_of_ble_eq_true rfl) ?_
  intro p e s m below meth c hx hb hr hml ht hown hlk ls hl hP hK hZ
  have hS : va_S (fun _ => False) s.heap s.heap [] := va_S.rf
  have hown : s.vm.findClass "EyeDrink$Trees" = some m.cls := hown
  have hl : lv_has ls 9 [(0, .ref jhr), (1, .int x1), (2, .int x2), (3, .int x3), (4, .int x4)] := hl
  have hC : CallFix p m c cX5_behind 9 s ([.ref jhr, .int x1, .int x2, .int x3, .int x4] : List Value).toArray wT "EyeDrink$Trees" := ⟨hx, hb, hml, hown, ht⟩
  unfold fX5_behind at hf
  refine lv_iconst (v := (1 : Int32)) hx hb dX5_behind_0 rfl ?_
  refine lv_iload_n hx hb dX5_behind_1 rfl (lv_at hl 1 rfl) ?_
  refine lv_ishl hx hb dX5_behind_2 ?_
  refine lv_istore (lv' := [(5, .int ((1 : Int32) <<< (x1 &&& 31))), (0, .ref jhr), (1, .int x1), (2, .int x2), (3, .int x3), (4, .int x4)]) hx hb dX5_behind_3 hl (by decide) rfl (fun ls hl => ?_)
  refine lv_aload_n hx hb dX5_behind_5 rfl (lv_at hl 1 rfl) ?_
  refine va_get (D := D) (ci := 4) (v := .ref (jar 2)) (C := RX5) (T := TX5) (N := 9) hx hb ht inX5 hown hK hP 2 rfl rfl 2 (by decide) (ht _ wd1_192) (fun _ h9 => h9) rfl dX5_behind_6 ?_
  refine lv_iload_n hx hb dX5_behind_9 rfl (lv_at hl 3 rfl) ?_
  refine lv_iload hx hb dX5_behind_10 (lv_at hl 0 rfl) ?_
  refine lv_ior hx hb dX5_behind_12 ?_
  refine lv_iload_n hx hb dX5_behind_13 rfl (lv_at hl 4 rfl) ?_
  refine lv_iload hx hb dX5_behind_14 (lv_at hl 5 rfl) ?_
  obtain ⟨u1, e2, hf⟩ := bdS hf
  refine k_rS (As := [.int (x2 ||| ((1 : Int32) <<< (x1 &&& 31))), .int x3, .int x4]) (rest := [.ref (jar 2)]) hC miX5_place mjX5_place wd3_16 (qX5_place l D cI cZ cO  (x2 ||| ((1 : Int32) <<< (x1 &&& 31))) x3 x4 u1 e2) ⟨Nat.le_of_ble_eq_true rfl, Nat.le_of_ble_eq_true rfl⟩ (hP.sub [] rfl) hK hZ hS hl.1 rfl rfl (Nat.le_of_ble_eq_true rfl) dX5_behind_16 ?_
  obtain ⟨h3, hf⟩ := inB_s hf
  refine va_iald (f := (Sr.2.1 2)) (n := 1296) hx hb hK hP 3 0 rfl rfl h3 dX5_behind_19 ?_
  refine lv_istore (lv' := [(6, .int ((Sr.2.1 2) u1.toNatClampNeg)), (5, .int ((1 : Int32) <<< (x1 &&& 31))), (0, .ref jhr), (1, .int x1), (2, .int x2), (3, .int x3), (4, .int x4)]) hx hb dX5_behind_20 hl (by decide) rfl (fun ls hl => ?_)
  refine lv_aload_n hx hb dX5_behind_22 rfl (lv_at hl 2 rfl) ?_
  refine va_get (D := D) (ci := 4) (v := .ref (jar 2)) (C := RX5) (T := TX5) (N := 9) hx hb ht inX5 hown hK hP 2 rfl rfl 2 (by decide) (ht _ wd1_192) (fun _ h9 => h9) rfl dX5_behind_23 ?_
  refine lv_iload_n hx hb dX5_behind_26 rfl (lv_at hl 4 rfl) ?_
  refine lv_iload hx hb dX5_behind_27 (lv_at hl 1 rfl) ?_
  refine lv_ior hx hb dX5_behind_29 ?_
  refine lv_iload_n hx hb dX5_behind_30 rfl (lv_at hl 5 rfl) ?_
  refine lv_iload hx hb dX5_behind_31 (lv_at hl 1 rfl) ?_
  refine lv_ior hx hb dX5_behind_33 ?_
  refine lv_iload hx hb dX5_behind_34 (lv_at hl 6 rfl) ?_
  obtain ⟨u4, e5, hf⟩ := bdS hf
  refine k_rS (As := [.int (x2 ||| ((1 : Int32) <<< (x1 &&& 31))), .int (x3 ||| ((1 : Int32) <<< (x1 &&& 31))), .int x4]) (rest := [.ref (jar 2)]) hC miX5_place mjX5_place wd3_16 (qX5_place l D cI cZ cO  (x2 ||| ((1 : Int32) <<< (x1 &&& 31))) (x3 ||| ((1 : Int32) <<< (x1 &&& 31))) x4 u4 e5) ⟨Nat.le_of_ble_eq_true rfl, Nat.le_of_ble_eq_true rfl⟩ (hP.sub [] rfl) hK hZ hS hl.1 rfl rfl (Nat.le_of_ble_eq_true rfl) dX5_behind_36 ?_
  obtain ⟨h6, hf⟩ := inB_s hf
  refine va_iald (f := (Sr.2.1 2)) (n := 1296) hx hb hK hP 3 0 rfl rfl h6 dX5_behind_39 ?_
  refine lv_istore (lv' := [(7, .int ((Sr.2.1 2) u4.toNatClampNeg)), (6, .int ((Sr.2.1 2) u1.toNatClampNeg)), (5, .int ((1 : Int32) <<< (x1 &&& 31))), (0, .ref jhr), (1, .int x1), (2, .int x2), (3, .int x3), (4, .int x4)]) hx hb dX5_behind_40 hl (by decide) rfl (fun ls hl => ?_)
  refine lv_aload_n hx hb dX5_behind_42 rfl (lv_at hl 3 rfl) ?_
  refine va_get (D := D) (ci := 4) (v := .ref jhw) (C := RX5) (T := TX5) (N := 9) hx hb ht inX5 hown hK hP 2 rfl rfl 0 (by decide) (ht _ wd1_190) (fun _ h9 => h9) rfl dX5_behind_43 ?_
  refine va_get (D := D) (ci := 5) (v := .ref (jaw 5)) (C := RX6) (T := TX6) (N := 15) hx hb ht inX6 hown hK hP 0 rfl rfl 7 (by decide) (ht _ wd1_72) (fun _ h9 => h9) rfl dX5_behind_46 ?_
  refine lv_iload_n hx hb dX5_behind_49 rfl (lv_at hl 4 rfl) ?_
  obtain ⟨h7, hf⟩ := inB_s hf
  refine va_iald (f := (Sw.2.1 5)) (n := 4) hx hb hK hP 1 0 rfl rfl h7 dX5_behind_50 ?_
  refine lv_istore (lv' := [(8, .int ((Sw.2.1 5) x1.toNatClampNeg)), (7, .int ((Sr.2.1 2) u4.toNatClampNeg)), (6, .int ((Sr.2.1 2) u1.toNatClampNeg)), (5, .int ((1 : Int32) <<< (x1 &&& 31))), (0, .ref jhr), (1, .int x1), (2, .int x2), (3, .int x3), (4, .int x4)]) hx hb dX5_behind_51 hl (by decide) rfl (fun ls hl => ?_)
  refine lv_aload_n hx hb dX5_behind_53 rfl (lv_at hl 4 rfl) ?_
  refine va_get (D := D) (ci := 4) (v := .int (Sr.1 0)) (C := RX5) (T := TX5) (N := 9) hx hb ht inX5 hown hK hP 2 rfl rfl 6 (by decide) (ht _ wd1_196) (fun _ h9 => h9) rfl dX5_behind_54 ?_
  refine lv_if_eq (tgt := 77) hx hb dX5_behind_57 (by decide) (fun c8 => ?_) (fun c8 => ?_)
  · have hf := itP c8 hf
    refine lv_iload hx hb dX5_behind_77 (lv_at hl 2 rfl) ?_
    refine lv_iload hx hb dX5_behind_79 (lv_at hl 1 rfl) ?_
    refine va_mmin hx hb (hml.trans hl.1.symm) hown (ht _ wd3_36) (ht _ wd2_203) (ht _ wd1_11) (ht _ wd2_204) (Nat.le_of_ble_eq_true rfl) (Nat.le_of_ble_eq_true rfl) (Nat.zero_le _) (Nat.zero_le _) dX5_behind_81 ?_
    exact W.iret hx hb hr (fun t ht9 _ => ⟨_, rfl, Option.some.inj hf, ht9⟩) (fun _ h9 => by cases h9) dX5_behind_84
  · have hf := itN c8 hf
    refine lv_iload hx hb dX5_behind_60 (lv_at hl 2 rfl) ?_
    refine lv_bipush (v := (10 : Int32)) hx hb dX5_behind_62 rfl ?_
    refine lv_iload hx hb dX5_behind_64 (lv_at hl 0 rfl) ?_
    refine lv_isub hx hb dX5_behind_66 ?_
    refine lv_imul hx hb dX5_behind_67 ?_
    refine lv_iload hx hb dX5_behind_68 (lv_at hl 1 rfl) ?_
    refine lv_iload hx hb dX5_behind_70 (lv_at hl 0 rfl) ?_
    refine lv_imul hx hb dX5_behind_72 ?_
    refine lv_iadd hx hb dX5_behind_73 ?_
    refine lv_goto (tgt := 84) hx hb dX5_behind_74 (by decide) ?_
    exact W.iret hx hb hr (fun t ht9 _ => ⟨_, rfl, Option.some.inj hf, ht9⟩) (fun _ h9 => by cases h9) dX5_behind_84
abbrev wX5_ending (cI cZ : ClassId) (jhw : Nat) (jaw : Nat → Nat) (jhr : Nat) (jar : Nat → Nat) (jhs : Nat) (Sw : Bk) (Sr : Bk) : va_W := [(jhw, .inr (5, [.int (Sw.1 0), .ref (jaw 0), .ref (jaw 1), .ref (jaw 2), .int (Sw.1 1), .ref (jaw 3), .ref (jaw 4), .ref (jaw 5), .int (Sw.1 2), .int (Sw.1 3), .ref (jaw 6), .ref (jaw 7), .ref (jaw 8), .ref (jaw 9), .ref (jaw 10)])), (jaw 5, .inl (cI, 4, .inl (Sw.2.1 5))), (jhr, .inr (4, [.ref jhw, .ref jhs, .ref (jar 2), .ref (jar 3), .ref (jar 4), .ref (jar 5), .int (Sr.1 0), .int (Sr.1 1), .int (Sr.1 2)])), (jar 4, .inl (cI, 4, .inl (Sr.2.1 4)))]
def gX5_ending_115 (Sw : Bk) (Sr : Bk) (x1 : Int32) (x2 : Int32) (k14 : Int32 → Int32 → Int32 → Int32 → Option (Int32)) (x3 : Int32) (x4 : Int32) (x5 : Int32) (x6 : Int32) : Option (Int32) := k14 x3 x4 x5 (x6 + (1 : Int32))
def gX5_ending_105 (Sw : Bk) (Sr : Bk) (x1 : Int32) (x2 : Int32) (k14 : Int32 → Int32 → Int32 → Int32 → Option (Int32)) (x3 : Int32) (x5 : Int32) (x6 : Int32) (y0 : Int32) (y1 : Int32) : Option (Int32) := gX5_ending_115 Sw Sr x1 x2 k14 x3 (y0 + y1) (x5 * (10 : Int32)) x6
def gX5_ending_64 (Sw : Bk) (Sr : Bk) (x1 : Int32) (x2 : Int32) (k14 : Int32 → Int32 → Int32 → Int32 → Option (Int32)) (x4 : Int32) (x5 : Int32) (x6 : Int32) (y0 : Int32) (y1 : Int32) : Option (Int32) := gX5_ending_115 Sw Sr x1 x2 k14 (y0 + y1) x4 x5 x6
def sX5_ending_14 (Sw : Bk) (Sr : Bk) (x1 : Int32) (x2 : Int32) (k14 : Int32 → Int32 → Int32 → Int32 → Option (Int32)) (x3 : Int32) (x4 : Int32) (x5 : Int32) (x6 : Int32) : Option (Int32) := (if (Sw.1 1) ≤ x6 then (if (Sr.1 0) = 0 then some (x3 + x4) else some ((((10 : Int32) * x3) + x4) * x5)) else inB 4 x6 ((if ((x1 >>> (x6 &&& 31)) &&& (1 : Int32)) = (1 : Int32) then (if ((x2 >>> (x6 &&& 31)) &&& (1 : Int32)) = (1 : Int32) then gX5_ending_64 Sw Sr x1 x2 k14 x4 x5 x6 x3 ((Sr.2.1 4) x6.toNatClampNeg) else gX5_ending_64 Sw Sr x1 x2 k14 x4 x5 x6 x3 (-((Sr.2.1 4) x6.toNatClampNeg))) else (if (Sr.1 0) = 0 then gX5_ending_105 Sw Sr x1 x2 k14 x3 x5 x6 x4 (-(if 0 ≤ ((Sr.2.1 4) x6.toNatClampNeg) then ((Sr.2.1 4) x6.toNatClampNeg) else 0 - ((Sr.2.1 4) x6.toNatClampNeg))) else inB 4 x6 (gX5_ending_105 Sw Sr x1 x2 k14 x3 x5 x6 x4 (((Sr.2.1 4) x6.toNatClampNeg) * (((2 : Int32) * ((Sw.2.1 5) x6.toNatClampNeg)) - (10 : Int32))))))))
def fX5_ending (Sw : Bk) (Sr : Bk) (x1 : Int32) (x2 : Int32) : Option (Int32) := lk4 (sX5_ending_14 Sw Sr x1 x2) 1000 (Sr.1 2) (0 : Int32) (1 : Int32) (0 : Int32)
theorem miX5_ending : MI yX5_ending cX5_ending 8 (some .int) 2 := ⟨wd1_6, wd3_28, by decide +kernel⟩
theorem mjX5_ending : Cond.instanceMethod yX5_ending ∈ wT ∧ Cond.selects yX5_ending.cls yX5_ending yX5_ending ∈ wT := ⟨wd3_27, ws_10⟩
set_option maxHeartbeats 4000000 in
set_option maxRecDepth 100000 in
theorem qX5_ending (l : Launch) (D : va_G) (cI cZ cO : ClassId) (jhw : Nat) (jaw : Nat → Nat) (jhr : Nat) (jar : Nat → Nat) (jhs : Nat) (Sw : Bk) (Sr : Bk) (x1 : Int32) (x2 : Int32) (res : Int32) (hf : fX5_ending Sw Sr x1 x2 = some res) : Met l yX5_ending (Cond.code yX5_ending cX5_ending 8 (some .int) :: wT) (rmF 1 21) (va_Pc [.ref jhr, .int x1, .int x2] (cR D (tyL cI cZ cO) (wX5_ending cI cZ jhw jaw jhr jar jhs Sw Sr))) (vp_Si (fun r => r = res)) 0 0 (fun _ => False) := by
  refine met_r (by decide) (Nat.le_of_ble_eq_true rfl) ?_
  intro p e s m below meth c hx hb hr hml ht hown hlk ls hl hP hK hZ
  have hS : va_S (fun _ => False) s.heap s.heap [] := va_S.rf
  have hown : s.vm.findClass "EyeDrink$Trees" = some m.cls := hown
  have hl : lv_has ls 8 [(0, .ref jhr), (1, .int x1), (2, .int x2)] := hl
  unfold fX5_ending at hf
  have hj14 : ∀ (x3 : Int32) (x4 : Int32) (x5 : Int32) (x6 : Int32), lk4 (sX5_ending_14 Sw Sr x1 x2) 1000 x3 x4 x5 x6 = some res → ∀ (ls : Array Slot), lv_has ls 8 [(0, .ref jhr), (1, .int x1), (2, .int x2), (3, .int x3), (4, .int x4), (5, .int x5), (6, .int x6)] → W p l e (rmF 1 21) s m ([.ref jhr, .int x1, .int x2] : List Value).toArray below meth c s.heap [] 0 0 (MQ below (vp_Si (fun r => r = res)) ([.ref jhr, .int x1, .int x2] : List Value).toArray s 0 0 (fun _ => False)) (F0 m 14 ls []) := by
    refine lk4_w (fun (x3 : Int32) (x4 : Int32) (x5 : Int32) (x6 : Int32) => ∀ (ls : Array Slot), lv_has ls 8 [(0, .ref jhr), (1, .int x1), (2, .int x2), (3, .int x3), (4, .int x4), (5, .int x5), (6, .int x6)] → W p l e (rmF 1 21) s m ([.ref jhr, .int x1, .int x2] : List Value).toArray below meth c s.heap [] 0 0 (MQ below (vp_Si (fun r => r = res)) ([.ref jhr, .int x1, .int x2] : List Value).toArray s 0 0 (fun _ => False)) (F0 m 14 ls [])) ?_ 1000
    intro k14 hk14 x3 x4 x5 x6 hf ls hl
    unfold sX5_ending_14 at hf
    have hj115 : ∀ (x3 : Int32) (x4 : Int32) (x5 : Int32) (x6 : Int32), gX5_ending_115 Sw Sr x1 x2 k14 x3 x4 x5 x6 = some res → ∀ (ls : Array Slot), lv_has ls 8 [(0, .ref jhr), (1, .int x1), (2, .int x2), (3, .int x3), (4, .int x4), (5, .int x5), (6, .int x6)] → W p l e (rmF 1 21) s m ([.ref jhr, .int x1, .int x2] : List Value).toArray below meth c s.heap [] 0 0 (MQ below (vp_Si (fun r => r = res)) ([.ref jhr, .int x1, .int x2] : List Value).toArray s 0 0 (fun _ => False)) (F0 m 115 ls []) := by
      intro x3 x4 x5 x6 hf ls hl
      unfold gX5_ending_115 at hf
      refine lv_iinc (v := (x6 + (1 : Int32))) (lv' := [(6, .int (x6 + (1 : Int32))), (0, .ref jhr), (1, .int x1), (2, .int x2), (3, .int x3), (4, .int x4), (5, .int x5)]) hx hb dX5_ending_115 hl (k := 6) rfl rfl (by decide) rfl (fun ls hl => ?_)
      refine lv_goto (tgt := 14) hx hb dX5_ending_118 (by decide) ?_
      exact hk14 x3 x4 x5 (x6 + (1 : Int32)) hf _ (lv_sub hl [1, 2, 3, 4, 5, 6, 0] rfl)
    have hj105 : ∀ (x3 : Int32) (x5 : Int32) (x6 : Int32) (y0 : Int32) (y1 : Int32), gX5_ending_105 Sw Sr x1 x2 k14 x3 x5 x6 y0 y1 = some res → ∀ (ls : Array Slot), lv_has ls 8 [(0, .ref jhr), (1, .int x1), (2, .int x2), (3, .int x3), (5, .int x5), (6, .int x6)] → W p l e (rmF 1 21) s m ([.ref jhr, .int x1, .int x2] : List Value).toArray below meth c s.heap [] 0 0 (MQ below (vp_Si (fun r => r = res)) ([.ref jhr, .int x1, .int x2] : List Value).toArray s 0 0 (fun _ => False)) (F0 m 105 ls [.int y1, .int y0]) := by
      intro x3 x5 x6 y0 y1 hf ls hl
      unfold gX5_ending_105 at hf
      refine lv_iadd hx hb dX5_ending_105 ?_
      refine lv_istore (lv' := [(4, .int (y0 + y1)), (0, .ref jhr), (1, .int x1), (2, .int x2), (3, .int x3), (5, .int x5), (6, .int x6)]) hx hb dX5_ending_106 hl (by decide) rfl (fun ls hl => ?_)
      refine lv_iload hx hb dX5_ending_108 (lv_at hl 5 rfl) ?_
      refine lv_bipush (v := (10 : Int32)) hx hb dX5_ending_110 rfl ?_
      refine lv_imul hx hb dX5_ending_112 ?_
      refine lv_istore (lv' := [(5, .int (x5 * (10 : Int32))), (4, .int (y0 + y1)), (0, .ref jhr), (1, .int x1), (2, .int x2), (3, .int x3), (6, .int x6)]) hx hb dX5_ending_113 hl (by decide) rfl (fun ls hl => ?_)
      exact hj115 x3 (y0 + y1) (x5 * (10 : Int32)) x6 hf _ (lv_sub hl [2, 3, 4, 5, 1, 0, 6] rfl)
    have hj64 : ∀ (x4 : Int32) (x5 : Int32) (x6 : Int32) (y0 : Int32) (y1 : Int32), gX5_ending_64 Sw Sr x1 x2 k14 x4 x5 x6 y0 y1 = some res → ∀ (ls : Array Slot), lv_has ls 8 [(0, .ref jhr), (1, .int x1), (2, .int x2), (4, .int x4), (5, .int x5), (6, .int x6)] → W p l e (rmF 1 21) s m ([.ref jhr, .int x1, .int x2] : List Value).toArray below meth c s.heap [] 0 0 (MQ below (vp_Si (fun r => r = res)) ([.ref jhr, .int x1, .int x2] : List Value).toArray s 0 0 (fun _ => False)) (F0 m 64 ls [.int y1, .int y0]) := by
      intro x4 x5 x6 y0 y1 hf ls hl
      unfold gX5_ending_64 at hf
      refine lv_iadd hx hb dX5_ending_64 ?_
      refine lv_istore_n (lv' := [(3, .int (y0 + y1)), (0, .ref jhr), (1, .int x1), (2, .int x2), (4, .int x4), (5, .int x5), (6, .int x6)]) hx hb dX5_ending_65 rfl hl (by decide) rfl (fun ls hl => ?_)
      refine lv_goto (tgt := 115) hx hb dX5_ending_66 (by decide) ?_
      exact hj115 (y0 + y1) x4 x5 x6 hf _ (lv_sub hl [1, 2, 3, 0, 4, 5, 6] rfl)
    refine lv_iload hx hb dX5_ending_14 (lv_at hl 6 rfl) ?_
    refine lv_aload_n hx hb dX5_ending_16 rfl (lv_at hl 0 rfl) ?_
    refine va_get (D := D) (ci := 4) (v := .ref jhw) (C := RX5) (T := TX5) (N := 9) hx hb ht inX5 hown hK hP 2 rfl rfl 0 (by decide) (ht _ wd1_190) (fun _ h9 => h9) rfl dX5_ending_17 ?_
    refine va_get (D := D) (ci := 5) (v := .int (Sw.1 1)) (C := RX6) (T := TX6) (N := 15) hx hb ht inX6 hown hK hP 0 rfl rfl 4 (by decide) (ht _ wd1_58) (fun _ h9 => h9) rfl dX5_ending_20 ?_
    refine lv_icmp_ge (tgt := 121) hx hb dX5_ending_23 (by decide) (fun c1 => ?_) (fun c1 => ?_)
    · have hf := itP c1 hf
      refine lv_aload_n hx hb dX5_ending_121 rfl (lv_at hl 0 rfl) ?_
      refine va_get (D := D) (ci := 4) (v := .int (Sr.1 0)) (C := RX5) (T := TX5) (N := 9) hx hb ht inX5 hown hK hP 2 rfl rfl 6 (by decide) (ht _ wd1_196) (fun _ h9 => h9) rfl dX5_ending_122 ?_
      refine lv_if_eq (tgt := 141) hx hb dX5_ending_125 (by decide) (fun c2 => ?_) (fun c2 => ?_)
      · have hf := itP c2 hf
        refine lv_iload_n hx hb dX5_ending_141 rfl (lv_at hl 3 rfl) ?_
        refine lv_iload hx hb dX5_ending_142 (lv_at hl 4 rfl) ?_
        refine lv_iadd hx hb dX5_ending_144 ?_
        exact W.iret hx hb hr (fun t ht9 _ => ⟨_, rfl, Option.some.inj hf, ht9⟩) (fun _ h9 => by cases h9) dX5_ending_145
      · have hf := itN c2 hf
        refine lv_bipush (v := (10 : Int32)) hx hb dX5_ending_128 rfl ?_
        refine lv_iload_n hx hb dX5_ending_130 rfl (lv_at hl 3 rfl) ?_
        refine lv_imul hx hb dX5_ending_131 ?_
        refine lv_iload hx hb dX5_ending_132 (lv_at hl 4 rfl) ?_
        refine lv_iadd hx hb dX5_ending_134 ?_
        refine lv_iload hx hb dX5_ending_135 (lv_at hl 5 rfl) ?_
        refine lv_imul hx hb dX5_ending_137 ?_
        refine lv_goto (tgt := 145) hx hb dX5_ending_138 (by decide) ?_
        exact W.iret hx hb hr (fun t ht9 _ => ⟨_, rfl, Option.some.inj hf, ht9⟩) (fun _ h9 => by cases h9) dX5_ending_145
    · have hf := itN c1 hf
      refine lv_aload_n hx hb dX5_ending_26 rfl (lv_at hl 0 rfl) ?_
      refine va_get (D := D) (ci := 4) (v := .ref (jar 4)) (C := RX5) (T := TX5) (N := 9) hx hb ht inX5 hown hK hP 2 rfl rfl 4 (by decide) (ht _ wd1_194) (fun _ h9 => h9) rfl dX5_ending_27 ?_
      refine lv_iload hx hb dX5_ending_30 (lv_at hl 6 rfl) ?_
      obtain ⟨h3, hf⟩ := inB_s hf
      refine va_iald (f := (Sr.2.1 4)) (n := 4) hx hb hK hP 3 0 rfl rfl h3 dX5_ending_32 ?_
      refine lv_istore (lv' := [(7, .int ((Sr.2.1 4) x6.toNatClampNeg)), (0, .ref jhr), (1, .int x1), (2, .int x2), (3, .int x3), (4, .int x4), (5, .int x5), (6, .int x6)]) hx hb dX5_ending_33 hl (by decide) rfl (fun ls hl => ?_)
      refine lv_iload_n hx hb dX5_ending_35 rfl (lv_at hl 2 rfl) ?_
      refine lv_iload hx hb dX5_ending_36 (lv_at hl 7 rfl) ?_
      refine lv_ishr hx hb dX5_ending_38 ?_
      refine lv_iconst (v := (1 : Int32)) hx hb dX5_ending_39 rfl ?_
      refine lv_iand hx hb dX5_ending_40 ?_
      refine lv_iconst (v := (1 : Int32)) hx hb dX5_ending_41 rfl ?_
      refine lv_icmp_ne (tgt := 69) hx hb dX5_ending_42 (by decide) (fun c4 => ?_) (fun c4 => ?_)
      · have hf := itN c4 hf
        refine lv_iload hx hb dX5_ending_69 (lv_at hl 5 rfl) ?_
        refine lv_aload_n hx hb dX5_ending_71 rfl (lv_at hl 1 rfl) ?_
        refine va_get (D := D) (ci := 4) (v := .int (Sr.1 0)) (C := RX5) (T := TX5) (N := 9) hx hb ht inX5 hown hK hP 2 rfl rfl 6 (by decide) (ht _ wd1_196) (fun _ h9 => h9) rfl dX5_ending_72 ?_
        refine lv_if_eq (tgt := 99) hx hb dX5_ending_75 (by decide) (fun c5 => ?_) (fun c5 => ?_)
        · have hf := itP c5 hf
          refine lv_iload hx hb dX5_ending_99 (lv_at hl 0 rfl) ?_
          refine va_mabs hx hb (hml.trans hl.1.symm) hown (ht _ wd3_29) (ht _ wd3_30) (ht _ wd1_11) (ht _ wd3_31) (Nat.le_of_ble_eq_true rfl) (Nat.le_of_ble_eq_true rfl) (Nat.zero_le _) (Nat.zero_le _) dX5_ending_101 ?_
          refine lv_ineg hx hb dX5_ending_104 ?_
          exact hj105 x3 x5 x6 x4 (-(if 0 ≤ ((Sr.2.1 4) x6.toNatClampNeg) then ((Sr.2.1 4) x6.toNatClampNeg) else 0 - ((Sr.2.1 4) x6.toNatClampNeg))) hf _ (lv_sub hl [1, 2, 3, 4, 6, 7] rfl)
        · have hf := itN c5 hf
          refine lv_iload hx hb dX5_ending_78 (lv_at hl 0 rfl) ?_
          refine lv_iconst (v := (2 : Int32)) hx hb dX5_ending_80 rfl ?_
          refine lv_aload_n hx hb dX5_ending_81 rfl (lv_at hl 1 rfl) ?_
          refine va_get (D := D) (ci := 4) (v := .ref jhw) (C := RX5) (T := TX5) (N := 9) hx hb ht inX5 hown hK hP 2 rfl rfl 0 (by decide) (ht _ wd1_190) (fun _ h9 => h9) rfl dX5_ending_82 ?_
          refine va_get (D := D) (ci := 5) (v := .ref (jaw 5)) (C := RX6) (T := TX6) (N := 15) hx hb ht inX6 hown hK hP 0 rfl rfl 7 (by decide) (ht _ wd1_72) (fun _ h9 => h9) rfl dX5_ending_85 ?_
          refine lv_iload hx hb dX5_ending_88 (lv_at hl 7 rfl) ?_
          obtain ⟨h6, hf⟩ := inB_s hf
          refine va_iald (f := (Sw.2.1 5)) (n := 4) hx hb hK hP 1 0 rfl rfl h6 dX5_ending_90 ?_
          refine lv_imul hx hb dX5_ending_91 ?_
          refine lv_bipush (v := (10 : Int32)) hx hb dX5_ending_92 rfl ?_
          refine lv_isub hx hb dX5_ending_94 ?_
          refine lv_imul hx hb dX5_ending_95 ?_
          refine lv_goto (tgt := 105) hx hb dX5_ending_96 (by decide) ?_
          exact hj105 x3 x5 x6 x4 (((Sr.2.1 4) x6.toNatClampNeg) * (((2 : Int32) * ((Sw.2.1 5) x6.toNatClampNeg)) - (10 : Int32))) hf _ (lv_sub hl [1, 2, 3, 4, 6, 7] rfl)
      · have hf := itP c4 hf
        refine lv_iload_n hx hb dX5_ending_45 rfl (lv_at hl 4 rfl) ?_
        refine lv_iload_n hx hb dX5_ending_46 rfl (lv_at hl 3 rfl) ?_
        refine lv_iload hx hb dX5_ending_47 (lv_at hl 7 rfl) ?_
        refine lv_ishr hx hb dX5_ending_49 ?_
        refine lv_iconst (v := (1 : Int32)) hx hb dX5_ending_50 rfl ?_
        refine lv_iand hx hb dX5_ending_51 ?_
        refine lv_iconst (v := (1 : Int32)) hx hb dX5_ending_52 rfl ?_
        refine lv_icmp_ne (tgt := 61) hx hb dX5_ending_53 (by decide) (fun c7 => ?_) (fun c7 => ?_)
        · have hf := itN c7 hf
          refine lv_iload hx hb dX5_ending_61 (lv_at hl 0 rfl) ?_
          refine lv_ineg hx hb dX5_ending_63 ?_
          exact hj64 x4 x5 x6 x3 (-((Sr.2.1 4) x6.toNatClampNeg)) hf _ (lv_sub hl [1, 2, 3, 5, 6, 7] rfl)
        · have hf := itP c7 hf
          refine lv_iload hx hb dX5_ending_56 (lv_at hl 0 rfl) ?_
          refine lv_goto (tgt := 64) hx hb dX5_ending_58 (by decide) ?_
          exact hj64 x4 x5 x6 x3 ((Sr.2.1 4) x6.toNatClampNeg) hf _ (lv_sub hl [1, 2, 3, 5, 6, 7] rfl)
  refine lv_aload_n hx hb dX5_ending_0 rfl (lv_at hl 0 rfl) ?_
  refine va_get (D := D) (ci := 4) (v := .int (Sr.1 2)) (C := RX5) (T := TX5) (N := 9) hx hb ht inX5 hown hK hP 2 rfl rfl 8 (by decide) (ht _ wd1_198) (fun _ h9 => h9) rfl dX5_ending_1 ?_
  refine lv_istore_n (lv' := [(3, .int (Sr.1 2)), (0, .ref jhr), (1, .int x1), (2, .int x2)]) hx hb dX5_ending_4 rfl hl (by decide) rfl (fun ls hl => ?_)
  refine lv_iconst (v := (0 : Int32)) hx hb dX5_ending_5 rfl ?_
  refine lv_istore (lv' := [(4, .int (0 : Int32)), (3, .int (Sr.1 2)), (0, .ref jhr), (1, .int x1), (2, .int x2)]) hx hb dX5_ending_6 hl (by decide) rfl (fun ls hl => ?_)
  refine lv_iconst (v := (1 : Int32)) hx hb dX5_ending_8 rfl ?_
  refine lv_istore (lv' := [(5, .int (1 : Int32)), (4, .int (0 : Int32)), (3, .int (Sr.1 2)), (0, .ref jhr), (1, .int x1), (2, .int x2)]) hx hb dX5_ending_9 hl (by decide) rfl (fun ls hl => ?_)
  refine lv_iconst (v := (0 : Int32)) hx hb dX5_ending_11 rfl ?_
  refine lv_istore (lv' := [(6, .int (0 : Int32)), (5, .int (1 : Int32)), (4, .int (0 : Int32)), (3, .int (Sr.1 2)), (0, .ref jhr), (1, .int x1), (2, .int x2)]) hx hb dX5_ending_12 hl (by decide) rfl (fun ls hl => ?_)
  exact hj14 (Sr.1 2) (0 : Int32) (1 : Int32) (0 : Int32) hf _ (lv_sub hl [4, 5, 6, 3, 2, 1, 0] rfl)
abbrev wX5_most (cI cZ : ClassId) (jhw : Nat) (jaw : Nat → Nat) (jhr : Nat) (jar : Nat → Nat) (jhs : Nat) (Sw : Bk) (Sr : Bk) : va_W := [(jhw, .inr (5, [.int (Sw.1 0), .ref (jaw 0), .ref (jaw 1), .ref (jaw 2), .int (Sw.1 1), .ref (jaw 3), .ref (jaw 4), .ref (jaw 5), .int (Sw.1 2), .int (Sw.1 3), .ref (jaw 6), .ref (jaw 7), .ref (jaw 8), .ref (jaw 9), .ref (jaw 10)])), (jaw 5, .inl (cI, 4, .inl (Sw.2.1 5))), (jhr, .inr (4, [.ref jhw, .ref jhs, .ref (jar 2), .ref (jar 3), .ref (jar 4), .ref (jar 5), .int (Sr.1 0), .int (Sr.1 1), .int (Sr.1 2)])), (jar 2, .inl (cI, 1296, .inl (Sr.2.1 2))), (jar 4, .inl (cI, 4, .inl (Sr.2.1 4)))]
def gX5_most_106 (Sw : Bk) (Sr : Bk) (x1 : Int32) (x2 : Int32) (x3 : Int32) (k62 : Int32 → Int32 → Option (Int32)) (x4 : Int32) (x5 : Int32) : Option (Int32) := k62 x4 (x5 + (1 : Int32))
def sX5_most_62 (Sw : Bk) (Sr : Bk) (x1 : Int32) (x2 : Int32) (x3 : Int32) (k62 : Int32 → Int32 → Option (Int32)) (x4 : Int32) (x5 : Int32) : Option (Int32) := (if (Sw.1 3) ≤ x5 then some x4 else (if ((x3 >>> (x5 &&& 31)) &&& (1 : Int32)) = 0 then (fX5_place x1 x2 (x3 ||| ((1 : Int32) <<< (x5 &&& 31)))).bind (fun u3 => inB 1296 u3 (gX5_most_106 Sw Sr x1 x2 x3 k62 (if x4 < ((Sr.2.1 2) u3.toNatClampNeg) then ((Sr.2.1 2) u3.toNatClampNeg) else x4) x5)) else gX5_most_106 Sw Sr x1 x2 x3 k62 x4 x5))
def gX5_most_53 (Sw : Bk) (Sr : Bk) (x1 : Int32) (x2 : Int32) (x3 : Int32) (k11 : Int32 → Int32 → Option (Int32)) (x4 : Int32) (x5 : Int32) : Option (Int32) := k11 x4 (x5 + (1 : Int32))
def sX5_most_11 (Sw : Bk) (Sr : Bk) (x1 : Int32) (x2 : Int32) (x3 : Int32) (k11 : Int32 → Int32 → Option (Int32)) (x4 : Int32) (x5 : Int32) : Option (Int32) := (if (Sw.1 1) ≤ x5 then lk2 (sX5_most_62 Sw Sr x1 x2 x3) 1000 x4 (0 : Int32) else (if (((x1 ||| (Sr.1 1)) >>> (x5 &&& 31)) &&& (1 : Int32)) = 0 then (fX5_behind Sw Sr x5 x1 x2 x3).bind (fun u8 => gX5_most_53 Sw Sr x1 x2 x3 k11 (if x4 < u8 then u8 else x4) x5) else gX5_most_53 Sw Sr x1 x2 x3 k11 x4 x5))
def fX5_most (Sw : Bk) (Sr : Bk) (x1 : Int32) (x2 : Int32) (x3 : Int32) : Option (Int32) := (fX5_ending Sw Sr x1 x2).bind (fun u10 => lk2 (sX5_most_11 Sw Sr x1 x2 x3) 1000 u10 (0 : Int32))
theorem miX5_most : MI yX5_most cX5_most 6 (some .int) 3 := ⟨wd1_6, wd3_24, by decide +kernel⟩
theorem mjX5_most : Cond.instanceMethod yX5_most ∈ wT ∧ Cond.selects yX5_most.cls yX5_most yX5_most ∈ wT := ⟨wd3_23, ws_9⟩
set_option maxHeartbeats 4000000 in
set_option maxRecDepth 100000 in
theorem qX5_most (l : Launch) (D : va_G) (cI cZ cO : ClassId) (jhw : Nat) (jaw : Nat → Nat) (jhr : Nat) (jar : Nat → Nat) (jhs : Nat) (Sw : Bk) (Sr : Bk) (x1 : Int32) (x2 : Int32) (x3 : Int32) (res : Int32) (hf : fX5_most Sw Sr x1 x2 x3 = some res) : Met l yX5_most (Cond.code yX5_most cX5_most 6 (some .int) :: wT) (rmF 2 50) (va_Pc [.ref jhr, .int x1, .int x2, .int x3] (cR D (tyL cI cZ cO) (wX5_most cI cZ jhw jaw jhr jar jhs Sw Sr))) (vp_Si (fun r => r = res)) 0 0 (fun _ => False) := by
  refine met_r (by decide) (Nat.le_of_ble_eq_true rfl) ?_
  intro p e s m below meth c hx hb hr hml ht hown hlk ls hl hP hK hZ
  have hS : va_S (fun _ => False) s.heap s.heap [] := va_S.rf
  have hown : s.vm.findClass "EyeDrink$Trees" = some m.cls := hown
  have hl : lv_has ls 6 [(0, .ref jhr), (1, .int x1), (2, .int x2), (3, .int x3)] := hl
  have hC : CallFix p m c cX5_most 6 s ([.ref jhr, .int x1, .int x2, .int x3] : List Value).toArray wT "EyeDrink$Trees" := ⟨hx, hb, hml, hown, ht⟩
  unfold fX5_most at hf
  have hj62 : ∀ (x4 : Int32) (x5 : Int32), lk2 (sX5_most_62 Sw Sr x1 x2 x3) 1000 x4 x5 = some res → ∀ (ls : Array Slot), lv_has ls 6 [(0, .ref jhr), (1, .int x1), (2, .int x2), (3, .int x3), (4, .int x4), (5, .int x5)] → W p l e (rmF 2 50) s m ([.ref jhr, .int x1, .int x2, .int x3] : List Value).toArray below meth c s.heap [] 0 0 (MQ below (vp_Si (fun r => r = res)) ([.ref jhr, .int x1, .int x2, .int x3] : List Value).toArray s 0 0 (fun _ => False)) (F0 m 62 ls []) := by
    refine lk2_w (fun (x4 : Int32) (x5 : Int32) => ∀ (ls : Array Slot), lv_has ls 6 [(0, .ref jhr), (1, .int x1), (2, .int x2), (3, .int x3), (4, .int x4), (5, .int x5)] → W p l e (rmF 2 50) s m ([.ref jhr, .int x1, .int x2, .int x3] : List Value).toArray below meth c s.heap [] 0 0 (MQ below (vp_Si (fun r => r = res)) ([.ref jhr, .int x1, .int x2, .int x3] : List Value).toArray s 0 0 (fun _ => False)) (F0 m 62 ls [])) ?_ 1000
    intro k62 hk62 x4 x5 hf ls hl
    unfold sX5_most_62 at hf
    have hj106 : ∀ (x4 : Int32) (x5 : Int32), gX5_most_106 Sw Sr x1 x2 x3 k62 x4 x5 = some res → ∀ (ls : Array Slot), lv_has ls 6 [(0, .ref jhr), (1, .int x1), (2, .int x2), (3, .int x3), (4, .int x4), (5, .int x5)] → W p l e (rmF 2 50) s m ([.ref jhr, .int x1, .int x2, .int x3] : List Value).toArray below meth c s.heap [] 0 0 (MQ below (vp_Si (fun r => r = res)) ([.ref jhr, .int x1, .int x2, .int x3] : List Value).toArray s 0 0 (fun _ => False)) (F0 m 106 ls []) := by
      intro x4 x5 hf ls hl
      unfold gX5_most_106 at hf
      refine lv_iinc (v := (x5 + (1 : Int32))) (lv' := [(5, .int (x5 + (1 : Int32))), (0, .ref jhr), (1, .int x1), (2, .int x2), (3, .int x3), (4, .int x4)]) hx hb dX5_most_106 hl (k := 5) rfl rfl (by decide) rfl (fun ls hl => ?_)
      refine lv_goto (tgt := 62) hx hb dX5_most_109 (by decide) ?_
      exact hk62 x4 (x5 + (1 : Int32)) hf _ (lv_sub hl [1, 2, 3, 4, 5, 0] rfl)
    refine lv_iload hx hb dX5_most_62 (lv_at hl 5 rfl) ?_
    refine lv_aload_n hx hb dX5_most_64 rfl (lv_at hl 0 rfl) ?_
    refine va_get (D := D) (ci := 4) (v := .ref jhw) (C := RX5) (T := TX5) (N := 9) hx hb ht inX5 hown hK hP 2 rfl rfl 0 (by decide) (ht _ wd1_190) (fun _ h9 => h9) rfl dX5_most_65 ?_
    refine va_get (D := D) (ci := 5) (v := .int (Sw.1 3)) (C := RX6) (T := TX6) (N := 15) hx hb ht inX6 hown hK hP 0 rfl rfl 9 (by decide) (ht _ wd1_76) (fun _ h9 => h9) rfl dX5_most_68 ?_
    refine lv_icmp_ge (tgt := 112) hx hb dX5_most_71 (by decide) (fun c1 => ?_) (fun c1 => ?_)
    · have hf := itP c1 hf
      refine lv_iload hx hb dX5_most_112 (lv_at hl 4 rfl) ?_
      exact W.iret hx hb hr (fun t ht9 _ => ⟨_, rfl, Option.some.inj hf, ht9⟩) (fun _ h9 => by cases h9) dX5_most_114
    · have hf := itN c1 hf
      refine lv_iload_n hx hb dX5_most_74 rfl (lv_at hl 3 rfl) ?_
      refine lv_iload hx hb dX5_most_75 (lv_at hl 5 rfl) ?_
      refine lv_ishr hx hb dX5_most_77 ?_
      refine lv_iconst (v := (1 : Int32)) hx hb dX5_most_78 rfl ?_
      refine lv_iand hx hb dX5_most_79 ?_
      refine lv_if_ne (tgt := 106) hx hb dX5_most_80 (by decide) (fun c2 => ?_) (fun c2 => ?_)
      · have hf := itN c2 hf
        exact hj106 x4 x5 hf _ (lv_sub hl [0, 1, 2, 3, 4, 5] rfl)
      · have hf := itP c2 hf
        refine lv_iload hx hb dX5_most_83 (lv_at hl 4 rfl) ?_
        refine lv_aload_n hx hb dX5_most_85 rfl (lv_at hl 0 rfl) ?_
        refine va_get (D := D) (ci := 4) (v := .ref (jar 2)) (C := RX5) (T := TX5) (N := 9) hx hb ht inX5 hown hK hP 2 rfl rfl 2 (by decide) (ht _ wd1_192) (fun _ h9 => h9) rfl dX5_most_86 ?_
        refine lv_iload_n hx hb dX5_most_89 rfl (lv_at hl 1 rfl) ?_
        refine lv_iload_n hx hb dX5_most_90 rfl (lv_at hl 2 rfl) ?_
        refine lv_iload_n hx hb dX5_most_91 rfl (lv_at hl 3 rfl) ?_
        refine lv_iconst (v := (1 : Int32)) hx hb dX5_most_92 rfl ?_
        refine lv_iload hx hb dX5_most_93 (lv_at hl 5 rfl) ?_
        refine lv_ishl hx hb dX5_most_95 ?_
        refine lv_ior hx hb dX5_most_96 ?_
        obtain ⟨u3, e4, hf⟩ := bdS hf
        refine k_rS (As := [.int x1, .int x2, .int (x3 ||| ((1 : Int32) <<< (x5 &&& 31)))]) (rest := [.ref (jar 2), .int x4]) hC miX5_place mjX5_place wd3_16 (qX5_place l D cI cZ cO  x1 x2 (x3 ||| ((1 : Int32) <<< (x5 &&& 31))) u3 e4) ⟨Nat.le_of_ble_eq_true rfl, Nat.le_of_ble_eq_true rfl⟩ (hP.sub [] rfl) hK hZ hS hl.1 rfl rfl (Nat.le_of_ble_eq_true rfl) dX5_most_97 ?_
        obtain ⟨h5, hf⟩ := inB_s hf
        refine va_iald (f := (Sr.2.1 2)) (n := 1296) hx hb hK hP 3 0 rfl rfl h5 dX5_most_100 ?_
        refine va_mmax hx hb (hml.trans hl.1.symm) hown (ht _ wd3_37) (ht _ wd3_38) (ht _ wd1_11) (ht _ wd3_39) (Nat.le_of_ble_eq_true rfl) (Nat.le_of_ble_eq_true rfl) (Nat.zero_le _) (Nat.zero_le _) dX5_most_101 ?_
        refine lv_istore (lv' := [(4, .int (if x4 < ((Sr.2.1 2) u3.toNatClampNeg) then ((Sr.2.1 2) u3.toNatClampNeg) else x4)), (0, .ref jhr), (1, .int x1), (2, .int x2), (3, .int x3), (5, .int x5)]) hx hb dX5_most_104 hl (by decide) rfl (fun ls hl => ?_)
        exact hj106 (if x4 < ((Sr.2.1 2) u3.toNatClampNeg) then ((Sr.2.1 2) u3.toNatClampNeg) else x4) x5 hf _ (lv_sub hl [1, 2, 3, 4, 0, 5] rfl)
  have hj11 : ∀ (x4 : Int32) (x5 : Int32), lk2 (sX5_most_11 Sw Sr x1 x2 x3) 1000 x4 x5 = some res → ∀ (ls : Array Slot), lv_has ls 6 [(0, .ref jhr), (1, .int x1), (2, .int x2), (3, .int x3), (4, .int x4), (5, .int x5)] → W p l e (rmF 2 50) s m ([.ref jhr, .int x1, .int x2, .int x3] : List Value).toArray below meth c s.heap [] 0 0 (MQ below (vp_Si (fun r => r = res)) ([.ref jhr, .int x1, .int x2, .int x3] : List Value).toArray s 0 0 (fun _ => False)) (F0 m 11 ls []) := by
    refine lk2_w (fun (x4 : Int32) (x5 : Int32) => ∀ (ls : Array Slot), lv_has ls 6 [(0, .ref jhr), (1, .int x1), (2, .int x2), (3, .int x3), (4, .int x4), (5, .int x5)] → W p l e (rmF 2 50) s m ([.ref jhr, .int x1, .int x2, .int x3] : List Value).toArray below meth c s.heap [] 0 0 (MQ below (vp_Si (fun r => r = res)) ([.ref jhr, .int x1, .int x2, .int x3] : List Value).toArray s 0 0 (fun _ => False)) (F0 m 11 ls [])) ?_ 1000
    intro k11 hk11 x4 x5 hf ls hl
    unfold sX5_most_11 at hf
    have hj53 : ∀ (x4 : Int32) (x5 : Int32), gX5_most_53 Sw Sr x1 x2 x3 k11 x4 x5 = some res → ∀ (ls : Array Slot), lv_has ls 6 [(0, .ref jhr), (1, .int x1), (2, .int x2), (3, .int x3), (4, .int x4), (5, .int x5)] → W p l e (rmF 2 50) s m ([.ref jhr, .int x1, .int x2, .int x3] : List Value).toArray below meth c s.heap [] 0 0 (MQ below (vp_Si (fun r => r = res)) ([.ref jhr, .int x1, .int x2, .int x3] : List Value).toArray s 0 0 (fun _ => False)) (F0 m 53 ls []) := by
      intro x4 x5 hf ls hl
      unfold gX5_most_53 at hf
      refine lv_iinc (v := (x5 + (1 : Int32))) (lv' := [(5, .int (x5 + (1 : Int32))), (0, .ref jhr), (1, .int x1), (2, .int x2), (3, .int x3), (4, .int x4)]) hx hb dX5_most_53 hl (k := 5) rfl rfl (by decide) rfl (fun ls hl => ?_)
      refine lv_goto (tgt := 11) hx hb dX5_most_56 (by decide) ?_
      exact hk11 x4 (x5 + (1 : Int32)) hf _ (lv_sub hl [1, 2, 3, 4, 5, 0] rfl)
    refine lv_iload hx hb dX5_most_11 (lv_at hl 5 rfl) ?_
    refine lv_aload_n hx hb dX5_most_13 rfl (lv_at hl 0 rfl) ?_
    refine va_get (D := D) (ci := 4) (v := .ref jhw) (C := RX5) (T := TX5) (N := 9) hx hb ht inX5 hown hK hP 2 rfl rfl 0 (by decide) (ht _ wd1_190) (fun _ h9 => h9) rfl dX5_most_14 ?_
    refine va_get (D := D) (ci := 5) (v := .int (Sw.1 1)) (C := RX6) (T := TX6) (N := 15) hx hb ht inX6 hown hK hP 0 rfl rfl 4 (by decide) (ht _ wd1_58) (fun _ h9 => h9) rfl dX5_most_17 ?_
    refine lv_icmp_ge (tgt := 59) hx hb dX5_most_20 (by decide) (fun c6 => ?_) (fun c6 => ?_)
    · have hf := itP c6 hf
      refine lv_iconst (v := (0 : Int32)) hx hb dX5_most_59 rfl ?_
      refine lv_istore (lv' := [(5, .int (0 : Int32)), (0, .ref jhr), (1, .int x1), (2, .int x2), (3, .int x3), (4, .int x4)]) hx hb dX5_most_60 hl (by decide) rfl (fun ls hl => ?_)
      exact hj62 x4 (0 : Int32) hf _ (lv_sub hl [1, 2, 3, 4, 5, 0] rfl)
    · have hf := itN c6 hf
      refine lv_iload_n hx hb dX5_most_23 rfl (lv_at hl 1 rfl) ?_
      refine lv_aload_n hx hb dX5_most_24 rfl (lv_at hl 0 rfl) ?_
      refine va_get (D := D) (ci := 4) (v := .int (Sr.1 1)) (C := RX5) (T := TX5) (N := 9) hx hb ht inX5 hown hK hP 2 rfl rfl 7 (by decide) (ht _ wd1_197) (fun _ h9 => h9) rfl dX5_most_25 ?_
      refine lv_ior hx hb dX5_most_28 ?_
      refine lv_iload hx hb dX5_most_29 (lv_at hl 5 rfl) ?_
      refine lv_ishr hx hb dX5_most_31 ?_
      refine lv_iconst (v := (1 : Int32)) hx hb dX5_most_32 rfl ?_
      refine lv_iand hx hb dX5_most_33 ?_
      refine lv_if_ne (tgt := 53) hx hb dX5_most_34 (by decide) (fun c7 => ?_) (fun c7 => ?_)
      · have hf := itN c7 hf
        exact hj53 x4 x5 hf _ (lv_sub hl [0, 1, 2, 3, 4, 5] rfl)
      · have hf := itP c7 hf
        refine lv_iload hx hb dX5_most_37 (lv_at hl 4 rfl) ?_
        refine lv_aload_n hx hb dX5_most_39 rfl (lv_at hl 0 rfl) ?_
        refine lv_iload hx hb dX5_most_40 (lv_at hl 5 rfl) ?_
        refine lv_iload_n hx hb dX5_most_42 rfl (lv_at hl 1 rfl) ?_
        refine lv_iload_n hx hb dX5_most_43 rfl (lv_at hl 2 rfl) ?_
        refine lv_iload_n hx hb dX5_most_44 rfl (lv_at hl 3 rfl) ?_
        obtain ⟨u8, e9, hf⟩ := bdS hf
        refine k_rV (As := [.int x5, .int x1, .int x2, .int x3]) (rest := [.int x4]) hC miX5_behind mjX5_behind.1 mjX5_behind.2 wd3_32 (qX5_behind l D cI cZ cO jhw jaw jhr jar jhs Sw Sr x5 x1 x2 x3 u8 e9) ⟨Nat.le_of_ble_eq_true rfl, Nat.le_of_ble_eq_true rfl⟩ (hP.sub [0, 1, 2, 3] rfl) hK hZ hS (va_recv hK hP (ci := 4) (q0 := 2) rfl rfl) hl.1 rfl rfl (Nat.le_of_ble_eq_true rfl) dX5_most_45 ?_
        refine va_mmax hx hb (hml.trans hl.1.symm) hown (ht _ wd3_37) (ht _ wd3_38) (ht _ wd1_11) (ht _ wd3_39) (Nat.le_of_ble_eq_true rfl) (Nat.le_of_ble_eq_true rfl) (Nat.zero_le _) (Nat.zero_le _) dX5_most_48 ?_
        refine lv_istore (lv' := [(4, .int (if x4 < u8 then u8 else x4)), (0, .ref jhr), (1, .int x1), (2, .int x2), (3, .int x3), (5, .int x5)]) hx hb dX5_most_51 hl (by decide) rfl (fun ls hl => ?_)
        exact hj53 (if x4 < u8 then u8 else x4) x5 hf _ (lv_sub hl [1, 2, 3, 4, 0, 5] rfl)
  refine lv_aload_n hx hb dX5_most_0 rfl (lv_at hl 0 rfl) ?_
  refine lv_iload_n hx hb dX5_most_1 rfl (lv_at hl 1 rfl) ?_
  refine lv_iload_n hx hb dX5_most_2 rfl (lv_at hl 2 rfl) ?_
  obtain ⟨u10, e11, hf⟩ := bdS hf
  refine k_rV (As := [.int x1, .int x2]) (rest := []) hC miX5_ending mjX5_ending.1 mjX5_ending.2 wd3_25 (qX5_ending l D cI cZ cO jhw jaw jhr jar jhs Sw Sr x1 x2 u10 e11) ⟨Nat.le_of_ble_eq_true rfl, Nat.le_of_ble_eq_true rfl⟩ (hP.sub [0, 1, 2, 4] rfl) hK hZ hS (va_recv hK hP (ci := 4) (q0 := 2) rfl rfl) hl.1 rfl rfl (Nat.le_of_ble_eq_true rfl) dX5_most_3 ?_
  refine lv_istore (lv' := [(4, .int u10), (0, .ref jhr), (1, .int x1), (2, .int x2), (3, .int x3)]) hx hb dX5_most_6 hl (by decide) rfl (fun ls hl => ?_)
  refine lv_iconst (v := (0 : Int32)) hx hb dX5_most_8 rfl ?_
  refine lv_istore (lv' := [(5, .int (0 : Int32)), (4, .int u10), (0, .ref jhr), (1, .int x1), (2, .int x2), (3, .int x3)]) hx hb dX5_most_9 hl (by decide) rfl (fun ls hl => ?_)
  exact hj11 u10 (0 : Int32) hf _ (lv_sub hl [2, 3, 4, 5, 1, 0] rfl)
abbrev wX5_onesNow (cI cZ : ClassId) (jhw : Nat) (jaw : Nat → Nat) (jhs : Nat) (jas : Nat → Nat) (jhr : Nat) (jar : Nat → Nat) (Sw : Bk) (Ss : Bk) (Sr : Bk) : va_W := [(jhw, .inr (5, [.int (Sw.1 0), .ref (jaw 0), .ref (jaw 1), .ref (jaw 2), .int (Sw.1 1), .ref (jaw 3), .ref (jaw 4), .ref (jaw 5), .int (Sw.1 2), .int (Sw.1 3), .ref (jaw 6), .ref (jaw 7), .ref (jaw 8), .ref (jaw 9), .ref (jaw 10)])), (jhs, .inr (2, [.ref jhw, .ref (jas 1), .ref (jas 2), .ref (jas 3), .int (Ss.1 0), .int (Ss.1 1), .int (Ss.1 2), .int (Ss.1 3)])), (jhr, .inr (4, [.ref jhw, .ref jhs, .ref (jar 2), .ref (jar 3), .ref (jar 4), .ref (jar 5), .int (Sr.1 0), .int (Sr.1 1), .int (Sr.1 2)]))]
def fX5_onesNow (Sw : Bk) (Ss : Bk) (Sr : Bk) : Option (Int32) := some ((Sw.1 2) &&& (Ss.1 0))
theorem miX5_onesNow : MI yX5_onesNow cX5_onesNow 1 (some .int) 0 := ⟨wd1_6, wd3_6, by decide +kernel⟩
theorem mjX5_onesNow : Cond.instanceMethod yX5_onesNow ∈ wT ∧ Cond.selects yX5_onesNow.cls yX5_onesNow yX5_onesNow ∈ wT := ⟨wd3_5, ws_7⟩
set_option maxHeartbeats 4000000 in
set_option maxRecDepth 100000 in
theorem qX5_onesNow (l : Launch) (D : va_G) (cI cZ cO : ClassId) (jhw : Nat) (jaw : Nat → Nat) (jhs : Nat) (jas : Nat → Nat) (jhr : Nat) (jar : Nat → Nat) (Sw : Bk) (Ss : Bk) (Sr : Bk) (res : Int32) (hf : fX5_onesNow Sw Ss Sr = some res) : Met l yX5_onesNow (Cond.code yX5_onesNow cX5_onesNow 1 (some .int) :: wT) (rmF 0 0) (va_Pc [.ref jhr] (cR D (tyL cI cZ cO) (wX5_onesNow cI cZ jhw jaw jhs jas jhr jar Sw Ss Sr))) (vp_Si (fun r => r = res)) 0 0 (fun _ => False) := by
  refine met_r (by decide) (Nat.le_of_ble_eq_true rfl) ?_
  intro p e s m below meth c hx hb hr hml ht hown hlk ls hl hP hK hZ
  have hS : va_S (fun _ => False) s.heap s.heap [] := va_S.rf
  have hown : s.vm.findClass "EyeDrink$Trees" = some m.cls := hown
  have hl : lv_has ls 1 [(0, .ref jhr)] := hl
  unfold fX5_onesNow at hf
  refine lv_aload_n hx hb dX5_onesNow_0 rfl (lv_at hl 0 rfl) ?_
  refine va_get (D := D) (ci := 4) (v := .ref jhw) (C := RX5) (T := TX5) (N := 9) hx hb ht inX5 hown hK hP 2 rfl rfl 0 (by decide) (ht _ wd1_190) (fun _ h9 => h9) rfl dX5_onesNow_1 ?_
  refine va_get (D := D) (ci := 5) (v := .int (Sw.1 2)) (C := RX6) (T := TX6) (N := 15) hx hb ht inX6 hown hK hP 0 rfl rfl 8 (by decide) (ht _ wd1_74) (fun _ h9 => h9) rfl dX5_onesNow_4 ?_
  refine lv_aload_n hx hb dX5_onesNow_7 rfl (lv_at hl 0 rfl) ?_
  refine va_get (D := D) (ci := 4) (v := .ref jhs) (C := RX5) (T := TX5) (N := 9) hx hb ht inX5 hown hK hP 2 rfl rfl 1 (by decide) (ht _ wd1_191) (fun _ h9 => h9) rfl dX5_onesNow_8 ?_
  refine va_get (D := D) (ci := 2) (v := .int (Ss.1 0)) (C := RX3) (T := TX3) (N := 8) hx hb ht inX3 hown hK hP 1 rfl rfl 4 (by decide) (ht _ wd1_141) (fun _ h9 => h9) rfl dX5_onesNow_11 ?_
  refine lv_iand hx hb dX5_onesNow_14 ?_
  exact W.iret hx hb hr (fun t ht9 _ => ⟨_, rfl, Option.some.inj hf, ht9⟩) (fun _ h9 => by cases h9) dX5_onesNow_15
abbrev wX5_growWith (cI cZ : ClassId) (jhw : Nat) (jaw : Nat → Nat) (jhs : Nat) (jas : Nat → Nat) (jhr : Nat) (jar : Nat → Nat) (Sw : Bk) (Ss : Bk) (Sr : Bk) : va_W := [(jhw, .inr (5, [.int (Sw.1 0), .ref (jaw 0), .ref (jaw 1), .ref (jaw 2), .int (Sw.1 1), .ref (jaw 3), .ref (jaw 4), .ref (jaw 5), .int (Sw.1 2), .int (Sw.1 3), .ref (jaw 6), .ref (jaw 7), .ref (jaw 8), .ref (jaw 9), .ref (jaw 10)])), (jaw 0, .inl (cI, 4, .inl (Sw.2.1 0))), (jaw 1, .inl (cI, 4, .inl (Sw.2.1 1))), (jaw 2, .inl (cI, 4, .inl (Sw.2.1 2))), (jaw 3, .inl (cI, 4, .inl (Sw.2.1 3))), (jaw 4, .inl (cI, 4, .inl (Sw.2.1 4))), (jaw 5, .inl (cI, 4, .inl (Sw.2.1 5))), (jaw 6, .inl (cI, 4, .inl (Sw.2.1 6))), (jaw 7, .inl (cI, 4, .inl (Sw.2.1 7))), (jaw 8, .inl (cI, 4, .inl (Sw.2.1 8))), (jaw 9, .inl (cI, 4, .inl (Sw.2.1 9))), (jaw 10, .inl (cI, 4, .inl (Sw.2.1 10))), (jhs, .inr (2, [.ref jhw, .ref (jas 1), .ref (jas 2), .ref (jas 3), .int (Ss.1 0), .int (Ss.1 1), .int (Ss.1 2), .int (Ss.1 3)])), (jas 1, .inl (cI, 4, .inl (Ss.2.1 1))), (jhr, .inr (4, [.ref jhw, .ref jhs, .ref (jar 2), .ref (jar 3), .ref (jar 4), .ref (jar 5), .int (Sr.1 0), .int (Sr.1 1), .int (Sr.1 2)])), (jar 2, .inl (cI, 1296, .inl (Sr.2.1 2))), (jar 3, .inl (cI, 4, .inl (Sr.2.1 3))), (jar 4, .inl (cI, 4, .inl (Sr.2.1 4)))]
def gX5_growWith_145 (Sw : Bk) (Ss : Bk) (x1 : Int32) (k17 : Int32 → Int32 → Bk → Option (Bk)) (x2 : Int32) (x3 : Int32) (Sr : Bk) : Option (Bk) := k17 x2 (x3 + (-1 : Int32)) Sr
def gX5_growWith_139 (Sw : Bk) (Ss : Bk) (x1 : Int32) (k17 : Int32 → Int32 → Bk → Option (Bk)) (k81 : Int32 → Int32 → Int32 → Int32 → Bk → Option (Bk)) (x2 : Int32) (x3 : Int32) (x4 : Int32) (x5 : Int32) (Sr : Bk) : Option (Bk) := k81 x2 x3 x4 (x5 + (1 : Int32)) Sr
def gX5_growWith_138 (Sw : Bk) (Ss : Bk) (x1 : Int32) (k17 : Int32 → Int32 → Bk → Option (Bk)) (k81 : Int32 → Int32 → Int32 → Int32 → Bk → Option (Bk)) (x2 : Int32) (x3 : Int32) (x4 : Int32) (x5 : Int32) (Sr : Bk) (y1 : Int32) (y2 : Int32) : Option (Bk) := inB 1296 y1 (nmV y1.toNatClampNeg (fun j2 => gX5_growWith_139 Sw Ss x1 k17 k81 x2 x3 x4 x5 (bW Sr 2 j2 y2)))
def sX5_growWith_81 (Sw : Bk) (Ss : Bk) (x1 : Int32) (k17 : Int32 → Int32 → Bk → Option (Bk)) (k81 : Int32 → Int32 → Int32 → Int32 → Bk → Option (Bk)) (x2 : Int32) (x3 : Int32) (x4 : Int32) (x5 : Int32) (Sr : Bk) : Option (Bk) := (if x1 < x5 then gX5_growWith_145 Sw Ss x1 k17 x2 x3 Sr else (if (x5 &&& (x1 ^^^ (-1 : Int32))) = 0 then (if (x5 &&& (Ss.1 0)) = x2 then (fX5_place x1 x5 x3).bind (fun u6 => (if x4 = 0 then gX5_growWith_138 Sw Ss x1 k17 k81 x2 x3 x4 x5 Sr u6 (0 : Int32) else (fX5_most Sw Sr x1 x5 x3).bind (fun u9 => gX5_growWith_138 Sw Ss x1 k17 k81 x2 x3 x4 x5 Sr u6 u9))) else gX5_growWith_139 Sw Ss x1 k17 k81 x2 x3 x4 x5 Sr) else gX5_growWith_139 Sw Ss x1 k17 k81 x2 x3 x4 x5 Sr))
def sX5_growWith_17 (Sw : Bk) (Ss : Bk) (x1 : Int32) (k17 : Int32 → Int32 → Bk → Option (Bk)) (x2 : Int32) (x3 : Int32) (Sr : Bk) : Option (Bk) := (if x3 < (Ss.1 1) then some Sr else (if (x3 &&& (Ss.1 1)) = (Ss.1 1) then (fX5_layOut Sw Ss Sr (x1 &&& ((Ss.1 0) ^^^ (-1 : Int32))) (x3 &&& ((Ss.1 1) ^^^ (-1 : Int32)))).bind (fun u13 => lk5 (sX5_growWith_81 Sw Ss x1 k17) 1000 x2 x3 u13.1 x2 (bA (bA (bO Sr u13.2) 3 (u13.2.2.1 3)) 4 (u13.2.2.1 4))) else gX5_growWith_145 Sw Ss x1 k17 x2 x3 Sr))
def fX5_growWith (Sw : Bk) (Ss : Bk) (Sr : Bk) (x1 : Int32) : Option (Bk) := (fX5_onesNow Sw Ss Sr).bind (fun u15 => lk3 (sX5_growWith_17 Sw Ss x1) 1000 u15 (((1 : Int32) <<< ((Sw.1 3) &&& 31)) - (1 : Int32)) Sr)
theorem miX5_growWith : MI yX5_growWith cX5_growWith 6 none 1 := ⟨wd1_6, wd3_2, by decide +kernel⟩
theorem mjX5_growWith : Cond.instanceMethod yX5_growWith ∈ wT ∧ Cond.selects yX5_growWith.cls yX5_growWith yX5_growWith ∈ wT := ⟨wd3_1, ws_6⟩
set_option maxHeartbeats 4000000 in
set_option maxRecDepth 100000 in
theorem qX5_growWith (l : Launch) (D : va_G) (cI cZ cO : ClassId) (jhw : Nat) (jaw : Nat → Nat) (jhs : Nat) (jas : Nat → Nat) (jhr : Nat) (jar : Nat → Nat) (Sw : Bk) (Ss : Bk) (Sr : Bk) (x1 : Int32) (sz : Nat) (res : Bk) (hf : fX5_growWith Sw Ss Sr x1 = some res) : Met l yX5_growWith (Cond.code yX5_growWith cX5_growWith 6 none :: wT) (rmF 3 75) (va_Pc [.ref jhr, .int x1] (cW D (tyL cI cZ cO) (wX5_growWith cI cZ jhw jaw jhs jas jhr jar Sw Ss Sr) sz)) (va_Qv (S := Unit) (fun _ => True) (fun _ => qW D (tyL cI cZ cO) (va_A (wX5_growWith cI cZ jhw jaw jhs jas jhr jar Sw Ss Sr) sz) (wX5_growWith cI cZ jhw jaw jhs jas jhr jar Sw Ss res)) (va_A (wX5_growWith cI cZ jhw jaw jhs jas jhr jar Sw Ss Sr) sz)) 0 0 (va_A (wX5_growWith cI cZ jhw jaw jhs jas jhr jar Sw Ss Sr) sz) := by
  refine met_w (by decide) (Nat.le_of_ble_eq_true rfl) ?_
  intro p e s m below meth c hx hb hr hml ht hown hlk ls hl hsz hP hK hD0 hZ
  subst hsz
  have hD := hD0.self (sz := s.heap.size)
  generalize hAe : va_A (wX5_growWith cI cZ jhw jaw jhs jas jhr jar Sw Ss Sr) s.heap.size = A at hD hZ ⊢
  have hA : ∀ q : Nat, s.heap.size ≤ q → A q := fun q h => by rw [← hAe]; exact Or.inr h
  have hS : va_S A s.heap s.heap [] := va_S.rf
  have hown : s.vm.findClass "EyeDrink$Trees" = some m.cls := hown
  have hl : lv_has ls 6 [(0, .ref jhr), (1, .int x1)] := hl
  have hC : CallFix p m c cX5_growWith 6 s ([.ref jhr, .int x1] : List Value).toArray wT "EyeDrink$Trees" := ⟨hx, hb, hml, hown, ht⟩
  unfold fX5_growWith at hf
  suffices hgo : ∀ (H : Heap) (locs : List Loc), va_P D vwCl (wX5_growWith cI cZ jhw jaw jhs jas jhr jar Sw Ss Sr) H → va_S A s.heap H locs → W p l e (rmF 3 75) s m ([.ref jhr, .int x1] : List Value).toArray below meth c H locs 0 0 (MQ below (va_Qv (S := Unit) (fun _ => True) (fun _ => qW D (tyL cI cZ cO) A (wX5_growWith cI cZ jhw jaw jhs jas jhr jar Sw Ss res)) A) ([.ref jhr, .int x1] : List Value).toArray s 0 0 A) (F0 m 0 ls []) from hgo s.heap [] hP hS
  have hj17 : ∀ (x2 : Int32) (x3 : Int32) (Sr : Bk), lk3 (sX5_growWith_17 Sw Ss x1) 1000 x2 x3 Sr = some res → ∀ (H : Heap) (locs : List Loc) (ls : Array Slot), va_P D vwCl (wX5_growWith cI cZ jhw jaw jhs jas jhr jar Sw Ss Sr) H → va_D A (wX5_growWith cI cZ jhw jaw jhs jas jhr jar Sw Ss Sr) → va_S A s.heap H locs → lv_has ls 6 [(0, .ref jhr), (1, .int x1), (2, .int x2), (3, .int x3)] → W p l e (rmF 3 75) s m ([.ref jhr, .int x1] : List Value).toArray below meth c H locs 0 0 (MQ below (va_Qv (S := Unit) (fun _ => True) (fun _ => qW D (tyL cI cZ cO) A (wX5_growWith cI cZ jhw jaw jhs jas jhr jar Sw Ss res)) A) ([.ref jhr, .int x1] : List Value).toArray s 0 0 A) (F0 m 17 ls []) := by
    refine lk3_w (fun (x2 : Int32) (x3 : Int32) (Sr : Bk) => ∀ (H : Heap) (locs : List Loc) (ls : Array Slot), va_P D vwCl (wX5_growWith cI cZ jhw jaw jhs jas jhr jar Sw Ss Sr) H → va_D A (wX5_growWith cI cZ jhw jaw jhs jas jhr jar Sw Ss Sr) → va_S A s.heap H locs → lv_has ls 6 [(0, .ref jhr), (1, .int x1), (2, .int x2), (3, .int x3)] → W p l e (rmF 3 75) s m ([.ref jhr, .int x1] : List Value).toArray below meth c H locs 0 0 (MQ below (va_Qv (S := Unit) (fun _ => True) (fun _ => qW D (tyL cI cZ cO) A (wX5_growWith cI cZ jhw jaw jhs jas jhr jar Sw Ss res)) A) ([.ref jhr, .int x1] : List Value).toArray s 0 0 A) (F0 m 17 ls [])) ?_ 1000
    intro k17 hk17 x2 x3 Sr hf H locs ls hP hD hS hl
    unfold sX5_growWith_17 at hf
    have hj145 : ∀ (x2 : Int32) (x3 : Int32) (Sr : Bk), gX5_growWith_145 Sw Ss x1 k17 x2 x3 Sr = some res → ∀ (H : Heap) (locs : List Loc) (ls : Array Slot), va_P D vwCl (wX5_growWith cI cZ jhw jaw jhs jas jhr jar Sw Ss Sr) H → va_D A (wX5_growWith cI cZ jhw jaw jhs jas jhr jar Sw Ss Sr) → va_S A s.heap H locs → lv_has ls 6 [(0, .ref jhr), (1, .int x1), (2, .int x2), (3, .int x3)] → W p l e (rmF 3 75) s m ([.ref jhr, .int x1] : List Value).toArray below meth c H locs 0 0 (MQ below (va_Qv (S := Unit) (fun _ => True) (fun _ => qW D (tyL cI cZ cO) A (wX5_growWith cI cZ jhw jaw jhs jas jhr jar Sw Ss res)) A) ([.ref jhr, .int x1] : List Value).toArray s 0 0 A) (F0 m 145 ls []) := by
      intro x2 x3 Sr hf H locs ls hP hD hS hl
      unfold gX5_growWith_145 at hf
      refine lv_iinc (v := (x3 + (-1 : Int32))) (lv' := [(3, .int (x3 + (-1 : Int32))), (0, .ref jhr), (1, .int x1), (2, .int x2)]) hx hb dX5_growWith_145 hl (k := 3) rfl rfl (by decide) rfl (fun ls hl => ?_)
      refine lv_goto (tgt := 17) hx hb dX5_growWith_148 (by decide) ?_
      exact hk17 x2 (x3 + (-1 : Int32)) Sr hf _ _ _ hP hD hS (lv_sub hl [1, 2, 3, 0] rfl)
    have hj81 : ∀ (x2 : Int32) (x3 : Int32) (x4 : Int32) (x5 : Int32) (Sr : Bk), lk5 (sX5_growWith_81 Sw Ss x1 k17) 1000 x2 x3 x4 x5 Sr = some res → ∀ (H : Heap) (locs : List Loc) (ls : Array Slot), va_P D vwCl (wX5_growWith cI cZ jhw jaw jhs jas jhr jar Sw Ss Sr) H → va_D A (wX5_growWith cI cZ jhw jaw jhs jas jhr jar Sw Ss Sr) → va_S A s.heap H locs → lv_has ls 6 [(0, .ref jhr), (1, .int x1), (2, .int x2), (3, .int x3), (4, .int x4), (5, .int x5)] → W p l e (rmF 3 75) s m ([.ref jhr, .int x1] : List Value).toArray below meth c H locs 0 0 (MQ below (va_Qv (S := Unit) (fun _ => True) (fun _ => qW D (tyL cI cZ cO) A (wX5_growWith cI cZ jhw jaw jhs jas jhr jar Sw Ss res)) A) ([.ref jhr, .int x1] : List Value).toArray s 0 0 A) (F0 m 81 ls []) := by
      refine lk5_w (fun (x2 : Int32) (x3 : Int32) (x4 : Int32) (x5 : Int32) (Sr : Bk) => ∀ (H : Heap) (locs : List Loc) (ls : Array Slot), va_P D vwCl (wX5_growWith cI cZ jhw jaw jhs jas jhr jar Sw Ss Sr) H → va_D A (wX5_growWith cI cZ jhw jaw jhs jas jhr jar Sw Ss Sr) → va_S A s.heap H locs → lv_has ls 6 [(0, .ref jhr), (1, .int x1), (2, .int x2), (3, .int x3), (4, .int x4), (5, .int x5)] → W p l e (rmF 3 75) s m ([.ref jhr, .int x1] : List Value).toArray below meth c H locs 0 0 (MQ below (va_Qv (S := Unit) (fun _ => True) (fun _ => qW D (tyL cI cZ cO) A (wX5_growWith cI cZ jhw jaw jhs jas jhr jar Sw Ss res)) A) ([.ref jhr, .int x1] : List Value).toArray s 0 0 A) (F0 m 81 ls [])) ?_ 1000
      intro k81 hk81 x2 x3 x4 x5 Sr hf H locs ls hP hD hS hl
      unfold sX5_growWith_81 at hf
      have hj139 : ∀ (x2 : Int32) (x3 : Int32) (x4 : Int32) (x5 : Int32) (Sr : Bk), gX5_growWith_139 Sw Ss x1 k17 k81 x2 x3 x4 x5 Sr = some res → ∀ (H : Heap) (locs : List Loc) (ls : Array Slot), va_P D vwCl (wX5_growWith cI cZ jhw jaw jhs jas jhr jar Sw Ss Sr) H → va_D A (wX5_growWith cI cZ jhw jaw jhs jas jhr jar Sw Ss Sr) → va_S A s.heap H locs → lv_has ls 6 [(0, .ref jhr), (1, .int x1), (2, .int x2), (3, .int x3), (4, .int x4), (5, .int x5)] → W p l e (rmF 3 75) s m ([.ref jhr, .int x1] : List Value).toArray below meth c H locs 0 0 (MQ below (va_Qv (S := Unit) (fun _ => True) (fun _ => qW D (tyL cI cZ cO) A (wX5_growWith cI cZ jhw jaw jhs jas jhr jar Sw Ss res)) A) ([.ref jhr, .int x1] : List Value).toArray s 0 0 A) (F0 m 139 ls []) := by
        intro x2 x3 x4 x5 Sr hf H locs ls hP hD hS hl
        unfold gX5_growWith_139 at hf
        refine lv_iinc (v := (x5 + (1 : Int32))) (lv' := [(5, .int (x5 + (1 : Int32))), (0, .ref jhr), (1, .int x1), (2, .int x2), (3, .int x3), (4, .int x4)]) hx hb dX5_growWith_139 hl (k := 5) rfl rfl (by decide) rfl (fun ls hl => ?_)
        refine lv_goto (tgt := 81) hx hb dX5_growWith_142 (by decide) ?_
        exact hk81 x2 x3 x4 (x5 + (1 : Int32)) Sr hf _ _ _ hP hD hS (lv_sub hl [1, 2, 3, 4, 5, 0] rfl)
      have hj138 : ∀ (x2 : Int32) (x3 : Int32) (x4 : Int32) (x5 : Int32) (Sr : Bk) (y1 : Int32) (y2 : Int32), gX5_growWith_138 Sw Ss x1 k17 k81 x2 x3 x4 x5 Sr y1 y2 = some res → ∀ (H : Heap) (locs : List Loc) (ls : Array Slot), va_P D vwCl (wX5_growWith cI cZ jhw jaw jhs jas jhr jar Sw Ss Sr) H → va_D A (wX5_growWith cI cZ jhw jaw jhs jas jhr jar Sw Ss Sr) → va_S A s.heap H locs → lv_has ls 6 [(0, .ref jhr), (1, .int x1), (2, .int x2), (3, .int x3), (4, .int x4), (5, .int x5)] → W p l e (rmF 3 75) s m ([.ref jhr, .int x1] : List Value).toArray below meth c H locs 0 0 (MQ below (va_Qv (S := Unit) (fun _ => True) (fun _ => qW D (tyL cI cZ cO) A (wX5_growWith cI cZ jhw jaw jhs jas jhr jar Sw Ss res)) A) ([.ref jhr, .int x1] : List Value).toArray s 0 0 A) (F0 m 138 ls [.int y2, .int y1, .ref (jar 2)]) := by
        intro x2 x3 x4 x5 Sr y1 y2 hf H locs ls hP hD hS hl
        unfold gX5_growWith_138 at hf
        obtain ⟨h1, hf⟩ := inB_s hf
        obtain ⟨j2, ej2, hf⟩ := nmV_s hf
        refine va_iast (f := (Sr.2.1 2)) (n := 1296) hx hb hK hP hD hS 15 0 rfl rfl h1 dX5_growWith_138 (fun H locs hP hD hS => ?_)
        rw [← ej2] at hP hD
        have hP : va_P D vwCl (wX5_growWith cI cZ jhw jaw jhs jas jhr jar Sw Ss (bW Sr 2 j2 y2)) H := hP
        have hD : va_D A (wX5_growWith cI cZ jhw jaw jhs jas jhr jar Sw Ss (bW Sr 2 j2 y2)) := hD
        exact hj139 x2 x3 x4 x5 (bW Sr 2 j2 y2) hf _ _ _ hP hD hS (lv_sub hl [0, 1, 2, 3, 4, 5] rfl)
      refine lv_iload hx hb dX5_growWith_81 (lv_at hl 5 rfl) ?_
      refine lv_iload_n hx hb dX5_growWith_83 rfl (lv_at hl 1 rfl) ?_
      refine lv_icmp_gt (tgt := 145) hx hb dX5_growWith_84 (by decide) (fun c3 => ?_) (fun c3 => ?_)
      · have hf := itP c3 hf
        exact hj145 x2 x3 Sr hf _ _ _ hP hD hS (lv_sub hl [0, 1, 2, 3] rfl)
      · have hf := itN c3 hf
        refine lv_iload hx hb dX5_growWith_87 (lv_at hl 5 rfl) ?_
        refine lv_iload_n hx hb dX5_growWith_89 rfl (lv_at hl 1 rfl) ?_
        refine lv_iconst (v := (-1 : Int32)) hx hb dX5_growWith_90 rfl ?_
        refine lv_ixor hx hb dX5_growWith_91 ?_
        refine lv_iand hx hb dX5_growWith_92 ?_
        refine lv_if_ne (tgt := 139) hx hb dX5_growWith_93 (by decide) (fun c4 => ?_) (fun c4 => ?_)
        · have hf := itN c4 hf
          exact hj139 x2 x3 x4 x5 Sr hf _ _ _ hP hD hS (lv_sub hl [0, 1, 2, 3, 4, 5] rfl)
        · have hf := itP c4 hf
          refine lv_iload hx hb dX5_growWith_96 (lv_at hl 5 rfl) ?_
          refine lv_aload_n hx hb dX5_growWith_98 rfl (lv_at hl 0 rfl) ?_
          refine va_get (D := D) (ci := 4) (v := .ref jhs) (C := RX5) (T := TX5) (N := 9) hx hb ht inX5 hown hK hP 14 rfl rfl 1 (by decide) (ht _ wd1_191) (fun _ h9 => h9) rfl dX5_growWith_99 ?_
          refine va_get (D := D) (ci := 2) (v := .int (Ss.1 0)) (C := RX3) (T := TX3) (N := 8) hx hb ht inX3 hown hK hP 12 rfl rfl 4 (by decide) (ht _ wd1_141) (fun _ h9 => h9) rfl dX5_growWith_102 ?_
          refine lv_iand hx hb dX5_growWith_105 ?_
          refine lv_iload_n hx hb dX5_growWith_106 rfl (lv_at hl 2 rfl) ?_
          refine lv_icmp_ne (tgt := 139) hx hb dX5_growWith_107 (by decide) (fun c5 => ?_) (fun c5 => ?_)
          · have hf := itN c5 hf
            exact hj139 x2 x3 x4 x5 Sr hf _ _ _ hP hD hS (lv_sub hl [0, 1, 2, 3, 4, 5] rfl)
          · have hf := itP c5 hf
            refine lv_aload_n hx hb dX5_growWith_110 rfl (lv_at hl 0 rfl) ?_
            refine va_get (D := D) (ci := 4) (v := .ref (jar 2)) (C := RX5) (T := TX5) (N := 9) hx hb ht inX5 hown hK hP 14 rfl rfl 2 (by decide) (ht _ wd1_192) (fun _ h9 => h9) rfl dX5_growWith_111 ?_
            refine lv_iload_n hx hb dX5_growWith_114 rfl (lv_at hl 1 rfl) ?_
            refine lv_iload hx hb dX5_growWith_115 (lv_at hl 5 rfl) ?_
            refine lv_iload_n hx hb dX5_growWith_117 rfl (lv_at hl 3 rfl) ?_
            obtain ⟨u6, e7, hf⟩ := bdS hf
            refine k_rS (As := [.int x1, .int x5, .int x3]) (rest := [.ref (jar 2)]) hC miX5_place mjX5_place wd3_16 (qX5_place l D cI cZ cO  x1 x5 x3 u6 e7) ⟨Nat.le_of_ble_eq_true rfl, Nat.le_of_ble_eq_true rfl⟩ (hP.sub [] rfl) hK hZ hS hl.1 rfl rfl (Nat.le_of_ble_eq_true rfl) dX5_growWith_118 ?_
            refine lv_iload hx hb dX5_growWith_121 (lv_at hl 4 rfl) ?_
            refine lv_if_eq (tgt := 137) hx hb dX5_growWith_123 (by decide) (fun c8 => ?_) (fun c8 => ?_)
            · have hf := itP c8 hf
              refine lv_iconst (v := (0 : Int32)) hx hb dX5_growWith_137 rfl ?_
              exact hj138 x2 x3 x4 x5 Sr u6 (0 : Int32) hf _ _ _ hP hD hS (lv_sub hl [0, 1, 2, 3, 4, 5] rfl)
            · have hf := itN c8 hf
              refine lv_aload_n hx hb dX5_growWith_126 rfl (lv_at hl 0 rfl) ?_
              refine lv_iload_n hx hb dX5_growWith_127 rfl (lv_at hl 1 rfl) ?_
              refine lv_iload hx hb dX5_growWith_128 (lv_at hl 5 rfl) ?_
              refine lv_iload_n hx hb dX5_growWith_130 rfl (lv_at hl 3 rfl) ?_
              obtain ⟨u9, e10, hf⟩ := bdS hf
              refine k_rV (As := [.int x1, .int x5, .int x3]) (rest := [.int u6, .ref (jar 2)]) hC miX5_most mjX5_most.1 mjX5_most.2 wd3_21 (qX5_most l D cI cZ cO jhw jaw jhr jar jhs Sw Sr x1 x5 x3 u9 e10) ⟨Nat.le_of_ble_eq_true rfl, Nat.le_of_ble_eq_true rfl⟩ (hP.sub [0, 6, 14, 15, 17] rfl) hK hZ hS (va_recv hK hP (ci := 4) (q0 := 14) rfl rfl) hl.1 rfl rfl (Nat.le_of_ble_eq_true rfl) dX5_growWith_131 ?_
              refine lv_goto (tgt := 138) hx hb dX5_growWith_134 (by decide) ?_
              exact hj138 x2 x3 x4 x5 Sr u6 u9 hf _ _ _ hP hD hS (lv_sub hl [0, 1, 2, 3, 4, 5] rfl)
    refine lv_iload_n hx hb dX5_growWith_17 rfl (lv_at hl 3 rfl) ?_
    refine lv_aload_n hx hb dX5_growWith_18 rfl (lv_at hl 0 rfl) ?_
    refine va_get (D := D) (ci := 4) (v := .ref jhs) (C := RX5) (T := TX5) (N := 9) hx hb ht inX5 hown hK hP 14 rfl rfl 1 (by decide) (ht _ wd1_191) (fun _ h9 => h9) rfl dX5_growWith_19 ?_
    refine va_get (D := D) (ci := 2) (v := .int (Ss.1 1)) (C := RX3) (T := TX3) (N := 8) hx hb ht inX3 hown hK hP 12 rfl rfl 5 (by decide) (ht _ wd1_145) (fun _ h9 => h9) rfl dX5_growWith_22 ?_
    refine lv_icmp_lt (tgt := 151) hx hb dX5_growWith_25 (by decide) (fun c11 => ?_) (fun c11 => ?_)
    · have hf := itP c11 hf
      cases hf
      exact W.vret hx hb hr (fun t ht9 hW => ⟨⟨(), rfl, trivial, by rw [ht9]; exact hP, va_K.moved hW.alike hK, hD⟩, hS.F ht9⟩) hS.2.2 dX5_growWith_151
    · have hf := itN c11 hf
      refine lv_iload_n hx hb dX5_growWith_28 rfl (lv_at hl 3 rfl) ?_
      refine lv_aload_n hx hb dX5_growWith_29 rfl (lv_at hl 0 rfl) ?_
      refine va_get (D := D) (ci := 4) (v := .ref jhs) (C := RX5) (T := TX5) (N := 9) hx hb ht inX5 hown hK hP 14 rfl rfl 1 (by decide) (ht _ wd1_191) (fun _ h9 => h9) rfl dX5_growWith_30 ?_
      refine va_get (D := D) (ci := 2) (v := .int (Ss.1 1)) (C := RX3) (T := TX3) (N := 8) hx hb ht inX3 hown hK hP 12 rfl rfl 5 (by decide) (ht _ wd1_145) (fun _ h9 => h9) rfl dX5_growWith_33 ?_
      refine lv_iand hx hb dX5_growWith_36 ?_
      refine lv_aload_n hx hb dX5_growWith_37 rfl (lv_at hl 0 rfl) ?_
      refine va_get (D := D) (ci := 4) (v := .ref jhs) (C := RX5) (T := TX5) (N := 9) hx hb ht inX5 hown hK hP 14 rfl rfl 1 (by decide) (ht _ wd1_191) (fun _ h9 => h9) rfl dX5_growWith_38 ?_
      refine va_get (D := D) (ci := 2) (v := .int (Ss.1 1)) (C := RX3) (T := TX3) (N := 8) hx hb ht inX3 hown hK hP 12 rfl rfl 5 (by decide) (ht _ wd1_145) (fun _ h9 => h9) rfl dX5_growWith_41 ?_
      refine lv_icmp_eq (tgt := 50) hx hb dX5_growWith_44 (by decide) (fun c12 => ?_) (fun c12 => ?_)
      · have hf := itP c12 hf
        refine lv_aload_n hx hb dX5_growWith_50 rfl (lv_at hl 0 rfl) ?_
        refine lv_iload_n hx hb dX5_growWith_51 rfl (lv_at hl 1 rfl) ?_
        refine lv_aload_n hx hb dX5_growWith_52 rfl (lv_at hl 0 rfl) ?_
        refine va_get (D := D) (ci := 4) (v := .ref jhs) (C := RX5) (T := TX5) (N := 9) hx hb ht inX5 hown hK hP 14 rfl rfl 1 (by decide) (ht _ wd1_191) (fun _ h9 => h9) rfl dX5_growWith_53 ?_
        refine va_get (D := D) (ci := 2) (v := .int (Ss.1 0)) (C := RX3) (T := TX3) (N := 8) hx hb ht inX3 hown hK hP 12 rfl rfl 4 (by decide) (ht _ wd1_141) (fun _ h9 => h9) rfl dX5_growWith_56 ?_
        refine lv_iconst (v := (-1 : Int32)) hx hb dX5_growWith_59 rfl ?_
        refine lv_ixor hx hb dX5_growWith_60 ?_
        refine lv_iand hx hb dX5_growWith_61 ?_
        refine lv_iload_n hx hb dX5_growWith_62 rfl (lv_at hl 3 rfl) ?_
        refine lv_aload_n hx hb dX5_growWith_63 rfl (lv_at hl 0 rfl) ?_
        refine va_get (D := D) (ci := 4) (v := .ref jhs) (C := RX5) (T := TX5) (N := 9) hx hb ht inX5 hown hK hP 14 rfl rfl 1 (by decide) (ht _ wd1_191) (fun _ h9 => h9) rfl dX5_growWith_64 ?_
        refine va_get (D := D) (ci := 2) (v := .int (Ss.1 1)) (C := RX3) (T := TX3) (N := 8) hx hb ht inX3 hown hK hP 12 rfl rfl 5 (by decide) (ht _ wd1_145) (fun _ h9 => h9) rfl dX5_growWith_67 ?_
        refine lv_iconst (v := (-1 : Int32)) hx hb dX5_growWith_70 rfl ?_
        refine lv_ixor hx hb dX5_growWith_71 ?_
        refine lv_iand hx hb dX5_growWith_72 ?_
        obtain ⟨u13, e14, hf⟩ := bdS hf
        refine k_wVi (ws' := (wX5_growWith cI cZ jhw jaw jhs jas jhr jar Sw Ss (bA (bA (bO Sr u13.2) 3 (u13.2.2.1 3)) 4 (u13.2.2.1 4)))) (wr := [(jaw 5, .inl (cI, 4, .inl (Sw.2.1 5))), (jar 2, .inl (cI, 1296, .inl ((bA (bA (bO Sr u13.2) 3 (u13.2.2.1 3)) 4 (u13.2.2.1 4)).2.1 2)))]) (As := [.int (x1 &&& ((Ss.1 0) ^^^ (-1 : Int32))), .int (x3 &&& ((Ss.1 1) ^^^ (-1 : Int32)))]) (rest := []) hC miX5_layOut mjX5_layOut.1 mjX5_layOut.2 wd3_7 (qX5_layOut l D cI cZ cO jhw jaw jhs jas jhr jar Sw Ss Sr (x1 &&& ((Ss.1 0) ^^^ (-1 : Int32))) (x3 &&& ((Ss.1 1) ^^^ (-1 : Int32))) H.size u13 e14) ⟨Nat.le_of_ble_eq_true rfl, Nat.le_of_ble_eq_true rfl⟩ hP hD hK hZ hS hA [0, 1, 2, 3, 4, 5, 7, 8, 9, 10, 11, 12, 13, 14, 16, 17] [6, 15] [2, 3, 4, 5, 6, 7, 0, 8, 9, 10, 11, 12, 13, 14, 15, 1, 16, 17] rfl (by decide) rfl (by decide) (by decide) (by decide) rfl (va_recv hK hP (ci := 4) (q0 := 14) rfl rfl) hl.1 rfl rfl (Nat.le_of_ble_eq_true rfl) dX5_growWith_73 (fun H locs hP hD hS => ?_)
        refine lv_istore (lv' := [(4, .int u13.1), (0, .ref jhr), (1, .int x1), (2, .int x2), (3, .int x3)]) hx hb dX5_growWith_76 hl (by decide) rfl (fun ls hl => ?_)
        refine lv_iload_n hx hb dX5_growWith_78 rfl (lv_at hl 3 rfl) ?_
        refine lv_istore (lv' := [(5, .int x2), (4, .int u13.1), (0, .ref jhr), (1, .int x1), (2, .int x2), (3, .int x3)]) hx hb dX5_growWith_79 hl (by decide) rfl (fun ls hl => ?_)
        exact hj81 x2 x3 u13.1 x2 (bA (bA (bO Sr u13.2) 3 (u13.2.2.1 3)) 4 (u13.2.2.1 4)) hf _ _ _ hP hD hS (lv_sub hl [2, 3, 4, 5, 1, 0] rfl)
      · have hf := itN c12 hf
        refine lv_goto (tgt := 145) hx hb dX5_growWith_47 (by decide) ?_
        exact hj145 x2 x3 Sr hf _ _ _ hP hD hS (lv_sub hl [0, 1, 2, 3] rfl)
  intro H locs hP hS
  refine lv_aload_n hx hb dX5_growWith_0 rfl (lv_at hl 0 rfl) ?_
  obtain ⟨u15, e16, hf⟩ := bdS hf
  refine k_rV (As := []) (rest := []) hC miX5_onesNow mjX5_onesNow.1 mjX5_onesNow.2 wd3_3 (qX5_onesNow l D cI cZ cO jhw jaw jhs jas jhr jar Sw Ss Sr u15 e16) ⟨Nat.le_of_ble_eq_true rfl, Nat.le_of_ble_eq_true rfl⟩ (hP.sub [0, 12, 14] rfl) hK hZ hS (va_recv hK hP (ci := 4) (q0 := 14) rfl rfl) hl.1 rfl rfl (Nat.le_of_ble_eq_true rfl) dX5_growWith_1 ?_
  refine lv_istore_n (lv' := [(2, .int u15), (0, .ref jhr), (1, .int x1)]) hx hb dX5_growWith_4 rfl hl (by decide) rfl (fun ls hl => ?_)
  refine lv_iconst (v := (1 : Int32)) hx hb dX5_growWith_5 rfl ?_
  refine lv_aload_n hx hb dX5_growWith_6 rfl (lv_at hl 1 rfl) ?_
  refine va_get (D := D) (ci := 4) (v := .ref jhw) (C := RX5) (T := TX5) (N := 9) hx hb ht inX5 hown hK hP 14 rfl rfl 0 (by decide) (ht _ wd1_190) (fun _ h9 => h9) rfl dX5_growWith_7 ?_
  refine va_get (D := D) (ci := 5) (v := .int (Sw.1 3)) (C := RX6) (T := TX6) (N := 15) hx hb ht inX6 hown hK hP 0 rfl rfl 9 (by decide) (ht _ wd1_76) (fun _ h9 => h9) rfl dX5_growWith_10 ?_
  refine lv_ishl hx hb dX5_growWith_13 ?_
  refine lv_iconst (v := (1 : Int32)) hx hb dX5_growWith_14 rfl ?_
  refine lv_isub hx hb dX5_growWith_15 ?_
  refine lv_istore_n (lv' := [(3, .int (((1 : Int32) <<< ((Sw.1 3) &&& 31)) - (1 : Int32))), (2, .int u15), (0, .ref jhr), (1, .int x1)]) hx hb dX5_growWith_16 rfl hl (by decide) rfl (fun ls hl => ?_)
  exact hj17 u15 (((1 : Int32) <<< ((Sw.1 3) &&& 31)) - (1 : Int32)) Sr hf _ _ _ hP hD hS (lv_sub hl [2, 3, 1, 0] rfl)
abbrev wX5_grow (cI cZ : ClassId) (jhw : Nat) (jaw : Nat → Nat) (jhs : Nat) (jas : Nat → Nat) (jhr : Nat) (jar : Nat → Nat) (Sw : Bk) (Ss : Bk) (Sr : Bk) : va_W := [(jhw, .inr (5, [.int (Sw.1 0), .ref (jaw 0), .ref (jaw 1), .ref (jaw 2), .int (Sw.1 1), .ref (jaw 3), .ref (jaw 4), .ref (jaw 5), .int (Sw.1 2), .int (Sw.1 3), .ref (jaw 6), .ref (jaw 7), .ref (jaw 8), .ref (jaw 9), .ref (jaw 10)])), (jaw 0, .inl (cI, 4, .inl (Sw.2.1 0))), (jaw 1, .inl (cI, 4, .inl (Sw.2.1 1))), (jaw 2, .inl (cI, 4, .inl (Sw.2.1 2))), (jaw 3, .inl (cI, 4, .inl (Sw.2.1 3))), (jaw 4, .inl (cI, 4, .inl (Sw.2.1 4))), (jaw 5, .inl (cI, 4, .inl (Sw.2.1 5))), (jaw 6, .inl (cI, 4, .inl (Sw.2.1 6))), (jaw 7, .inl (cI, 4, .inl (Sw.2.1 7))), (jaw 8, .inl (cI, 4, .inl (Sw.2.1 8))), (jaw 9, .inl (cI, 4, .inl (Sw.2.1 9))), (jaw 10, .inl (cI, 4, .inl (Sw.2.1 10))), (jhs, .inr (2, [.ref jhw, .ref (jas 1), .ref (jas 2), .ref (jas 3), .int (Ss.1 0), .int (Ss.1 1), .int (Ss.1 2), .int (Ss.1 3)])), (jas 1, .inl (cI, 4, .inl (Ss.2.1 1))), (jhr, .inr (4, [.ref jhw, .ref jhs, .ref (jar 2), .ref (jar 3), .ref (jar 4), .ref (jar 5), .int (Sr.1 0), .int (Sr.1 1), .int (Sr.1 2)])), (jar 2, .inl (cI, 1296, .inl (Sr.2.1 2))), (jar 3, .inl (cI, 4, .inl (Sr.2.1 3))), (jar 4, .inl (cI, 4, .inl (Sr.2.1 4)))]
def gX5_grow_63 (Sw : Bk) (Ss : Bk) (x1 : Int32) (x2 : Int32) (k22 : Int32 → Bk → Option (Int32 × Bk)) (x3 : Int32) (Sr : Bk) : Option (Int32 × Bk) := k22 (x3 + (-1 : Int32)) Sr
def sX5_grow_22 (Sw : Bk) (Ss : Bk) (x1 : Int32) (x2 : Int32) (k22 : Int32 → Bk → Option (Int32 × Bk)) (x3 : Int32) (Sr : Bk) : Option (Int32 × Bk) := (if x3 < (Ss.1 0) then (fX5_onesNow Sw Ss Sr).bind (fun u2 => (fX5_place (Ss.1 0) u2 (Ss.1 1)).bind (fun u4 => inB 1296 u4 (some (((Sr.2.1 2) u4.toNatClampNeg), Sr)))) else (if (x3 &&& (Ss.1 0)) = (Ss.1 0) then (if (x3 &&& x2) = 0 then (fX5_growWith Sw Ss Sr x3).bind (fun u9 => gX5_grow_63 Sw Ss x1 x2 k22 x3 u9) else gX5_grow_63 Sw Ss x1 x2 k22 x3 Sr) else gX5_grow_63 Sw Ss x1 x2 k22 x3 Sr))
def fX5_grow (Sw : Bk) (Ss : Bk) (Sr : Bk) (x1 : Int32) (x2 : Int32) : Option (Int32 × Bk) := z01 x1 (lk2 (sX5_grow_22 Sw Ss x1 x2) 1000 (((1 : Int32) <<< ((Sw.1 1) &&& 31)) - (1 : Int32)) (bI (bI Sr 0 x1) 1 x2))
theorem miX5_grow : MI yX5_grow cX5_grow 4 (some .int) 2 := ⟨wd1_6, wd2_238, by decide +kernel⟩
theorem mjX5_grow : Cond.instanceMethod yX5_grow ∈ wT ∧ Cond.selects yX5_grow.cls yX5_grow yX5_grow ∈ wT := ⟨wd2_236, wd2_237⟩
set_option maxHeartbeats 4000000 in
set_option maxRecDepth 100000 in
theorem qX5_grow (l : Launch) (D : va_G) (cI cZ cO : ClassId) (jhw : Nat) (jaw : Nat → Nat) (jhs : Nat) (jas : Nat → Nat) (jhr : Nat) (jar : Nat → Nat) (Sw : Bk) (Ss : Bk) (Sr : Bk) (x1 : Int32) (x2 : Int32) (sz : Nat) (res : Int32 × Bk) (hf : fX5_grow Sw Ss Sr x1 x2 = some res) : Met l yX5_grow (Cond.code yX5_grow cX5_grow 4 (some .int) :: wT) (rmF 4 100) (va_Pc [.ref jhr, .int x1, .int x2] (cW D (tyL cI cZ cO) (wX5_grow cI cZ jhw jaw jhs jas jhr jar Sw Ss Sr) sz)) (va_Qi (S := Unit) (fun r _ => r = res.1) (fun _ => qW D (tyL cI cZ cO) (va_A (wX5_grow cI cZ jhw jaw jhs jas jhr jar Sw Ss Sr) sz) (wX5_grow cI cZ jhw jaw jhs jas jhr jar Sw Ss res.2)) (va_A (wX5_grow cI cZ jhw jaw jhs jas jhr jar Sw Ss Sr) sz)) 0 0 (va_A (wX5_grow cI cZ jhw jaw jhs jas jhr jar Sw Ss Sr) sz) := by
  refine met_w (by decide) (Nat.le_of_ble_eq_true rfl) ?_
  intro p e s m below meth c hx hb hr hml ht hown hlk ls hl hsz hP hK hD0 hZ
  subst hsz
  have hD := hD0.self (sz := s.heap.size)
  generalize hAe : va_A (wX5_grow cI cZ jhw jaw jhs jas jhr jar Sw Ss Sr) s.heap.size = A at hD hZ ⊢
  have hA : ∀ q : Nat, s.heap.size ≤ q → A q := fun q h => by rw [← hAe]; exact Or.inr h
  have hS : va_S A s.heap s.heap [] := va_S.rf
  have hown : s.vm.findClass "EyeDrink$Trees" = some m.cls := hown
  have hl : lv_has ls 4 [(0, .ref jhr), (1, .int x1), (2, .int x2)] := hl
  have hC : CallFix p m c cX5_grow 4 s ([.ref jhr, .int x1, .int x2] : List Value).toArray wT "EyeDrink$Trees" := ⟨hx, hb, hml, hown, ht⟩
  unfold fX5_grow at hf
  suffices hgo : ∀ (H : Heap) (locs : List Loc), va_P D vwCl (wX5_grow cI cZ jhw jaw jhs jas jhr jar Sw Ss Sr) H → va_S A s.heap H locs → W p l e (rmF 4 100) s m ([.ref jhr, .int x1, .int x2] : List Value).toArray below meth c H locs 0 0 (MQ below (va_Qi (S := Unit) (fun r _ => r = res.1) (fun _ => qW D (tyL cI cZ cO) A (wX5_grow cI cZ jhw jaw jhs jas jhr jar Sw Ss res.2)) A) ([.ref jhr, .int x1, .int x2] : List Value).toArray s 0 0 A) (F0 m 0 ls []) from hgo s.heap [] hP hS
  have hj22 : ∀ (x3 : Int32) (Sr : Bk), lk2 (sX5_grow_22 Sw Ss x1 x2) 1000 x3 Sr = some res → ∀ (H : Heap) (locs : List Loc) (ls : Array Slot), va_P D vwCl (wX5_grow cI cZ jhw jaw jhs jas jhr jar Sw Ss Sr) H → va_D A (wX5_grow cI cZ jhw jaw jhs jas jhr jar Sw Ss Sr) → va_S A s.heap H locs → lv_has ls 4 [(0, .ref jhr), (2, .int x2), (3, .int x3)] → W p l e (rmF 4 100) s m ([.ref jhr, .int x1, .int x2] : List Value).toArray below meth c H locs 0 0 (MQ below (va_Qi (S := Unit) (fun r _ => r = res.1) (fun _ => qW D (tyL cI cZ cO) A (wX5_grow cI cZ jhw jaw jhs jas jhr jar Sw Ss res.2)) A) ([.ref jhr, .int x1, .int x2] : List Value).toArray s 0 0 A) (F0 m 22 ls []) := by
    refine lk2_w (fun (x3 : Int32) (Sr : Bk) => ∀ (H : Heap) (locs : List Loc) (ls : Array Slot), va_P D vwCl (wX5_grow cI cZ jhw jaw jhs jas jhr jar Sw Ss Sr) H → va_D A (wX5_grow cI cZ jhw jaw jhs jas jhr jar Sw Ss Sr) → va_S A s.heap H locs → lv_has ls 4 [(0, .ref jhr), (2, .int x2), (3, .int x3)] → W p l e (rmF 4 100) s m ([.ref jhr, .int x1, .int x2] : List Value).toArray below meth c H locs 0 0 (MQ below (va_Qi (S := Unit) (fun r _ => r = res.1) (fun _ => qW D (tyL cI cZ cO) A (wX5_grow cI cZ jhw jaw jhs jas jhr jar Sw Ss res.2)) A) ([.ref jhr, .int x1, .int x2] : List Value).toArray s 0 0 A) (F0 m 22 ls [])) ?_ 1000
    intro k22 hk22 x3 Sr hf H locs ls hP hD hS hl
    unfold sX5_grow_22 at hf
    have hj63 : ∀ (x3 : Int32) (Sr : Bk), gX5_grow_63 Sw Ss x1 x2 k22 x3 Sr = some res → ∀ (H : Heap) (locs : List Loc) (ls : Array Slot), va_P D vwCl (wX5_grow cI cZ jhw jaw jhs jas jhr jar Sw Ss Sr) H → va_D A (wX5_grow cI cZ jhw jaw jhs jas jhr jar Sw Ss Sr) → va_S A s.heap H locs → lv_has ls 4 [(0, .ref jhr), (2, .int x2), (3, .int x3)] → W p l e (rmF 4 100) s m ([.ref jhr, .int x1, .int x2] : List Value).toArray below meth c H locs 0 0 (MQ below (va_Qi (S := Unit) (fun r _ => r = res.1) (fun _ => qW D (tyL cI cZ cO) A (wX5_grow cI cZ jhw jaw jhs jas jhr jar Sw Ss res.2)) A) ([.ref jhr, .int x1, .int x2] : List Value).toArray s 0 0 A) (F0 m 63 ls []) := by
      intro x3 Sr hf H locs ls hP hD hS hl
      unfold gX5_grow_63 at hf
      refine lv_iinc (v := (x3 + (-1 : Int32))) (lv' := [(3, .int (x3 + (-1 : Int32))), (0, .ref jhr), (2, .int x2)]) hx hb dX5_grow_63 hl (k := 2) rfl rfl (by decide) rfl (fun ls hl => ?_)
      refine lv_goto (tgt := 22) hx hb dX5_grow_66 (by decide) ?_
      exact hk22 (x3 + (-1 : Int32)) Sr hf _ _ _ hP hD hS (lv_sub hl [1, 2, 0] rfl)
    refine lv_iload_n hx hb dX5_grow_22 rfl (lv_at hl 2 rfl) ?_
    refine lv_aload_n hx hb dX5_grow_23 rfl (lv_at hl 0 rfl) ?_
    refine va_get (D := D) (ci := 4) (v := .ref jhs) (C := RX5) (T := TX5) (N := 9) hx hb ht inX5 hown hK hP 14 rfl rfl 1 (by decide) (ht _ wd1_191) (fun _ h9 => h9) rfl dX5_grow_24 ?_
    refine va_get (D := D) (ci := 2) (v := .int (Ss.1 0)) (C := RX3) (T := TX3) (N := 8) hx hb ht inX3 hown hK hP 12 rfl rfl 4 (by decide) (ht _ wd1_141) (fun _ h9 => h9) rfl dX5_grow_27 ?_
    refine lv_icmp_lt (tgt := 69) hx hb dX5_grow_30 (by decide) (fun c1 => ?_) (fun c1 => ?_)
    · have hf := itP c1 hf
      refine lv_aload_n hx hb dX5_grow_69 rfl (lv_at hl 0 rfl) ?_
      refine va_get (D := D) (ci := 4) (v := .ref (jar 2)) (C := RX5) (T := TX5) (N := 9) hx hb ht inX5 hown hK hP 14 rfl rfl 2 (by decide) (ht _ wd1_192) (fun _ h9 => h9) rfl dX5_grow_70 ?_
      refine lv_aload_n hx hb dX5_grow_73 rfl (lv_at hl 0 rfl) ?_
      refine va_get (D := D) (ci := 4) (v := .ref jhs) (C := RX5) (T := TX5) (N := 9) hx hb ht inX5 hown hK hP 14 rfl rfl 1 (by decide) (ht _ wd1_191) (fun _ h9 => h9) rfl dX5_grow_74 ?_
      refine va_get (D := D) (ci := 2) (v := .int (Ss.1 0)) (C := RX3) (T := TX3) (N := 8) hx hb ht inX3 hown hK hP 12 rfl rfl 4 (by decide) (ht _ wd1_141) (fun _ h9 => h9) rfl dX5_grow_77 ?_
      refine lv_aload_n hx hb dX5_grow_80 rfl (lv_at hl 0 rfl) ?_
      obtain ⟨u2, e3, hf⟩ := bdS hf
      refine k_rV (As := []) (rest := [.int (Ss.1 0), .ref (jar 2)]) hC miX5_onesNow mjX5_onesNow.1 mjX5_onesNow.2 wd3_3 (qX5_onesNow l D cI cZ cO jhw jaw jhs jas jhr jar Sw Ss Sr u2 e3) ⟨Nat.le_of_ble_eq_true rfl, Nat.le_of_ble_eq_true rfl⟩ (hP.sub [0, 12, 14] rfl) hK hZ hS (va_recv hK hP (ci := 4) (q0 := 14) rfl rfl) hl.1 rfl rfl (Nat.le_of_ble_eq_true rfl) dX5_grow_81 ?_
      refine lv_aload_n hx hb dX5_grow_84 rfl (lv_at hl 0 rfl) ?_
      refine va_get (D := D) (ci := 4) (v := .ref jhs) (C := RX5) (T := TX5) (N := 9) hx hb ht inX5 hown hK hP 14 rfl rfl 1 (by decide) (ht _ wd1_191) (fun _ h9 => h9) rfl dX5_grow_85 ?_
      refine va_get (D := D) (ci := 2) (v := .int (Ss.1 1)) (C := RX3) (T := TX3) (N := 8) hx hb ht inX3 hown hK hP 12 rfl rfl 5 (by decide) (ht _ wd1_145) (fun _ h9 => h9) rfl dX5_grow_88 ?_
      obtain ⟨u4, e5, hf⟩ := bdS hf
      refine k_rS (As := [.int (Ss.1 0), .int u2, .int (Ss.1 1)]) (rest := [.ref (jar 2)]) hC miX5_place mjX5_place wd3_16 (qX5_place l D cI cZ cO  (Ss.1 0) u2 (Ss.1 1) u4 e5) ⟨Nat.le_of_ble_eq_true rfl, Nat.le_of_ble_eq_true rfl⟩ (hP.sub [] rfl) hK hZ hS hl.1 rfl rfl (Nat.le_of_ble_eq_true rfl) dX5_grow_91 ?_
      obtain ⟨h6, hf⟩ := inB_s hf
      refine va_iald (f := (Sr.2.1 2)) (n := 1296) hx hb hK hP 15 0 rfl rfl h6 dX5_grow_94 ?_
      cases hf
      exact W.iret hx hb hr (fun t ht9 hW => ⟨⟨_, (), rfl, rfl, by rw [ht9]; exact hP, va_K.moved hW.alike hK, hD⟩, hS.F ht9⟩) hS.2.2 dX5_grow_95
    · have hf := itN c1 hf
      refine lv_iload_n hx hb dX5_grow_33 rfl (lv_at hl 2 rfl) ?_
      refine lv_aload_n hx hb dX5_grow_34 rfl (lv_at hl 0 rfl) ?_
      refine va_get (D := D) (ci := 4) (v := .ref jhs) (C := RX5) (T := TX5) (N := 9) hx hb ht inX5 hown hK hP 14 rfl rfl 1 (by decide) (ht _ wd1_191) (fun _ h9 => h9) rfl dX5_grow_35 ?_
      refine va_get (D := D) (ci := 2) (v := .int (Ss.1 0)) (C := RX3) (T := TX3) (N := 8) hx hb ht inX3 hown hK hP 12 rfl rfl 4 (by decide) (ht _ wd1_141) (fun _ h9 => h9) rfl dX5_grow_38 ?_
      refine lv_iand hx hb dX5_grow_41 ?_
      refine lv_aload_n hx hb dX5_grow_42 rfl (lv_at hl 0 rfl) ?_
      refine va_get (D := D) (ci := 4) (v := .ref jhs) (C := RX5) (T := TX5) (N := 9) hx hb ht inX5 hown hK hP 14 rfl rfl 1 (by decide) (ht _ wd1_191) (fun _ h9 => h9) rfl dX5_grow_43 ?_
      refine va_get (D := D) (ci := 2) (v := .int (Ss.1 0)) (C := RX3) (T := TX3) (N := 8) hx hb ht inX3 hown hK hP 12 rfl rfl 4 (by decide) (ht _ wd1_141) (fun _ h9 => h9) rfl dX5_grow_46 ?_
      refine lv_icmp_ne (tgt := 63) hx hb dX5_grow_49 (by decide) (fun c7 => ?_) (fun c7 => ?_)
      · have hf := itN c7 hf
        exact hj63 x3 Sr hf _ _ _ hP hD hS (lv_sub hl [0, 1, 2] rfl)
      · have hf := itP c7 hf
        refine lv_iload_n hx hb dX5_grow_52 rfl (lv_at hl 2 rfl) ?_
        refine lv_iload_n hx hb dX5_grow_53 rfl (lv_at hl 1 rfl) ?_
        refine lv_iand hx hb dX5_grow_54 ?_
        refine lv_if_ne (tgt := 63) hx hb dX5_grow_55 (by decide) (fun c8 => ?_) (fun c8 => ?_)
        · have hf := itN c8 hf
          exact hj63 x3 Sr hf _ _ _ hP hD hS (lv_sub hl [0, 1, 2] rfl)
        · have hf := itP c8 hf
          refine lv_aload_n hx hb dX5_grow_58 rfl (lv_at hl 0 rfl) ?_
          refine lv_iload_n hx hb dX5_grow_59 rfl (lv_at hl 2 rfl) ?_
          obtain ⟨u9, e10, hf⟩ := bdS hf
          refine k_wVv (ws' := (wX5_grow cI cZ jhw jaw jhs jas jhr jar Sw Ss u9)) (wr := []) (As := [.int x3]) (rest := []) hC miX5_growWith mjX5_growWith.1 mjX5_growWith.2 wd2_239 (qX5_growWith l D cI cZ cO jhw jaw jhs jas jhr jar Sw Ss Sr x3 H.size u9 e10) ⟨Nat.le_of_ble_eq_true rfl, Nat.le_of_ble_eq_true rfl⟩ hP hD hK hZ hS hA [0, 1, 2, 3, 4, 5, 6, 7, 8, 9, 10, 11, 12, 13, 14, 15, 16, 17] [] [0, 1, 2, 3, 4, 5, 6, 7, 8, 9, 10, 11, 12, 13, 14, 15, 16, 17] rfl (by decide) rfl (by decide) (by decide) (by decide) rfl (va_recv hK hP (ci := 4) (q0 := 14) rfl rfl) hl.1 rfl rfl (Nat.le_of_ble_eq_true rfl) dX5_grow_60 (fun H locs hP hD hS => ?_)
          exact hj63 x3 u9 hf _ _ _ hP hD hS (lv_sub hl [0, 1, 2] rfl)
  intro H locs hP hS
  refine lv_aload_n hx hb dX5_grow_0 rfl (lv_at hl 0 rfl) ?_
  refine lv_iload_n hx hb dX5_grow_1 rfl (lv_at hl 1 rfl) ?_
  obtain ⟨z11, hf⟩ := z01_s hf
  refine va_put (D := D) (ci := 4) (v := .int x1) (ty := .boolean) (C := RX5) (T := TX5) (N := 9) hx hb ht inX5 tyX5 tyX5_ok nmX5 hown hK hP hD hS 14 rfl rfl 6 (by decide) (ht _ wd1_196) (fun _ h9 => h9) rfl (tyX5_ok 6 (by decide)) (nar01 z11) (fit01 z11) (Nat.le_of_ble_eq_true rfl) dX5_grow_2 (fun H locs hP hD hS => ?_)
  have hP : va_P D vwCl (wX5_grow cI cZ jhw jaw jhs jas jhr jar Sw Ss (bI Sr 0 x1)) H := hP
  have hD : va_D A (wX5_grow cI cZ jhw jaw jhs jas jhr jar Sw Ss (bI Sr 0 x1)) := hD
  refine lv_aload_n hx hb dX5_grow_5 rfl (lv_at hl 0 rfl) ?_
  refine lv_iload_n hx hb dX5_grow_6 rfl (lv_at hl 2 rfl) ?_
  refine va_put (D := D) (ci := 4) (v := .int x2) (ty := .int) (C := RX5) (T := TX5) (N := 9) hx hb ht inX5 tyX5 tyX5_ok nmX5 hown hK hP hD hS 14 rfl rfl 7 (by decide) (ht _ wd1_197) (fun _ h9 => h9) rfl (tyX5_ok 7 (by decide)) rfl rfl (Nat.le_of_ble_eq_true rfl) dX5_grow_7 (fun H locs hP hD hS => ?_)
  have hP : va_P D vwCl (wX5_grow cI cZ jhw jaw jhs jas jhr jar Sw Ss (bI (bI Sr 0 x1) 1 x2)) H := hP
  have hD : va_D A (wX5_grow cI cZ jhw jaw jhs jas jhr jar Sw Ss (bI (bI Sr 0 x1) 1 x2)) := hD
  refine lv_iconst (v := (1 : Int32)) hx hb dX5_grow_10 rfl ?_
  refine lv_aload_n hx hb dX5_grow_11 rfl (lv_at hl 0 rfl) ?_
  refine va_get (D := D) (ci := 4) (v := .ref jhw) (C := RX5) (T := TX5) (N := 9) hx hb ht inX5 hown hK hP 14 rfl rfl 0 (by decide) (ht _ wd1_190) (fun _ h9 => h9) rfl dX5_grow_12 ?_
  refine va_get (D := D) (ci := 5) (v := .int (Sw.1 1)) (C := RX6) (T := TX6) (N := 15) hx hb ht inX6 hown hK hP 0 rfl rfl 4 (by decide) (ht _ wd1_58) (fun _ h9 => h9) rfl dX5_grow_15 ?_
  refine lv_ishl hx hb dX5_grow_18 ?_
  refine lv_iconst (v := (1 : Int32)) hx hb dX5_grow_19 rfl ?_
  refine lv_isub hx hb dX5_grow_20 ?_
  refine lv_istore_n (lv' := [(3, .int (((1 : Int32) <<< ((Sw.1 1) &&& 31)) - (1 : Int32))), (0, .ref jhr), (1, .int x1), (2, .int x2)]) hx hb dX5_grow_21 rfl hl (by decide) rfl (fun ls hl => ?_)
  exact hj22 (((1 : Int32) <<< ((Sw.1 1) &&& 31)) - (1 : Int32)) (bI (bI Sr 0 x1) 1 x2) hf _ _ _ hP hD hS (lv_sub hl [1, 3, 0] rfl)
abbrev wX5_behindNow (cI cZ : ClassId) (jhw : Nat) (jaw : Nat → Nat) (jhs : Nat) (jas : Nat → Nat) (jhr : Nat) (jar : Nat → Nat) (Sw : Bk) (Ss : Bk) (Sr : Bk) : va_W := [(jhw, .inr (5, [.int (Sw.1 0), .ref (jaw 0), .ref (jaw 1), .ref (jaw 2), .int (Sw.1 1), .ref (jaw 3), .ref (jaw 4), .ref (jaw 5), .int (Sw.1 2), .int (Sw.1 3), .ref (jaw 6), .ref (jaw 7), .ref (jaw 8), .ref (jaw 9), .ref (jaw 10)])), (jaw 5, .inl (cI, 4, .inl (Sw.2.1 5))), (jhs, .inr (2, [.ref jhw, .ref (jas 1), .ref (jas 2), .ref (jas 3), .int (Ss.1 0), .int (Ss.1 1), .int (Ss.1 2), .int (Ss.1 3)])), (jhr, .inr (4, [.ref jhw, .ref jhs, .ref (jar 2), .ref (jar 3), .ref (jar 4), .ref (jar 5), .int (Sr.1 0), .int (Sr.1 1), .int (Sr.1 2)])), (jar 2, .inl (cI, 1296, .inl (Sr.2.1 2)))]
def fX5_behindNow (Sw : Bk) (Ss : Bk) (Sr : Bk) (x1 : Int32) : Option (Int32) := (fX5_onesNow Sw Ss Sr).bind (fun u1 => (fX5_behind Sw Sr x1 (Ss.1 0) u1 (Ss.1 1)).bind (fun u3 => some u3))
theorem miX5_behindNow : MI yX5_behindNow cX5_behindNow 2 (some .int) 1 := ⟨wd1_6, wd3_48, by decide +kernel⟩
theorem mjX5_behindNow : Cond.instanceMethod yX5_behindNow ∈ wT ∧ Cond.selects yX5_behindNow.cls yX5_behindNow yX5_behindNow ∈ wT := ⟨wd3_46, wd3_47⟩
set_option maxHeartbeats 4000000 in
set_option maxRecDepth 100000 in
theorem qX5_behindNow (l : Launch) (D : va_G) (cI cZ cO : ClassId) (jhw : Nat) (jaw : Nat → Nat) (jhs : Nat) (jas : Nat → Nat) (jhr : Nat) (jar : Nat → Nat) (Sw : Bk) (Ss : Bk) (Sr : Bk) (x1 : Int32) (res : Int32) (hf : fX5_behindNow Sw Ss Sr x1 = some res) : Met l yX5_behindNow (Cond.code yX5_behindNow cX5_behindNow 2 (some .int) :: wT) (rmF 2 50) (va_Pc [.ref jhr, .int x1] (cR D (tyL cI cZ cO) (wX5_behindNow cI cZ jhw jaw jhs jas jhr jar Sw Ss Sr))) (vp_Si (fun r => r = res)) 0 0 (fun _ => False) := by
  refine met_r (by decide) (Nat.le_of_ble_eq_true rfl) ?_
  intro p e s m below meth c hx hb hr hml ht hown hlk ls hl hP hK hZ
  have hS : va_S (fun _ => False) s.heap s.heap [] := va_S.rf
  have hown : s.vm.findClass "EyeDrink$Trees" = some m.cls := hown
  have hl : lv_has ls 2 [(0, .ref jhr), (1, .int x1)] := hl
  have hC : CallFix p m c cX5_behindNow 2 s ([.ref jhr, .int x1] : List Value).toArray wT "EyeDrink$Trees" := ⟨hx, hb, hml, hown, ht⟩
  unfold fX5_behindNow at hf
  refine lv_aload_n hx hb dX5_behindNow_0 rfl (lv_at hl 0 rfl) ?_
  refine lv_iload_n hx hb dX5_behindNow_1 rfl (lv_at hl 1 rfl) ?_
  refine lv_aload_n hx hb dX5_behindNow_2 rfl (lv_at hl 0 rfl) ?_
  refine va_get (D := D) (ci := 4) (v := .ref jhs) (C := RX5) (T := TX5) (N := 9) hx hb ht inX5 hown hK hP 3 rfl rfl 1 (by decide) (ht _ wd1_191) (fun _ h9 => h9) rfl dX5_behindNow_3 ?_
  refine va_get (D := D) (ci := 2) (v := .int (Ss.1 0)) (C := RX3) (T := TX3) (N := 8) hx hb ht inX3 hown hK hP 2 rfl rfl 4 (by decide) (ht _ wd1_141) (fun _ h9 => h9) rfl dX5_behindNow_6 ?_
  refine lv_aload_n hx hb dX5_behindNow_9 rfl (lv_at hl 0 rfl) ?_
  obtain ⟨u1, e2, hf⟩ := bdS hf
  refine k_rV (As := []) (rest := [.int (Ss.1 0), .int x1, .ref jhr]) hC miX5_onesNow mjX5_onesNow.1 mjX5_onesNow.2 wd3_3 (qX5_onesNow l D cI cZ cO jhw jaw jhs jas jhr jar Sw Ss Sr u1 e2) ⟨Nat.le_of_ble_eq_true rfl, Nat.le_of_ble_eq_true rfl⟩ (hP.sub [0, 2, 3] rfl) hK hZ hS (va_recv hK hP (ci := 4) (q0 := 3) rfl rfl) hl.1 rfl rfl (Nat.le_of_ble_eq_true rfl) dX5_behindNow_10 ?_
  refine lv_aload_n hx hb dX5_behindNow_13 rfl (lv_at hl 0 rfl) ?_
  refine va_get (D := D) (ci := 4) (v := .ref jhs) (C := RX5) (T := TX5) (N := 9) hx hb ht inX5 hown hK hP 3 rfl rfl 1 (by decide) (ht _ wd1_191) (fun _ h9 => h9) rfl dX5_behindNow_14 ?_
  refine va_get (D := D) (ci := 2) (v := .int (Ss.1 1)) (C := RX3) (T := TX3) (N := 8) hx hb ht inX3 hown hK hP 2 rfl rfl 5 (by decide) (ht _ wd1_145) (fun _ h9 => h9) rfl dX5_behindNow_17 ?_
  obtain ⟨u3, e4, hf⟩ := bdS hf
  refine k_rV (As := [.int x1, .int (Ss.1 0), .int u1, .int (Ss.1 1)]) (rest := []) hC miX5_behind mjX5_behind.1 mjX5_behind.2 wd3_32 (qX5_behind l D cI cZ cO jhw jaw jhr jar jhs Sw Sr x1 (Ss.1 0) u1 (Ss.1 1) u3 e4) ⟨Nat.le_of_ble_eq_true rfl, Nat.le_of_ble_eq_true rfl⟩ (hP.sub [0, 1, 3, 4] rfl) hK hZ hS (va_recv hK hP (ci := 4) (q0 := 3) rfl rfl) hl.1 rfl rfl (Nat.le_of_ble_eq_true rfl) dX5_behindNow_20 ?_
  exact W.iret hx hb hr (fun t ht9 _ => ⟨_, rfl, Option.some.inj hf, ht9⟩) (fun _ h9 => by cases h9) dX5_behindNow_23
abbrev wX5_first (cI cZ : ClassId) (jhw : Nat) (jaw : Nat → Nat) (jhs : Nat) (jas : Nat → Nat) (jhr : Nat) (jar : Nat → Nat) (Sw : Bk) (Ss : Bk) (Sr : Bk) : va_W := [(jhw, .inr (5, [.int (Sw.1 0), .ref (jaw 0), .ref (jaw 1), .ref (jaw 2), .int (Sw.1 1), .ref (jaw 3), .ref (jaw 4), .ref (jaw 5), .int (Sw.1 2), .int (Sw.1 3), .ref (jaw 6), .ref (jaw 7), .ref (jaw 8), .ref (jaw 9), .ref (jaw 10)])), (jaw 0, .inl (cI, 4, .inl (Sw.2.1 0))), (jaw 1, .inl (cI, 4, .inl (Sw.2.1 1))), (jaw 2, .inl (cI, 4, .inl (Sw.2.1 2))), (jaw 3, .inl (cI, 4, .inl (Sw.2.1 3))), (jaw 4, .inl (cI, 4, .inl (Sw.2.1 4))), (jaw 5, .inl (cI, 4, .inl (Sw.2.1 5))), (jaw 6, .inl (cI, 4, .inl (Sw.2.1 6))), (jaw 7, .inl (cI, 4, .inl (Sw.2.1 7))), (jaw 8, .inl (cI, 4, .inl (Sw.2.1 8))), (jaw 9, .inl (cI, 4, .inl (Sw.2.1 9))), (jaw 10, .inl (cI, 4, .inl (Sw.2.1 10))), (jhs, .inr (2, [.ref jhw, .ref (jas 1), .ref (jas 2), .ref (jas 3), .int (Ss.1 0), .int (Ss.1 1), .int (Ss.1 2), .int (Ss.1 3)])), (jas 1, .inl (cI, 4, .inl (Ss.2.1 1))), (jhr, .inr (4, [.ref jhw, .ref jhs, .ref (jar 2), .ref (jar 3), .ref (jar 4), .ref (jar 5), .int (Sr.1 0), .int (Sr.1 1), .int (Sr.1 2)])), (jar 2, .inl (cI, 1296, .inl (Sr.2.1 2))), (jar 3, .inl (cI, 4, .inl (Sr.2.1 3))), (jar 4, .inl (cI, 4, .inl (Sr.2.1 4)))]
def gX5_first_156 (Sw : Bk) (Ss : Bk) (k99 : Int32 → Int32 → Int32 → Bk → Option (Int32 × Bk)) (x1 : Int32) (x2 : Int32) (x3 : Int32) (Sr : Bk) : Option (Int32 × Bk) := k99 x1 x2 (x3 + (1 : Int32)) Sr
def sX5_first_99 (Sw : Bk) (Ss : Bk) (k99 : Int32 → Int32 → Int32 → Bk → Option (Int32 × Bk)) (x1 : Int32) (x2 : Int32) (x3 : Int32) (Sr : Bk) : Option (Int32 × Bk) := (if (Sw.1 3) ≤ x3 then some ((0 : Int32), Sr) else (fX3_hasDone Ss x3).bind (fun u2 => (if u2 = 0 then (fX5_place (Ss.1 0) x1 ((Ss.1 1) ||| ((1 : Int32) <<< (x3 &&& 31)))).bind (fun u5 => inB 1296 u5 ((if ((Sr.2.1 2) u5.toNatClampNeg) = x2 then some (((5 : Int32) + x3), Sr) else gX5_first_156 Sw Ss k99 x1 x2 x3 Sr))) else gX5_first_156 Sw Ss k99 x1 x2 x3 Sr)))
def gX5_first_91 (Sw : Bk) (Ss : Bk) (k56 : Int32 → Int32 → Int32 → Bk → Option (Int32 × Bk)) (x1 : Int32) (x2 : Int32) (x3 : Int32) (Sr : Bk) : Option (Int32 × Bk) := k56 x1 x2 (x3 + (1 : Int32)) Sr
def sX5_first_56 (Sw : Bk) (Ss : Bk) (k56 : Int32 → Int32 → Int32 → Bk → Option (Int32 × Bk)) (x1 : Int32) (x2 : Int32) (x3 : Int32) (Sr : Bk) : Option (Int32 × Bk) := (if (Sw.1 1) ≤ x3 then lk4 (sX5_first_99 Sw Ss) 1000 x1 x2 (0 : Int32) Sr else (fX3_knows Ss x3).bind (fun u10 => (if u10 = 0 then (fX5_behindNow Sw Ss Sr x3).bind (fun u13 => (if u13 = x2 then some (((1 : Int32) + x3), Sr) else gX5_first_91 Sw Ss k56 x1 x2 x3 Sr)) else gX5_first_91 Sw Ss k56 x1 x2 x3 Sr)))
def fX5_first (Sw : Bk) (Ss : Bk) (Sr : Bk) : Option (Int32 × Bk) := (fX5_onesNow Sw Ss Sr).bind (fun u16 => (fX5_place (Ss.1 0) u16 (Ss.1 1)).bind (fun u18 => inB 1296 u18 ((fX5_layOut Sw Ss Sr (0 : Int32) (0 : Int32)).bind (fun u21 => (fX5_ending Sw (bA (bA (bO Sr u21.2) 3 (u21.2.2.1 3)) 4 (u21.2.2.1 4)) (Ss.1 0) u16).bind (fun u23 => (if u23 = ((Sr.2.1 2) u18.toNatClampNeg) then some ((0 : Int32), (bA (bA (bO Sr u21.2) 3 (u21.2.2.1 3)) 4 (u21.2.2.1 4))) else lk4 (sX5_first_56 Sw Ss) 1000 u16 ((Sr.2.1 2) u18.toNatClampNeg) (0 : Int32) (bA (bA (bO Sr u21.2) 3 (u21.2.2.1 3)) 4 (u21.2.2.1 4))))))))
theorem miX5_first : MI yX5_first cX5_first 4 (some .int) 0 := ⟨wd1_6, wd3_43, by decide +kernel⟩
theorem mjX5_first : Cond.instanceMethod yX5_first ∈ wT ∧ Cond.selects yX5_first.cls yX5_first yX5_first ∈ wT := ⟨wd3_41, wd3_42⟩
set_option maxHeartbeats 4000000 in
set_option maxRecDepth 100000 in
theorem qX5_first (l : Launch) (D : va_G) (cI cZ cO : ClassId) (jhw : Nat) (jaw : Nat → Nat) (jhs : Nat) (jas : Nat → Nat) (jhr : Nat) (jar : Nat → Nat) (Sw : Bk) (Ss : Bk) (Sr : Bk) (sz : Nat) (res : Int32 × Bk) (hf : fX5_first Sw Ss Sr = some res) : Met l yX5_first (Cond.code yX5_first cX5_first 4 (some .int) :: wT) (rmF 3 71) (va_Pc [.ref jhr] (cW D (tyL cI cZ cO) (wX5_first cI cZ jhw jaw jhs jas jhr jar Sw Ss Sr) sz)) (va_Qi (S := Unit) (fun r _ => r = res.1) (fun _ => qW D (tyL cI cZ cO) (va_A (wX5_first cI cZ jhw jaw jhs jas jhr jar Sw Ss Sr) sz) (wX5_first cI cZ jhw jaw jhs jas jhr jar Sw Ss res.2)) (va_A (wX5_first cI cZ jhw jaw jhs jas jhr jar Sw Ss Sr) sz)) 0 0 (va_A (wX5_first cI cZ jhw jaw jhs jas jhr jar Sw Ss Sr) sz) := by
  refine met_w (by decide) (Nat.le_of_ble_eq_true rfl) ?_
  intro p e s m below meth c hx hb hr hml ht hown hlk ls hl hsz hP hK hD0 hZ
  subst hsz
  have hD := hD0.self (sz := s.heap.size)
  generalize hAe : va_A (wX5_first cI cZ jhw jaw jhs jas jhr jar Sw Ss Sr) s.heap.size = A at hD hZ ⊢
  have hA : ∀ q : Nat, s.heap.size ≤ q → A q := fun q h => by rw [← hAe]; exact Or.inr h
  have hS : va_S A s.heap s.heap [] := va_S.rf
  have hown : s.vm.findClass "EyeDrink$Trees" = some m.cls := hown
  have hl : lv_has ls 4 [(0, .ref jhr)] := hl
  have hC : CallFix p m c cX5_first 4 s ([.ref jhr] : List Value).toArray wT "EyeDrink$Trees" := ⟨hx, hb, hml, hown, ht⟩
  unfold fX5_first at hf
  suffices hgo : ∀ (H : Heap) (locs : List Loc), va_P D vwCl (wX5_first cI cZ jhw jaw jhs jas jhr jar Sw Ss Sr) H → va_S A s.heap H locs → W p l e (rmF 3 71) s m ([.ref jhr] : List Value).toArray below meth c H locs 0 0 (MQ below (va_Qi (S := Unit) (fun r _ => r = res.1) (fun _ => qW D (tyL cI cZ cO) A (wX5_first cI cZ jhw jaw jhs jas jhr jar Sw Ss res.2)) A) ([.ref jhr] : List Value).toArray s 0 0 A) (F0 m 0 ls []) from hgo s.heap [] hP hS
  have hj99 : ∀ (x1 : Int32) (x2 : Int32) (x3 : Int32) (Sr : Bk), lk4 (sX5_first_99 Sw Ss) 1000 x1 x2 x3 Sr = some res → ∀ (H : Heap) (locs : List Loc) (ls : Array Slot), va_P D vwCl (wX5_first cI cZ jhw jaw jhs jas jhr jar Sw Ss Sr) H → va_D A (wX5_first cI cZ jhw jaw jhs jas jhr jar Sw Ss Sr) → va_S A s.heap H locs → lv_has ls 4 [(0, .ref jhr), (1, .int x1), (2, .int x2), (3, .int x3)] → W p l e (rmF 3 71) s m ([.ref jhr] : List Value).toArray below meth c H locs 0 0 (MQ below (va_Qi (S := Unit) (fun r _ => r = res.1) (fun _ => qW D (tyL cI cZ cO) A (wX5_first cI cZ jhw jaw jhs jas jhr jar Sw Ss res.2)) A) ([.ref jhr] : List Value).toArray s 0 0 A) (F0 m 99 ls []) := by
    refine lk4_w (fun (x1 : Int32) (x2 : Int32) (x3 : Int32) (Sr : Bk) => ∀ (H : Heap) (locs : List Loc) (ls : Array Slot), va_P D vwCl (wX5_first cI cZ jhw jaw jhs jas jhr jar Sw Ss Sr) H → va_D A (wX5_first cI cZ jhw jaw jhs jas jhr jar Sw Ss Sr) → va_S A s.heap H locs → lv_has ls 4 [(0, .ref jhr), (1, .int x1), (2, .int x2), (3, .int x3)] → W p l e (rmF 3 71) s m ([.ref jhr] : List Value).toArray below meth c H locs 0 0 (MQ below (va_Qi (S := Unit) (fun r _ => r = res.1) (fun _ => qW D (tyL cI cZ cO) A (wX5_first cI cZ jhw jaw jhs jas jhr jar Sw Ss res.2)) A) ([.ref jhr] : List Value).toArray s 0 0 A) (F0 m 99 ls [])) ?_ 1000
    intro k99 hk99 x1 x2 x3 Sr hf H locs ls hP hD hS hl
    unfold sX5_first_99 at hf
    have hj156 : ∀ (x1 : Int32) (x2 : Int32) (x3 : Int32) (Sr : Bk), gX5_first_156 Sw Ss k99 x1 x2 x3 Sr = some res → ∀ (H : Heap) (locs : List Loc) (ls : Array Slot), va_P D vwCl (wX5_first cI cZ jhw jaw jhs jas jhr jar Sw Ss Sr) H → va_D A (wX5_first cI cZ jhw jaw jhs jas jhr jar Sw Ss Sr) → va_S A s.heap H locs → lv_has ls 4 [(0, .ref jhr), (1, .int x1), (2, .int x2), (3, .int x3)] → W p l e (rmF 3 71) s m ([.ref jhr] : List Value).toArray below meth c H locs 0 0 (MQ below (va_Qi (S := Unit) (fun r _ => r = res.1) (fun _ => qW D (tyL cI cZ cO) A (wX5_first cI cZ jhw jaw jhs jas jhr jar Sw Ss res.2)) A) ([.ref jhr] : List Value).toArray s 0 0 A) (F0 m 156 ls []) := by
      intro x1 x2 x3 Sr hf H locs ls hP hD hS hl
      unfold gX5_first_156 at hf
      refine lv_iinc (v := (x3 + (1 : Int32))) (lv' := [(3, .int (x3 + (1 : Int32))), (0, .ref jhr), (1, .int x1), (2, .int x2)]) hx hb dX5_first_156 hl (k := 3) rfl rfl (by decide) rfl (fun ls hl => ?_)
      refine lv_goto (tgt := 99) hx hb dX5_first_159 (by decide) ?_
      exact hk99 x1 x2 (x3 + (1 : Int32)) Sr hf _ _ _ hP hD hS (lv_sub hl [1, 2, 3, 0] rfl)
    refine lv_iload_n hx hb dX5_first_99 rfl (lv_at hl 3 rfl) ?_
    refine lv_aload_n hx hb dX5_first_100 rfl (lv_at hl 0 rfl) ?_
    refine va_get (D := D) (ci := 4) (v := .ref jhw) (C := RX5) (T := TX5) (N := 9) hx hb ht inX5 hown hK hP 14 rfl rfl 0 (by decide) (ht _ wd1_190) (fun _ h9 => h9) rfl dX5_first_101 ?_
    refine va_get (D := D) (ci := 5) (v := .int (Sw.1 3)) (C := RX6) (T := TX6) (N := 15) hx hb ht inX6 hown hK hP 0 rfl rfl 9 (by decide) (ht _ wd1_76) (fun _ h9 => h9) rfl dX5_first_104 ?_
    refine lv_icmp_ge (tgt := 162) hx hb dX5_first_107 (by decide) (fun c1 => ?_) (fun c1 => ?_)
    · have hf := itP c1 hf
      refine lv_iconst (v := (0 : Int32)) hx hb dX5_first_162 rfl ?_
      cases hf
      exact W.iret hx hb hr (fun t ht9 hW => ⟨⟨_, (), rfl, rfl, by rw [ht9]; exact hP, va_K.moved hW.alike hK, hD⟩, hS.F ht9⟩) hS.2.2 dX5_first_163
    · have hf := itN c1 hf
      refine lv_aload_n hx hb dX5_first_110 rfl (lv_at hl 0 rfl) ?_
      refine va_get (D := D) (ci := 4) (v := .ref jhs) (C := RX5) (T := TX5) (N := 9) hx hb ht inX5 hown hK hP 14 rfl rfl 1 (by decide) (ht _ wd1_191) (fun _ h9 => h9) rfl dX5_first_111 ?_
      refine lv_iload_n hx hb dX5_first_114 rfl (lv_at hl 3 rfl) ?_
      obtain ⟨u2, e3, hf⟩ := bdS hf
      refine k_rV (As := [.int x3]) (rest := []) hC miX3_hasDone mjX3_hasDone.1 mjX3_hasDone.2 wd3_49 (qX3_hasDone l D cI cZ cO jhs jas jhw Ss x3 u2 e3) ⟨Nat.le_of_ble_eq_true rfl, Nat.le_of_ble_eq_true rfl⟩ (hP.sub [12] rfl) hK hZ hS (va_recv hK hP (ci := 2) (q0 := 12) rfl rfl) hl.1 rfl rfl (Nat.le_of_ble_eq_true rfl) dX5_first_115 ?_
      refine lv_if_ne (tgt := 156) hx hb dX5_first_118 (by decide) (fun c4 => ?_) (fun c4 => ?_)
      · have hf := itN c4 hf
        exact hj156 x1 x2 x3 Sr hf _ _ _ hP hD hS (lv_sub hl [0, 1, 2, 3] rfl)
      · have hf := itP c4 hf
        refine lv_aload_n hx hb dX5_first_121 rfl (lv_at hl 0 rfl) ?_
        refine va_get (D := D) (ci := 4) (v := .ref (jar 2)) (C := RX5) (T := TX5) (N := 9) hx hb ht inX5 hown hK hP 14 rfl rfl 2 (by decide) (ht _ wd1_192) (fun _ h9 => h9) rfl dX5_first_122 ?_
        refine lv_aload_n hx hb dX5_first_125 rfl (lv_at hl 0 rfl) ?_
        refine va_get (D := D) (ci := 4) (v := .ref jhs) (C := RX5) (T := TX5) (N := 9) hx hb ht inX5 hown hK hP 14 rfl rfl 1 (by decide) (ht _ wd1_191) (fun _ h9 => h9) rfl dX5_first_126 ?_
        refine va_get (D := D) (ci := 2) (v := .int (Ss.1 0)) (C := RX3) (T := TX3) (N := 8) hx hb ht inX3 hown hK hP 12 rfl rfl 4 (by decide) (ht _ wd1_141) (fun _ h9 => h9) rfl dX5_first_129 ?_
        refine lv_iload_n hx hb dX5_first_132 rfl (lv_at hl 1 rfl) ?_
        refine lv_aload_n hx hb dX5_first_133 rfl (lv_at hl 0 rfl) ?_
        refine va_get (D := D) (ci := 4) (v := .ref jhs) (C := RX5) (T := TX5) (N := 9) hx hb ht inX5 hown hK hP 14 rfl rfl 1 (by decide) (ht _ wd1_191) (fun _ h9 => h9) rfl dX5_first_134 ?_
        refine va_get (D := D) (ci := 2) (v := .int (Ss.1 1)) (C := RX3) (T := TX3) (N := 8) hx hb ht inX3 hown hK hP 12 rfl rfl 5 (by decide) (ht _ wd1_145) (fun _ h9 => h9) rfl dX5_first_137 ?_
        refine lv_iconst (v := (1 : Int32)) hx hb dX5_first_140 rfl ?_
        refine lv_iload_n hx hb dX5_first_141 rfl (lv_at hl 3 rfl) ?_
        refine lv_ishl hx hb dX5_first_142 ?_
        refine lv_ior hx hb dX5_first_143 ?_
        obtain ⟨u5, e6, hf⟩ := bdS hf
        refine k_rS (As := [.int (Ss.1 0), .int x1, .int ((Ss.1 1) ||| ((1 : Int32) <<< (x3 &&& 31)))]) (rest := [.ref (jar 2)]) hC miX5_place mjX5_place wd3_16 (qX5_place l D cI cZ cO  (Ss.1 0) x1 ((Ss.1 1) ||| ((1 : Int32) <<< (x3 &&& 31))) u5 e6) ⟨Nat.le_of_ble_eq_true rfl, Nat.le_of_ble_eq_true rfl⟩ (hP.sub [] rfl) hK hZ hS hl.1 rfl rfl (Nat.le_of_ble_eq_true rfl) dX5_first_144 ?_
        obtain ⟨h7, hf⟩ := inB_s hf
        refine va_iald (f := (Sr.2.1 2)) (n := 1296) hx hb hK hP 15 0 rfl rfl h7 dX5_first_147 ?_
        refine lv_iload_n hx hb dX5_first_148 rfl (lv_at hl 2 rfl) ?_
        refine lv_icmp_ne (tgt := 156) hx hb dX5_first_149 (by decide) (fun c8 => ?_) (fun c8 => ?_)
        · have hf := itN c8 hf
          exact hj156 x1 x2 x3 Sr hf _ _ _ hP hD hS (lv_sub hl [0, 1, 2, 3] rfl)
        · have hf := itP c8 hf
          refine lv_iconst (v := (5 : Int32)) hx hb dX5_first_152 rfl ?_
          refine lv_iload_n hx hb dX5_first_153 rfl (lv_at hl 3 rfl) ?_
          refine lv_iadd hx hb dX5_first_154 ?_
          cases hf
          exact W.iret hx hb hr (fun t ht9 hW => ⟨⟨_, (), rfl, rfl, by rw [ht9]; exact hP, va_K.moved hW.alike hK, hD⟩, hS.F ht9⟩) hS.2.2 dX5_first_155
  have hj56 : ∀ (x1 : Int32) (x2 : Int32) (x3 : Int32) (Sr : Bk), lk4 (sX5_first_56 Sw Ss) 1000 x1 x2 x3 Sr = some res → ∀ (H : Heap) (locs : List Loc) (ls : Array Slot), va_P D vwCl (wX5_first cI cZ jhw jaw jhs jas jhr jar Sw Ss Sr) H → va_D A (wX5_first cI cZ jhw jaw jhs jas jhr jar Sw Ss Sr) → va_S A s.heap H locs → lv_has ls 4 [(0, .ref jhr), (1, .int x1), (2, .int x2), (3, .int x3)] → W p l e (rmF 3 71) s m ([.ref jhr] : List Value).toArray below meth c H locs 0 0 (MQ below (va_Qi (S := Unit) (fun r _ => r = res.1) (fun _ => qW D (tyL cI cZ cO) A (wX5_first cI cZ jhw jaw jhs jas jhr jar Sw Ss res.2)) A) ([.ref jhr] : List Value).toArray s 0 0 A) (F0 m 56 ls []) := by
    refine lk4_w (fun (x1 : Int32) (x2 : Int32) (x3 : Int32) (Sr : Bk) => ∀ (H : Heap) (locs : List Loc) (ls : Array Slot), va_P D vwCl (wX5_first cI cZ jhw jaw jhs jas jhr jar Sw Ss Sr) H → va_D A (wX5_first cI cZ jhw jaw jhs jas jhr jar Sw Ss Sr) → va_S A s.heap H locs → lv_has ls 4 [(0, .ref jhr), (1, .int x1), (2, .int x2), (3, .int x3)] → W p l e (rmF 3 71) s m ([.ref jhr] : List Value).toArray below meth c H locs 0 0 (MQ below (va_Qi (S := Unit) (fun r _ => r = res.1) (fun _ => qW D (tyL cI cZ cO) A (wX5_first cI cZ jhw jaw jhs jas jhr jar Sw Ss res.2)) A) ([.ref jhr] : List Value).toArray s 0 0 A) (F0 m 56 ls [])) ?_ 1000
    intro k56 hk56 x1 x2 x3 Sr hf H locs ls hP hD hS hl
    unfold sX5_first_56 at hf
    have hj91 : ∀ (x1 : Int32) (x2 : Int32) (x3 : Int32) (Sr : Bk), gX5_first_91 Sw Ss k56 x1 x2 x3 Sr = some res → ∀ (H : Heap) (locs : List Loc) (ls : Array Slot), va_P D vwCl (wX5_first cI cZ jhw jaw jhs jas jhr jar Sw Ss Sr) H → va_D A (wX5_first cI cZ jhw jaw jhs jas jhr jar Sw Ss Sr) → va_S A s.heap H locs → lv_has ls 4 [(0, .ref jhr), (1, .int x1), (2, .int x2), (3, .int x3)] → W p l e (rmF 3 71) s m ([.ref jhr] : List Value).toArray below meth c H locs 0 0 (MQ below (va_Qi (S := Unit) (fun r _ => r = res.1) (fun _ => qW D (tyL cI cZ cO) A (wX5_first cI cZ jhw jaw jhs jas jhr jar Sw Ss res.2)) A) ([.ref jhr] : List Value).toArray s 0 0 A) (F0 m 91 ls []) := by
      intro x1 x2 x3 Sr hf H locs ls hP hD hS hl
      unfold gX5_first_91 at hf
      refine lv_iinc (v := (x3 + (1 : Int32))) (lv' := [(3, .int (x3 + (1 : Int32))), (0, .ref jhr), (1, .int x1), (2, .int x2)]) hx hb dX5_first_91 hl (k := 3) rfl rfl (by decide) rfl (fun ls hl => ?_)
      refine lv_goto (tgt := 56) hx hb dX5_first_94 (by decide) ?_
      exact hk56 x1 x2 (x3 + (1 : Int32)) Sr hf _ _ _ hP hD hS (lv_sub hl [1, 2, 3, 0] rfl)
    refine lv_iload_n hx hb dX5_first_56 rfl (lv_at hl 3 rfl) ?_
    refine lv_aload_n hx hb dX5_first_57 rfl (lv_at hl 0 rfl) ?_
    refine va_get (D := D) (ci := 4) (v := .ref jhw) (C := RX5) (T := TX5) (N := 9) hx hb ht inX5 hown hK hP 14 rfl rfl 0 (by decide) (ht _ wd1_190) (fun _ h9 => h9) rfl dX5_first_58 ?_
    refine va_get (D := D) (ci := 5) (v := .int (Sw.1 1)) (C := RX6) (T := TX6) (N := 15) hx hb ht inX6 hown hK hP 0 rfl rfl 4 (by decide) (ht _ wd1_58) (fun _ h9 => h9) rfl dX5_first_61 ?_
    refine lv_icmp_ge (tgt := 97) hx hb dX5_first_64 (by decide) (fun c9 => ?_) (fun c9 => ?_)
    · have hf := itP c9 hf
      refine lv_iconst (v := (0 : Int32)) hx hb dX5_first_97 rfl ?_
      refine lv_istore_n (lv' := [(3, .int (0 : Int32)), (0, .ref jhr), (1, .int x1), (2, .int x2)]) hx hb dX5_first_98 rfl hl (by decide) rfl (fun ls hl => ?_)
      exact hj99 x1 x2 (0 : Int32) Sr hf _ _ _ hP hD hS (lv_sub hl [1, 2, 3, 0] rfl)
    · have hf := itN c9 hf
      refine lv_aload_n hx hb dX5_first_67 rfl (lv_at hl 0 rfl) ?_
      refine va_get (D := D) (ci := 4) (v := .ref jhs) (C := RX5) (T := TX5) (N := 9) hx hb ht inX5 hown hK hP 14 rfl rfl 1 (by decide) (ht _ wd1_191) (fun _ h9 => h9) rfl dX5_first_68 ?_
      refine lv_iload_n hx hb dX5_first_71 rfl (lv_at hl 3 rfl) ?_
      obtain ⟨u10, e11, hf⟩ := bdS hf
      refine k_rV (As := [.int x3]) (rest := []) hC miX3_knows mjX3_knows.1 mjX3_knows.2 wd3_44 (qX3_knows l D cI cZ cO jhs jas jhw Ss x3 u10 e11) ⟨Nat.le_of_ble_eq_true rfl, Nat.le_of_ble_eq_true rfl⟩ (hP.sub [12] rfl) hK hZ hS (va_recv hK hP (ci := 2) (q0 := 12) rfl rfl) hl.1 rfl rfl (Nat.le_of_ble_eq_true rfl) dX5_first_72 ?_
      refine lv_if_ne (tgt := 91) hx hb dX5_first_75 (by decide) (fun c12 => ?_) (fun c12 => ?_)
      · have hf := itN c12 hf
        exact hj91 x1 x2 x3 Sr hf _ _ _ hP hD hS (lv_sub hl [0, 1, 2, 3] rfl)
      · have hf := itP c12 hf
        refine lv_aload_n hx hb dX5_first_78 rfl (lv_at hl 0 rfl) ?_
        refine lv_iload_n hx hb dX5_first_79 rfl (lv_at hl 3 rfl) ?_
        obtain ⟨u13, e14, hf⟩ := bdS hf
        refine k_rV (As := [.int x3]) (rest := []) hC miX5_behindNow mjX5_behindNow.1 mjX5_behindNow.2 wd3_45 (qX5_behindNow l D cI cZ cO jhw jaw jhs jas jhr jar Sw Ss Sr x3 u13 e14) ⟨Nat.le_of_ble_eq_true rfl, Nat.le_of_ble_eq_true rfl⟩ (hP.sub [0, 6, 12, 14, 15] rfl) hK hZ hS (va_recv hK hP (ci := 4) (q0 := 14) rfl rfl) hl.1 rfl rfl (Nat.le_of_ble_eq_true rfl) dX5_first_80 ?_
        refine lv_iload_n hx hb dX5_first_83 rfl (lv_at hl 2 rfl) ?_
        refine lv_icmp_ne (tgt := 91) hx hb dX5_first_84 (by decide) (fun c15 => ?_) (fun c15 => ?_)
        · have hf := itN c15 hf
          exact hj91 x1 x2 x3 Sr hf _ _ _ hP hD hS (lv_sub hl [0, 1, 2, 3] rfl)
        · have hf := itP c15 hf
          refine lv_iconst (v := (1 : Int32)) hx hb dX5_first_87 rfl ?_
          refine lv_iload_n hx hb dX5_first_88 rfl (lv_at hl 3 rfl) ?_
          refine lv_iadd hx hb dX5_first_89 ?_
          cases hf
          exact W.iret hx hb hr (fun t ht9 hW => ⟨⟨_, (), rfl, rfl, by rw [ht9]; exact hP, va_K.moved hW.alike hK, hD⟩, hS.F ht9⟩) hS.2.2 dX5_first_90
  intro H locs hP hS
  refine lv_aload_n hx hb dX5_first_0 rfl (lv_at hl 0 rfl) ?_
  obtain ⟨u16, e17, hf⟩ := bdS hf
  refine k_rV (As := []) (rest := []) hC miX5_onesNow mjX5_onesNow.1 mjX5_onesNow.2 wd3_3 (qX5_onesNow l D cI cZ cO jhw jaw jhs jas jhr jar Sw Ss Sr u16 e17) ⟨Nat.le_of_ble_eq_true rfl, Nat.le_of_ble_eq_true rfl⟩ (hP.sub [0, 12, 14] rfl) hK hZ hS (va_recv hK hP (ci := 4) (q0 := 14) rfl rfl) hl.1 rfl rfl (Nat.le_of_ble_eq_true rfl) dX5_first_1 ?_
  refine lv_istore_n (lv' := [(1, .int u16), (0, .ref jhr)]) hx hb dX5_first_4 rfl hl (by decide) rfl (fun ls hl => ?_)
  refine lv_aload_n hx hb dX5_first_5 rfl (lv_at hl 1 rfl) ?_
  refine va_get (D := D) (ci := 4) (v := .ref (jar 2)) (C := RX5) (T := TX5) (N := 9) hx hb ht inX5 hown hK hP 14 rfl rfl 2 (by decide) (ht _ wd1_192) (fun _ h9 => h9) rfl dX5_first_6 ?_
  refine lv_aload_n hx hb dX5_first_9 rfl (lv_at hl 1 rfl) ?_
  refine va_get (D := D) (ci := 4) (v := .ref jhs) (C := RX5) (T := TX5) (N := 9) hx hb ht inX5 hown hK hP 14 rfl rfl 1 (by decide) (ht _ wd1_191) (fun _ h9 => h9) rfl dX5_first_10 ?_
  refine va_get (D := D) (ci := 2) (v := .int (Ss.1 0)) (C := RX3) (T := TX3) (N := 8) hx hb ht inX3 hown hK hP 12 rfl rfl 4 (by decide) (ht _ wd1_141) (fun _ h9 => h9) rfl dX5_first_13 ?_
  refine lv_iload_n hx hb dX5_first_16 rfl (lv_at hl 0 rfl) ?_
  refine lv_aload_n hx hb dX5_first_17 rfl (lv_at hl 1 rfl) ?_
  refine va_get (D := D) (ci := 4) (v := .ref jhs) (C := RX5) (T := TX5) (N := 9) hx hb ht inX5 hown hK hP 14 rfl rfl 1 (by decide) (ht _ wd1_191) (fun _ h9 => h9) rfl dX5_first_18 ?_
  refine va_get (D := D) (ci := 2) (v := .int (Ss.1 1)) (C := RX3) (T := TX3) (N := 8) hx hb ht inX3 hown hK hP 12 rfl rfl 5 (by decide) (ht _ wd1_145) (fun _ h9 => h9) rfl dX5_first_21 ?_
  obtain ⟨u18, e19, hf⟩ := bdS hf
  refine k_rS (As := [.int (Ss.1 0), .int u16, .int (Ss.1 1)]) (rest := [.ref (jar 2)]) hC miX5_place mjX5_place wd3_16 (qX5_place l D cI cZ cO  (Ss.1 0) u16 (Ss.1 1) u18 e19) ⟨Nat.le_of_ble_eq_true rfl, Nat.le_of_ble_eq_true rfl⟩ (hP.sub [] rfl) hK hZ hS hl.1 rfl rfl (Nat.le_of_ble_eq_true rfl) dX5_first_24 ?_
  obtain ⟨h20, hf⟩ := inB_s hf
  refine va_iald (f := (Sr.2.1 2)) (n := 1296) hx hb hK hP 15 0 rfl rfl h20 dX5_first_27 ?_
  refine lv_istore_n (lv' := [(2, .int ((Sr.2.1 2) u18.toNatClampNeg)), (1, .int u16), (0, .ref jhr)]) hx hb dX5_first_28 rfl hl (by decide) rfl (fun ls hl => ?_)
  refine lv_aload_n hx hb dX5_first_29 rfl (lv_at hl 2 rfl) ?_
  refine lv_iconst (v := (0 : Int32)) hx hb dX5_first_30 rfl ?_
  refine lv_iconst (v := (0 : Int32)) hx hb dX5_first_31 rfl ?_
  obtain ⟨u21, e22, hf⟩ := bdS hf
  refine k_wVi (ws' := (wX5_first cI cZ jhw jaw jhs jas jhr jar Sw Ss (bA (bA (bO Sr u21.2) 3 (u21.2.2.1 3)) 4 (u21.2.2.1 4)))) (wr := [(jaw 5, .inl (cI, 4, .inl (Sw.2.1 5))), (jar 2, .inl (cI, 1296, .inl ((bA (bA (bO Sr u21.2) 3 (u21.2.2.1 3)) 4 (u21.2.2.1 4)).2.1 2)))]) (As := [.int (0 : Int32), .int (0 : Int32)]) (rest := []) hC miX5_layOut mjX5_layOut.1 mjX5_layOut.2 wd3_7 (qX5_layOut l D cI cZ cO jhw jaw jhs jas jhr jar Sw Ss Sr (0 : Int32) (0 : Int32) H.size u21 e22) ⟨Nat.le_of_ble_eq_true rfl, Nat.le_of_ble_eq_true rfl⟩ hP hD hK hZ hS hA [0, 1, 2, 3, 4, 5, 7, 8, 9, 10, 11, 12, 13, 14, 16, 17] [6, 15] [2, 3, 4, 5, 6, 7, 0, 8, 9, 10, 11, 12, 13, 14, 15, 1, 16, 17] rfl (by decide) rfl (by decide) (by decide) (by decide) rfl (va_recv hK hP (ci := 4) (q0 := 14) rfl rfl) hl.1 rfl rfl (Nat.le_of_ble_eq_true rfl) dX5_first_32 (fun H locs hP hD hS => ?_)
  refine lv_pop hx hb dX5_first_35 rfl ?_
  refine lv_aload_n hx hb dX5_first_36 rfl (lv_at hl 2 rfl) ?_
  refine lv_aload_n hx hb dX5_first_37 rfl (lv_at hl 2 rfl) ?_
  refine va_get (D := D) (ci := 4) (v := .ref jhs) (C := RX5) (T := TX5) (N := 9) hx hb ht inX5 hown hK hP 14 rfl rfl 1 (by decide) (ht _ wd1_191) (fun _ h9 => h9) rfl dX5_first_38 ?_
  refine va_get (D := D) (ci := 2) (v := .int (Ss.1 0)) (C := RX3) (T := TX3) (N := 8) hx hb ht inX3 hown hK hP 12 rfl rfl 4 (by decide) (ht _ wd1_141) (fun _ h9 => h9) rfl dX5_first_41 ?_
  refine lv_iload_n hx hb dX5_first_44 rfl (lv_at hl 1 rfl) ?_
  obtain ⟨u23, e24, hf⟩ := bdS hf
  refine k_rV (As := [.int (Ss.1 0), .int u16]) (rest := []) hC miX5_ending mjX5_ending.1 mjX5_ending.2 wd3_25 (qX5_ending l D cI cZ cO jhw jaw jhr jar jhs Sw (bA (bA (bO Sr u21.2) 3 (u21.2.2.1 3)) 4 (u21.2.2.1 4)) (Ss.1 0) u16 u23 e24) ⟨Nat.le_of_ble_eq_true rfl, Nat.le_of_ble_eq_true rfl⟩ (hP.sub [0, 6, 14, 17] rfl) hK hZ hS (va_recv hK hP (ci := 4) (q0 := 14) rfl rfl) hl.1 rfl rfl (Nat.le_of_ble_eq_true rfl) dX5_first_45 ?_
  refine lv_iload_n hx hb dX5_first_48 rfl (lv_at hl 0 rfl) ?_
  refine lv_icmp_ne (tgt := 54) hx hb dX5_first_49 (by decide) (fun c25 => ?_) (fun c25 => ?_)
  · have hf := itN c25 hf
    refine lv_iconst (v := (0 : Int32)) hx hb dX5_first_54 rfl ?_
    refine lv_istore_n (lv' := [(3, .int (0 : Int32)), (2, .int ((Sr.2.1 2) u18.toNatClampNeg)), (1, .int u16), (0, .ref jhr)]) hx hb dX5_first_55 rfl hl (by decide) rfl (fun ls hl => ?_)
    exact hj56 u16 ((Sr.2.1 2) u18.toNatClampNeg) (0 : Int32) (bA (bA (bO Sr u21.2) 3 (u21.2.2.1 3)) 4 (u21.2.2.1 4)) hf _ _ _ hP hD hS (lv_sub hl [3, 2, 1, 0] rfl)
  · have hf := itP c25 hf
    refine lv_iconst (v := (0 : Int32)) hx hb dX5_first_52 rfl ?_
    cases hf
    exact W.iret hx hb hr (fun t ht9 hW => ⟨⟨_, (), rfl, rfl, by rw [ht9]; exact hP, va_K.moved hW.alike hK, hD⟩, hS.F ht9⟩) hS.2.2 dX5_first_53
abbrev wX5_unregretted (cI cZ : ClassId) (jhw : Nat) (jaw : Nat → Nat) (jhs : Nat) (jas : Nat → Nat) (jhr : Nat) (jar : Nat → Nat) (Sw : Bk) (Ss : Bk) (Sr : Bk) : va_W := [(jhw, .inr (5, [.int (Sw.1 0), .ref (jaw 0), .ref (jaw 1), .ref (jaw 2), .int (Sw.1 1), .ref (jaw 3), .ref (jaw 4), .ref (jaw 5), .int (Sw.1 2), .int (Sw.1 3), .ref (jaw 6), .ref (jaw 7), .ref (jaw 8), .ref (jaw 9), .ref (jaw 10)])), (jaw 0, .inl (cI, 4, .inl (Sw.2.1 0))), (jaw 1, .inl (cI, 4, .inl (Sw.2.1 1))), (jaw 2, .inl (cI, 4, .inl (Sw.2.1 2))), (jaw 3, .inl (cI, 4, .inl (Sw.2.1 3))), (jaw 4, .inl (cI, 4, .inl (Sw.2.1 4))), (jaw 5, .inl (cI, 4, .inl (Sw.2.1 5))), (jaw 6, .inl (cI, 4, .inl (Sw.2.1 6))), (jaw 7, .inl (cI, 4, .inl (Sw.2.1 7))), (jaw 8, .inl (cI, 4, .inl (Sw.2.1 8))), (jaw 9, .inl (cI, 4, .inl (Sw.2.1 9))), (jaw 10, .inl (cI, 4, .inl (Sw.2.1 10))), (jhs, .inr (2, [.ref jhw, .ref (jas 1), .ref (jas 2), .ref (jas 3), .int (Ss.1 0), .int (Ss.1 1), .int (Ss.1 2), .int (Ss.1 3)])), (jas 1, .inl (cI, 4, .inl (Ss.2.1 1))), (jhr, .inr (4, [.ref jhw, .ref jhs, .ref (jar 2), .ref (jar 3), .ref (jar 4), .ref (jar 5), .int (Sr.1 0), .int (Sr.1 1), .int (Sr.1 2)])), (jar 2, .inl (cI, 1296, .inl (Sr.2.1 2))), (jar 3, .inl (cI, 4, .inl (Sr.2.1 3))), (jar 4, .inl (cI, 4, .inl (Sr.2.1 4))), (jar 5, .inl (cI, 4, .inl (Sr.2.1 5)))]
def gX5_unregretted_105 (Sw : Bk) (Ss : Bk) (k62 : Int32 → Int32 → Int32 → Bk → Option (Int32 × Bk)) (x1 : Int32) (x2 : Int32) (x3 : Int32) (Sr : Bk) : Option (Int32 × Bk) := k62 x1 x2 (x3 + (1 : Int32)) Sr
def sX5_unregretted_62 (Sw : Bk) (Ss : Bk) (k62 : Int32 → Int32 → Int32 → Bk → Option (Int32 × Bk)) (x1 : Int32) (x2 : Int32) (x3 : Int32) (Sr : Bk) : Option (Int32 × Bk) := (if (Sw.1 1) ≤ x3 then some (x2, Sr) else (if ((x1 >>> (x3 &&& 31)) &&& (1 : Int32)) = (1 : Int32) then (fX5_grow Sw Ss Sr (0 : Int32) ((1 : Int32) <<< (x3 &&& 31))).bind (fun u3 => inB 4 x3 ((if ((Sr.2.1 5) x3.toNatClampNeg) < u3.1 then gX5_unregretted_105 Sw Ss k62 x1 x2 x3 (bA (bA (bA (bO Sr u3.2) 2 (u3.2.2.1 2)) 3 (u3.2.2.1 3)) 4 (u3.2.2.1 4)) else gX5_unregretted_105 Sw Ss k62 x1 (x2 ||| ((1 : Int32) <<< (x3 &&& 31))) x3 (bA (bA (bA (bO Sr u3.2) 2 (u3.2.2.1 2)) 3 (u3.2.2.1 3)) 4 (u3.2.2.1 4))))) else gX5_unregretted_105 Sw Ss k62 x1 x2 x3 Sr))
def gX5_unregretted_51 (Sw : Bk) (Ss : Bk) (k17 : Int32 → Int32 → Bk → Option (Int32 × Bk)) (x1 : Int32) (x2 : Int32) (Sr : Bk) (y1 : Int32) (y2 : Int32) : Option (Int32 × Bk) := inB 4 y1 (nmV y1.toNatClampNeg (fun j8 => k17 x1 (x2 + (1 : Int32)) (bW Sr 5 j8 y2)))
def sX5_unregretted_17 (Sw : Bk) (Ss : Bk) (k17 : Int32 → Int32 → Bk → Option (Int32 × Bk)) (x1 : Int32) (x2 : Int32) (Sr : Bk) : Option (Int32 × Bk) := (if (Sw.1 1) ≤ x2 then lk4 (sX5_unregretted_62 Sw Ss) 1000 x1 (0 : Int32) (0 : Int32) Sr else (if ((x1 >>> (x2 &&& 31)) &&& (1 : Int32)) = (1 : Int32) then (fX5_behindNow Sw Ss Sr x2).bind (fun u11 => gX5_unregretted_51 Sw Ss k17 x1 x2 Sr x2 u11) else gX5_unregretted_51 Sw Ss k17 x1 x2 Sr x2 (0 : Int32)))
def fX5_unregretted (Sw : Bk) (Ss : Bk) (Sr : Bk) : Option (Int32 × Bk) := (fX3_drinkable Sw Ss).bind (fun u13 => (fX5_grow Sw Ss Sr (0 : Int32) (0 : Int32)).bind (fun u15 => lk3 (sX5_unregretted_17 Sw Ss) 1000 u13 (0 : Int32) (bA (bA (bA (bO Sr u15.2) 2 (u15.2.2.1 2)) 3 (u15.2.2.1 3)) 4 (u15.2.2.1 4))))
theorem miX5_unregretted : MI yX5_unregretted cX5_unregretted 4 (some .int) 0 := ⟨wd1_6, wd3_67, by decide +kernel⟩
theorem mjX5_unregretted : Cond.instanceMethod yX5_unregretted ∈ wT ∧ Cond.selects yX5_unregretted.cls yX5_unregretted yX5_unregretted ∈ wT := ⟨wd3_65, wd3_66⟩
set_option maxHeartbeats 4000000 in
set_option maxRecDepth 100000 in
theorem qX5_unregretted (l : Launch) (D : va_G) (cI cZ cO : ClassId) (jhw : Nat) (jaw : Nat → Nat) (jhs : Nat) (jas : Nat → Nat) (jhr : Nat) (jar : Nat → Nat) (Sw : Bk) (Ss : Bk) (Sr : Bk) (sz : Nat) (res : Int32 × Bk) (hf : fX5_unregretted Sw Ss Sr = some res) : Met l yX5_unregretted (Cond.code yX5_unregretted cX5_unregretted 4 (some .int) :: wT) (rmF 5 123) (va_Pc [.ref jhr] (cW D (tyL cI cZ cO) (wX5_unregretted cI cZ jhw jaw jhs jas jhr jar Sw Ss Sr) sz)) (va_Qi (S := Unit) (fun r _ => r = res.1) (fun _ => qW D (tyL cI cZ cO) (va_A (wX5_unregretted cI cZ jhw jaw jhs jas jhr jar Sw Ss Sr) sz) (wX5_unregretted cI cZ jhw jaw jhs jas jhr jar Sw Ss res.2)) (va_A (wX5_unregretted cI cZ jhw jaw jhs jas jhr jar Sw Ss Sr) sz)) 0 0 (va_A (wX5_unregretted cI cZ jhw jaw jhs jas jhr jar Sw Ss Sr) sz) := by
  refine met_w (by decide) (Nat.le_of_ble_eq_true rfl) ?_
  intro p e s m below meth c hx hb hr hml ht hown hlk ls hl hsz hP hK hD0 hZ
  subst hsz
  have hD := hD0.self (sz := s.heap.size)
  generalize hAe : va_A (wX5_unregretted cI cZ jhw jaw jhs jas jhr jar Sw Ss Sr) s.heap.size = A at hD hZ ⊢
  have hA : ∀ q : Nat, s.heap.size ≤ q → A q := fun q h => by rw [← hAe]; exact Or.inr h
  have hS : va_S A s.heap s.heap [] := va_S.rf
  have hown : s.vm.findClass "EyeDrink$Trees" = some m.cls := hown
  have hl : lv_has ls 4 [(0, .ref jhr)] := hl
  have hC : CallFix p m c cX5_unregretted 4 s ([.ref jhr] : List Value).toArray wT "EyeDrink$Trees" := ⟨hx, hb, hml, hown, ht⟩
  unfold fX5_unregretted at hf
  suffices hgo : ∀ (H : Heap) (locs : List Loc), va_P D vwCl (wX5_unregretted cI cZ jhw jaw jhs jas jhr jar Sw Ss Sr) H → va_S A s.heap H locs → W p l e (rmF 5 123) s m ([.ref jhr] : List Value).toArray below meth c H locs 0 0 (MQ below (va_Qi (S := Unit) (fun r _ => r = res.1) (fun _ => qW D (tyL cI cZ cO) A (wX5_unregretted cI cZ jhw jaw jhs jas jhr jar Sw Ss res.2)) A) ([.ref jhr] : List Value).toArray s 0 0 A) (F0 m 0 ls []) from hgo s.heap [] hP hS
  have hj62 : ∀ (x1 : Int32) (x2 : Int32) (x3 : Int32) (Sr : Bk), lk4 (sX5_unregretted_62 Sw Ss) 1000 x1 x2 x3 Sr = some res → ∀ (H : Heap) (locs : List Loc) (ls : Array Slot), va_P D vwCl (wX5_unregretted cI cZ jhw jaw jhs jas jhr jar Sw Ss Sr) H → va_D A (wX5_unregretted cI cZ jhw jaw jhs jas jhr jar Sw Ss Sr) → va_S A s.heap H locs → lv_has ls 4 [(0, .ref jhr), (1, .int x1), (2, .int x2), (3, .int x3)] → W p l e (rmF 5 123) s m ([.ref jhr] : List Value).toArray below meth c H locs 0 0 (MQ below (va_Qi (S := Unit) (fun r _ => r = res.1) (fun _ => qW D (tyL cI cZ cO) A (wX5_unregretted cI cZ jhw jaw jhs jas jhr jar Sw Ss res.2)) A) ([.ref jhr] : List Value).toArray s 0 0 A) (F0 m 62 ls []) := by
    refine lk4_w (fun (x1 : Int32) (x2 : Int32) (x3 : Int32) (Sr : Bk) => ∀ (H : Heap) (locs : List Loc) (ls : Array Slot), va_P D vwCl (wX5_unregretted cI cZ jhw jaw jhs jas jhr jar Sw Ss Sr) H → va_D A (wX5_unregretted cI cZ jhw jaw jhs jas jhr jar Sw Ss Sr) → va_S A s.heap H locs → lv_has ls 4 [(0, .ref jhr), (1, .int x1), (2, .int x2), (3, .int x3)] → W p l e (rmF 5 123) s m ([.ref jhr] : List Value).toArray below meth c H locs 0 0 (MQ below (va_Qi (S := Unit) (fun r _ => r = res.1) (fun _ => qW D (tyL cI cZ cO) A (wX5_unregretted cI cZ jhw jaw jhs jas jhr jar Sw Ss res.2)) A) ([.ref jhr] : List Value).toArray s 0 0 A) (F0 m 62 ls [])) ?_ 1000
    intro k62 hk62 x1 x2 x3 Sr hf H locs ls hP hD hS hl
    unfold sX5_unregretted_62 at hf
    have hj105 : ∀ (x1 : Int32) (x2 : Int32) (x3 : Int32) (Sr : Bk), gX5_unregretted_105 Sw Ss k62 x1 x2 x3 Sr = some res → ∀ (H : Heap) (locs : List Loc) (ls : Array Slot), va_P D vwCl (wX5_unregretted cI cZ jhw jaw jhs jas jhr jar Sw Ss Sr) H → va_D A (wX5_unregretted cI cZ jhw jaw jhs jas jhr jar Sw Ss Sr) → va_S A s.heap H locs → lv_has ls 4 [(0, .ref jhr), (1, .int x1), (2, .int x2), (3, .int x3)] → W p l e (rmF 5 123) s m ([.ref jhr] : List Value).toArray below meth c H locs 0 0 (MQ below (va_Qi (S := Unit) (fun r _ => r = res.1) (fun _ => qW D (tyL cI cZ cO) A (wX5_unregretted cI cZ jhw jaw jhs jas jhr jar Sw Ss res.2)) A) ([.ref jhr] : List Value).toArray s 0 0 A) (F0 m 105 ls []) := by
      intro x1 x2 x3 Sr hf H locs ls hP hD hS hl
      unfold gX5_unregretted_105 at hf
      refine lv_iinc (v := (x3 + (1 : Int32))) (lv' := [(3, .int (x3 + (1 : Int32))), (0, .ref jhr), (1, .int x1), (2, .int x2)]) hx hb dX5_unregretted_105 hl (k := 3) rfl rfl (by decide) rfl (fun ls hl => ?_)
      refine lv_goto (tgt := 62) hx hb dX5_unregretted_108 (by decide) ?_
      exact hk62 x1 x2 (x3 + (1 : Int32)) Sr hf _ _ _ hP hD hS (lv_sub hl [1, 2, 3, 0] rfl)
    refine lv_iload_n hx hb dX5_unregretted_62 rfl (lv_at hl 3 rfl) ?_
    refine lv_aload_n hx hb dX5_unregretted_63 rfl (lv_at hl 0 rfl) ?_
    refine va_get (D := D) (ci := 4) (v := .ref jhw) (C := RX5) (T := TX5) (N := 9) hx hb ht inX5 hown hK hP 14 rfl rfl 0 (by decide) (ht _ wd1_190) (fun _ h9 => h9) rfl dX5_unregretted_64 ?_
    refine va_get (D := D) (ci := 5) (v := .int (Sw.1 1)) (C := RX6) (T := TX6) (N := 15) hx hb ht inX6 hown hK hP 0 rfl rfl 4 (by decide) (ht _ wd1_58) (fun _ h9 => h9) rfl dX5_unregretted_67 ?_
    refine lv_icmp_ge (tgt := 111) hx hb dX5_unregretted_70 (by decide) (fun c1 => ?_) (fun c1 => ?_)
    · have hf := itP c1 hf
      refine lv_iload_n hx hb dX5_unregretted_111 rfl (lv_at hl 2 rfl) ?_
      cases hf
      exact W.iret hx hb hr (fun t ht9 hW => ⟨⟨_, (), rfl, rfl, by rw [ht9]; exact hP, va_K.moved hW.alike hK, hD⟩, hS.F ht9⟩) hS.2.2 dX5_unregretted_112
    · have hf := itN c1 hf
      refine lv_iload_n hx hb dX5_unregretted_73 rfl (lv_at hl 1 rfl) ?_
      refine lv_iload_n hx hb dX5_unregretted_74 rfl (lv_at hl 3 rfl) ?_
      refine lv_ishr hx hb dX5_unregretted_75 ?_
      refine lv_iconst (v := (1 : Int32)) hx hb dX5_unregretted_76 rfl ?_
      refine lv_iand hx hb dX5_unregretted_77 ?_
      refine lv_iconst (v := (1 : Int32)) hx hb dX5_unregretted_78 rfl ?_
      refine lv_icmp_ne (tgt := 105) hx hb dX5_unregretted_79 (by decide) (fun c2 => ?_) (fun c2 => ?_)
      · have hf := itN c2 hf
        exact hj105 x1 x2 x3 Sr hf _ _ _ hP hD hS (lv_sub hl [0, 1, 2, 3] rfl)
      · have hf := itP c2 hf
        refine lv_aload_n hx hb dX5_unregretted_82 rfl (lv_at hl 0 rfl) ?_
        refine lv_iconst (v := (0 : Int32)) hx hb dX5_unregretted_83 rfl ?_
        refine lv_iconst (v := (1 : Int32)) hx hb dX5_unregretted_84 rfl ?_
        refine lv_iload_n hx hb dX5_unregretted_85 rfl (lv_at hl 3 rfl) ?_
        refine lv_ishl hx hb dX5_unregretted_86 ?_
        obtain ⟨u3, e4, hf⟩ := bdS hf
        refine k_wVi (ws' := (wX5_unregretted cI cZ jhw jaw jhs jas jhr jar Sw Ss (bA (bA (bA (bO Sr u3.2) 2 (u3.2.2.1 2)) 3 (u3.2.2.1 3)) 4 (u3.2.2.1 4)))) (wr := [(jar 5, .inl (cI, 4, .inl ((bA (bA (bA (bO Sr u3.2) 2 (u3.2.2.1 2)) 3 (u3.2.2.1 3)) 4 (u3.2.2.1 4)).2.1 5)))]) (As := [.int (0 : Int32), .int ((1 : Int32) <<< (x3 &&& 31))]) (rest := []) hC miX5_grow mjX5_grow.1 mjX5_grow.2 wd3_69 (qX5_grow l D cI cZ cO jhw jaw jhs jas jhr jar Sw Ss Sr (0 : Int32) ((1 : Int32) <<< (x3 &&& 31)) H.size u3 e4) ⟨Nat.le_of_ble_eq_true rfl, Nat.le_of_ble_eq_true rfl⟩ hP hD hK hZ hS hA [0, 1, 2, 3, 4, 5, 6, 7, 8, 9, 10, 11, 12, 13, 14, 15, 16, 17] [18] [1, 2, 3, 4, 5, 6, 7, 8, 9, 10, 11, 12, 13, 14, 15, 16, 17, 18, 0] rfl (by decide) rfl (by decide) (by decide) (by decide) rfl (va_recv hK hP (ci := 4) (q0 := 14) rfl rfl) hl.1 rfl rfl (Nat.le_of_ble_eq_true rfl) dX5_unregretted_87 (fun H locs hP hD hS => ?_)
        refine lv_aload_n hx hb dX5_unregretted_90 rfl (lv_at hl 0 rfl) ?_
        refine va_get (D := D) (ci := 4) (v := .ref (jar 5)) (C := RX5) (T := TX5) (N := 9) hx hb ht inX5 hown hK hP 14 rfl rfl 5 (by decide) (ht _ wd1_195) (fun _ h9 => h9) rfl dX5_unregretted_91 ?_
        refine lv_iload_n hx hb dX5_unregretted_94 rfl (lv_at hl 3 rfl) ?_
        obtain ⟨h5, hf⟩ := inB_s hf
        refine va_iald (f := (Sr.2.1 5)) (n := 4) hx hb hK hP 18 0 rfl rfl h5 dX5_unregretted_95 ?_
        refine lv_icmp_gt (tgt := 105) hx hb dX5_unregretted_96 (by decide) (fun c6 => ?_) (fun c6 => ?_)
        · have hf := itP c6 hf
          exact hj105 x1 x2 x3 (bA (bA (bA (bO Sr u3.2) 2 (u3.2.2.1 2)) 3 (u3.2.2.1 3)) 4 (u3.2.2.1 4)) hf _ _ _ hP hD hS (lv_sub hl [0, 1, 2, 3] rfl)
        · have hf := itN c6 hf
          refine lv_iload_n hx hb dX5_unregretted_99 rfl (lv_at hl 2 rfl) ?_
          refine lv_iconst (v := (1 : Int32)) hx hb dX5_unregretted_100 rfl ?_
          refine lv_iload_n hx hb dX5_unregretted_101 rfl (lv_at hl 3 rfl) ?_
          refine lv_ishl hx hb dX5_unregretted_102 ?_
          refine lv_ior hx hb dX5_unregretted_103 ?_
          refine lv_istore_n (lv' := [(2, .int (x2 ||| ((1 : Int32) <<< (x3 &&& 31)))), (0, .ref jhr), (1, .int x1), (3, .int x3)]) hx hb dX5_unregretted_104 rfl hl (by decide) rfl (fun ls hl => ?_)
          exact hj105 x1 (x2 ||| ((1 : Int32) <<< (x3 &&& 31))) x3 (bA (bA (bA (bO Sr u3.2) 2 (u3.2.2.1 2)) 3 (u3.2.2.1 3)) 4 (u3.2.2.1 4)) hf _ _ _ hP hD hS (lv_sub hl [1, 2, 0, 3] rfl)
  have hj17 : ∀ (x1 : Int32) (x2 : Int32) (Sr : Bk), lk3 (sX5_unregretted_17 Sw Ss) 1000 x1 x2 Sr = some res → ∀ (H : Heap) (locs : List Loc) (ls : Array Slot), va_P D vwCl (wX5_unregretted cI cZ jhw jaw jhs jas jhr jar Sw Ss Sr) H → va_D A (wX5_unregretted cI cZ jhw jaw jhs jas jhr jar Sw Ss Sr) → va_S A s.heap H locs → lv_has ls 4 [(0, .ref jhr), (1, .int x1), (2, .int x2)] → W p l e (rmF 5 123) s m ([.ref jhr] : List Value).toArray below meth c H locs 0 0 (MQ below (va_Qi (S := Unit) (fun r _ => r = res.1) (fun _ => qW D (tyL cI cZ cO) A (wX5_unregretted cI cZ jhw jaw jhs jas jhr jar Sw Ss res.2)) A) ([.ref jhr] : List Value).toArray s 0 0 A) (F0 m 17 ls []) := by
    refine lk3_w (fun (x1 : Int32) (x2 : Int32) (Sr : Bk) => ∀ (H : Heap) (locs : List Loc) (ls : Array Slot), va_P D vwCl (wX5_unregretted cI cZ jhw jaw jhs jas jhr jar Sw Ss Sr) H → va_D A (wX5_unregretted cI cZ jhw jaw jhs jas jhr jar Sw Ss Sr) → va_S A s.heap H locs → lv_has ls 4 [(0, .ref jhr), (1, .int x1), (2, .int x2)] → W p l e (rmF 5 123) s m ([.ref jhr] : List Value).toArray below meth c H locs 0 0 (MQ below (va_Qi (S := Unit) (fun r _ => r = res.1) (fun _ => qW D (tyL cI cZ cO) A (wX5_unregretted cI cZ jhw jaw jhs jas jhr jar Sw Ss res.2)) A) ([.ref jhr] : List Value).toArray s 0 0 A) (F0 m 17 ls [])) ?_ 1000
    intro k17 hk17 x1 x2 Sr hf H locs ls hP hD hS hl
    unfold sX5_unregretted_17 at hf
    have hj51 : ∀ (x1 : Int32) (x2 : Int32) (Sr : Bk) (y1 : Int32) (y2 : Int32), gX5_unregretted_51 Sw Ss k17 x1 x2 Sr y1 y2 = some res → ∀ (H : Heap) (locs : List Loc) (ls : Array Slot), va_P D vwCl (wX5_unregretted cI cZ jhw jaw jhs jas jhr jar Sw Ss Sr) H → va_D A (wX5_unregretted cI cZ jhw jaw jhs jas jhr jar Sw Ss Sr) → va_S A s.heap H locs → lv_has ls 4 [(0, .ref jhr), (1, .int x1), (2, .int x2)] → W p l e (rmF 5 123) s m ([.ref jhr] : List Value).toArray below meth c H locs 0 0 (MQ below (va_Qi (S := Unit) (fun r _ => r = res.1) (fun _ => qW D (tyL cI cZ cO) A (wX5_unregretted cI cZ jhw jaw jhs jas jhr jar Sw Ss res.2)) A) ([.ref jhr] : List Value).toArray s 0 0 A) (F0 m 51 ls [.int y2, .int y1, .ref (jar 5)]) := by
      intro x1 x2 Sr y1 y2 hf H locs ls hP hD hS hl
      unfold gX5_unregretted_51 at hf
      obtain ⟨h7, hf⟩ := inB_s hf
      obtain ⟨j8, ej8, hf⟩ := nmV_s hf
      refine va_iast (f := (Sr.2.1 5)) (n := 4) hx hb hK hP hD hS 18 0 rfl rfl h7 dX5_unregretted_51 (fun H locs hP hD hS => ?_)
      rw [← ej8] at hP hD
      have hP : va_P D vwCl (wX5_unregretted cI cZ jhw jaw jhs jas jhr jar Sw Ss (bW Sr 5 j8 y2)) H := hP
      have hD : va_D A (wX5_unregretted cI cZ jhw jaw jhs jas jhr jar Sw Ss (bW Sr 5 j8 y2)) := hD
      refine lv_iinc (v := (x2 + (1 : Int32))) (lv' := [(2, .int (x2 + (1 : Int32))), (0, .ref jhr), (1, .int x1)]) hx hb dX5_unregretted_52 hl (k := 2) rfl rfl (by decide) rfl (fun ls hl => ?_)
      refine lv_goto (tgt := 17) hx hb dX5_unregretted_55 (by decide) ?_
      exact hk17 x1 (x2 + (1 : Int32)) (bW Sr 5 j8 y2) hf _ _ _ hP hD hS (lv_sub hl [1, 2, 0] rfl)
    refine lv_iload_n hx hb dX5_unregretted_17 rfl (lv_at hl 2 rfl) ?_
    refine lv_aload_n hx hb dX5_unregretted_18 rfl (lv_at hl 0 rfl) ?_
    refine va_get (D := D) (ci := 4) (v := .ref jhw) (C := RX5) (T := TX5) (N := 9) hx hb ht inX5 hown hK hP 14 rfl rfl 0 (by decide) (ht _ wd1_190) (fun _ h9 => h9) rfl dX5_unregretted_19 ?_
    refine va_get (D := D) (ci := 5) (v := .int (Sw.1 1)) (C := RX6) (T := TX6) (N := 15) hx hb ht inX6 hown hK hP 0 rfl rfl 4 (by decide) (ht _ wd1_58) (fun _ h9 => h9) rfl dX5_unregretted_22 ?_
    refine lv_icmp_ge (tgt := 58) hx hb dX5_unregretted_25 (by decide) (fun c9 => ?_) (fun c9 => ?_)
    · have hf := itP c9 hf
      refine lv_iconst (v := (0 : Int32)) hx hb dX5_unregretted_58 rfl ?_
      refine lv_istore_n (lv' := [(2, .int (0 : Int32)), (0, .ref jhr), (1, .int x1)]) hx hb dX5_unregretted_59 rfl hl (by decide) rfl (fun ls hl => ?_)
      refine lv_iconst (v := (0 : Int32)) hx hb dX5_unregretted_60 rfl ?_
      refine lv_istore_n (lv' := [(3, .int (0 : Int32)), (2, .int (0 : Int32)), (0, .ref jhr), (1, .int x1)]) hx hb dX5_unregretted_61 rfl hl (by decide) rfl (fun ls hl => ?_)
      exact hj62 x1 (0 : Int32) (0 : Int32) Sr hf _ _ _ hP hD hS (lv_sub hl [2, 3, 1, 0] rfl)
    · have hf := itN c9 hf
      refine lv_aload_n hx hb dX5_unregretted_28 rfl (lv_at hl 0 rfl) ?_
      refine va_get (D := D) (ci := 4) (v := .ref (jar 5)) (C := RX5) (T := TX5) (N := 9) hx hb ht inX5 hown hK hP 14 rfl rfl 5 (by decide) (ht _ wd1_195) (fun _ h9 => h9) rfl dX5_unregretted_29 ?_
      refine lv_iload_n hx hb dX5_unregretted_32 rfl (lv_at hl 2 rfl) ?_
      refine lv_iload_n hx hb dX5_unregretted_33 rfl (lv_at hl 1 rfl) ?_
      refine lv_iload_n hx hb dX5_unregretted_34 rfl (lv_at hl 2 rfl) ?_
      refine lv_ishr hx hb dX5_unregretted_35 ?_
      refine lv_iconst (v := (1 : Int32)) hx hb dX5_unregretted_36 rfl ?_
      refine lv_iand hx hb dX5_unregretted_37 ?_
      refine lv_iconst (v := (1 : Int32)) hx hb dX5_unregretted_38 rfl ?_
      refine lv_icmp_ne (tgt := 50) hx hb dX5_unregretted_39 (by decide) (fun c10 => ?_) (fun c10 => ?_)
      · have hf := itN c10 hf
        refine lv_iconst (v := (0 : Int32)) hx hb dX5_unregretted_50 rfl ?_
        exact hj51 x1 x2 Sr x2 (0 : Int32) hf _ _ _ hP hD hS (lv_sub hl [0, 1, 2] rfl)
      · have hf := itP c10 hf
        refine lv_aload_n hx hb dX5_unregretted_42 rfl (lv_at hl 0 rfl) ?_
        refine lv_iload_n hx hb dX5_unregretted_43 rfl (lv_at hl 2 rfl) ?_
        obtain ⟨u11, e12, hf⟩ := bdS hf
        refine k_rV (As := [.int x2]) (rest := [.int x2, .ref (jar 5)]) hC miX5_behindNow mjX5_behindNow.1 mjX5_behindNow.2 wd3_45 (qX5_behindNow l D cI cZ cO jhw jaw jhs jas jhr jar Sw Ss Sr x2 u11 e12) ⟨Nat.le_of_ble_eq_true rfl, Nat.le_of_ble_eq_true rfl⟩ (hP.sub [0, 6, 12, 14, 15] rfl) hK hZ hS (va_recv hK hP (ci := 4) (q0 := 14) rfl rfl) hl.1 rfl rfl (Nat.le_of_ble_eq_true rfl) dX5_unregretted_44 ?_
        refine lv_goto (tgt := 51) hx hb dX5_unregretted_47 (by decide) ?_
        exact hj51 x1 x2 Sr x2 u11 hf _ _ _ hP hD hS (lv_sub hl [0, 1, 2] rfl)
  intro H locs hP hS
  refine lv_aload_n hx hb dX5_unregretted_0 rfl (lv_at hl 0 rfl) ?_
  refine va_get (D := D) (ci := 4) (v := .ref jhs) (C := RX5) (T := TX5) (N := 9) hx hb ht inX5 hown hK hP 14 rfl rfl 1 (by decide) (ht _ wd1_191) (fun _ h9 => h9) rfl dX5_unregretted_1 ?_
  obtain ⟨u13, e14, hf⟩ := bdS hf
  refine k_rV (As := []) (rest := []) hC miX3_drinkable mjX3_drinkable.1 mjX3_drinkable.2 wd3_68 (qX3_drinkable l D cI cZ cO jhw jaw jhs jas Sw Ss u13 e14) ⟨Nat.le_of_ble_eq_true rfl, Nat.le_of_ble_eq_true rfl⟩ (hP.sub [0, 4, 5, 12, 13] rfl) hK hZ hS (va_recv hK hP (ci := 2) (q0 := 12) rfl rfl) hl.1 rfl rfl (Nat.le_of_ble_eq_true rfl) dX5_unregretted_4 ?_
  refine lv_istore_n (lv' := [(1, .int u13), (0, .ref jhr)]) hx hb dX5_unregretted_7 rfl hl (by decide) rfl (fun ls hl => ?_)
  refine lv_aload_n hx hb dX5_unregretted_8 rfl (lv_at hl 1 rfl) ?_
  refine lv_iconst (v := (0 : Int32)) hx hb dX5_unregretted_9 rfl ?_
  refine lv_iconst (v := (0 : Int32)) hx hb dX5_unregretted_10 rfl ?_
  obtain ⟨u15, e16, hf⟩ := bdS hf
  refine k_wVi (ws' := (wX5_unregretted cI cZ jhw jaw jhs jas jhr jar Sw Ss (bA (bA (bA (bO Sr u15.2) 2 (u15.2.2.1 2)) 3 (u15.2.2.1 3)) 4 (u15.2.2.1 4)))) (wr := [(jar 5, .inl (cI, 4, .inl ((bA (bA (bA (bO Sr u15.2) 2 (u15.2.2.1 2)) 3 (u15.2.2.1 3)) 4 (u15.2.2.1 4)).2.1 5)))]) (As := [.int (0 : Int32), .int (0 : Int32)]) (rest := []) hC miX5_grow mjX5_grow.1 mjX5_grow.2 wd3_69 (qX5_grow l D cI cZ cO jhw jaw jhs jas jhr jar Sw Ss Sr (0 : Int32) (0 : Int32) H.size u15 e16) ⟨Nat.le_of_ble_eq_true rfl, Nat.le_of_ble_eq_true rfl⟩ hP hD hK hZ hS hA [0, 1, 2, 3, 4, 5, 6, 7, 8, 9, 10, 11, 12, 13, 14, 15, 16, 17] [18] [1, 2, 3, 4, 5, 6, 7, 8, 9, 10, 11, 12, 13, 14, 15, 16, 17, 18, 0] rfl (by decide) rfl (by decide) (by decide) (by decide) rfl (va_recv hK hP (ci := 4) (q0 := 14) rfl rfl) hl.1 rfl rfl (Nat.le_of_ble_eq_true rfl) dX5_unregretted_11 (fun H locs hP hD hS => ?_)
  refine lv_pop hx hb dX5_unregretted_14 rfl ?_
  refine lv_iconst (v := (0 : Int32)) hx hb dX5_unregretted_15 rfl ?_
  refine lv_istore_n (lv' := [(2, .int (0 : Int32)), (1, .int u13), (0, .ref jhr)]) hx hb dX5_unregretted_16 rfl hl (by decide) rfl (fun ls hl => ?_)
  exact hj17 u13 (0 : Int32) (bA (bA (bA (bO Sr u15.2) 2 (u15.2.2.1 2)) 3 (u15.2.2.1 3)) 4 (u15.2.2.1 4)) hf _ _ _ hP hD hS (lv_sub hl [2, 1, 0] rfl)
