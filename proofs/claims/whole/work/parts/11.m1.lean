def fX8_in (x0 : Int64) (x2 : Int64) (x4 : Int64) : Option (Int32) := (if (lg_cmp x0 x2) < 0 then some (0 : Int32) else (if 0 < (lg_cmp x0 x4) then some (0 : Int32) else some (1 : Int32)))
theorem miX8_in : MI yX8_in cX8_in 6 (some .boolean) 3 := ⟨wd1_8, wd4_46, by decide +kernel⟩
theorem mjX8_in : Cond.static yX8_in ∈ wT := wd4_45
set_option maxHeartbeats 4000000 in
set_option maxRecDepth 100000 in
theorem qX8_in (l : Launch) (x0 : Int64) (x2 : Int64) (x4 : Int64) (res : Int32) (hf : fX8_in x0 x2 x4 = some res) : Met l yX8_in (Cond.code yX8_in cX8_in 6 (some .boolean) :: wT) (rmF 0 0) (va_Pc [.long x0, .long x2, .long x4] (fun _ => True)) (vp_Si (fun r => r = res)) 0 0 (fun _ => False) := by
  refine met_p (by decide) (Nat.le_of_ble_eq_true rfl) ?_
  intro p e s m below meth c hx hb hr hml ht hown hlk ls hl
  have hown : s.vm.findClass "EyeDrinkModel" = some m.cls := hown
  have hl : lv_has ls 6 [(0, .long x0), (2, .long x2), (4, .long x4)] := hl
  unfold fX8_in at hf
  refine lv_lload_n hx hb dX8_in_0 rfl (lv_at hl 0 rfl) ?_
  refine lv_lload_n hx hb dX8_in_1 rfl (lv_at hl 1 rfl) ?_
  refine W.lcmp hx hb dX8_in_2 ?_
  refine lv_if_lt (tgt := 17) hx hb dX8_in_3 (by decide) (fun c1 => ?_) (fun c1 => ?_)
  · have hf := itP c1 hf
    refine lv_iconst (v := (0 : Int32)) hx hb dX8_in_17 rfl ?_
    exact W.zret hx hb hr rfl (fun t ht9 _ => ⟨_, rfl, Option.some.inj hf, ht9⟩) (fun _ h9 => by cases h9) dX8_in_18
  · have hf := itN c1 hf
    refine lv_lload_n hx hb dX8_in_6 rfl (lv_at hl 0 rfl) ?_
    refine lv_lload hx hb dX8_in_7 (lv_at hl 2 rfl) ?_
    refine W.lcmp hx hb dX8_in_9 ?_
    refine lv_if_gt (tgt := 17) hx hb dX8_in_10 (by decide) (fun c2 => ?_) (fun c2 => ?_)
    · have hf := itP c2 hf
      refine lv_iconst (v := (0 : Int32)) hx hb dX8_in_17 rfl ?_
      exact W.zret hx hb hr rfl (fun t ht9 _ => ⟨_, rfl, Option.some.inj hf, ht9⟩) (fun _ h9 => by cases h9) dX8_in_18
    · have hf := itN c2 hf
      refine lv_iconst (v := (1 : Int32)) hx hb dX8_in_13 rfl ?_
      refine lv_goto (tgt := 18) hx hb dX8_in_14 (by decide) ?_
      exact W.zret hx hb hr rfl (fun t ht9 _ => ⟨_, rfl, Option.some.inj hf, ht9⟩) (fun _ h9 => by cases h9) dX8_in_18
def fX8_has (x0 : Int32) (x1 : Int32) : Option (Int32) := (if ((x0 >>> (x1 &&& 31)) &&& (1 : Int32)) = (1 : Int32) then some (1 : Int32) else some (0 : Int32))
theorem miX8_has : MI yX8_has cX8_has 2 (some .boolean) 2 := ⟨wd1_8, wd4_110, by decide +kernel⟩
theorem mjX8_has : Cond.static yX8_has ∈ wT := wd4_109
set_option maxHeartbeats 4000000 in
set_option maxRecDepth 100000 in
theorem qX8_has (l : Launch) (x0 : Int32) (x1 : Int32) (res : Int32) (hf : fX8_has x0 x1 = some res) : Met l yX8_has (Cond.code yX8_has cX8_has 2 (some .boolean) :: wT) (rmF 0 0) (va_Pc [.int x0, .int x1] (fun _ => True)) (vp_Si (fun r => r = res)) 0 0 (fun _ => False) := by
  refine met_p (by decide) (Nat.le_of_ble_eq_true rfl) ?_
  intro p e s m below meth c hx hb hr hml ht hown hlk ls hl
  have hown : s.vm.findClass "EyeDrinkModel" = some m.cls := hown
  have hl : lv_has ls 2 [(0, .int x0), (1, .int x1)] := hl
  unfold fX8_has at hf
  refine lv_iload_n hx hb dX8_has_0 rfl (lv_at hl 0 rfl) ?_
  refine lv_iload_n hx hb dX8_has_1 rfl (lv_at hl 1 rfl) ?_
  refine lv_ishr hx hb dX8_has_2 ?_
  refine lv_iconst (v := (1 : Int32)) hx hb dX8_has_3 rfl ?_
  refine lv_iand hx hb dX8_has_4 ?_
  refine lv_iconst (v := (1 : Int32)) hx hb dX8_has_5 rfl ?_
  refine lv_icmp_ne (tgt := 13) hx hb dX8_has_6 (by decide) (fun c1 => ?_) (fun c1 => ?_)
  · have hf := itN c1 hf
    refine lv_iconst (v := (0 : Int32)) hx hb dX8_has_13 rfl ?_
    exact W.zret hx hb hr rfl (fun t ht9 _ => ⟨_, rfl, Option.some.inj hf, ht9⟩) (fun _ h9 => by cases h9) dX8_has_14
  · have hf := itP c1 hf
    refine lv_iconst (v := (1 : Int32)) hx hb dX8_has_9 rfl ?_
    refine lv_goto (tgt := 14) hx hb dX8_has_10 (by decide) ?_
    exact W.zret hx hb hr rfl (fun t ht9 _ => ⟨_, rfl, Option.some.inj hf, ht9⟩) (fun _ h9 => by cases h9) dX8_has_14
def sX8_many_4 (x0 : Int32) (k4 : Int32 → Int32 → Option (Int32)) (x1 : Int32) (x2 : Int32) : Option (Int32) := (if (4 : Int32) ≤ x2 then some x1 else k4 (x1 + ((x0 >>> (x2 &&& 31)) &&& (1 : Int32))) (x2 + (1 : Int32)))
def fX8_many (x0 : Int32) : Option (Int32) := lk2 (sX8_many_4 x0) 1000 (0 : Int32) (0 : Int32)
theorem miX8_many : MI yX8_many cX8_many 3 (some .int) 1 := ⟨wd1_8, wd4_200, by decide +kernel⟩
theorem mjX8_many : Cond.static yX8_many ∈ wT := wd4_199
set_option maxHeartbeats 4000000 in
set_option maxRecDepth 100000 in
theorem qX8_many (l : Launch) (x0 : Int32) (res : Int32) (hf : fX8_many x0 = some res) : Met l yX8_many (Cond.code yX8_many cX8_many 3 (some .int) :: wT) (rmF 0 0) (va_Pc [.int x0] (fun _ => True)) (vp_Si (fun r => r = res)) 0 0 (fun _ => False) := by
  refine met_p (by decide) (Nat.le_of_ble_eq_true rfl) ?_
  intro p e s m below meth c hx hb hr hml ht hown hlk ls hl
  have hown : s.vm.findClass "EyeDrinkModel" = some m.cls := hown
  have hl : lv_has ls 3 [(0, .int x0)] := hl
  unfold fX8_many at hf
  have hj4 : ∀ (x1 : Int32) (x2 : Int32), lk2 (sX8_many_4 x0) 1000 x1 x2 = some res → ∀ (ls : Array Slot), lv_has ls 3 [(0, .int x0), (1, .int x1), (2, .int x2)] → W p l e (rmF 0 0) s m ([.int x0] : List Value).toArray below meth c s.heap [] 0 0 (MQ below (vp_Si (fun r => r = res)) ([.int x0] : List Value).toArray s 0 0 (fun _ => False)) (F0 m 4 ls []) := by
    refine lk2_w (fun (x1 : Int32) (x2 : Int32) => ∀ (ls : Array Slot), lv_has ls 3 [(0, .int x0), (1, .int x1), (2, .int x2)] → W p l e (rmF 0 0) s m ([.int x0] : List Value).toArray below meth c s.heap [] 0 0 (MQ below (vp_Si (fun r => r = res)) ([.int x0] : List Value).toArray s 0 0 (fun _ => False)) (F0 m 4 ls [])) ?_ 1000
    intro k4 hk4 x1 x2 hf ls hl
    unfold sX8_many_4 at hf
    refine lv_iload_n hx hb dX8_many_4 rfl (lv_at hl 2 rfl) ?_
    refine lv_iconst (v := (4 : Int32)) hx hb dX8_many_5 rfl ?_
    refine lv_icmp_ge (tgt := 23) hx hb dX8_many_6 (by decide) (fun c1 => ?_) (fun c1 => ?_)
    · have hf := itP c1 hf
      refine lv_iload_n hx hb dX8_many_23 rfl (lv_at hl 1 rfl) ?_
      exact W.iret hx hb hr (fun t ht9 _ => ⟨_, rfl, Option.some.inj hf, ht9⟩) (fun _ h9 => by cases h9) dX8_many_24
    · have hf := itN c1 hf
      refine lv_iload_n hx hb dX8_many_9 rfl (lv_at hl 1 rfl) ?_
      refine lv_iload_n hx hb dX8_many_10 rfl (lv_at hl 0 rfl) ?_
      refine lv_iload_n hx hb dX8_many_11 rfl (lv_at hl 2 rfl) ?_
      refine lv_ishr hx hb dX8_many_12 ?_
      refine lv_iconst (v := (1 : Int32)) hx hb dX8_many_13 rfl ?_
      refine lv_iand hx hb dX8_many_14 ?_
      refine lv_iadd hx hb dX8_many_15 ?_
      refine lv_istore_n (lv' := [(1, .int (x1 + ((x0 >>> (x2 &&& 31)) &&& (1 : Int32)))), (0, .int x0), (2, .int x2)]) hx hb dX8_many_16 rfl hl (by decide) rfl (fun ls hl => ?_)
      refine lv_iinc (v := (x2 + (1 : Int32))) (lv' := [(2, .int (x2 + (1 : Int32))), (1, .int (x1 + ((x0 >>> (x2 &&& 31)) &&& (1 : Int32)))), (0, .int x0)]) hx hb dX8_many_17 hl (k := 2) rfl rfl (by decide) rfl (fun ls hl => ?_)
      refine lv_goto (tgt := 4) hx hb dX8_many_20 (by decide) ?_
      exact hk4 (x1 + ((x0 >>> (x2 &&& 31)) &&& (1 : Int32))) (x2 + (1 : Int32)) hf _ (lv_sub hl [2, 1, 0] rfl)
  refine lv_iconst (v := (0 : Int32)) hx hb dX8_many_0 rfl ?_
  refine lv_istore_n (lv' := [(1, .int (0 : Int32)), (0, .int x0)]) hx hb dX8_many_1 rfl hl (by decide) rfl (fun ls hl => ?_)
  refine lv_iconst (v := (0 : Int32)) hx hb dX8_many_2 rfl ?_
  refine lv_istore_n (lv' := [(2, .int (0 : Int32)), (1, .int (0 : Int32)), (0, .int x0)]) hx hb dX8_many_3 rfl hl (by decide) rfl (fun ls hl => ?_)
  exact hj4 (0 : Int32) (0 : Int32) hf _ (lv_sub hl [2, 1, 0] rfl)
abbrev wX8_noQuestion (cI cZ : ClassId) (jhm : Nat) (jam : Nat → Nat) (Sm : Bk) : va_W := [(jhm, .inr (7, [.int (Sm.1 0), .ref (jam 0), .int (Sm.1 1), .int (Sm.1 2), .int (Sm.1 3), .int (Sm.1 4), .int (Sm.1 5), .ref (jam 1), .ref (jam 2), .ref (jam 3), .int (Sm.1 6), .int (Sm.1 7), .int (Sm.1 8), .ref (jam 4), .ref (jam 5), .ref (jam 6), .ref (jam 7), .ref (jam 8), .ref (jam 9), .int (Sm.1 9), .ref (jam 10), .ref (jam 11), .int (Sm.1 10), .ref (jam 12), .ref (jam 13), .long Sm.2.2, .ref (jam 14), .ref (jam 15), .int (Sm.1 11), .int (Sm.1 12), .int (Sm.1 13)]))]
def fX8_noQuestion (Sm : Bk) (x1 : Int32) : Option (Int32) := (fX8_in x1.toInt64 (0 : Int64) (((Sm.1 4) - (1 : Int32)).toInt64)).bind (fun u1 => (if u1 = 0 then some (1 : Int32) else some (0 : Int32)))
theorem miX8_noQuestion : MI yX8_noQuestion cX8_noQuestion 2 (some .boolean) 1 := ⟨wd1_8, wd4_107, by decide +kernel⟩
theorem mjX8_noQuestion : Cond.instanceMethod yX8_noQuestion ∈ wT ∧ Cond.selects yX8_noQuestion.cls yX8_noQuestion yX8_noQuestion ∈ wT := ⟨wd4_106, ws_21⟩
set_option maxHeartbeats 4000000 in
set_option maxRecDepth 100000 in
theorem qX8_noQuestion (l : Launch) (D : va_G) (cI cZ cO : ClassId) (jhm : Nat) (jam : Nat → Nat) (Sm : Bk) (x1 : Int32) (res : Int32) (hf : fX8_noQuestion Sm x1 = some res) : Met l yX8_noQuestion (Cond.code yX8_noQuestion cX8_noQuestion 2 (some .boolean) :: wT) (rmF 1 25) (va_Pc [.ref jhm, .int x1] (cR D (tyL cI cZ cO) (wX8_noQuestion cI cZ jhm jam Sm))) (vp_Si (fun r => r = res)) 0 0 (fun _ => False) := by
  refine met_r (by decide) (Nat.le_of_ble_eq_true rfl) ?_
  intro p e s m below meth c hx hb hr hml ht hown hlk ls hl hP hK hZ
  have hS : va_S (fun _ => False) s.heap s.heap [] := va_S.rf
  have hown : s.vm.findClass "EyeDrinkModel" = some m.cls := hown
  have hl : lv_has ls 2 [(0, .ref jhm), (1, .int x1)] := hl
  have hC : CallFix p m c cX8_noQuestion 2 s ([.ref jhm, .int x1] : List Value).toArray wT "EyeDrinkModel" := ⟨hx, hb, hml, hown, ht⟩
  unfold fX8_noQuestion at hf
  refine lv_iload_n hx hb dX8_noQuestion_0 rfl (lv_at hl 1 rfl) ?_
  refine lv_i2l hx hb dX8_noQuestion_1 rfl ?_
  refine lv_lconst (v := 0) hx hb dX8_noQuestion_2 rfl ?_
  refine lv_aload_n hx hb dX8_noQuestion_3 rfl (lv_at hl 0 rfl) ?_
  refine va_get (D := D) (ci := 7) (v := .int (Sm.1 4)) (C := RX8) (T := TX8) (N := 31) hx hb ht inX8 hown hK hP 0 rfl rfl 5 (by decide) (ht _ wd3_190) (fun _ h9 => h9) rfl dX8_noQuestion_4 ?_
  refine lv_iconst (v := (1 : Int32)) hx hb dX8_noQuestion_7 rfl ?_
  refine lv_isub hx hb dX8_noQuestion_8 ?_
  refine lv_i2l hx hb dX8_noQuestion_9 rfl ?_
  obtain ⟨u1, e2, hf⟩ := bdS hf
  refine k_pS (As := [.long x1.toInt64, .long (0 : Int64), .long ((Sm.1 4) - (1 : Int32)).toInt64]) (rest := []) hC miX8_in mjX8_in wd4_44 (qX8_in l x1.toInt64 (0 : Int64) (((Sm.1 4) - (1 : Int32)).toInt64) u1 e2) ⟨Nat.le_of_ble_eq_true rfl, Nat.le_of_ble_eq_true rfl⟩ hl.1 rfl rfl (Nat.le_of_ble_eq_true rfl) dX8_noQuestion_10 ?_
  refine lv_if_ne (tgt := 20) hx hb dX8_noQuestion_13 (by decide) (fun c3 => ?_) (fun c3 => ?_)
  · have hf := itN c3 hf
    refine lv_iconst (v := (0 : Int32)) hx hb dX8_noQuestion_20 rfl ?_
    exact W.zret hx hb hr rfl (fun t ht9 _ => ⟨_, rfl, Option.some.inj hf, ht9⟩) (fun _ h9 => by cases h9) dX8_noQuestion_21
  · have hf := itP c3 hf
    refine lv_iconst (v := (1 : Int32)) hx hb dX8_noQuestion_16 rfl ?_
    refine lv_goto (tgt := 21) hx hb dX8_noQuestion_17 (by decide) ?_
    exact W.zret hx hb hr rfl (fun t ht9 _ => ⟨_, rfl, Option.some.inj hf, ht9⟩) (fun _ h9 => by cases h9) dX8_noQuestion_21
abbrev wX8_noDeed (cI cZ : ClassId) (jhm : Nat) (jam : Nat → Nat) (Sm : Bk) : va_W := [(jhm, .inr (7, [.int (Sm.1 0), .ref (jam 0), .int (Sm.1 1), .int (Sm.1 2), .int (Sm.1 3), .int (Sm.1 4), .int (Sm.1 5), .ref (jam 1), .ref (jam 2), .ref (jam 3), .int (Sm.1 6), .int (Sm.1 7), .int (Sm.1 8), .ref (jam 4), .ref (jam 5), .ref (jam 6), .ref (jam 7), .ref (jam 8), .ref (jam 9), .int (Sm.1 9), .ref (jam 10), .ref (jam 11), .int (Sm.1 10), .ref (jam 12), .ref (jam 13), .long Sm.2.2, .ref (jam 14), .ref (jam 15), .int (Sm.1 11), .int (Sm.1 12), .int (Sm.1 13)]))]
def fX8_noDeed (Sm : Bk) (x1 : Int32) : Option (Int32) := (fX8_in x1.toInt64 (0 : Int64) (((Sm.1 5) - (1 : Int32)).toInt64)).bind (fun u1 => (if u1 = 0 then some (1 : Int32) else some (0 : Int32)))
theorem miX8_noDeed : MI yX8_noDeed cX8_noDeed 2 (some .boolean) 1 := ⟨wd1_8, wd4_118, by decide +kernel⟩
theorem mjX8_noDeed : Cond.instanceMethod yX8_noDeed ∈ wT ∧ Cond.selects yX8_noDeed.cls yX8_noDeed yX8_noDeed ∈ wT := ⟨wd4_117, ws_22⟩
set_option maxHeartbeats 4000000 in
set_option maxRecDepth 100000 in
theorem qX8_noDeed (l : Launch) (D : va_G) (cI cZ cO : ClassId) (jhm : Nat) (jam : Nat → Nat) (Sm : Bk) (x1 : Int32) (res : Int32) (hf : fX8_noDeed Sm x1 = some res) : Met l yX8_noDeed (Cond.code yX8_noDeed cX8_noDeed 2 (some .boolean) :: wT) (rmF 1 25) (va_Pc [.ref jhm, .int x1] (cR D (tyL cI cZ cO) (wX8_noDeed cI cZ jhm jam Sm))) (vp_Si (fun r => r = res)) 0 0 (fun _ => False) := by
  refine met_r (by decide) (Nat.le_of_ble_eq_true rfl) ?_
  intro p e s m below meth c hx hb hr hml ht hown hlk ls hl hP hK hZ
  have hS : va_S (fun _ => False) s.heap s.heap [] := va_S.rf
  have hown : s.vm.findClass "EyeDrinkModel" = some m.cls := hown
  have hl : lv_has ls 2 [(0, .ref jhm), (1, .int x1)] := hl
  have hC : CallFix p m c cX8_noDeed 2 s ([.ref jhm, .int x1] : List Value).toArray wT "EyeDrinkModel" := ⟨hx, hb, hml, hown, ht⟩
  unfold fX8_noDeed at hf
  refine lv_iload_n hx hb dX8_noDeed_0 rfl (lv_at hl 1 rfl) ?_
  refine lv_i2l hx hb dX8_noDeed_1 rfl ?_
  refine lv_lconst (v := 0) hx hb dX8_noDeed_2 rfl ?_
  refine lv_aload_n hx hb dX8_noDeed_3 rfl (lv_at hl 0 rfl) ?_
  refine va_get (D := D) (ci := 7) (v := .int (Sm.1 5)) (C := RX8) (T := TX8) (N := 31) hx hb ht inX8 hown hK hP 0 rfl rfl 6 (by decide) (ht _ wd3_191) (fun _ h9 => h9) rfl dX8_noDeed_4 ?_
  refine lv_iconst (v := (1 : Int32)) hx hb dX8_noDeed_7 rfl ?_
  refine lv_isub hx hb dX8_noDeed_8 ?_
  refine lv_i2l hx hb dX8_noDeed_9 rfl ?_
  obtain ⟨u1, e2, hf⟩ := bdS hf
  refine k_pS (As := [.long x1.toInt64, .long (0 : Int64), .long ((Sm.1 5) - (1 : Int32)).toInt64]) (rest := []) hC miX8_in mjX8_in wd4_44 (qX8_in l x1.toInt64 (0 : Int64) (((Sm.1 5) - (1 : Int32)).toInt64) u1 e2) ⟨Nat.le_of_ble_eq_true rfl, Nat.le_of_ble_eq_true rfl⟩ hl.1 rfl rfl (Nat.le_of_ble_eq_true rfl) dX8_noDeed_10 ?_
  refine lv_if_ne (tgt := 20) hx hb dX8_noDeed_13 (by decide) (fun c3 => ?_) (fun c3 => ?_)
  · have hf := itN c3 hf
    refine lv_iconst (v := (0 : Int32)) hx hb dX8_noDeed_20 rfl ?_
    exact W.zret hx hb hr rfl (fun t ht9 _ => ⟨_, rfl, Option.some.inj hf, ht9⟩) (fun _ h9 => by cases h9) dX8_noDeed_21
  · have hf := itP c3 hf
    refine lv_iconst (v := (1 : Int32)) hx hb dX8_noDeed_16 rfl ?_
    refine lv_goto (tgt := 21) hx hb dX8_noDeed_17 (by decide) ?_
    exact W.zret hx hb hr rfl (fun t ht9 _ => ⟨_, rfl, Option.some.inj hf, ht9⟩) (fun _ h9 => by cases h9) dX8_noDeed_21
abbrev wX8_write (cI cZ : ClassId) (jhm : Nat) (jam : Nat → Nat) (Sm : Bk) : va_W := [(jhm, .inr (7, [.int (Sm.1 0), .ref (jam 0), .int (Sm.1 1), .int (Sm.1 2), .int (Sm.1 3), .int (Sm.1 4), .int (Sm.1 5), .ref (jam 1), .ref (jam 2), .ref (jam 3), .int (Sm.1 6), .int (Sm.1 7), .int (Sm.1 8), .ref (jam 4), .ref (jam 5), .ref (jam 6), .ref (jam 7), .ref (jam 8), .ref (jam 9), .int (Sm.1 9), .ref (jam 10), .ref (jam 11), .int (Sm.1 10), .ref (jam 12), .ref (jam 13), .long Sm.2.2, .ref (jam 14), .ref (jam 15), .int (Sm.1 11), .int (Sm.1 12), .int (Sm.1 13)])), (jam 0, .inl (cI, 64, .inl (Sm.2.1 0)))]
def fX8_write (Sm : Bk) (x1 : Int32) : Option (Int32 × Bk) := (fX8_in x1.toInt64 (0 : Int64) (255 : Int64)).bind (fun u1 => (if u1 = 0 then some ((-2 : Int32), (bI Sm 0 (0 : Int32))) else (if (Sm.1 1) = (64 : Int32) then some ((-4 : Int32), (bI Sm 0 (0 : Int32))) else inB 64 (Sm.1 1) (nmV (Sm.1 1).toNatClampNeg (fun j6 => nmV ((Sm.1 1) + (1 : Int32)) (fun v7 => some (v7, (bI (bW (bI Sm 0 (0 : Int32)) 0 j6 x1) 1 v7))))))))
theorem miX8_write : MI yX8_write cX8_write 2 (some .int) 1 := ⟨wd1_8, wd4_42, by decide +kernel⟩
theorem mjX8_write : Cond.instanceMethod yX8_write ∈ wT ∧ Cond.selects yX8_write.cls yX8_write yX8_write ∈ wT := ⟨wd4_40, wd4_41⟩
set_option maxHeartbeats 4000000 in
set_option maxRecDepth 100000 in
theorem qX8_write (l : Launch) (D : va_G) (cI cZ cO : ClassId) (jhm : Nat) (jam : Nat → Nat) (Sm : Bk) (x1 : Int32) (sz : Nat) (res : Int32 × Bk) (hf : fX8_write Sm x1 = some res) : Met l yX8_write (Cond.code yX8_write cX8_write 2 (some .int) :: wT) (rmF 1 25) (va_Pc [.ref jhm, .int x1] (cW D (tyL cI cZ cO) (wX8_write cI cZ jhm jam Sm) sz)) (va_Qi (S := Unit) (fun r _ => r = res.1) (fun _ => qW D (tyL cI cZ cO) (va_A (wX8_write cI cZ jhm jam Sm) sz) (wX8_write cI cZ jhm jam res.2)) (va_A (wX8_write cI cZ jhm jam Sm) sz)) 0 0 (va_A (wX8_write cI cZ jhm jam Sm) sz) := by
  refine met_w (by decide) (Nat.le_of_ble_eq_true rfl) ?_
  intro p e s m below meth c hx hb hr hml ht hown hlk ls hl hsz hP hK hD0 hZ
  subst hsz
  have hD := hD0.self (sz := s.heap.size)
  generalize hAe : va_A (wX8_write cI cZ jhm jam Sm) s.heap.size = A at hD hZ ⊢
  have hA : ∀ q : Nat, s.heap.size ≤ q → A q := fun q h => by rw [← hAe]; exact Or.inr h
  have hS : va_S A s.heap s.heap [] := va_S.rf
  have hown : s.vm.findClass "EyeDrinkModel" = some m.cls := hown
  have hl : lv_has ls 2 [(0, .ref jhm), (1, .int x1)] := hl
  have hC : CallFix p m c cX8_write 2 s ([.ref jhm, .int x1] : List Value).toArray wT "EyeDrinkModel" := ⟨hx, hb, hml, hown, ht⟩
  unfold fX8_write at hf
  suffices hgo : ∀ (H : Heap) (locs : List Loc), va_P D vwCl (wX8_write cI cZ jhm jam Sm) H → va_S A s.heap H locs → W p l e (rmF 1 25) s m ([.ref jhm, .int x1] : List Value).toArray below meth c H locs 0 0 (MQ below (va_Qi (S := Unit) (fun r _ => r = res.1) (fun _ => qW D (tyL cI cZ cO) A (wX8_write cI cZ jhm jam res.2)) A) ([.ref jhm, .int x1] : List Value).toArray s 0 0 A) (F0 m 0 ls []) from hgo s.heap [] hP hS
  intro H locs hP hS
  refine lv_aload_n hx hb dX8_write_0 rfl (lv_at hl 0 rfl) ?_
  refine lv_iconst (v := (0 : Int32)) hx hb dX8_write_1 rfl ?_
  refine va_put (D := D) (ci := 7) (v := .int (0 : Int32)) (ty := .int) (C := RX8) (T := TX8) (N := 31) hx hb ht inX8 tyX8 tyX8_ok nmX8 hown hK hP hD hS 0 rfl rfl 0 (by decide) (ht _ wd3_185) (fun _ h9 => h9) rfl (tyX8_ok 0 (by decide)) rfl rfl (Nat.le_of_ble_eq_true rfl) dX8_write_2 (fun H locs hP hD hS => ?_)
  have hP : va_P D vwCl (wX8_write cI cZ jhm jam (bI Sm 0 (0 : Int32))) H := hP
  have hD : va_D A (wX8_write cI cZ jhm jam (bI Sm 0 (0 : Int32))) := hD
  refine lv_iload_n hx hb dX8_write_5 rfl (lv_at hl 1 rfl) ?_
  refine lv_i2l hx hb dX8_write_6 rfl ?_
  refine lv_lconst (v := 0) hx hb dX8_write_7 rfl ?_
  refine lv_ldc2 hx hb hown (ht _ wd4_43) dX8_write_8 ?_
  obtain ⟨u1, e2, hf⟩ := bdS hf
  refine k_pS (As := [.long x1.toInt64, .long (0 : Int64), .long (255 : Int64)]) (rest := []) hC miX8_in mjX8_in wd4_44 (qX8_in l x1.toInt64 (0 : Int64) (255 : Int64) u1 e2) ⟨Nat.le_of_ble_eq_true rfl, Nat.le_of_ble_eq_true rfl⟩ hl.1 rfl rfl (Nat.le_of_ble_eq_true rfl) dX8_write_11 ?_
  refine lv_if_ne (tgt := 20) hx hb dX8_write_14 (by decide) (fun c3 => ?_) (fun c3 => ?_)
  · have hf := itN c3 hf
    refine lv_aload_n hx hb dX8_write_20 rfl (lv_at hl 0 rfl) ?_
    refine va_get (D := D) (ci := 7) (v := .int (Sm.1 1)) (C := RX8) (T := TX8) (N := 31) hx hb ht inX8 hown hK hP 0 rfl rfl 2 (by decide) (ht _ wd3_187) (fun _ h9 => h9) rfl dX8_write_21 ?_
    refine lv_bipush (v := (64 : Int32)) hx hb dX8_write_24 rfl ?_
    refine lv_icmp_ne (tgt := 32) hx hb dX8_write_26 (by decide) (fun c4 => ?_) (fun c4 => ?_)
    · have hf := itN c4 hf
      refine lv_aload_n hx hb dX8_write_32 rfl (lv_at hl 0 rfl) ?_
      refine va_get (D := D) (ci := 7) (v := .ref (jam 0)) (C := RX8) (T := TX8) (N := 31) hx hb ht inX8 hown hK hP 0 rfl rfl 1 (by decide) (ht _ wd3_186) (fun _ h9 => h9) rfl dX8_write_33 ?_
      refine lv_aload_n hx hb dX8_write_36 rfl (lv_at hl 0 rfl) ?_
      refine va_get (D := D) (ci := 7) (v := .int (Sm.1 1)) (C := RX8) (T := TX8) (N := 31) hx hb ht inX8 hown hK hP 0 rfl rfl 2 (by decide) (ht _ wd3_187) (fun _ h9 => h9) rfl dX8_write_37 ?_
      refine lv_iload_n hx hb dX8_write_40 rfl (lv_at hl 1 rfl) ?_
      obtain ⟨h5, hf⟩ := inB_s hf
      obtain ⟨j6, ej6, hf⟩ := nmV_s hf
      refine va_iast (f := (Sm.2.1 0)) (n := 64) hx hb hK hP hD hS 1 0 rfl rfl h5 dX8_write_41 (fun H locs hP hD hS => ?_)
      rw [← ej6] at hP hD
      have hP : va_P D vwCl (wX8_write cI cZ jhm jam (bW (bI Sm 0 (0 : Int32)) 0 j6 x1)) H := hP
      have hD : va_D A (wX8_write cI cZ jhm jam (bW (bI Sm 0 (0 : Int32)) 0 j6 x1)) := hD
      refine lv_aload_n hx hb dX8_write_42 rfl (lv_at hl 0 rfl) ?_
      refine lv_dup hx hb dX8_write_43 rfl ?_
      refine va_get (D := D) (ci := 7) (v := .int (Sm.1 1)) (C := RX8) (T := TX8) (N := 31) hx hb ht inX8 hown hK hP 0 rfl rfl 2 (by decide) (ht _ wd3_187) (fun _ h9 => h9) rfl dX8_write_44 ?_
      refine lv_iconst (v := (1 : Int32)) hx hb dX8_write_47 rfl ?_
      refine lv_iadd hx hb dX8_write_48 ?_
      obtain ⟨v7, ev7, hf⟩ := nmV_s hf
      rw [← ev7]
      refine va_put (D := D) (ci := 7) (v := .int v7) (ty := .int) (C := RX8) (T := TX8) (N := 31) hx hb ht inX8 tyX8 tyX8_ok nmX8 hown hK hP hD hS 0 rfl rfl 2 (by decide) (ht _ wd3_187) (fun _ h9 => h9) rfl (tyX8_ok 2 (by decide)) rfl rfl (Nat.le_of_ble_eq_true rfl) dX8_write_49 (fun H locs hP hD hS => ?_)
      have hP : va_P D vwCl (wX8_write cI cZ jhm jam (bI (bW (bI Sm 0 (0 : Int32)) 0 j6 x1) 1 v7)) H := hP
      have hD : va_D A (wX8_write cI cZ jhm jam (bI (bW (bI Sm 0 (0 : Int32)) 0 j6 x1) 1 v7)) := hD
      refine lv_aload_n hx hb dX8_write_52 rfl (lv_at hl 0 rfl) ?_
      refine va_get (D := D) (ci := 7) (v := .int v7) (C := RX8) (T := TX8) (N := 31) hx hb ht inX8 hown hK hP 0 rfl rfl 2 (by decide) (ht _ wd3_187) (fun _ h9 => h9) rfl dX8_write_53 ?_
      cases hf
      exact W.iret hx hb hr (fun t ht9 hW => ⟨⟨_, (), rfl, rfl, by rw [ht9]; exact hP, va_K.moved hW.alike hK, hD⟩, hS.F ht9⟩) hS.2.2 dX8_write_56
    · have hf := itP c4 hf
      refine lv_bipush (v := (-4 : Int32)) hx hb dX8_write_29 rfl ?_
      cases hf
      exact W.iret hx hb hr (fun t ht9 hW => ⟨⟨_, (), rfl, rfl, by rw [ht9]; exact hP, va_K.moved hW.alike hK, hD⟩, hS.F ht9⟩) hS.2.2 dX8_write_31
  · have hf := itP c3 hf
    refine lv_bipush (v := (-2 : Int32)) hx hb dX8_write_17 rfl ?_
    cases hf
    exact W.iret hx hb hr (fun t ht9 hW => ⟨⟨_, (), rfl, rfl, by rw [ht9]; exact hP, va_K.moved hW.alike hK, hD⟩, hS.F ht9⟩) hS.2.2 dX8_write_19
abbrev wX8_wipe (cI cZ : ClassId) (jhm : Nat) (jam : Nat → Nat) (Sm : Bk) : va_W := [(jhm, .inr (7, [.int (Sm.1 0), .ref (jam 0), .int (Sm.1 1), .int (Sm.1 2), .int (Sm.1 3), .int (Sm.1 4), .int (Sm.1 5), .ref (jam 1), .ref (jam 2), .ref (jam 3), .int (Sm.1 6), .int (Sm.1 7), .int (Sm.1 8), .ref (jam 4), .ref (jam 5), .ref (jam 6), .ref (jam 7), .ref (jam 8), .ref (jam 9), .int (Sm.1 9), .ref (jam 10), .ref (jam 11), .int (Sm.1 10), .ref (jam 12), .ref (jam 13), .long Sm.2.2, .ref (jam 14), .ref (jam 15), .int (Sm.1 11), .int (Sm.1 12), .int (Sm.1 13)]))]
def fX8_wipe (Sm : Bk) : Option (Int32 × Bk) := some ((Sm.1 1), (bI (bI Sm 0 (0 : Int32)) 1 (0 : Int32)))
theorem miX8_wipe : MI yX8_wipe cX8_wipe 2 (some .int) 0 := ⟨wd1_8, wd4_50, by decide +kernel⟩
theorem mjX8_wipe : Cond.instanceMethod yX8_wipe ∈ wT ∧ Cond.selects yX8_wipe.cls yX8_wipe yX8_wipe ∈ wT := ⟨wd4_48, wd4_49⟩
set_option maxHeartbeats 4000000 in
set_option maxRecDepth 100000 in
theorem qX8_wipe (l : Launch) (D : va_G) (cI cZ cO : ClassId) (jhm : Nat) (jam : Nat → Nat) (Sm : Bk) (sz : Nat) (res : Int32 × Bk) (hf : fX8_wipe Sm = some res) : Met l yX8_wipe (Cond.code yX8_wipe cX8_wipe 2 (some .int) :: wT) (rmF 0 0) (va_Pc [.ref jhm] (cW D (tyL cI cZ cO) (wX8_wipe cI cZ jhm jam Sm) sz)) (va_Qi (S := Unit) (fun r _ => r = res.1) (fun _ => qW D (tyL cI cZ cO) (va_A (wX8_wipe cI cZ jhm jam Sm) sz) (wX8_wipe cI cZ jhm jam res.2)) (va_A (wX8_wipe cI cZ jhm jam Sm) sz)) 0 0 (va_A (wX8_wipe cI cZ jhm jam Sm) sz) := by
  refine met_w (by decide) (Nat.le_of_ble_eq_true rfl) ?_
  intro p e s m below meth c hx hb hr hml ht hown hlk ls hl hsz hP hK hD0 hZ
  subst hsz
  have hD := hD0.self (sz := s.heap.size)
  generalize hAe : va_A (wX8_wipe cI cZ jhm jam Sm) s.heap.size = A at hD hZ ⊢
  have hA : ∀ q : Nat, s.heap.size ≤ q → A q := fun q h => by rw [← hAe]; exact Or.inr h
  have hS : va_S A s.heap s.heap [] := va_S.rf
  have hown : s.vm.findClass "EyeDrinkModel" = some m.cls := hown
  have hl : lv_has ls 2 [(0, .ref jhm)] := hl
  unfold fX8_wipe at hf
  suffices hgo : ∀ (H : Heap) (locs : List Loc), va_P D vwCl (wX8_wipe cI cZ jhm jam Sm) H → va_S A s.heap H locs → W p l e (rmF 0 0) s m ([.ref jhm] : List Value).toArray below meth c H locs 0 0 (MQ below (va_Qi (S := Unit) (fun r _ => r = res.1) (fun _ => qW D (tyL cI cZ cO) A (wX8_wipe cI cZ jhm jam res.2)) A) ([.ref jhm] : List Value).toArray s 0 0 A) (F0 m 0 ls []) from hgo s.heap [] hP hS
  intro H locs hP hS
  refine lv_aload_n hx hb dX8_wipe_0 rfl (lv_at hl 0 rfl) ?_
  refine lv_iconst (v := (0 : Int32)) hx hb dX8_wipe_1 rfl ?_
  refine va_put (D := D) (ci := 7) (v := .int (0 : Int32)) (ty := .int) (C := RX8) (T := TX8) (N := 31) hx hb ht inX8 tyX8 tyX8_ok nmX8 hown hK hP hD hS 0 rfl rfl 0 (by decide) (ht _ wd3_185) (fun _ h9 => h9) rfl (tyX8_ok 0 (by decide)) rfl rfl (Nat.le_of_ble_eq_true rfl) dX8_wipe_2 (fun H locs hP hD hS => ?_)
  have hP : va_P D vwCl (wX8_wipe cI cZ jhm jam (bI Sm 0 (0 : Int32))) H := hP
  have hD : va_D A (wX8_wipe cI cZ jhm jam (bI Sm 0 (0 : Int32))) := hD
  refine lv_aload_n hx hb dX8_wipe_5 rfl (lv_at hl 0 rfl) ?_
  refine va_get (D := D) (ci := 7) (v := .int (Sm.1 1)) (C := RX8) (T := TX8) (N := 31) hx hb ht inX8 hown hK hP 0 rfl rfl 2 (by decide) (ht _ wd3_187) (fun _ h9 => h9) rfl dX8_wipe_6 ?_
  refine lv_istore_n (lv' := [(1, .int (Sm.1 1)), (0, .ref jhm)]) hx hb dX8_wipe_9 rfl hl (by decide) rfl (fun ls hl => ?_)
  refine lv_aload_n hx hb dX8_wipe_10 rfl (lv_at hl 1 rfl) ?_
  refine lv_iconst (v := (0 : Int32)) hx hb dX8_wipe_11 rfl ?_
  refine va_put (D := D) (ci := 7) (v := .int (0 : Int32)) (ty := .int) (C := RX8) (T := TX8) (N := 31) hx hb ht inX8 tyX8 tyX8_ok nmX8 hown hK hP hD hS 0 rfl rfl 2 (by decide) (ht _ wd3_187) (fun _ h9 => h9) rfl (tyX8_ok 2 (by decide)) rfl rfl (Nat.le_of_ble_eq_true rfl) dX8_wipe_12 (fun H locs hP hD hS => ?_)
  have hP : va_P D vwCl (wX8_wipe cI cZ jhm jam (bI (bI Sm 0 (0 : Int32)) 1 (0 : Int32))) H := hP
  have hD : va_D A (wX8_wipe cI cZ jhm jam (bI (bI Sm 0 (0 : Int32)) 1 (0 : Int32))) := hD
  refine lv_iload_n hx hb dX8_wipe_15 rfl (lv_at hl 0 rfl) ?_
  cases hf
  exact W.iret hx hb hr (fun t ht9 hW => ⟨⟨_, (), rfl, rfl, by rw [ht9]; exact hP, va_K.moved hW.alike hK, hD⟩, hS.F ht9⟩) hS.2.2 dX8_wipe_16
abbrev wX8_figure (cI cZ : ClassId) (jhm : Nat) (jam : Nat → Nat) (Sm : Bk) : va_W := [(jhm, .inr (7, [.int (Sm.1 0), .ref (jam 0), .int (Sm.1 1), .int (Sm.1 2), .int (Sm.1 3), .int (Sm.1 4), .int (Sm.1 5), .ref (jam 1), .ref (jam 2), .ref (jam 3), .int (Sm.1 6), .int (Sm.1 7), .int (Sm.1 8), .ref (jam 4), .ref (jam 5), .ref (jam 6), .ref (jam 7), .ref (jam 8), .ref (jam 9), .int (Sm.1 9), .ref (jam 10), .ref (jam 11), .int (Sm.1 10), .ref (jam 12), .ref (jam 13), .long Sm.2.2, .ref (jam 14), .ref (jam 15), .int (Sm.1 11), .int (Sm.1 12), .int (Sm.1 13)])), (jam 0, .inl (cI, 64, .inl (Sm.2.1 0)))]
def fX8_figure (Sm : Bk) (x1 : Int32) (x2 : Int32) : Option (Int32 × Bk) := (if (Sm.1 2) = (Sm.1 1) then some ((-9 : Int32), Sm) else inB 64 (Sm.1 2) ((fX8_in ((((Sm.2.1 0) (Sm.1 2).toNatClampNeg) - (48 : Int32)).toInt64) x1.toInt64 x2.toInt64).bind (fun u3 => (if u3 = 0 then some ((-9 : Int32), Sm) else nmV ((Sm.1 2) + (1 : Int32)) (fun v6 => inB 64 (v6 - (1 : Int32)) (some ((((Sm.2.1 0) (v6 - (1 : Int32)).toNatClampNeg) - (48 : Int32)), (bI Sm 2 v6))))))))
theorem miX8_figure : MI yX8_figure cX8_figure 3 (some .int) 2 := ⟨wd1_8, wd4_70, by decide +kernel⟩
theorem mjX8_figure : Cond.instanceMethod yX8_figure ∈ wT ∧ Cond.selects yX8_figure.cls yX8_figure yX8_figure ∈ wT := ⟨wd4_69, ws_16⟩
set_option maxHeartbeats 4000000 in
set_option maxRecDepth 100000 in
theorem qX8_figure (l : Launch) (D : va_G) (cI cZ cO : ClassId) (jhm : Nat) (jam : Nat → Nat) (Sm : Bk) (x1 : Int32) (x2 : Int32) (sz : Nat) (res : Int32 × Bk) (hf : fX8_figure Sm x1 x2 = some res) : Met l yX8_figure (Cond.code yX8_figure cX8_figure 3 (some .int) :: wT) (rmF 1 25) (va_Pc [.ref jhm, .int x1, .int x2] (cW D (tyL cI cZ cO) (wX8_figure cI cZ jhm jam Sm) sz)) (va_Qi (S := Unit) (fun r _ => r = res.1) (fun _ => qW D (tyL cI cZ cO) (va_A (wX8_figure cI cZ jhm jam Sm) sz) (wX8_figure cI cZ jhm jam res.2)) (va_A (wX8_figure cI cZ jhm jam Sm) sz)) 0 0 (va_A (wX8_figure cI cZ jhm jam Sm) sz) := by
  refine met_w (by decide) (Nat.le_of_ble_eq_true rfl) ?_
  intro p e s m below meth c hx hb hr hml ht hown hlk ls hl hsz hP hK hD0 hZ
  subst hsz
  have hD := hD0.self (sz := s.heap.size)
  generalize hAe : va_A (wX8_figure cI cZ jhm jam Sm) s.heap.size = A at hD hZ ⊢
  have hA : ∀ q : Nat, s.heap.size ≤ q → A q := fun q h => by rw [← hAe]; exact Or.inr h
  have hS : va_S A s.heap s.heap [] := va_S.rf
  have hown : s.vm.findClass "EyeDrinkModel" = some m.cls := hown
  have hl : lv_has ls 3 [(0, .ref jhm), (1, .int x1), (2, .int x2)] := hl
  have hC : CallFix p m c cX8_figure 3 s ([.ref jhm, .int x1, .int x2] : List Value).toArray wT "EyeDrinkModel" := ⟨hx, hb, hml, hown, ht⟩
  unfold fX8_figure at hf
  suffices hgo : ∀ (H : Heap) (locs : List Loc), va_P D vwCl (wX8_figure cI cZ jhm jam Sm) H → va_S A s.heap H locs → W p l e (rmF 1 25) s m ([.ref jhm, .int x1, .int x2] : List Value).toArray below meth c H locs 0 0 (MQ below (va_Qi (S := Unit) (fun r _ => r = res.1) (fun _ => qW D (tyL cI cZ cO) A (wX8_figure cI cZ jhm jam res.2)) A) ([.ref jhm, .int x1, .int x2] : List Value).toArray s 0 0 A) (F0 m 0 ls []) from hgo s.heap [] hP hS
  intro H locs hP hS
  refine lv_aload_n hx hb dX8_figure_0 rfl (lv_at hl 0 rfl) ?_
  refine va_get (D := D) (ci := 7) (v := .int (Sm.1 2)) (C := RX8) (T := TX8) (N := 31) hx hb ht inX8 hown hK hP 0 rfl rfl 3 (by decide) (ht _ wd3_188) (fun _ h9 => h9) rfl dX8_figure_1 ?_
  refine lv_aload_n hx hb dX8_figure_4 rfl (lv_at hl 0 rfl) ?_
  refine va_get (D := D) (ci := 7) (v := .int (Sm.1 1)) (C := RX8) (T := TX8) (N := 31) hx hb ht inX8 hown hK hP 0 rfl rfl 2 (by decide) (ht _ wd3_187) (fun _ h9 => h9) rfl dX8_figure_5 ?_
  refine lv_icmp_eq (tgt := 34) hx hb dX8_figure_8 (by decide) (fun c1 => ?_) (fun c1 => ?_)
  · have hf := itP c1 hf
    refine lv_bipush (v := (-9 : Int32)) hx hb dX8_figure_34 rfl ?_
    cases hf
    exact W.iret hx hb hr (fun t ht9 hW => ⟨⟨_, (), rfl, rfl, by rw [ht9]; exact hP, va_K.moved hW.alike hK, hD⟩, hS.F ht9⟩) hS.2.2 dX8_figure_36
  · have hf := itN c1 hf
    refine lv_aload_n hx hb dX8_figure_11 rfl (lv_at hl 0 rfl) ?_
    refine va_get (D := D) (ci := 7) (v := .ref (jam 0)) (C := RX8) (T := TX8) (N := 31) hx hb ht inX8 hown hK hP 0 rfl rfl 1 (by decide) (ht _ wd3_186) (fun _ h9 => h9) rfl dX8_figure_12 ?_
    refine lv_aload_n hx hb dX8_figure_15 rfl (lv_at hl 0 rfl) ?_
    refine va_get (D := D) (ci := 7) (v := .int (Sm.1 2)) (C := RX8) (T := TX8) (N := 31) hx hb ht inX8 hown hK hP 0 rfl rfl 3 (by decide) (ht _ wd3_188) (fun _ h9 => h9) rfl dX8_figure_16 ?_
    obtain ⟨h2, hf⟩ := inB_s hf
    refine va_iald (f := (Sm.2.1 0)) (n := 64) hx hb hK hP 1 0 rfl rfl h2 dX8_figure_19 ?_
    refine lv_bipush (v := (48 : Int32)) hx hb dX8_figure_20 rfl ?_
    refine lv_isub hx hb dX8_figure_22 ?_
    refine lv_i2l hx hb dX8_figure_23 rfl ?_
    refine lv_iload_n hx hb dX8_figure_24 rfl (lv_at hl 1 rfl) ?_
    refine lv_i2l hx hb dX8_figure_25 rfl ?_
    refine lv_iload_n hx hb dX8_figure_26 rfl (lv_at hl 2 rfl) ?_
    refine lv_i2l hx hb dX8_figure_27 rfl ?_
    obtain ⟨u3, e4, hf⟩ := bdS hf
    refine k_pS (As := [.long (((Sm.2.1 0) (Sm.1 2).toNatClampNeg) - (48 : Int32)).toInt64, .long x1.toInt64, .long x2.toInt64]) (rest := []) hC miX8_in mjX8_in wd4_44 (qX8_in l ((((Sm.2.1 0) (Sm.1 2).toNatClampNeg) - (48 : Int32)).toInt64) x1.toInt64 x2.toInt64 u3 e4) ⟨Nat.le_of_ble_eq_true rfl, Nat.le_of_ble_eq_true rfl⟩ hl.1 rfl rfl (Nat.le_of_ble_eq_true rfl) dX8_figure_28 ?_
    refine lv_if_ne (tgt := 37) hx hb dX8_figure_31 (by decide) (fun c5 => ?_) (fun c5 => ?_)
    · have hf := itN c5 hf
      refine lv_aload_n hx hb dX8_figure_37 rfl (lv_at hl 0 rfl) ?_
      refine lv_dup hx hb dX8_figure_38 rfl ?_
      refine va_get (D := D) (ci := 7) (v := .int (Sm.1 2)) (C := RX8) (T := TX8) (N := 31) hx hb ht inX8 hown hK hP 0 rfl rfl 3 (by decide) (ht _ wd3_188) (fun _ h9 => h9) rfl dX8_figure_39 ?_
      refine lv_iconst (v := (1 : Int32)) hx hb dX8_figure_42 rfl ?_
      refine lv_iadd hx hb dX8_figure_43 ?_
      obtain ⟨v6, ev6, hf⟩ := nmV_s hf
      rw [← ev6]
      refine va_put (D := D) (ci := 7) (v := .int v6) (ty := .int) (C := RX8) (T := TX8) (N := 31) hx hb ht inX8 tyX8 tyX8_ok nmX8 hown hK hP hD hS 0 rfl rfl 3 (by decide) (ht _ wd3_188) (fun _ h9 => h9) rfl (tyX8_ok 3 (by decide)) rfl rfl (Nat.le_of_ble_eq_true rfl) dX8_figure_44 (fun H locs hP hD hS => ?_)
      have hP : va_P D vwCl (wX8_figure cI cZ jhm jam (bI Sm 2 v6)) H := hP
      have hD : va_D A (wX8_figure cI cZ jhm jam (bI Sm 2 v6)) := hD
      refine lv_aload_n hx hb dX8_figure_47 rfl (lv_at hl 0 rfl) ?_
      refine va_get (D := D) (ci := 7) (v := .ref (jam 0)) (C := RX8) (T := TX8) (N := 31) hx hb ht inX8 hown hK hP 0 rfl rfl 1 (by decide) (ht _ wd3_186) (fun _ h9 => h9) rfl dX8_figure_48 ?_
      refine lv_aload_n hx hb dX8_figure_51 rfl (lv_at hl 0 rfl) ?_
      refine va_get (D := D) (ci := 7) (v := .int v6) (C := RX8) (T := TX8) (N := 31) hx hb ht inX8 hown hK hP 0 rfl rfl 3 (by decide) (ht _ wd3_188) (fun _ h9 => h9) rfl dX8_figure_52 ?_
      refine lv_iconst (v := (1 : Int32)) hx hb dX8_figure_55 rfl ?_
      refine lv_isub hx hb dX8_figure_56 ?_
      obtain ⟨h7, hf⟩ := inB_s hf
      refine va_iald (f := (Sm.2.1 0)) (n := 64) hx hb hK hP 1 0 rfl rfl h7 dX8_figure_57 ?_
      refine lv_bipush (v := (48 : Int32)) hx hb dX8_figure_58 rfl ?_
      refine lv_isub hx hb dX8_figure_60 ?_
      cases hf
      exact W.iret hx hb hr (fun t ht9 hW => ⟨⟨_, (), rfl, rfl, by rw [ht9]; exact hP, va_K.moved hW.alike hK, hD⟩, hS.F ht9⟩) hS.2.2 dX8_figure_61
    · have hf := itP c5 hf
      refine lv_bipush (v := (-9 : Int32)) hx hb dX8_figure_34 rfl ?_
      cases hf
      exact W.iret hx hb hr (fun t ht9 hW => ⟨⟨_, (), rfl, rfl, by rw [ht9]; exact hP, va_K.moved hW.alike hK, hD⟩, hS.F ht9⟩) hS.2.2 dX8_figure_36
abbrev wX8_readThing (cI cZ : ClassId) (jhm : Nat) (jam : Nat → Nat) (Sm : Bk) : va_W := [(jhm, .inr (7, [.int (Sm.1 0), .ref (jam 0), .int (Sm.1 1), .int (Sm.1 2), .int (Sm.1 3), .int (Sm.1 4), .int (Sm.1 5), .ref (jam 1), .ref (jam 2), .ref (jam 3), .int (Sm.1 6), .int (Sm.1 7), .int (Sm.1 8), .ref (jam 4), .ref (jam 5), .ref (jam 6), .ref (jam 7), .ref (jam 8), .ref (jam 9), .int (Sm.1 9), .ref (jam 10), .ref (jam 11), .int (Sm.1 10), .ref (jam 12), .ref (jam 13), .long Sm.2.2, .ref (jam 14), .ref (jam 15), .int (Sm.1 11), .int (Sm.1 12), .int (Sm.1 13)])), (jam 0, .inl (cI, 64, .inl (Sm.2.1 0))), (jam 4, .inl (cI, 12, .inl (Sm.2.1 4)))]
def gX8_readThing_37 (k2 : Int32 → Bk → Option (Int32 × Bk)) (x1 : Int32) (Sm : Bk) (y0 : Int32) : Option (Int32 × Bk) := (if y0 = (-9 : Int32) then some ((0 : Int32), Sm) else inB 12 (((3 : Int32) * (Sm.1 6)) + x1) (nmV (((3 : Int32) * (Sm.1 6)) + x1).toNatClampNeg (fun j3 => k2 (x1 + (1 : Int32)) (bW Sm 4 j3 y0))))
def gX8_readThing_34 (k2 : Int32 → Bk → Option (Int32 × Bk)) (x1 : Int32) (Sm : Bk) (y1 : Int32) (y2 : Int32) : Option (Int32 × Bk) := (fX8_figure Sm y1 y2).bind (fun u4 => gX8_readThing_37 k2 x1 (bA (bO Sm u4.2) 0 (u4.2.2.1 0)) u4.1)
def sX8_readThing_2 (k2 : Int32 → Bk → Option (Int32 × Bk)) (x1 : Int32) (Sm : Bk) : Option (Int32 × Bk) := (if (3 : Int32) ≤ x1 then nmV ((Sm.1 6) + (1 : Int32)) (fun v7 => some ((1 : Int32), (bI Sm 6 v7))) else (if x1 = 0 then (fX8_figure Sm (1 : Int32) (9 : Int32)).bind (fun u10 => gX8_readThing_37 k2 x1 (bA (bO Sm u10.2) 0 (u10.2.2.1 0)) u10.1) else (if x1 = (1 : Int32) then gX8_readThing_34 k2 x1 Sm (0 : Int32) (9 : Int32) else gX8_readThing_34 k2 x1 Sm (0 : Int32) (3 : Int32))))
def fX8_readThing (Sm : Bk) : Option (Int32 × Bk) := lk2 (sX8_readThing_2 ) 1000 (0 : Int32) Sm
theorem miX8_readThing : MI yX8_readThing cX8_readThing 3 (some .boolean) 0 := ⟨wd1_8, wd4_66, by decide +kernel⟩
theorem mjX8_readThing : Cond.instanceMethod yX8_readThing ∈ wT ∧ Cond.selects yX8_readThing.cls yX8_readThing yX8_readThing ∈ wT := ⟨wd4_65, ws_15⟩
set_option maxHeartbeats 4000000 in
set_option maxRecDepth 100000 in
theorem qX8_readThing (l : Launch) (D : va_G) (cI cZ cO : ClassId) (jhm : Nat) (jam : Nat → Nat) (Sm : Bk) (sz : Nat) (res : Int32 × Bk) (hf : fX8_readThing Sm = some res) : Met l yX8_readThing (Cond.code yX8_readThing cX8_readThing 3 (some .boolean) :: wT) (rmF 2 47) (va_Pc [.ref jhm] (cW D (tyL cI cZ cO) (wX8_readThing cI cZ jhm jam Sm) sz)) (va_Qi (S := Unit) (fun r _ => r = res.1) (fun _ => qW D (tyL cI cZ cO) (va_A (wX8_readThing cI cZ jhm jam Sm) sz) (wX8_readThing cI cZ jhm jam res.2)) (va_A (wX8_readThing cI cZ jhm jam Sm) sz)) 0 0 (va_A (wX8_readThing cI cZ jhm jam Sm) sz) := by
  refine met_w (by decide) (Nat.le_of_ble_eq_true rfl) ?_
  intro p e s m below meth c hx hb hr hml ht hown hlk ls hl hsz hP hK hD0 hZ
  subst hsz
  have hD := hD0.self (sz := s.heap.size)
  generalize hAe : va_A (wX8_readThing cI cZ jhm jam Sm) s.heap.size = A at hD hZ ⊢
  have hA : ∀ q : Nat, s.heap.size ≤ q → A q := fun q h => by rw [← hAe]; exact Or.inr h
  have hS : va_S A s.heap s.heap [] := va_S.rf
  have hown : s.vm.findClass "EyeDrinkModel" = some m.cls := hown
  have hl : lv_has ls 3 [(0, .ref jhm)] := hl
  have hC : CallFix p m c cX8_readThing 3 s ([.ref jhm] : List Value).toArray wT "EyeDrinkModel" := ⟨hx, hb, hml, hown, ht⟩
  unfold fX8_readThing at hf
  suffices hgo : ∀ (H : Heap) (locs : List Loc), va_P D vwCl (wX8_readThing cI cZ jhm jam Sm) H → va_S A s.heap H locs → W p l e (rmF 2 47) s m ([.ref jhm] : List Value).toArray below meth c H locs 0 0 (MQ below (va_Qi (S := Unit) (fun r _ => r = res.1) (fun _ => qW D (tyL cI cZ cO) A (wX8_readThing cI cZ jhm jam res.2)) A) ([.ref jhm] : List Value).toArray s 0 0 A) (F0 m 0 ls []) from hgo s.heap [] hP hS
  have hj2 : ∀ (x1 : Int32) (Sm : Bk), lk2 (sX8_readThing_2 ) 1000 x1 Sm = some res → ∀ (H : Heap) (locs : List Loc) (ls : Array Slot), va_P D vwCl (wX8_readThing cI cZ jhm jam Sm) H → va_D A (wX8_readThing cI cZ jhm jam Sm) → va_S A s.heap H locs → lv_has ls 3 [(0, .ref jhm), (1, .int x1)] → W p l e (rmF 2 47) s m ([.ref jhm] : List Value).toArray below meth c H locs 0 0 (MQ below (va_Qi (S := Unit) (fun r _ => r = res.1) (fun _ => qW D (tyL cI cZ cO) A (wX8_readThing cI cZ jhm jam res.2)) A) ([.ref jhm] : List Value).toArray s 0 0 A) (F0 m 2 ls []) := by
    refine lk2_w (fun (x1 : Int32) (Sm : Bk) => ∀ (H : Heap) (locs : List Loc) (ls : Array Slot), va_P D vwCl (wX8_readThing cI cZ jhm jam Sm) H → va_D A (wX8_readThing cI cZ jhm jam Sm) → va_S A s.heap H locs → lv_has ls 3 [(0, .ref jhm), (1, .int x1)] → W p l e (rmF 2 47) s m ([.ref jhm] : List Value).toArray below meth c H locs 0 0 (MQ below (va_Qi (S := Unit) (fun r _ => r = res.1) (fun _ => qW D (tyL cI cZ cO) A (wX8_readThing cI cZ jhm jam res.2)) A) ([.ref jhm] : List Value).toArray s 0 0 A) (F0 m 2 ls [])) ?_ 1000
    intro k2 hk2 x1 Sm hf H locs ls hP hD hS hl
    unfold sX8_readThing_2 at hf
    have hj37 : ∀ (x1 : Int32) (Sm : Bk) (y0 : Int32), gX8_readThing_37 k2 x1 Sm y0 = some res → ∀ (H : Heap) (locs : List Loc) (ls : Array Slot), va_P D vwCl (wX8_readThing cI cZ jhm jam Sm) H → va_D A (wX8_readThing cI cZ jhm jam Sm) → va_S A s.heap H locs → lv_has ls 3 [(0, .ref jhm), (1, .int x1)] → W p l e (rmF 2 47) s m ([.ref jhm] : List Value).toArray below meth c H locs 0 0 (MQ below (va_Qi (S := Unit) (fun r _ => r = res.1) (fun _ => qW D (tyL cI cZ cO) A (wX8_readThing cI cZ jhm jam res.2)) A) ([.ref jhm] : List Value).toArray s 0 0 A) (F0 m 37 ls [.int y0]) := by
      intro x1 Sm y0 hf H locs ls hP hD hS hl
      unfold gX8_readThing_37 at hf
      refine lv_istore_n (lv' := [(2, .int y0), (0, .ref jhm), (1, .int x1)]) hx hb dX8_readThing_37 rfl hl (by decide) rfl (fun ls hl => ?_)
      refine lv_iload_n hx hb dX8_readThing_38 rfl (lv_at hl 0 rfl) ?_
      refine lv_bipush (v := (-9 : Int32)) hx hb dX8_readThing_39 rfl ?_
      refine lv_icmp_ne (tgt := 46) hx hb dX8_readThing_41 (by decide) (fun c1 => ?_) (fun c1 => ?_)
      · have hf := itN c1 hf
        refine lv_aload_n hx hb dX8_readThing_46 rfl (lv_at hl 1 rfl) ?_
        refine va_get (D := D) (ci := 7) (v := .ref (jam 4)) (C := RX8) (T := TX8) (N := 31) hx hb ht inX8 hown hK hP 0 rfl rfl 13 (by decide) (ht _ wd3_198) (fun _ h9 => h9) rfl dX8_readThing_47 ?_
        refine lv_iconst (v := (3 : Int32)) hx hb dX8_readThing_50 rfl ?_
        refine lv_aload_n hx hb dX8_readThing_51 rfl (lv_at hl 1 rfl) ?_
        refine va_get (D := D) (ci := 7) (v := .int (Sm.1 6)) (C := RX8) (T := TX8) (N := 31) hx hb ht inX8 hown hK hP 0 rfl rfl 10 (by decide) (ht _ wd3_195) (fun _ h9 => h9) rfl dX8_readThing_52 ?_
        refine lv_imul hx hb dX8_readThing_55 ?_
        refine lv_iload_n hx hb dX8_readThing_56 rfl (lv_at hl 2 rfl) ?_
        refine lv_iadd hx hb dX8_readThing_57 ?_
        refine lv_iload_n hx hb dX8_readThing_58 rfl (lv_at hl 0 rfl) ?_
        obtain ⟨h2, hf⟩ := inB_s hf
        obtain ⟨j3, ej3, hf⟩ := nmV_s hf
        refine va_iast (f := (Sm.2.1 4)) (n := 12) hx hb hK hP hD hS 2 0 rfl rfl h2 dX8_readThing_59 (fun H locs hP hD hS => ?_)
        rw [← ej3] at hP hD
        have hP : va_P D vwCl (wX8_readThing cI cZ jhm jam (bW Sm 4 j3 y0)) H := hP
        have hD : va_D A (wX8_readThing cI cZ jhm jam (bW Sm 4 j3 y0)) := hD
        refine lv_iinc (v := (x1 + (1 : Int32))) (lv' := [(1, .int (x1 + (1 : Int32))), (2, .int y0), (0, .ref jhm)]) hx hb dX8_readThing_60 hl (k := 2) rfl rfl (by decide) rfl (fun ls hl => ?_)
        refine lv_goto (tgt := 2) hx hb dX8_readThing_63 (by decide) ?_
        exact hk2 (x1 + (1 : Int32)) (bW Sm 4 j3 y0) hf _ _ _ hP hD hS (lv_sub hl [2, 0] rfl)
      · have hf := itP c1 hf
        refine lv_iconst (v := (0 : Int32)) hx hb dX8_readThing_44 rfl ?_
        cases hf
        exact W.zret hx hb hr rfl (fun t ht9 hW => ⟨⟨_, (), rfl, rfl, by rw [ht9]; exact hP, va_K.moved hW.alike hK, hD⟩, hS.F ht9⟩) hS.2.2 dX8_readThing_45
    have hj34 : ∀ (x1 : Int32) (Sm : Bk) (y1 : Int32) (y2 : Int32), gX8_readThing_34 k2 x1 Sm y1 y2 = some res → ∀ (H : Heap) (locs : List Loc) (ls : Array Slot), va_P D vwCl (wX8_readThing cI cZ jhm jam Sm) H → va_D A (wX8_readThing cI cZ jhm jam Sm) → va_S A s.heap H locs → lv_has ls 3 [(0, .ref jhm), (1, .int x1)] → W p l e (rmF 2 47) s m ([.ref jhm] : List Value).toArray below meth c H locs 0 0 (MQ below (va_Qi (S := Unit) (fun r _ => r = res.1) (fun _ => qW D (tyL cI cZ cO) A (wX8_readThing cI cZ jhm jam res.2)) A) ([.ref jhm] : List Value).toArray s 0 0 A) (F0 m 34 ls [.int y2, .int y1, .ref jhm]) := by
      intro x1 Sm y1 y2 hf H locs ls hP hD hS hl
      unfold gX8_readThing_34 at hf
      obtain ⟨u4, e5, hf⟩ := bdS hf
      refine k_wVi (ws' := (wX8_readThing cI cZ jhm jam (bA (bO Sm u4.2) 0 (u4.2.2.1 0)))) (wr := [(jam 4, .inl (cI, 12, .inl ((bA (bO Sm u4.2) 0 (u4.2.2.1 0)).2.1 4)))]) (As := [.int y1, .int y2]) (rest := []) hC miX8_figure mjX8_figure.1 mjX8_figure.2 wd4_67 (qX8_figure l D cI cZ cO jhm jam Sm y1 y2 H.size u4 e5) ⟨Nat.le_of_ble_eq_true rfl, Nat.le_of_ble_eq_true rfl⟩ hP hD hK hZ hS hA [0, 1] [2] [1, 2, 0] rfl (by decide) rfl (by decide) (by decide) (by decide) rfl (va_recv hK hP (ci := 7) (q0 := 0) rfl rfl) hl.1 rfl rfl (Nat.le_of_ble_eq_true rfl) dX8_readThing_34 (fun H locs hP hD hS => ?_)
      exact hj37 x1 (bA (bO Sm u4.2) 0 (u4.2.2.1 0)) u4.1 hf _ _ _ hP hD hS (lv_sub hl [0, 1] rfl)
    refine lv_iload_n hx hb dX8_readThing_2 rfl (lv_at hl 1 rfl) ?_
    refine lv_iconst (v := (3 : Int32)) hx hb dX8_readThing_3 rfl ?_
    refine lv_icmp_ge (tgt := 66) hx hb dX8_readThing_4 (by decide) (fun c6 => ?_) (fun c6 => ?_)
    · have hf := itP c6 hf
      refine lv_aload_n hx hb dX8_readThing_66 rfl (lv_at hl 0 rfl) ?_
      refine lv_dup hx hb dX8_readThing_67 rfl ?_
      refine va_get (D := D) (ci := 7) (v := .int (Sm.1 6)) (C := RX8) (T := TX8) (N := 31) hx hb ht inX8 hown hK hP 0 rfl rfl 10 (by decide) (ht _ wd3_195) (fun _ h9 => h9) rfl dX8_readThing_68 ?_
      refine lv_iconst (v := (1 : Int32)) hx hb dX8_readThing_71 rfl ?_
      refine lv_iadd hx hb dX8_readThing_72 ?_
      obtain ⟨v7, ev7, hf⟩ := nmV_s hf
      rw [← ev7]
      refine va_put (D := D) (ci := 7) (v := .int v7) (ty := .int) (C := RX8) (T := TX8) (N := 31) hx hb ht inX8 tyX8 tyX8_ok nmX8 hown hK hP hD hS 0 rfl rfl 10 (by decide) (ht _ wd3_195) (fun _ h9 => h9) rfl (tyX8_ok 10 (by decide)) rfl rfl (Nat.le_of_ble_eq_true rfl) dX8_readThing_73 (fun H locs hP hD hS => ?_)
      have hP : va_P D vwCl (wX8_readThing cI cZ jhm jam (bI Sm 6 v7)) H := hP
      have hD : va_D A (wX8_readThing cI cZ jhm jam (bI Sm 6 v7)) := hD
      refine lv_iconst (v := (1 : Int32)) hx hb dX8_readThing_76 rfl ?_
      cases hf
      exact W.zret hx hb hr rfl (fun t ht9 hW => ⟨⟨_, (), rfl, rfl, by rw [ht9]; exact hP, va_K.moved hW.alike hK, hD⟩, hS.F ht9⟩) hS.2.2 dX8_readThing_77
    · have hf := itN c6 hf
      refine lv_iload_n hx hb dX8_readThing_7 rfl (lv_at hl 1 rfl) ?_
      refine lv_if_ne (tgt := 21) hx hb dX8_readThing_8 (by decide) (fun c8 => ?_) (fun c8 => ?_)
      · have hf := itN c8 hf
        refine lv_aload_n hx hb dX8_readThing_21 rfl (lv_at hl 0 rfl) ?_
        refine lv_iconst (v := (0 : Int32)) hx hb dX8_readThing_22 rfl ?_
        refine lv_iload_n hx hb dX8_readThing_23 rfl (lv_at hl 1 rfl) ?_
        refine lv_iconst (v := (1 : Int32)) hx hb dX8_readThing_24 rfl ?_
        refine lv_icmp_ne (tgt := 33) hx hb dX8_readThing_25 (by decide) (fun c9 => ?_) (fun c9 => ?_)
        · have hf := itN c9 hf
          refine lv_iconst (v := (3 : Int32)) hx hb dX8_readThing_33 rfl ?_
          exact hj34 x1 Sm (0 : Int32) (3 : Int32) hf _ _ _ hP hD hS (lv_sub hl [0, 1] rfl)
        · have hf := itP c9 hf
          refine lv_bipush (v := (9 : Int32)) hx hb dX8_readThing_28 rfl ?_
          refine lv_goto (tgt := 34) hx hb dX8_readThing_30 (by decide) ?_
          exact hj34 x1 Sm (0 : Int32) (9 : Int32) hf _ _ _ hP hD hS (lv_sub hl [0, 1] rfl)
      · have hf := itP c8 hf
        refine lv_aload_n hx hb dX8_readThing_11 rfl (lv_at hl 0 rfl) ?_
        refine lv_iconst (v := (1 : Int32)) hx hb dX8_readThing_12 rfl ?_
        refine lv_bipush (v := (9 : Int32)) hx hb dX8_readThing_13 rfl ?_
        obtain ⟨u10, e11, hf⟩ := bdS hf
        refine k_wVi (ws' := (wX8_readThing cI cZ jhm jam (bA (bO Sm u10.2) 0 (u10.2.2.1 0)))) (wr := [(jam 4, .inl (cI, 12, .inl ((bA (bO Sm u10.2) 0 (u10.2.2.1 0)).2.1 4)))]) (As := [.int (1 : Int32), .int (9 : Int32)]) (rest := []) hC miX8_figure mjX8_figure.1 mjX8_figure.2 wd4_67 (qX8_figure l D cI cZ cO jhm jam Sm (1 : Int32) (9 : Int32) H.size u10 e11) ⟨Nat.le_of_ble_eq_true rfl, Nat.le_of_ble_eq_true rfl⟩ hP hD hK hZ hS hA [0, 1] [2] [1, 2, 0] rfl (by decide) rfl (by decide) (by decide) (by decide) rfl (va_recv hK hP (ci := 7) (q0 := 0) rfl rfl) hl.1 rfl rfl (Nat.le_of_ble_eq_true rfl) dX8_readThing_15 (fun H locs hP hD hS => ?_)
        refine lv_goto (tgt := 37) hx hb dX8_readThing_18 (by decide) ?_
        exact hj37 x1 (bA (bO Sm u10.2) 0 (u10.2.2.1 0)) u10.1 hf _ _ _ hP hD hS (lv_sub hl [0, 1] rfl)
  intro H locs hP hS
  refine lv_iconst (v := (0 : Int32)) hx hb dX8_readThing_0 rfl ?_
  refine lv_istore_n (lv' := [(1, .int (0 : Int32)), (0, .ref jhm)]) hx hb dX8_readThing_1 rfl hl (by decide) rfl (fun ls hl => ?_)
  exact hj2 (0 : Int32) Sm hf _ _ _ hP hD hS (lv_sub hl [1, 0] rfl)
abbrev wX8_readQuestion (cI cZ : ClassId) (jhm : Nat) (jam : Nat → Nat) (Sm : Bk) : va_W := [(jhm, .inr (7, [.int (Sm.1 0), .ref (jam 0), .int (Sm.1 1), .int (Sm.1 2), .int (Sm.1 3), .int (Sm.1 4), .int (Sm.1 5), .ref (jam 1), .ref (jam 2), .ref (jam 3), .int (Sm.1 6), .int (Sm.1 7), .int (Sm.1 8), .ref (jam 4), .ref (jam 5), .ref (jam 6), .ref (jam 7), .ref (jam 8), .ref (jam 9), .int (Sm.1 9), .ref (jam 10), .ref (jam 11), .int (Sm.1 10), .ref (jam 12), .ref (jam 13), .long Sm.2.2, .ref (jam 14), .ref (jam 15), .int (Sm.1 11), .int (Sm.1 12), .int (Sm.1 13)])), (jam 0, .inl (cI, 64, .inl (Sm.2.1 0))), (jam 5, .inl (cI, 16, .inl (Sm.2.1 5)))]
def gX8_readQuestion_61 (k2 : Int32 → Bk → Option (Int32 × Bk)) (x1 : Int32) (Sm : Bk) (y0 : Int32) : Option (Int32 × Bk) := (if y0 = (-9 : Int32) then some ((0 : Int32), Sm) else inB 16 (((4 : Int32) * (Sm.1 7)) + x1) (nmV (((4 : Int32) * (Sm.1 7)) + x1).toNatClampNeg (fun j3 => k2 (x1 + (1 : Int32)) (bW Sm 5 j3 y0))))
def sX8_readQuestion_2 (k2 : Int32 → Bk → Option (Int32 × Bk)) (x1 : Int32) (Sm : Bk) : Option (Int32 × Bk) := (if (4 : Int32) ≤ x1 then nmV ((Sm.1 7) + (1 : Int32)) (fun v5 => some ((1 : Int32), (bI Sm 7 v5))) else (if x1 = 0 then (fX8_figure Sm (0 : Int32) ((Sm.1 6) - (1 : Int32))).bind (fun u15 => gX8_readQuestion_61 k2 x1 (bA (bO Sm u15.2) 0 (u15.2.2.1 0)) u15.1) else (if x1 = (1 : Int32) then (fX8_figure Sm (1 : Int32) (9 : Int32)).bind (fun u13 => gX8_readQuestion_61 k2 x1 (bA (bO Sm u13.2) 0 (u13.2.2.1 0)) u13.1) else (if x1 = (2 : Int32) then (fX8_figure Sm (0 : Int32) (1 : Int32)).bind (fun u11 => gX8_readQuestion_61 k2 x1 (bA (bO Sm u11.2) 0 (u11.2.2.1 0)) u11.1) else (fX8_figure Sm (0 : Int32) (9 : Int32)).bind (fun u9 => gX8_readQuestion_61 k2 x1 (bA (bO Sm u9.2) 0 (u9.2.2.1 0)) u9.1)))))
def fX8_readQuestion (Sm : Bk) : Option (Int32 × Bk) := lk2 (sX8_readQuestion_2 ) 1000 (0 : Int32) Sm
theorem miX8_readQuestion : MI yX8_readQuestion cX8_readQuestion 3 (some .boolean) 0 := ⟨wd1_8, wd4_74, by decide +kernel⟩
theorem mjX8_readQuestion : Cond.instanceMethod yX8_readQuestion ∈ wT ∧ Cond.selects yX8_readQuestion.cls yX8_readQuestion yX8_readQuestion ∈ wT := ⟨wd4_73, ws_17⟩
set_option maxHeartbeats 4000000 in
set_option maxRecDepth 100000 in
theorem qX8_readQuestion (l : Launch) (D : va_G) (cI cZ cO : ClassId) (jhm : Nat) (jam : Nat → Nat) (Sm : Bk) (sz : Nat) (res : Int32 × Bk) (hf : fX8_readQuestion Sm = some res) : Met l yX8_readQuestion (Cond.code yX8_readQuestion cX8_readQuestion 3 (some .boolean) :: wT) (rmF 2 47) (va_Pc [.ref jhm] (cW D (tyL cI cZ cO) (wX8_readQuestion cI cZ jhm jam Sm) sz)) (va_Qi (S := Unit) (fun r _ => r = res.1) (fun _ => qW D (tyL cI cZ cO) (va_A (wX8_readQuestion cI cZ jhm jam Sm) sz) (wX8_readQuestion cI cZ jhm jam res.2)) (va_A (wX8_readQuestion cI cZ jhm jam Sm) sz)) 0 0 (va_A (wX8_readQuestion cI cZ jhm jam Sm) sz) := by
  refine met_w (by decide) (Nat.le_of_ble_eq_true rfl) ?_
  intro p e s m below meth c hx hb hr hml ht hown hlk ls hl hsz hP hK hD0 hZ
  subst hsz
  have hD := hD0.self (sz := s.heap.size)
  generalize hAe : va_A (wX8_readQuestion cI cZ jhm jam Sm) s.heap.size = A at hD hZ ⊢
  have hA : ∀ q : Nat, s.heap.size ≤ q → A q := fun q h => by rw [← hAe]; exact Or.inr h
  have hS : va_S A s.heap s.heap [] := va_S.rf
  have hown : s.vm.findClass "EyeDrinkModel" = some m.cls := hown
  have hl : lv_has ls 3 [(0, .ref jhm)] := hl
  have hC : CallFix p m c cX8_readQuestion 3 s ([.ref jhm] : List Value).toArray wT "EyeDrinkModel" := ⟨hx, hb, hml, hown, ht⟩
  unfold fX8_readQuestion at hf
  suffices hgo : ∀ (H : Heap) (locs : List Loc), va_P D vwCl (wX8_readQuestion cI cZ jhm jam Sm) H → va_S A s.heap H locs → W p l e (rmF 2 47) s m ([.ref jhm] : List Value).toArray below meth c H locs 0 0 (MQ below (va_Qi (S := Unit) (fun r _ => r = res.1) (fun _ => qW D (tyL cI cZ cO) A (wX8_readQuestion cI cZ jhm jam res.2)) A) ([.ref jhm] : List Value).toArray s 0 0 A) (F0 m 0 ls []) from hgo s.heap [] hP hS
  have hj2 : ∀ (x1 : Int32) (Sm : Bk), lk2 (sX8_readQuestion_2 ) 1000 x1 Sm = some res → ∀ (H : Heap) (locs : List Loc) (ls : Array Slot), va_P D vwCl (wX8_readQuestion cI cZ jhm jam Sm) H → va_D A (wX8_readQuestion cI cZ jhm jam Sm) → va_S A s.heap H locs → lv_has ls 3 [(0, .ref jhm), (1, .int x1)] → W p l e (rmF 2 47) s m ([.ref jhm] : List Value).toArray below meth c H locs 0 0 (MQ below (va_Qi (S := Unit) (fun r _ => r = res.1) (fun _ => qW D (tyL cI cZ cO) A (wX8_readQuestion cI cZ jhm jam res.2)) A) ([.ref jhm] : List Value).toArray s 0 0 A) (F0 m 2 ls []) := by
    refine lk2_w (fun (x1 : Int32) (Sm : Bk) => ∀ (H : Heap) (locs : List Loc) (ls : Array Slot), va_P D vwCl (wX8_readQuestion cI cZ jhm jam Sm) H → va_D A (wX8_readQuestion cI cZ jhm jam Sm) → va_S A s.heap H locs → lv_has ls 3 [(0, .ref jhm), (1, .int x1)] → W p l e (rmF 2 47) s m ([.ref jhm] : List Value).toArray below meth c H locs 0 0 (MQ below (va_Qi (S := Unit) (fun r _ => r = res.1) (fun _ => qW D (tyL cI cZ cO) A (wX8_readQuestion cI cZ jhm jam res.2)) A) ([.ref jhm] : List Value).toArray s 0 0 A) (F0 m 2 ls [])) ?_ 1000
    intro k2 hk2 x1 Sm hf H locs ls hP hD hS hl
    unfold sX8_readQuestion_2 at hf
    have hj61 : ∀ (x1 : Int32) (Sm : Bk) (y0 : Int32), gX8_readQuestion_61 k2 x1 Sm y0 = some res → ∀ (H : Heap) (locs : List Loc) (ls : Array Slot), va_P D vwCl (wX8_readQuestion cI cZ jhm jam Sm) H → va_D A (wX8_readQuestion cI cZ jhm jam Sm) → va_S A s.heap H locs → lv_has ls 3 [(0, .ref jhm), (1, .int x1)] → W p l e (rmF 2 47) s m ([.ref jhm] : List Value).toArray below meth c H locs 0 0 (MQ below (va_Qi (S := Unit) (fun r _ => r = res.1) (fun _ => qW D (tyL cI cZ cO) A (wX8_readQuestion cI cZ jhm jam res.2)) A) ([.ref jhm] : List Value).toArray s 0 0 A) (F0 m 61 ls [.int y0]) := by
      intro x1 Sm y0 hf H locs ls hP hD hS hl
      unfold gX8_readQuestion_61 at hf
      refine lv_istore_n (lv' := [(2, .int y0), (0, .ref jhm), (1, .int x1)]) hx hb dX8_readQuestion_61 rfl hl (by decide) rfl (fun ls hl => ?_)
      refine lv_iload_n hx hb dX8_readQuestion_62 rfl (lv_at hl 0 rfl) ?_
      refine lv_bipush (v := (-9 : Int32)) hx hb dX8_readQuestion_63 rfl ?_
      refine lv_icmp_ne (tgt := 70) hx hb dX8_readQuestion_65 (by decide) (fun c1 => ?_) (fun c1 => ?_)
      · have hf := itN c1 hf
        refine lv_aload_n hx hb dX8_readQuestion_70 rfl (lv_at hl 1 rfl) ?_
        refine va_get (D := D) (ci := 7) (v := .ref (jam 5)) (C := RX8) (T := TX8) (N := 31) hx hb ht inX8 hown hK hP 0 rfl rfl 14 (by decide) (ht _ wd3_199) (fun _ h9 => h9) rfl dX8_readQuestion_71 ?_
        refine lv_iconst (v := (4 : Int32)) hx hb dX8_readQuestion_74 rfl ?_
        refine lv_aload_n hx hb dX8_readQuestion_75 rfl (lv_at hl 1 rfl) ?_
        refine va_get (D := D) (ci := 7) (v := .int (Sm.1 7)) (C := RX8) (T := TX8) (N := 31) hx hb ht inX8 hown hK hP 0 rfl rfl 11 (by decide) (ht _ wd3_196) (fun _ h9 => h9) rfl dX8_readQuestion_76 ?_
        refine lv_imul hx hb dX8_readQuestion_79 ?_
        refine lv_iload_n hx hb dX8_readQuestion_80 rfl (lv_at hl 2 rfl) ?_
        refine lv_iadd hx hb dX8_readQuestion_81 ?_
        refine lv_iload_n hx hb dX8_readQuestion_82 rfl (lv_at hl 0 rfl) ?_
        obtain ⟨h2, hf⟩ := inB_s hf
        obtain ⟨j3, ej3, hf⟩ := nmV_s hf
        refine va_iast (f := (Sm.2.1 5)) (n := 16) hx hb hK hP hD hS 2 0 rfl rfl h2 dX8_readQuestion_83 (fun H locs hP hD hS => ?_)
        rw [← ej3] at hP hD
        have hP : va_P D vwCl (wX8_readQuestion cI cZ jhm jam (bW Sm 5 j3 y0)) H := hP
        have hD : va_D A (wX8_readQuestion cI cZ jhm jam (bW Sm 5 j3 y0)) := hD
        refine lv_iinc (v := (x1 + (1 : Int32))) (lv' := [(1, .int (x1 + (1 : Int32))), (2, .int y0), (0, .ref jhm)]) hx hb dX8_readQuestion_84 hl (k := 2) rfl rfl (by decide) rfl (fun ls hl => ?_)
        refine lv_goto (tgt := 2) hx hb dX8_readQuestion_87 (by decide) ?_
        exact hk2 (x1 + (1 : Int32)) (bW Sm 5 j3 y0) hf _ _ _ hP hD hS (lv_sub hl [2, 0] rfl)
      · have hf := itP c1 hf
        refine lv_iconst (v := (0 : Int32)) hx hb dX8_readQuestion_68 rfl ?_
        cases hf
        exact W.zret hx hb hr rfl (fun t ht9 hW => ⟨⟨_, (), rfl, rfl, by rw [ht9]; exact hP, va_K.moved hW.alike hK, hD⟩, hS.F ht9⟩) hS.2.2 dX8_readQuestion_69
    refine lv_iload_n hx hb dX8_readQuestion_2 rfl (lv_at hl 1 rfl) ?_
    refine lv_iconst (v := (4 : Int32)) hx hb dX8_readQuestion_3 rfl ?_
    refine lv_icmp_ge (tgt := 90) hx hb dX8_readQuestion_4 (by decide) (fun c4 => ?_) (fun c4 => ?_)
    · have hf := itP c4 hf
      refine lv_aload_n hx hb dX8_readQuestion_90 rfl (lv_at hl 0 rfl) ?_
      refine lv_dup hx hb dX8_readQuestion_91 rfl ?_
      refine va_get (D := D) (ci := 7) (v := .int (Sm.1 7)) (C := RX8) (T := TX8) (N := 31) hx hb ht inX8 hown hK hP 0 rfl rfl 11 (by decide) (ht _ wd3_196) (fun _ h9 => h9) rfl dX8_readQuestion_92 ?_
      refine lv_iconst (v := (1 : Int32)) hx hb dX8_readQuestion_95 rfl ?_
      refine lv_iadd hx hb dX8_readQuestion_96 ?_
      obtain ⟨v5, ev5, hf⟩ := nmV_s hf
      rw [← ev5]
      refine va_put (D := D) (ci := 7) (v := .int v5) (ty := .int) (C := RX8) (T := TX8) (N := 31) hx hb ht inX8 tyX8 tyX8_ok nmX8 hown hK hP hD hS 0 rfl rfl 11 (by decide) (ht _ wd3_196) (fun _ h9 => h9) rfl (tyX8_ok 11 (by decide)) rfl rfl (Nat.le_of_ble_eq_true rfl) dX8_readQuestion_97 (fun H locs hP hD hS => ?_)
      have hP : va_P D vwCl (wX8_readQuestion cI cZ jhm jam (bI Sm 7 v5)) H := hP
      have hD : va_D A (wX8_readQuestion cI cZ jhm jam (bI Sm 7 v5)) := hD
      refine lv_iconst (v := (1 : Int32)) hx hb dX8_readQuestion_100 rfl ?_
      cases hf
      exact W.zret hx hb hr rfl (fun t ht9 hW => ⟨⟨_, (), rfl, rfl, by rw [ht9]; exact hP, va_K.moved hW.alike hK, hD⟩, hS.F ht9⟩) hS.2.2 dX8_readQuestion_101
    · have hf := itN c4 hf
      refine lv_iload_n hx hb dX8_readQuestion_7 rfl (lv_at hl 1 rfl) ?_
      refine lv_if_ne (tgt := 25) hx hb dX8_readQuestion_8 (by decide) (fun c6 => ?_) (fun c6 => ?_)
      · have hf := itN c6 hf
        refine lv_iload_n hx hb dX8_readQuestion_25 rfl (lv_at hl 1 rfl) ?_
        refine lv_iconst (v := (1 : Int32)) hx hb dX8_readQuestion_26 rfl ?_
        refine lv_icmp_ne (tgt := 40) hx hb dX8_readQuestion_27 (by decide) (fun c7 => ?_) (fun c7 => ?_)
        · have hf := itN c7 hf
          refine lv_iload_n hx hb dX8_readQuestion_40 rfl (lv_at hl 1 rfl) ?_
          refine lv_iconst (v := (2 : Int32)) hx hb dX8_readQuestion_41 rfl ?_
          refine lv_icmp_ne (tgt := 54) hx hb dX8_readQuestion_42 (by decide) (fun c8 => ?_) (fun c8 => ?_)
          · have hf := itN c8 hf
            refine lv_aload_n hx hb dX8_readQuestion_54 rfl (lv_at hl 0 rfl) ?_
            refine lv_iconst (v := (0 : Int32)) hx hb dX8_readQuestion_55 rfl ?_
            refine lv_bipush (v := (9 : Int32)) hx hb dX8_readQuestion_56 rfl ?_
            obtain ⟨u9, e10, hf⟩ := bdS hf
            refine k_wVi (ws' := (wX8_readQuestion cI cZ jhm jam (bA (bO Sm u9.2) 0 (u9.2.2.1 0)))) (wr := [(jam 5, .inl (cI, 16, .inl ((bA (bO Sm u9.2) 0 (u9.2.2.1 0)).2.1 5)))]) (As := [.int (0 : Int32), .int (9 : Int32)]) (rest := []) hC miX8_figure mjX8_figure.1 mjX8_figure.2 wd4_67 (qX8_figure l D cI cZ cO jhm jam Sm (0 : Int32) (9 : Int32) H.size u9 e10) ⟨Nat.le_of_ble_eq_true rfl, Nat.le_of_ble_eq_true rfl⟩ hP hD hK hZ hS hA [0, 1] [2] [1, 2, 0] rfl (by decide) rfl (by decide) (by decide) (by decide) rfl (va_recv hK hP (ci := 7) (q0 := 0) rfl rfl) hl.1 rfl rfl (Nat.le_of_ble_eq_true rfl) dX8_readQuestion_58 (fun H locs hP hD hS => ?_)
            exact hj61 x1 (bA (bO Sm u9.2) 0 (u9.2.2.1 0)) u9.1 hf _ _ _ hP hD hS (lv_sub hl [0, 1] rfl)
          · have hf := itP c8 hf
            refine lv_aload_n hx hb dX8_readQuestion_45 rfl (lv_at hl 0 rfl) ?_
            refine lv_iconst (v := (0 : Int32)) hx hb dX8_readQuestion_46 rfl ?_
            refine lv_iconst (v := (1 : Int32)) hx hb dX8_readQuestion_47 rfl ?_
            obtain ⟨u11, e12, hf⟩ := bdS hf
            refine k_wVi (ws' := (wX8_readQuestion cI cZ jhm jam (bA (bO Sm u11.2) 0 (u11.2.2.1 0)))) (wr := [(jam 5, .inl (cI, 16, .inl ((bA (bO Sm u11.2) 0 (u11.2.2.1 0)).2.1 5)))]) (As := [.int (0 : Int32), .int (1 : Int32)]) (rest := []) hC miX8_figure mjX8_figure.1 mjX8_figure.2 wd4_67 (qX8_figure l D cI cZ cO jhm jam Sm (0 : Int32) (1 : Int32) H.size u11 e12) ⟨Nat.le_of_ble_eq_true rfl, Nat.le_of_ble_eq_true rfl⟩ hP hD hK hZ hS hA [0, 1] [2] [1, 2, 0] rfl (by decide) rfl (by decide) (by decide) (by decide) rfl (va_recv hK hP (ci := 7) (q0 := 0) rfl rfl) hl.1 rfl rfl (Nat.le_of_ble_eq_true rfl) dX8_readQuestion_48 (fun H locs hP hD hS => ?_)
            refine lv_goto (tgt := 61) hx hb dX8_readQuestion_51 (by decide) ?_
            exact hj61 x1 (bA (bO Sm u11.2) 0 (u11.2.2.1 0)) u11.1 hf _ _ _ hP hD hS (lv_sub hl [0, 1] rfl)
        · have hf := itP c7 hf
          refine lv_aload_n hx hb dX8_readQuestion_30 rfl (lv_at hl 0 rfl) ?_
          refine lv_iconst (v := (1 : Int32)) hx hb dX8_readQuestion_31 rfl ?_
          refine lv_bipush (v := (9 : Int32)) hx hb dX8_readQuestion_32 rfl ?_
          obtain ⟨u13, e14, hf⟩ := bdS hf
          refine k_wVi (ws' := (wX8_readQuestion cI cZ jhm jam (bA (bO Sm u13.2) 0 (u13.2.2.1 0)))) (wr := [(jam 5, .inl (cI, 16, .inl ((bA (bO Sm u13.2) 0 (u13.2.2.1 0)).2.1 5)))]) (As := [.int (1 : Int32), .int (9 : Int32)]) (rest := []) hC miX8_figure mjX8_figure.1 mjX8_figure.2 wd4_67 (qX8_figure l D cI cZ cO jhm jam Sm (1 : Int32) (9 : Int32) H.size u13 e14) ⟨Nat.le_of_ble_eq_true rfl, Nat.le_of_ble_eq_true rfl⟩ hP hD hK hZ hS hA [0, 1] [2] [1, 2, 0] rfl (by decide) rfl (by decide) (by decide) (by decide) rfl (va_recv hK hP (ci := 7) (q0 := 0) rfl rfl) hl.1 rfl rfl (Nat.le_of_ble_eq_true rfl) dX8_readQuestion_34 (fun H locs hP hD hS => ?_)
          refine lv_goto (tgt := 61) hx hb dX8_readQuestion_37 (by decide) ?_
          exact hj61 x1 (bA (bO Sm u13.2) 0 (u13.2.2.1 0)) u13.1 hf _ _ _ hP hD hS (lv_sub hl [0, 1] rfl)
      · have hf := itP c6 hf
        refine lv_aload_n hx hb dX8_readQuestion_11 rfl (lv_at hl 0 rfl) ?_
        refine lv_iconst (v := (0 : Int32)) hx hb dX8_readQuestion_12 rfl ?_
        refine lv_aload_n hx hb dX8_readQuestion_13 rfl (lv_at hl 0 rfl) ?_
        refine va_get (D := D) (ci := 7) (v := .int (Sm.1 6)) (C := RX8) (T := TX8) (N := 31) hx hb ht inX8 hown hK hP 0 rfl rfl 10 (by decide) (ht _ wd3_195) (fun _ h9 => h9) rfl dX8_readQuestion_14 ?_
        refine lv_iconst (v := (1 : Int32)) hx hb dX8_readQuestion_17 rfl ?_
        refine lv_isub hx hb dX8_readQuestion_18 ?_
        obtain ⟨u15, e16, hf⟩ := bdS hf
        refine k_wVi (ws' := (wX8_readQuestion cI cZ jhm jam (bA (bO Sm u15.2) 0 (u15.2.2.1 0)))) (wr := [(jam 5, .inl (cI, 16, .inl ((bA (bO Sm u15.2) 0 (u15.2.2.1 0)).2.1 5)))]) (As := [.int (0 : Int32), .int ((Sm.1 6) - (1 : Int32))]) (rest := []) hC miX8_figure mjX8_figure.1 mjX8_figure.2 wd4_67 (qX8_figure l D cI cZ cO jhm jam Sm (0 : Int32) ((Sm.1 6) - (1 : Int32)) H.size u15 e16) ⟨Nat.le_of_ble_eq_true rfl, Nat.le_of_ble_eq_true rfl⟩ hP hD hK hZ hS hA [0, 1] [2] [1, 2, 0] rfl (by decide) rfl (by decide) (by decide) (by decide) rfl (va_recv hK hP (ci := 7) (q0 := 0) rfl rfl) hl.1 rfl rfl (Nat.le_of_ble_eq_true rfl) dX8_readQuestion_19 (fun H locs hP hD hS => ?_)
        refine lv_goto (tgt := 61) hx hb dX8_readQuestion_22 (by decide) ?_
        exact hj61 x1 (bA (bO Sm u15.2) 0 (u15.2.2.1 0)) u15.1 hf _ _ _ hP hD hS (lv_sub hl [0, 1] rfl)
  intro H locs hP hS
  refine lv_iconst (v := (0 : Int32)) hx hb dX8_readQuestion_0 rfl ?_
  refine lv_istore_n (lv' := [(1, .int (0 : Int32)), (0, .ref jhm)]) hx hb dX8_readQuestion_1 rfl hl (by decide) rfl (fun ls hl => ?_)
  exact hj2 (0 : Int32) Sm hf _ _ _ hP hD hS (lv_sub hl [1, 0] rfl)
abbrev wX8_readDeed (cI cZ : ClassId) (jhm : Nat) (jam : Nat → Nat) (Sm : Bk) : va_W := [(jhm, .inr (7, [.int (Sm.1 0), .ref (jam 0), .int (Sm.1 1), .int (Sm.1 2), .int (Sm.1 3), .int (Sm.1 4), .int (Sm.1 5), .ref (jam 1), .ref (jam 2), .ref (jam 3), .int (Sm.1 6), .int (Sm.1 7), .int (Sm.1 8), .ref (jam 4), .ref (jam 5), .ref (jam 6), .ref (jam 7), .ref (jam 8), .ref (jam 9), .int (Sm.1 9), .ref (jam 10), .ref (jam 11), .int (Sm.1 10), .ref (jam 12), .ref (jam 13), .long Sm.2.2, .ref (jam 14), .ref (jam 15), .int (Sm.1 11), .int (Sm.1 12), .int (Sm.1 13)])), (jam 0, .inl (cI, 64, .inl (Sm.2.1 0))), (jam 6, .inl (cI, 20, .inl (Sm.2.1 6)))]
def gX8_readDeed_65 (k2 : Int32 → Bk → Option (Int32 × Bk)) (x1 : Int32) (Sm : Bk) (y0 : Int32) : Option (Int32 × Bk) := (if y0 = (-9 : Int32) then some ((0 : Int32), Sm) else inB 20 (((5 : Int32) * (Sm.1 8)) + x1) (nmV (((5 : Int32) * (Sm.1 8)) + x1).toNatClampNeg (fun j3 => k2 (x1 + (1 : Int32)) (bW Sm 6 j3 y0))))
def sX8_readDeed_2 (k2 : Int32 → Bk → Option (Int32 × Bk)) (x1 : Int32) (Sm : Bk) : Option (Int32 × Bk) := (if (5 : Int32) ≤ x1 then nmV ((Sm.1 8) + (1 : Int32)) (fun v5 => some ((1 : Int32), (bI Sm 8 v5))) else (if x1 = 0 then (fX8_figure Sm (0 : Int32) ((Sm.1 7) - (1 : Int32))).bind (fun u15 => gX8_readDeed_65 k2 x1 (bA (bO Sm u15.2) 0 (u15.2.2.1 0)) u15.1) else (if x1 = (1 : Int32) then (fX8_figure Sm (0 : Int32) (1 : Int32)).bind (fun u13 => gX8_readDeed_65 k2 x1 (bA (bO Sm u13.2) 0 (u13.2.2.1 0)) u13.1) else (if x1 = (3 : Int32) then (fX8_figure Sm (0 : Int32) ((Sm.1 6) - (1 : Int32))).bind (fun u11 => gX8_readDeed_65 k2 x1 (bA (bO Sm u11.2) 0 (u11.2.2.1 0)) u11.1) else (fX8_figure Sm (0 : Int32) (9 : Int32)).bind (fun u9 => gX8_readDeed_65 k2 x1 (bA (bO Sm u9.2) 0 (u9.2.2.1 0)) u9.1)))))
def fX8_readDeed (Sm : Bk) : Option (Int32 × Bk) := lk2 (sX8_readDeed_2 ) 1000 (0 : Int32) Sm
theorem miX8_readDeed : MI yX8_readDeed cX8_readDeed 3 (some .boolean) 0 := ⟨wd1_8, wd4_78, by decide +kernel⟩
theorem mjX8_readDeed : Cond.instanceMethod yX8_readDeed ∈ wT ∧ Cond.selects yX8_readDeed.cls yX8_readDeed yX8_readDeed ∈ wT := ⟨wd4_77, ws_18⟩
set_option maxHeartbeats 4000000 in
set_option maxRecDepth 100000 in
theorem qX8_readDeed (l : Launch) (D : va_G) (cI cZ cO : ClassId) (jhm : Nat) (jam : Nat → Nat) (Sm : Bk) (sz : Nat) (res : Int32 × Bk) (hf : fX8_readDeed Sm = some res) : Met l yX8_readDeed (Cond.code yX8_readDeed cX8_readDeed 3 (some .boolean) :: wT) (rmF 2 47) (va_Pc [.ref jhm] (cW D (tyL cI cZ cO) (wX8_readDeed cI cZ jhm jam Sm) sz)) (va_Qi (S := Unit) (fun r _ => r = res.1) (fun _ => qW D (tyL cI cZ cO) (va_A (wX8_readDeed cI cZ jhm jam Sm) sz) (wX8_readDeed cI cZ jhm jam res.2)) (va_A (wX8_readDeed cI cZ jhm jam Sm) sz)) 0 0 (va_A (wX8_readDeed cI cZ jhm jam Sm) sz) := by
  refine met_w (by decide) (Nat.le_of_ble_eq_true rfl) ?_
  intro p e s m below meth c hx hb hr hml ht hown hlk ls hl hsz hP hK hD0 hZ
  subst hsz
  have hD := hD0.self (sz := s.heap.size)
  generalize hAe : va_A (wX8_readDeed cI cZ jhm jam Sm) s.heap.size = A at hD hZ ⊢
  have hA : ∀ q : Nat, s.heap.size ≤ q → A q := fun q h => by rw [← hAe]; exact Or.inr h
  have hS : va_S A s.heap s.heap [] := va_S.rf
  have hown : s.vm.findClass "EyeDrinkModel" = some m.cls := hown
  have hl : lv_has ls 3 [(0, .ref jhm)] := hl
  have hC : CallFix p m c cX8_readDeed 3 s ([.ref jhm] : List Value).toArray wT "EyeDrinkModel" := ⟨hx, hb, hml, hown, ht⟩
  unfold fX8_readDeed at hf
  suffices hgo : ∀ (H : Heap) (locs : List Loc), va_P D vwCl (wX8_readDeed cI cZ jhm jam Sm) H → va_S A s.heap H locs → W p l e (rmF 2 47) s m ([.ref jhm] : List Value).toArray below meth c H locs 0 0 (MQ below (va_Qi (S := Unit) (fun r _ => r = res.1) (fun _ => qW D (tyL cI cZ cO) A (wX8_readDeed cI cZ jhm jam res.2)) A) ([.ref jhm] : List Value).toArray s 0 0 A) (F0 m 0 ls []) from hgo s.heap [] hP hS
  have hj2 : ∀ (x1 : Int32) (Sm : Bk), lk2 (sX8_readDeed_2 ) 1000 x1 Sm = some res → ∀ (H : Heap) (locs : List Loc) (ls : Array Slot), va_P D vwCl (wX8_readDeed cI cZ jhm jam Sm) H → va_D A (wX8_readDeed cI cZ jhm jam Sm) → va_S A s.heap H locs → lv_has ls 3 [(0, .ref jhm), (1, .int x1)] → W p l e (rmF 2 47) s m ([.ref jhm] : List Value).toArray below meth c H locs 0 0 (MQ below (va_Qi (S := Unit) (fun r _ => r = res.1) (fun _ => qW D (tyL cI cZ cO) A (wX8_readDeed cI cZ jhm jam res.2)) A) ([.ref jhm] : List Value).toArray s 0 0 A) (F0 m 2 ls []) := by
    refine lk2_w (fun (x1 : Int32) (Sm : Bk) => ∀ (H : Heap) (locs : List Loc) (ls : Array Slot), va_P D vwCl (wX8_readDeed cI cZ jhm jam Sm) H → va_D A (wX8_readDeed cI cZ jhm jam Sm) → va_S A s.heap H locs → lv_has ls 3 [(0, .ref jhm), (1, .int x1)] → W p l e (rmF 2 47) s m ([.ref jhm] : List Value).toArray below meth c H locs 0 0 (MQ below (va_Qi (S := Unit) (fun r _ => r = res.1) (fun _ => qW D (tyL cI cZ cO) A (wX8_readDeed cI cZ jhm jam res.2)) A) ([.ref jhm] : List Value).toArray s 0 0 A) (F0 m 2 ls [])) ?_ 1000
    intro k2 hk2 x1 Sm hf H locs ls hP hD hS hl
    unfold sX8_readDeed_2 at hf
    have hj65 : ∀ (x1 : Int32) (Sm : Bk) (y0 : Int32), gX8_readDeed_65 k2 x1 Sm y0 = some res → ∀ (H : Heap) (locs : List Loc) (ls : Array Slot), va_P D vwCl (wX8_readDeed cI cZ jhm jam Sm) H → va_D A (wX8_readDeed cI cZ jhm jam Sm) → va_S A s.heap H locs → lv_has ls 3 [(0, .ref jhm), (1, .int x1)] → W p l e (rmF 2 47) s m ([.ref jhm] : List Value).toArray below meth c H locs 0 0 (MQ below (va_Qi (S := Unit) (fun r _ => r = res.1) (fun _ => qW D (tyL cI cZ cO) A (wX8_readDeed cI cZ jhm jam res.2)) A) ([.ref jhm] : List Value).toArray s 0 0 A) (F0 m 65 ls [.int y0]) := by
      intro x1 Sm y0 hf H locs ls hP hD hS hl
      unfold gX8_readDeed_65 at hf
      refine lv_istore_n (lv' := [(2, .int y0), (0, .ref jhm), (1, .int x1)]) hx hb dX8_readDeed_65 rfl hl (by decide) rfl (fun ls hl => ?_)
      refine lv_iload_n hx hb dX8_readDeed_66 rfl (lv_at hl 0 rfl) ?_
      refine lv_bipush (v := (-9 : Int32)) hx hb dX8_readDeed_67 rfl ?_
      refine lv_icmp_ne (tgt := 74) hx hb dX8_readDeed_69 (by decide) (fun c1 => ?_) (fun c1 => ?_)
      · have hf := itN c1 hf
        refine lv_aload_n hx hb dX8_readDeed_74 rfl (lv_at hl 1 rfl) ?_
        refine va_get (D := D) (ci := 7) (v := .ref (jam 6)) (C := RX8) (T := TX8) (N := 31) hx hb ht inX8 hown hK hP 0 rfl rfl 15 (by decide) (ht _ wd3_200) (fun _ h9 => h9) rfl dX8_readDeed_75 ?_
        refine lv_iconst (v := (5 : Int32)) hx hb dX8_readDeed_78 rfl ?_
        refine lv_aload_n hx hb dX8_readDeed_79 rfl (lv_at hl 1 rfl) ?_
        refine va_get (D := D) (ci := 7) (v := .int (Sm.1 8)) (C := RX8) (T := TX8) (N := 31) hx hb ht inX8 hown hK hP 0 rfl rfl 12 (by decide) (ht _ wd3_197) (fun _ h9 => h9) rfl dX8_readDeed_80 ?_
        refine lv_imul hx hb dX8_readDeed_83 ?_
        refine lv_iload_n hx hb dX8_readDeed_84 rfl (lv_at hl 2 rfl) ?_
        refine lv_iadd hx hb dX8_readDeed_85 ?_
        refine lv_iload_n hx hb dX8_readDeed_86 rfl (lv_at hl 0 rfl) ?_
        obtain ⟨h2, hf⟩ := inB_s hf
        obtain ⟨j3, ej3, hf⟩ := nmV_s hf
        refine va_iast (f := (Sm.2.1 6)) (n := 20) hx hb hK hP hD hS 2 0 rfl rfl h2 dX8_readDeed_87 (fun H locs hP hD hS => ?_)
        rw [← ej3] at hP hD
        have hP : va_P D vwCl (wX8_readDeed cI cZ jhm jam (bW Sm 6 j3 y0)) H := hP
        have hD : va_D A (wX8_readDeed cI cZ jhm jam (bW Sm 6 j3 y0)) := hD
        refine lv_iinc (v := (x1 + (1 : Int32))) (lv' := [(1, .int (x1 + (1 : Int32))), (2, .int y0), (0, .ref jhm)]) hx hb dX8_readDeed_88 hl (k := 2) rfl rfl (by decide) rfl (fun ls hl => ?_)
        refine lv_goto (tgt := 2) hx hb dX8_readDeed_91 (by decide) ?_
        exact hk2 (x1 + (1 : Int32)) (bW Sm 6 j3 y0) hf _ _ _ hP hD hS (lv_sub hl [2, 0] rfl)
      · have hf := itP c1 hf
        refine lv_iconst (v := (0 : Int32)) hx hb dX8_readDeed_72 rfl ?_
        cases hf
        exact W.zret hx hb hr rfl (fun t ht9 hW => ⟨⟨_, (), rfl, rfl, by rw [ht9]; exact hP, va_K.moved hW.alike hK, hD⟩, hS.F ht9⟩) hS.2.2 dX8_readDeed_73
    refine lv_iload_n hx hb dX8_readDeed_2 rfl (lv_at hl 1 rfl) ?_
    refine lv_iconst (v := (5 : Int32)) hx hb dX8_readDeed_3 rfl ?_
    refine lv_icmp_ge (tgt := 94) hx hb dX8_readDeed_4 (by decide) (fun c4 => ?_) (fun c4 => ?_)
    · have hf := itP c4 hf
      refine lv_aload_n hx hb dX8_readDeed_94 rfl (lv_at hl 0 rfl) ?_
      refine lv_dup hx hb dX8_readDeed_95 rfl ?_
      refine va_get (D := D) (ci := 7) (v := .int (Sm.1 8)) (C := RX8) (T := TX8) (N := 31) hx hb ht inX8 hown hK hP 0 rfl rfl 12 (by decide) (ht _ wd3_197) (fun _ h9 => h9) rfl dX8_readDeed_96 ?_
      refine lv_iconst (v := (1 : Int32)) hx hb dX8_readDeed_99 rfl ?_
      refine lv_iadd hx hb dX8_readDeed_100 ?_
      obtain ⟨v5, ev5, hf⟩ := nmV_s hf
      rw [← ev5]
      refine va_put (D := D) (ci := 7) (v := .int v5) (ty := .int) (C := RX8) (T := TX8) (N := 31) hx hb ht inX8 tyX8 tyX8_ok nmX8 hown hK hP hD hS 0 rfl rfl 12 (by decide) (ht _ wd3_197) (fun _ h9 => h9) rfl (tyX8_ok 12 (by decide)) rfl rfl (Nat.le_of_ble_eq_true rfl) dX8_readDeed_101 (fun H locs hP hD hS => ?_)
      have hP : va_P D vwCl (wX8_readDeed cI cZ jhm jam (bI Sm 8 v5)) H := hP
      have hD : va_D A (wX8_readDeed cI cZ jhm jam (bI Sm 8 v5)) := hD
      refine lv_iconst (v := (1 : Int32)) hx hb dX8_readDeed_104 rfl ?_
      cases hf
      exact W.zret hx hb hr rfl (fun t ht9 hW => ⟨⟨_, (), rfl, rfl, by rw [ht9]; exact hP, va_K.moved hW.alike hK, hD⟩, hS.F ht9⟩) hS.2.2 dX8_readDeed_105
    · have hf := itN c4 hf
      refine lv_iload_n hx hb dX8_readDeed_7 rfl (lv_at hl 1 rfl) ?_
      refine lv_if_ne (tgt := 25) hx hb dX8_readDeed_8 (by decide) (fun c6 => ?_) (fun c6 => ?_)
      · have hf := itN c6 hf
        refine lv_iload_n hx hb dX8_readDeed_25 rfl (lv_at hl 1 rfl) ?_
        refine lv_iconst (v := (1 : Int32)) hx hb dX8_readDeed_26 rfl ?_
        refine lv_icmp_ne (tgt := 39) hx hb dX8_readDeed_27 (by decide) (fun c7 => ?_) (fun c7 => ?_)
        · have hf := itN c7 hf
          refine lv_iload_n hx hb dX8_readDeed_39 rfl (lv_at hl 1 rfl) ?_
          refine lv_iconst (v := (3 : Int32)) hx hb dX8_readDeed_40 rfl ?_
          refine lv_icmp_ne (tgt := 58) hx hb dX8_readDeed_41 (by decide) (fun c8 => ?_) (fun c8 => ?_)
          · have hf := itN c8 hf
            refine lv_aload_n hx hb dX8_readDeed_58 rfl (lv_at hl 0 rfl) ?_
            refine lv_iconst (v := (0 : Int32)) hx hb dX8_readDeed_59 rfl ?_
            refine lv_bipush (v := (9 : Int32)) hx hb dX8_readDeed_60 rfl ?_
            obtain ⟨u9, e10, hf⟩ := bdS hf
            refine k_wVi (ws' := (wX8_readDeed cI cZ jhm jam (bA (bO Sm u9.2) 0 (u9.2.2.1 0)))) (wr := [(jam 6, .inl (cI, 20, .inl ((bA (bO Sm u9.2) 0 (u9.2.2.1 0)).2.1 6)))]) (As := [.int (0 : Int32), .int (9 : Int32)]) (rest := []) hC miX8_figure mjX8_figure.1 mjX8_figure.2 wd4_67 (qX8_figure l D cI cZ cO jhm jam Sm (0 : Int32) (9 : Int32) H.size u9 e10) ⟨Nat.le_of_ble_eq_true rfl, Nat.le_of_ble_eq_true rfl⟩ hP hD hK hZ hS hA [0, 1] [2] [1, 2, 0] rfl (by decide) rfl (by decide) (by decide) (by decide) rfl (va_recv hK hP (ci := 7) (q0 := 0) rfl rfl) hl.1 rfl rfl (Nat.le_of_ble_eq_true rfl) dX8_readDeed_62 (fun H locs hP hD hS => ?_)
            exact hj65 x1 (bA (bO Sm u9.2) 0 (u9.2.2.1 0)) u9.1 hf _ _ _ hP hD hS (lv_sub hl [0, 1] rfl)
          · have hf := itP c8 hf
            refine lv_aload_n hx hb dX8_readDeed_44 rfl (lv_at hl 0 rfl) ?_
            refine lv_iconst (v := (0 : Int32)) hx hb dX8_readDeed_45 rfl ?_
            refine lv_aload_n hx hb dX8_readDeed_46 rfl (lv_at hl 0 rfl) ?_
            refine va_get (D := D) (ci := 7) (v := .int (Sm.1 6)) (C := RX8) (T := TX8) (N := 31) hx hb ht inX8 hown hK hP 0 rfl rfl 10 (by decide) (ht _ wd3_195) (fun _ h9 => h9) rfl dX8_readDeed_47 ?_
            refine lv_iconst (v := (1 : Int32)) hx hb dX8_readDeed_50 rfl ?_
            refine lv_isub hx hb dX8_readDeed_51 ?_
            obtain ⟨u11, e12, hf⟩ := bdS hf
            refine k_wVi (ws' := (wX8_readDeed cI cZ jhm jam (bA (bO Sm u11.2) 0 (u11.2.2.1 0)))) (wr := [(jam 6, .inl (cI, 20, .inl ((bA (bO Sm u11.2) 0 (u11.2.2.1 0)).2.1 6)))]) (As := [.int (0 : Int32), .int ((Sm.1 6) - (1 : Int32))]) (rest := []) hC miX8_figure mjX8_figure.1 mjX8_figure.2 wd4_67 (qX8_figure l D cI cZ cO jhm jam Sm (0 : Int32) ((Sm.1 6) - (1 : Int32)) H.size u11 e12) ⟨Nat.le_of_ble_eq_true rfl, Nat.le_of_ble_eq_true rfl⟩ hP hD hK hZ hS hA [0, 1] [2] [1, 2, 0] rfl (by decide) rfl (by decide) (by decide) (by decide) rfl (va_recv hK hP (ci := 7) (q0 := 0) rfl rfl) hl.1 rfl rfl (Nat.le_of_ble_eq_true rfl) dX8_readDeed_52 (fun H locs hP hD hS => ?_)
            refine lv_goto (tgt := 65) hx hb dX8_readDeed_55 (by decide) ?_
            exact hj65 x1 (bA (bO Sm u11.2) 0 (u11.2.2.1 0)) u11.1 hf _ _ _ hP hD hS (lv_sub hl [0, 1] rfl)
        · have hf := itP c7 hf
          refine lv_aload_n hx hb dX8_readDeed_30 rfl (lv_at hl 0 rfl) ?_
          refine lv_iconst (v := (0 : Int32)) hx hb dX8_readDeed_31 rfl ?_
          refine lv_iconst (v := (1 : Int32)) hx hb dX8_readDeed_32 rfl ?_
          obtain ⟨u13, e14, hf⟩ := bdS hf
          refine k_wVi (ws' := (wX8_readDeed cI cZ jhm jam (bA (bO Sm u13.2) 0 (u13.2.2.1 0)))) (wr := [(jam 6, .inl (cI, 20, .inl ((bA (bO Sm u13.2) 0 (u13.2.2.1 0)).2.1 6)))]) (As := [.int (0 : Int32), .int (1 : Int32)]) (rest := []) hC miX8_figure mjX8_figure.1 mjX8_figure.2 wd4_67 (qX8_figure l D cI cZ cO jhm jam Sm (0 : Int32) (1 : Int32) H.size u13 e14) ⟨Nat.le_of_ble_eq_true rfl, Nat.le_of_ble_eq_true rfl⟩ hP hD hK hZ hS hA [0, 1] [2] [1, 2, 0] rfl (by decide) rfl (by decide) (by decide) (by decide) rfl (va_recv hK hP (ci := 7) (q0 := 0) rfl rfl) hl.1 rfl rfl (Nat.le_of_ble_eq_true rfl) dX8_readDeed_33 (fun H locs hP hD hS => ?_)
          refine lv_goto (tgt := 65) hx hb dX8_readDeed_36 (by decide) ?_
          exact hj65 x1 (bA (bO Sm u13.2) 0 (u13.2.2.1 0)) u13.1 hf _ _ _ hP hD hS (lv_sub hl [0, 1] rfl)
      · have hf := itP c6 hf
        refine lv_aload_n hx hb dX8_readDeed_11 rfl (lv_at hl 0 rfl) ?_
        refine lv_iconst (v := (0 : Int32)) hx hb dX8_readDeed_12 rfl ?_
        refine lv_aload_n hx hb dX8_readDeed_13 rfl (lv_at hl 0 rfl) ?_
        refine va_get (D := D) (ci := 7) (v := .int (Sm.1 7)) (C := RX8) (T := TX8) (N := 31) hx hb ht inX8 hown hK hP 0 rfl rfl 11 (by decide) (ht _ wd3_196) (fun _ h9 => h9) rfl dX8_readDeed_14 ?_
        refine lv_iconst (v := (1 : Int32)) hx hb dX8_readDeed_17 rfl ?_
        refine lv_isub hx hb dX8_readDeed_18 ?_
        obtain ⟨u15, e16, hf⟩ := bdS hf
        refine k_wVi (ws' := (wX8_readDeed cI cZ jhm jam (bA (bO Sm u15.2) 0 (u15.2.2.1 0)))) (wr := [(jam 6, .inl (cI, 20, .inl ((bA (bO Sm u15.2) 0 (u15.2.2.1 0)).2.1 6)))]) (As := [.int (0 : Int32), .int ((Sm.1 7) - (1 : Int32))]) (rest := []) hC miX8_figure mjX8_figure.1 mjX8_figure.2 wd4_67 (qX8_figure l D cI cZ cO jhm jam Sm (0 : Int32) ((Sm.1 7) - (1 : Int32)) H.size u15 e16) ⟨Nat.le_of_ble_eq_true rfl, Nat.le_of_ble_eq_true rfl⟩ hP hD hK hZ hS hA [0, 1] [2] [1, 2, 0] rfl (by decide) rfl (by decide) (by decide) (by decide) rfl (va_recv hK hP (ci := 7) (q0 := 0) rfl rfl) hl.1 rfl rfl (Nat.le_of_ble_eq_true rfl) dX8_readDeed_19 (fun H locs hP hD hS => ?_)
        refine lv_goto (tgt := 65) hx hb dX8_readDeed_22 (by decide) ?_
        exact hj65 x1 (bA (bO Sm u15.2) 0 (u15.2.2.1 0)) u15.1 hf _ _ _ hP hD hS (lv_sub hl [0, 1] rfl)
  intro H locs hP hS
  refine lv_iconst (v := (0 : Int32)) hx hb dX8_readDeed_0 rfl ?_
  refine lv_istore_n (lv' := [(1, .int (0 : Int32)), (0, .ref jhm)]) hx hb dX8_readDeed_1 rfl hl (by decide) rfl (fun ls hl => ?_)
  exact hj2 (0 : Int32) Sm hf _ _ _ hP hD hS (lv_sub hl [1, 0] rfl)
abbrev wX8_readPart (cI cZ : ClassId) (jhm : Nat) (jam : Nat → Nat) (Sm : Bk) : va_W := [(jhm, .inr (7, [.int (Sm.1 0), .ref (jam 0), .int (Sm.1 1), .int (Sm.1 2), .int (Sm.1 3), .int (Sm.1 4), .int (Sm.1 5), .ref (jam 1), .ref (jam 2), .ref (jam 3), .int (Sm.1 6), .int (Sm.1 7), .int (Sm.1 8), .ref (jam 4), .ref (jam 5), .ref (jam 6), .ref (jam 7), .ref (jam 8), .ref (jam 9), .int (Sm.1 9), .ref (jam 10), .ref (jam 11), .int (Sm.1 10), .ref (jam 12), .ref (jam 13), .long Sm.2.2, .ref (jam 14), .ref (jam 15), .int (Sm.1 11), .int (Sm.1 12), .int (Sm.1 13)])), (jam 0, .inl (cI, 64, .inl (Sm.2.1 0))), (jam 4, .inl (cI, 12, .inl (Sm.2.1 4))), (jam 5, .inl (cI, 16, .inl (Sm.2.1 5))), (jam 6, .inl (cI, 20, .inl (Sm.2.1 6)))]
def gX8_readPart_75 (x1 : Int32) (Sm : Bk) : Option (Int32 × Bk) := (if x1 = (68 : Int32) then (if (Sm.1 7) ≤ 0 then some ((0 : Int32), Sm) else (if (4 : Int32) ≤ (Sm.1 8) then some ((0 : Int32), Sm) else nmV ((Sm.1 2) + (1 : Int32)) (fun v4 => (fX8_readDeed (bI Sm 2 v4)).bind (fun u5 => z01 u5.1 (some (u5.1, (bA (bA (bO (bI Sm 2 v4) u5.2) 0 (u5.2.2.1 0)) 6 (u5.2.2.1 6)))))))) else some ((0 : Int32), Sm))
def gX8_readPart_39 (x1 : Int32) (Sm : Bk) : Option (Int32 × Bk) := (if x1 = (81 : Int32) then (if (Sm.1 6) ≤ 0 then gX8_readPart_75  x1 Sm else (if (4 : Int32) ≤ (Sm.1 7) then gX8_readPart_75  x1 Sm else nmV ((Sm.1 2) + (1 : Int32)) (fun v11 => (fX8_readQuestion (bI Sm 2 v11)).bind (fun u12 => z01 u12.1 (some (u12.1, (bA (bA (bO (bI Sm 2 v11) u12.2) 0 (u12.2.2.1 0)) 5 (u12.2.2.1 5)))))))) else gX8_readPart_75  x1 Sm)
def fX8_readPart (Sm : Bk) : Option (Int32 × Bk) := inB 64 (Sm.1 2) ((if ((Sm.2.1 0) (Sm.1 2).toNatClampNeg) = (84 : Int32) then (if (4 : Int32) ≤ (Sm.1 6) then gX8_readPart_39  ((Sm.2.1 0) (Sm.1 2).toNatClampNeg) Sm else nmV ((Sm.1 2) + (1 : Int32)) (fun v18 => (fX8_readThing (bI Sm 2 v18)).bind (fun u19 => z01 u19.1 (some (u19.1, (bA (bA (bO (bI Sm 2 v18) u19.2) 0 (u19.2.2.1 0)) 4 (u19.2.2.1 4))))))) else gX8_readPart_39  ((Sm.2.1 0) (Sm.1 2).toNatClampNeg) Sm))
theorem miX8_readPart : MI yX8_readPart cX8_readPart 2 (some .boolean) 0 := ⟨wd1_8, wd4_62, by decide +kernel⟩
theorem mjX8_readPart : Cond.instanceMethod yX8_readPart ∈ wT ∧ Cond.selects yX8_readPart.cls yX8_readPart yX8_readPart ∈ wT := ⟨wd4_61, ws_14⟩
set_option maxHeartbeats 4000000 in
set_option maxRecDepth 100000 in
theorem qX8_readPart (l : Launch) (D : va_G) (cI cZ cO : ClassId) (jhm : Nat) (jam : Nat → Nat) (Sm : Bk) (sz : Nat) (res : Int32 × Bk) (hf : fX8_readPart Sm = some res) : Met l yX8_readPart (Cond.code yX8_readPart cX8_readPart 2 (some .boolean) :: wT) (rmF 3 69) (va_Pc [.ref jhm] (cW D (tyL cI cZ cO) (wX8_readPart cI cZ jhm jam Sm) sz)) (va_Qi (S := Unit) (fun r _ => r = res.1) (fun _ => qW D (tyL cI cZ cO) (va_A (wX8_readPart cI cZ jhm jam Sm) sz) (wX8_readPart cI cZ jhm jam res.2)) (va_A (wX8_readPart cI cZ jhm jam Sm) sz)) 0 0 (va_A (wX8_readPart cI cZ jhm jam Sm) sz) := by
  refine met_w (by decide) (Nat.le_of_ble_eq_true rfl) ?_
  intro p e s m below meth c hx hb hr hml ht hown hlk ls hl hsz hP hK hD0 hZ
  subst hsz
  have hD := hD0.self (sz := s.heap.size)
  generalize hAe : va_A (wX8_readPart cI cZ jhm jam Sm) s.heap.size = A at hD hZ ⊢
  have hA : ∀ q : Nat, s.heap.size ≤ q → A q := fun q h => by rw [← hAe]; exact Or.inr h
  have hS : va_S A s.heap s.heap [] := va_S.rf
  have hown : s.vm.findClass "EyeDrinkModel" = some m.cls := hown
  have hl : lv_has ls 2 [(0, .ref jhm)] := hl
  have hC : CallFix p m c cX8_readPart 2 s ([.ref jhm] : List Value).toArray wT "EyeDrinkModel" := ⟨hx, hb, hml, hown, ht⟩
  unfold fX8_readPart at hf
  suffices hgo : ∀ (H : Heap) (locs : List Loc), va_P D vwCl (wX8_readPart cI cZ jhm jam Sm) H → va_S A s.heap H locs → W p l e (rmF 3 69) s m ([.ref jhm] : List Value).toArray below meth c H locs 0 0 (MQ below (va_Qi (S := Unit) (fun r _ => r = res.1) (fun _ => qW D (tyL cI cZ cO) A (wX8_readPart cI cZ jhm jam res.2)) A) ([.ref jhm] : List Value).toArray s 0 0 A) (F0 m 0 ls []) from hgo s.heap [] hP hS
  have hj75 : ∀ (x1 : Int32) (Sm : Bk), gX8_readPart_75  x1 Sm = some res → ∀ (H : Heap) (locs : List Loc) (ls : Array Slot), va_P D vwCl (wX8_readPart cI cZ jhm jam Sm) H → va_D A (wX8_readPart cI cZ jhm jam Sm) → va_S A s.heap H locs → lv_has ls 2 [(0, .ref jhm), (1, .int x1)] → W p l e (rmF 3 69) s m ([.ref jhm] : List Value).toArray below meth c H locs 0 0 (MQ below (va_Qi (S := Unit) (fun r _ => r = res.1) (fun _ => qW D (tyL cI cZ cO) A (wX8_readPart cI cZ jhm jam res.2)) A) ([.ref jhm] : List Value).toArray s 0 0 A) (F0 m 75 ls []) := by
    intro x1 Sm hf H locs ls hP hD hS hl
    unfold gX8_readPart_75 at hf
    refine lv_iload_n hx hb dX8_readPart_75 rfl (lv_at hl 1 rfl) ?_
    refine lv_bipush (v := (68 : Int32)) hx hb dX8_readPart_76 rfl ?_
    refine lv_icmp_ne (tgt := 111) hx hb dX8_readPart_78 (by decide) (fun c1 => ?_) (fun c1 => ?_)
    · have hf := itN c1 hf
      refine lv_iconst (v := (0 : Int32)) hx hb dX8_readPart_111 rfl ?_
      cases hf
      exact W.zret hx hb hr rfl (fun t ht9 hW => ⟨⟨_, (), rfl, rfl, by rw [ht9]; exact hP, va_K.moved hW.alike hK, hD⟩, hS.F ht9⟩) hS.2.2 dX8_readPart_112
    · have hf := itP c1 hf
      refine lv_aload_n hx hb dX8_readPart_81 rfl (lv_at hl 0 rfl) ?_
      refine va_get (D := D) (ci := 7) (v := .int (Sm.1 7)) (C := RX8) (T := TX8) (N := 31) hx hb ht inX8 hown hK hP 0 rfl rfl 11 (by decide) (ht _ wd3_196) (fun _ h9 => h9) rfl dX8_readPart_82 ?_
      refine lv_if_le (tgt := 111) hx hb dX8_readPart_85 (by decide) (fun c2 => ?_) (fun c2 => ?_)
      · have hf := itP c2 hf
        refine lv_iconst (v := (0 : Int32)) hx hb dX8_readPart_111 rfl ?_
        cases hf
        exact W.zret hx hb hr rfl (fun t ht9 hW => ⟨⟨_, (), rfl, rfl, by rw [ht9]; exact hP, va_K.moved hW.alike hK, hD⟩, hS.F ht9⟩) hS.2.2 dX8_readPart_112
      · have hf := itN c2 hf
        refine lv_aload_n hx hb dX8_readPart_88 rfl (lv_at hl 0 rfl) ?_
        refine va_get (D := D) (ci := 7) (v := .int (Sm.1 8)) (C := RX8) (T := TX8) (N := 31) hx hb ht inX8 hown hK hP 0 rfl rfl 12 (by decide) (ht _ wd3_197) (fun _ h9 => h9) rfl dX8_readPart_89 ?_
        refine lv_iconst (v := (4 : Int32)) hx hb dX8_readPart_92 rfl ?_
        refine lv_icmp_ge (tgt := 111) hx hb dX8_readPart_93 (by decide) (fun c3 => ?_) (fun c3 => ?_)
        · have hf := itP c3 hf
          refine lv_iconst (v := (0 : Int32)) hx hb dX8_readPart_111 rfl ?_
          cases hf
          exact W.zret hx hb hr rfl (fun t ht9 hW => ⟨⟨_, (), rfl, rfl, by rw [ht9]; exact hP, va_K.moved hW.alike hK, hD⟩, hS.F ht9⟩) hS.2.2 dX8_readPart_112
        · have hf := itN c3 hf
          refine lv_aload_n hx hb dX8_readPart_96 rfl (lv_at hl 0 rfl) ?_
          refine lv_dup hx hb dX8_readPart_97 rfl ?_
          refine va_get (D := D) (ci := 7) (v := .int (Sm.1 2)) (C := RX8) (T := TX8) (N := 31) hx hb ht inX8 hown hK hP 0 rfl rfl 3 (by decide) (ht _ wd3_188) (fun _ h9 => h9) rfl dX8_readPart_98 ?_
          refine lv_iconst (v := (1 : Int32)) hx hb dX8_readPart_101 rfl ?_
          refine lv_iadd hx hb dX8_readPart_102 ?_
          obtain ⟨v4, ev4, hf⟩ := nmV_s hf
          rw [← ev4]
          refine va_put (D := D) (ci := 7) (v := .int v4) (ty := .int) (C := RX8) (T := TX8) (N := 31) hx hb ht inX8 tyX8 tyX8_ok nmX8 hown hK hP hD hS 0 rfl rfl 3 (by decide) (ht _ wd3_188) (fun _ h9 => h9) rfl (tyX8_ok 3 (by decide)) rfl rfl (Nat.le_of_ble_eq_true rfl) dX8_readPart_103 (fun H locs hP hD hS => ?_)
          have hP : va_P D vwCl (wX8_readPart cI cZ jhm jam (bI Sm 2 v4)) H := hP
          have hD : va_D A (wX8_readPart cI cZ jhm jam (bI Sm 2 v4)) := hD
          refine lv_aload_n hx hb dX8_readPart_106 rfl (lv_at hl 0 rfl) ?_
          obtain ⟨u5, e6, hf⟩ := bdS hf
          refine k_wVi (ws' := (wX8_readPart cI cZ jhm jam (bA (bA (bO (bI Sm 2 v4) u5.2) 0 (u5.2.2.1 0)) 6 (u5.2.2.1 6)))) (wr := [(jam 4, .inl (cI, 12, .inl ((bA (bA (bO (bI Sm 2 v4) u5.2) 0 (u5.2.2.1 0)) 6 (u5.2.2.1 6)).2.1 4))), (jam 5, .inl (cI, 16, .inl ((bA (bA (bO (bI Sm 2 v4) u5.2) 0 (u5.2.2.1 0)) 6 (u5.2.2.1 6)).2.1 5)))]) (As := []) (rest := []) hC miX8_readDeed mjX8_readDeed.1 mjX8_readDeed.2 wd4_75 (qX8_readDeed l D cI cZ cO jhm jam (bI Sm 2 v4) H.size u5 e6) ⟨Nat.le_of_ble_eq_true rfl, Nat.le_of_ble_eq_true rfl⟩ hP hD hK hZ hS hA [0, 1, 4] [2, 3] [2, 3, 0, 1, 4] rfl (by decide) rfl (by decide) (by decide) (by decide) rfl (va_recv hK hP (ci := 7) (q0 := 0) rfl rfl) hl.1 rfl rfl (Nat.le_of_ble_eq_true rfl) dX8_readPart_107 (fun H locs hP hD hS => ?_)
          obtain ⟨z7, hf⟩ := z01_s hf
          cases hf
          exact W.zret hx hb hr (nar01 z7) (fun t ht9 hW => ⟨⟨_, (), rfl, rfl, by rw [ht9]; exact hP, va_K.moved hW.alike hK, hD⟩, hS.F ht9⟩) hS.2.2 dX8_readPart_110
  have hj39 : ∀ (x1 : Int32) (Sm : Bk), gX8_readPart_39  x1 Sm = some res → ∀ (H : Heap) (locs : List Loc) (ls : Array Slot), va_P D vwCl (wX8_readPart cI cZ jhm jam Sm) H → va_D A (wX8_readPart cI cZ jhm jam Sm) → va_S A s.heap H locs → lv_has ls 2 [(0, .ref jhm), (1, .int x1)] → W p l e (rmF 3 69) s m ([.ref jhm] : List Value).toArray below meth c H locs 0 0 (MQ below (va_Qi (S := Unit) (fun r _ => r = res.1) (fun _ => qW D (tyL cI cZ cO) A (wX8_readPart cI cZ jhm jam res.2)) A) ([.ref jhm] : List Value).toArray s 0 0 A) (F0 m 39 ls []) := by
    intro x1 Sm hf H locs ls hP hD hS hl
    unfold gX8_readPart_39 at hf
    refine lv_iload_n hx hb dX8_readPart_39 rfl (lv_at hl 1 rfl) ?_
    refine lv_bipush (v := (81 : Int32)) hx hb dX8_readPart_40 rfl ?_
    refine lv_icmp_ne (tgt := 75) hx hb dX8_readPart_42 (by decide) (fun c8 => ?_) (fun c8 => ?_)
    · have hf := itN c8 hf
      exact hj75 x1 Sm hf _ _ _ hP hD hS (lv_sub hl [0, 1] rfl)
    · have hf := itP c8 hf
      refine lv_aload_n hx hb dX8_readPart_45 rfl (lv_at hl 0 rfl) ?_
      refine va_get (D := D) (ci := 7) (v := .int (Sm.1 6)) (C := RX8) (T := TX8) (N := 31) hx hb ht inX8 hown hK hP 0 rfl rfl 10 (by decide) (ht _ wd3_195) (fun _ h9 => h9) rfl dX8_readPart_46 ?_
      refine lv_if_le (tgt := 75) hx hb dX8_readPart_49 (by decide) (fun c9 => ?_) (fun c9 => ?_)
      · have hf := itP c9 hf
        exact hj75 x1 Sm hf _ _ _ hP hD hS (lv_sub hl [0, 1] rfl)
      · have hf := itN c9 hf
        refine lv_aload_n hx hb dX8_readPart_52 rfl (lv_at hl 0 rfl) ?_
        refine va_get (D := D) (ci := 7) (v := .int (Sm.1 7)) (C := RX8) (T := TX8) (N := 31) hx hb ht inX8 hown hK hP 0 rfl rfl 11 (by decide) (ht _ wd3_196) (fun _ h9 => h9) rfl dX8_readPart_53 ?_
        refine lv_iconst (v := (4 : Int32)) hx hb dX8_readPart_56 rfl ?_
        refine lv_icmp_ge (tgt := 75) hx hb dX8_readPart_57 (by decide) (fun c10 => ?_) (fun c10 => ?_)
        · have hf := itP c10 hf
          exact hj75 x1 Sm hf _ _ _ hP hD hS (lv_sub hl [0, 1] rfl)
        · have hf := itN c10 hf
          refine lv_aload_n hx hb dX8_readPart_60 rfl (lv_at hl 0 rfl) ?_
          refine lv_dup hx hb dX8_readPart_61 rfl ?_
          refine va_get (D := D) (ci := 7) (v := .int (Sm.1 2)) (C := RX8) (T := TX8) (N := 31) hx hb ht inX8 hown hK hP 0 rfl rfl 3 (by decide) (ht _ wd3_188) (fun _ h9 => h9) rfl dX8_readPart_62 ?_
          refine lv_iconst (v := (1 : Int32)) hx hb dX8_readPart_65 rfl ?_
          refine lv_iadd hx hb dX8_readPart_66 ?_
          obtain ⟨v11, ev11, hf⟩ := nmV_s hf
          rw [← ev11]
          refine va_put (D := D) (ci := 7) (v := .int v11) (ty := .int) (C := RX8) (T := TX8) (N := 31) hx hb ht inX8 tyX8 tyX8_ok nmX8 hown hK hP hD hS 0 rfl rfl 3 (by decide) (ht _ wd3_188) (fun _ h9 => h9) rfl (tyX8_ok 3 (by decide)) rfl rfl (Nat.le_of_ble_eq_true rfl) dX8_readPart_67 (fun H locs hP hD hS => ?_)
          have hP : va_P D vwCl (wX8_readPart cI cZ jhm jam (bI Sm 2 v11)) H := hP
          have hD : va_D A (wX8_readPart cI cZ jhm jam (bI Sm 2 v11)) := hD
          refine lv_aload_n hx hb dX8_readPart_70 rfl (lv_at hl 0 rfl) ?_
          obtain ⟨u12, e13, hf⟩ := bdS hf
          refine k_wVi (ws' := (wX8_readPart cI cZ jhm jam (bA (bA (bO (bI Sm 2 v11) u12.2) 0 (u12.2.2.1 0)) 5 (u12.2.2.1 5)))) (wr := [(jam 4, .inl (cI, 12, .inl ((bA (bA (bO (bI Sm 2 v11) u12.2) 0 (u12.2.2.1 0)) 5 (u12.2.2.1 5)).2.1 4))), (jam 6, .inl (cI, 20, .inl ((bA (bA (bO (bI Sm 2 v11) u12.2) 0 (u12.2.2.1 0)) 5 (u12.2.2.1 5)).2.1 6)))]) (As := []) (rest := []) hC miX8_readQuestion mjX8_readQuestion.1 mjX8_readQuestion.2 wd4_71 (qX8_readQuestion l D cI cZ cO jhm jam (bI Sm 2 v11) H.size u12 e13) ⟨Nat.le_of_ble_eq_true rfl, Nat.le_of_ble_eq_true rfl⟩ hP hD hK hZ hS hA [0, 1, 3] [2, 4] [2, 3, 0, 4, 1] rfl (by decide) rfl (by decide) (by decide) (by decide) rfl (va_recv hK hP (ci := 7) (q0 := 0) rfl rfl) hl.1 rfl rfl (Nat.le_of_ble_eq_true rfl) dX8_readPart_71 (fun H locs hP hD hS => ?_)
          obtain ⟨z14, hf⟩ := z01_s hf
          cases hf
          exact W.zret hx hb hr (nar01 z14) (fun t ht9 hW => ⟨⟨_, (), rfl, rfl, by rw [ht9]; exact hP, va_K.moved hW.alike hK, hD⟩, hS.F ht9⟩) hS.2.2 dX8_readPart_74
  intro H locs hP hS
  refine lv_aload_n hx hb dX8_readPart_0 rfl (lv_at hl 0 rfl) ?_
  refine va_get (D := D) (ci := 7) (v := .ref (jam 0)) (C := RX8) (T := TX8) (N := 31) hx hb ht inX8 hown hK hP 0 rfl rfl 1 (by decide) (ht _ wd3_186) (fun _ h9 => h9) rfl dX8_readPart_1 ?_
  refine lv_aload_n hx hb dX8_readPart_4 rfl (lv_at hl 0 rfl) ?_
  refine va_get (D := D) (ci := 7) (v := .int (Sm.1 2)) (C := RX8) (T := TX8) (N := 31) hx hb ht inX8 hown hK hP 0 rfl rfl 3 (by decide) (ht _ wd3_188) (fun _ h9 => h9) rfl dX8_readPart_5 ?_
  obtain ⟨h15, hf⟩ := inB_s hf
  refine va_iald (f := (Sm.2.1 0)) (n := 64) hx hb hK hP 1 0 rfl rfl h15 dX8_readPart_8 ?_
  refine lv_istore_n (lv' := [(1, .int ((Sm.2.1 0) (Sm.1 2).toNatClampNeg)), (0, .ref jhm)]) hx hb dX8_readPart_9 rfl hl (by decide) rfl (fun ls hl => ?_)
  refine lv_iload_n hx hb dX8_readPart_10 rfl (lv_at hl 0 rfl) ?_
  refine lv_bipush (v := (84 : Int32)) hx hb dX8_readPart_11 rfl ?_
  refine lv_icmp_ne (tgt := 39) hx hb dX8_readPart_13 (by decide) (fun c16 => ?_) (fun c16 => ?_)
  · have hf := itN c16 hf
    exact hj39 ((Sm.2.1 0) (Sm.1 2).toNatClampNeg) Sm hf _ _ _ hP hD hS (lv_sub hl [1, 0] rfl)
  · have hf := itP c16 hf
    refine lv_aload_n hx hb dX8_readPart_16 rfl (lv_at hl 1 rfl) ?_
    refine va_get (D := D) (ci := 7) (v := .int (Sm.1 6)) (C := RX8) (T := TX8) (N := 31) hx hb ht inX8 hown hK hP 0 rfl rfl 10 (by decide) (ht _ wd3_195) (fun _ h9 => h9) rfl dX8_readPart_17 ?_
    refine lv_iconst (v := (4 : Int32)) hx hb dX8_readPart_20 rfl ?_
    refine lv_icmp_ge (tgt := 39) hx hb dX8_readPart_21 (by decide) (fun c17 => ?_) (fun c17 => ?_)
    · have hf := itP c17 hf
      exact hj39 ((Sm.2.1 0) (Sm.1 2).toNatClampNeg) Sm hf _ _ _ hP hD hS (lv_sub hl [1, 0] rfl)
    · have hf := itN c17 hf
      refine lv_aload_n hx hb dX8_readPart_24 rfl (lv_at hl 1 rfl) ?_
      refine lv_dup hx hb dX8_readPart_25 rfl ?_
      refine va_get (D := D) (ci := 7) (v := .int (Sm.1 2)) (C := RX8) (T := TX8) (N := 31) hx hb ht inX8 hown hK hP 0 rfl rfl 3 (by decide) (ht _ wd3_188) (fun _ h9 => h9) rfl dX8_readPart_26 ?_
      refine lv_iconst (v := (1 : Int32)) hx hb dX8_readPart_29 rfl ?_
      refine lv_iadd hx hb dX8_readPart_30 ?_
      obtain ⟨v18, ev18, hf⟩ := nmV_s hf
      rw [← ev18]
      refine va_put (D := D) (ci := 7) (v := .int v18) (ty := .int) (C := RX8) (T := TX8) (N := 31) hx hb ht inX8 tyX8 tyX8_ok nmX8 hown hK hP hD hS 0 rfl rfl 3 (by decide) (ht _ wd3_188) (fun _ h9 => h9) rfl (tyX8_ok 3 (by decide)) rfl rfl (Nat.le_of_ble_eq_true rfl) dX8_readPart_31 (fun H locs hP hD hS => ?_)
      have hP : va_P D vwCl (wX8_readPart cI cZ jhm jam (bI Sm 2 v18)) H := hP
      have hD : va_D A (wX8_readPart cI cZ jhm jam (bI Sm 2 v18)) := hD
      refine lv_aload_n hx hb dX8_readPart_34 rfl (lv_at hl 1 rfl) ?_
      obtain ⟨u19, e20, hf⟩ := bdS hf
      refine k_wVi (ws' := (wX8_readPart cI cZ jhm jam (bA (bA (bO (bI Sm 2 v18) u19.2) 0 (u19.2.2.1 0)) 4 (u19.2.2.1 4)))) (wr := [(jam 5, .inl (cI, 16, .inl ((bA (bA (bO (bI Sm 2 v18) u19.2) 0 (u19.2.2.1 0)) 4 (u19.2.2.1 4)).2.1 5))), (jam 6, .inl (cI, 20, .inl ((bA (bA (bO (bI Sm 2 v18) u19.2) 0 (u19.2.2.1 0)) 4 (u19.2.2.1 4)).2.1 6)))]) (As := []) (rest := []) hC miX8_readThing mjX8_readThing.1 mjX8_readThing.2 wd4_63 (qX8_readThing l D cI cZ cO jhm jam (bI Sm 2 v18) H.size u19 e20) ⟨Nat.le_of_ble_eq_true rfl, Nat.le_of_ble_eq_true rfl⟩ hP hD hK hZ hS hA [0, 1, 2] [3, 4] [2, 3, 4, 0, 1] rfl (by decide) rfl (by decide) (by decide) (by decide) rfl (va_recv hK hP (ci := 7) (q0 := 0) rfl rfl) hl.1 rfl rfl (Nat.le_of_ble_eq_true rfl) dX8_readPart_35 (fun H locs hP hD hS => ?_)
      obtain ⟨z21, hf⟩ := z01_s hf
      cases hf
      exact W.zret hx hb hr (nar01 z21) (fun t ht9 hW => ⟨⟨_, (), rfl, rfl, by rw [ht9]; exact hP, va_K.moved hW.alike hK, hD⟩, hS.F ht9⟩) hS.2.2 dX8_readPart_38
abbrev wX8_readWell (cI cZ : ClassId) (jhm : Nat) (jam : Nat → Nat) (Sm : Bk) : va_W := [(jhm, .inr (7, [.int (Sm.1 0), .ref (jam 0), .int (Sm.1 1), .int (Sm.1 2), .int (Sm.1 3), .int (Sm.1 4), .int (Sm.1 5), .ref (jam 1), .ref (jam 2), .ref (jam 3), .int (Sm.1 6), .int (Sm.1 7), .int (Sm.1 8), .ref (jam 4), .ref (jam 5), .ref (jam 6), .ref (jam 7), .ref (jam 8), .ref (jam 9), .int (Sm.1 9), .ref (jam 10), .ref (jam 11), .int (Sm.1 10), .ref (jam 12), .ref (jam 13), .long Sm.2.2, .ref (jam 14), .ref (jam 15), .int (Sm.1 11), .int (Sm.1 12), .int (Sm.1 13)])), (jam 0, .inl (cI, 64, .inl (Sm.2.1 0))), (jam 4, .inl (cI, 12, .inl (Sm.2.1 4))), (jam 5, .inl (cI, 16, .inl (Sm.2.1 5))), (jam 6, .inl (cI, 20, .inl (Sm.2.1 6)))]
def sX8_readWell_45 (k45 : Bk → Option (Int32 × Bk)) (Sm : Bk) : Option (Int32 × Bk) := (if (Sm.1 1) ≤ (Sm.1 2) then some ((-9 : Int32), Sm) else (fX8_readPart Sm).bind (fun u2 => (if u2.1 = 0 then some ((u2.2.1 2), u2.2) else k45 u2.2)))
def fX8_readWell (Sm : Bk) : Option (Int32 × Bk) := (if (Sm.1 1) = 0 then some ((0 : Int32), (bI (bI (bI (bI Sm 2 (0 : Int32)) 6 (0 : Int32)) 7 (0 : Int32)) 8 (0 : Int32))) else inB 64 (0 : Int32) ((if ((Sm.2.1 0) (0 : Int32).toNatClampNeg) = (69 : Int32) then lk1 (sX8_readWell_45 ) 1000 (bI (bI (bI (bI (bI Sm 2 (0 : Int32)) 6 (0 : Int32)) 7 (0 : Int32)) 8 (0 : Int32)) 2 (1 : Int32)) else some ((0 : Int32), (bI (bI (bI (bI Sm 2 (0 : Int32)) 6 (0 : Int32)) 7 (0 : Int32)) 8 (0 : Int32))))))
theorem miX8_readWell : MI yX8_readWell cX8_readWell 1 (some .int) 0 := ⟨wd1_8, wd4_58, by decide +kernel⟩
theorem mjX8_readWell : Cond.instanceMethod yX8_readWell ∈ wT ∧ Cond.selects yX8_readWell.cls yX8_readWell yX8_readWell ∈ wT := ⟨wd4_57, ws_13⟩
set_option maxHeartbeats 4000000 in
set_option maxRecDepth 100000 in
theorem qX8_readWell (l : Launch) (D : va_G) (cI cZ cO : ClassId) (jhm : Nat) (jam : Nat → Nat) (Sm : Bk) (sz : Nat) (res : Int32 × Bk) (hf : fX8_readWell Sm = some res) : Met l yX8_readWell (Cond.code yX8_readWell cX8_readWell 1 (some .int) :: wT) (rmF 4 90) (va_Pc [.ref jhm] (cW D (tyL cI cZ cO) (wX8_readWell cI cZ jhm jam Sm) sz)) (va_Qi (S := Unit) (fun r _ => r = res.1) (fun _ => qW D (tyL cI cZ cO) (va_A (wX8_readWell cI cZ jhm jam Sm) sz) (wX8_readWell cI cZ jhm jam res.2)) (va_A (wX8_readWell cI cZ jhm jam Sm) sz)) 0 0 (va_A (wX8_readWell cI cZ jhm jam Sm) sz) := by
  refine met_w (by decide) (Nat.le_of_ble_eq_true rfl) ?_
  intro p e s m below meth c hx hb hr hml ht hown hlk ls hl hsz hP hK hD0 hZ
  subst hsz
  have hD := hD0.self (sz := s.heap.size)
  generalize hAe : va_A (wX8_readWell cI cZ jhm jam Sm) s.heap.size = A at hD hZ ⊢
  have hA : ∀ q : Nat, s.heap.size ≤ q → A q := fun q h => by rw [← hAe]; exact Or.inr h
  have hS : va_S A s.heap s.heap [] := va_S.rf
  have hown : s.vm.findClass "EyeDrinkModel" = some m.cls := hown
  have hl : lv_has ls 1 [(0, .ref jhm)] := hl
  have hC : CallFix p m c cX8_readWell 1 s ([.ref jhm] : List Value).toArray wT "EyeDrinkModel" := ⟨hx, hb, hml, hown, ht⟩
  unfold fX8_readWell at hf
  suffices hgo : ∀ (H : Heap) (locs : List Loc), va_P D vwCl (wX8_readWell cI cZ jhm jam Sm) H → va_S A s.heap H locs → W p l e (rmF 4 90) s m ([.ref jhm] : List Value).toArray below meth c H locs 0 0 (MQ below (va_Qi (S := Unit) (fun r _ => r = res.1) (fun _ => qW D (tyL cI cZ cO) A (wX8_readWell cI cZ jhm jam res.2)) A) ([.ref jhm] : List Value).toArray s 0 0 A) (F0 m 0 ls []) from hgo s.heap [] hP hS
  have hj45 : ∀ (Sm : Bk), lk1 (sX8_readWell_45 ) 1000 Sm = some res → ∀ (H : Heap) (locs : List Loc) (ls : Array Slot), va_P D vwCl (wX8_readWell cI cZ jhm jam Sm) H → va_D A (wX8_readWell cI cZ jhm jam Sm) → va_S A s.heap H locs → lv_has ls 1 [(0, .ref jhm)] → W p l e (rmF 4 90) s m ([.ref jhm] : List Value).toArray below meth c H locs 0 0 (MQ below (va_Qi (S := Unit) (fun r _ => r = res.1) (fun _ => qW D (tyL cI cZ cO) A (wX8_readWell cI cZ jhm jam res.2)) A) ([.ref jhm] : List Value).toArray s 0 0 A) (F0 m 45 ls []) := by
    refine lk1_w (fun (Sm : Bk) => ∀ (H : Heap) (locs : List Loc) (ls : Array Slot), va_P D vwCl (wX8_readWell cI cZ jhm jam Sm) H → va_D A (wX8_readWell cI cZ jhm jam Sm) → va_S A s.heap H locs → lv_has ls 1 [(0, .ref jhm)] → W p l e (rmF 4 90) s m ([.ref jhm] : List Value).toArray below meth c H locs 0 0 (MQ below (va_Qi (S := Unit) (fun r _ => r = res.1) (fun _ => qW D (tyL cI cZ cO) A (wX8_readWell cI cZ jhm jam res.2)) A) ([.ref jhm] : List Value).toArray s 0 0 A) (F0 m 45 ls [])) ?_ 1000
    intro k45 hk45 Sm hf H locs ls hP hD hS hl
    unfold sX8_readWell_45 at hf
    refine lv_aload_n hx hb dX8_readWell_45 rfl (lv_at hl 0 rfl) ?_
    refine va_get (D := D) (ci := 7) (v := .int (Sm.1 2)) (C := RX8) (T := TX8) (N := 31) hx hb ht inX8 hown hK hP 0 rfl rfl 3 (by decide) (ht _ wd3_188) (fun _ h9 => h9) rfl dX8_readWell_46 ?_
    refine lv_aload_n hx hb dX8_readWell_49 rfl (lv_at hl 0 rfl) ?_
    refine va_get (D := D) (ci := 7) (v := .int (Sm.1 1)) (C := RX8) (T := TX8) (N := 31) hx hb ht inX8 hown hK hP 0 rfl rfl 2 (by decide) (ht _ wd3_187) (fun _ h9 => h9) rfl dX8_readWell_50 ?_
    refine lv_icmp_ge (tgt := 68) hx hb dX8_readWell_53 (by decide) (fun c1 => ?_) (fun c1 => ?_)
    · have hf := itP c1 hf
      refine lv_bipush (v := (-9 : Int32)) hx hb dX8_readWell_68 rfl ?_
      cases hf
      exact W.iret hx hb hr (fun t ht9 hW => ⟨⟨_, (), rfl, rfl, by rw [ht9]; exact hP, va_K.moved hW.alike hK, hD⟩, hS.F ht9⟩) hS.2.2 dX8_readWell_70
    · have hf := itN c1 hf
      refine lv_aload_n hx hb dX8_readWell_56 rfl (lv_at hl 0 rfl) ?_
      obtain ⟨u2, e3, hf⟩ := bdS hf
      refine k_wVi (ws' := (wX8_readWell cI cZ jhm jam u2.2)) (wr := []) (As := []) (rest := []) hC miX8_readPart mjX8_readPart.1 mjX8_readPart.2 wd4_59 (qX8_readPart l D cI cZ cO jhm jam Sm H.size u2 e3) ⟨Nat.le_of_ble_eq_true rfl, Nat.le_of_ble_eq_true rfl⟩ hP hD hK hZ hS hA [0, 1, 2, 3, 4] [] [0, 1, 2, 3, 4] rfl (by decide) rfl (by decide) (by decide) (by decide) rfl (va_recv hK hP (ci := 7) (q0 := 0) rfl rfl) hl.1 rfl rfl (Nat.le_of_ble_eq_true rfl) dX8_readWell_57 (fun H locs hP hD hS => ?_)
      refine lv_if_ne (tgt := 45) hx hb dX8_readWell_60 (by decide) (fun c4 => ?_) (fun c4 => ?_)
      · have hf := itN c4 hf
        exact hk45 u2.2 hf _ _ _ hP hD hS (lv_sub hl [0] rfl)
      · have hf := itP c4 hf
        refine lv_aload_n hx hb dX8_readWell_63 rfl (lv_at hl 0 rfl) ?_
        refine va_get (D := D) (ci := 7) (v := .int (u2.2.1 2)) (C := RX8) (T := TX8) (N := 31) hx hb ht inX8 hown hK hP 0 rfl rfl 3 (by decide) (ht _ wd3_188) (fun _ h9 => h9) rfl dX8_readWell_64 ?_
        cases hf
        exact W.iret hx hb hr (fun t ht9 hW => ⟨⟨_, (), rfl, rfl, by rw [ht9]; exact hP, va_K.moved hW.alike hK, hD⟩, hS.F ht9⟩) hS.2.2 dX8_readWell_67
  intro H locs hP hS
  refine lv_aload_n hx hb dX8_readWell_0 rfl (lv_at hl 0 rfl) ?_
  refine lv_iconst (v := (0 : Int32)) hx hb dX8_readWell_1 rfl ?_
  refine va_put (D := D) (ci := 7) (v := .int (0 : Int32)) (ty := .int) (C := RX8) (T := TX8) (N := 31) hx hb ht inX8 tyX8 tyX8_ok nmX8 hown hK hP hD hS 0 rfl rfl 3 (by decide) (ht _ wd3_188) (fun _ h9 => h9) rfl (tyX8_ok 3 (by decide)) rfl rfl (Nat.le_of_ble_eq_true rfl) dX8_readWell_2 (fun H locs hP hD hS => ?_)
  have hP : va_P D vwCl (wX8_readWell cI cZ jhm jam (bI Sm 2 (0 : Int32))) H := hP
  have hD : va_D A (wX8_readWell cI cZ jhm jam (bI Sm 2 (0 : Int32))) := hD
  refine lv_aload_n hx hb dX8_readWell_5 rfl (lv_at hl 0 rfl) ?_
  refine lv_iconst (v := (0 : Int32)) hx hb dX8_readWell_6 rfl ?_
  refine va_put (D := D) (ci := 7) (v := .int (0 : Int32)) (ty := .int) (C := RX8) (T := TX8) (N := 31) hx hb ht inX8 tyX8 tyX8_ok nmX8 hown hK hP hD hS 0 rfl rfl 10 (by decide) (ht _ wd3_195) (fun _ h9 => h9) rfl (tyX8_ok 10 (by decide)) rfl rfl (Nat.le_of_ble_eq_true rfl) dX8_readWell_7 (fun H locs hP hD hS => ?_)
  have hP : va_P D vwCl (wX8_readWell cI cZ jhm jam (bI (bI Sm 2 (0 : Int32)) 6 (0 : Int32))) H := hP
  have hD : va_D A (wX8_readWell cI cZ jhm jam (bI (bI Sm 2 (0 : Int32)) 6 (0 : Int32))) := hD
  refine lv_aload_n hx hb dX8_readWell_10 rfl (lv_at hl 0 rfl) ?_
  refine lv_iconst (v := (0 : Int32)) hx hb dX8_readWell_11 rfl ?_
  refine va_put (D := D) (ci := 7) (v := .int (0 : Int32)) (ty := .int) (C := RX8) (T := TX8) (N := 31) hx hb ht inX8 tyX8 tyX8_ok nmX8 hown hK hP hD hS 0 rfl rfl 11 (by decide) (ht _ wd3_196) (fun _ h9 => h9) rfl (tyX8_ok 11 (by decide)) rfl rfl (Nat.le_of_ble_eq_true rfl) dX8_readWell_12 (fun H locs hP hD hS => ?_)
  have hP : va_P D vwCl (wX8_readWell cI cZ jhm jam (bI (bI (bI Sm 2 (0 : Int32)) 6 (0 : Int32)) 7 (0 : Int32))) H := hP
  have hD : va_D A (wX8_readWell cI cZ jhm jam (bI (bI (bI Sm 2 (0 : Int32)) 6 (0 : Int32)) 7 (0 : Int32))) := hD
  refine lv_aload_n hx hb dX8_readWell_15 rfl (lv_at hl 0 rfl) ?_
  refine lv_iconst (v := (0 : Int32)) hx hb dX8_readWell_16 rfl ?_
  refine va_put (D := D) (ci := 7) (v := .int (0 : Int32)) (ty := .int) (C := RX8) (T := TX8) (N := 31) hx hb ht inX8 tyX8 tyX8_ok nmX8 hown hK hP hD hS 0 rfl rfl 12 (by decide) (ht _ wd3_197) (fun _ h9 => h9) rfl (tyX8_ok 12 (by decide)) rfl rfl (Nat.le_of_ble_eq_true rfl) dX8_readWell_17 (fun H locs hP hD hS => ?_)
  have hP : va_P D vwCl (wX8_readWell cI cZ jhm jam (bI (bI (bI (bI Sm 2 (0 : Int32)) 6 (0 : Int32)) 7 (0 : Int32)) 8 (0 : Int32))) H := hP
  have hD : va_D A (wX8_readWell cI cZ jhm jam (bI (bI (bI (bI Sm 2 (0 : Int32)) 6 (0 : Int32)) 7 (0 : Int32)) 8 (0 : Int32))) := hD
  refine lv_aload_n hx hb dX8_readWell_20 rfl (lv_at hl 0 rfl) ?_
  refine va_get (D := D) (ci := 7) (v := .int (Sm.1 1)) (C := RX8) (T := TX8) (N := 31) hx hb ht inX8 hown hK hP 0 rfl rfl 2 (by decide) (ht _ wd3_187) (fun _ h9 => h9) rfl dX8_readWell_21 ?_
  refine lv_if_eq (tgt := 38) hx hb dX8_readWell_24 (by decide) (fun c5 => ?_) (fun c5 => ?_)
  · have hf := itP c5 hf
    refine lv_iconst (v := (0 : Int32)) hx hb dX8_readWell_38 rfl ?_
    cases hf
    exact W.iret hx hb hr (fun t ht9 hW => ⟨⟨_, (), rfl, rfl, by rw [ht9]; exact hP, va_K.moved hW.alike hK, hD⟩, hS.F ht9⟩) hS.2.2 dX8_readWell_39
  · have hf := itN c5 hf
    refine lv_aload_n hx hb dX8_readWell_27 rfl (lv_at hl 0 rfl) ?_
    refine va_get (D := D) (ci := 7) (v := .ref (jam 0)) (C := RX8) (T := TX8) (N := 31) hx hb ht inX8 hown hK hP 0 rfl rfl 1 (by decide) (ht _ wd3_186) (fun _ h9 => h9) rfl dX8_readWell_28 ?_
    refine lv_iconst (v := (0 : Int32)) hx hb dX8_readWell_31 rfl ?_
    obtain ⟨h6, hf⟩ := inB_s hf
    refine va_iald (f := (Sm.2.1 0)) (n := 64) hx hb hK hP 1 0 rfl rfl h6 dX8_readWell_32 ?_
    refine lv_bipush (v := (69 : Int32)) hx hb dX8_readWell_33 rfl ?_
    refine lv_icmp_eq (tgt := 40) hx hb dX8_readWell_35 (by decide) (fun c7 => ?_) (fun c7 => ?_)
    · have hf := itP c7 hf
      refine lv_aload_n hx hb dX8_readWell_40 rfl (lv_at hl 0 rfl) ?_
      refine lv_iconst (v := (1 : Int32)) hx hb dX8_readWell_41 rfl ?_
      refine va_put (D := D) (ci := 7) (v := .int (1 : Int32)) (ty := .int) (C := RX8) (T := TX8) (N := 31) hx hb ht inX8 tyX8 tyX8_ok nmX8 hown hK hP hD hS 0 rfl rfl 3 (by decide) (ht _ wd3_188) (fun _ h9 => h9) rfl (tyX8_ok 3 (by decide)) rfl rfl (Nat.le_of_ble_eq_true rfl) dX8_readWell_42 (fun H locs hP hD hS => ?_)
      have hP : va_P D vwCl (wX8_readWell cI cZ jhm jam (bI (bI (bI (bI (bI Sm 2 (0 : Int32)) 6 (0 : Int32)) 7 (0 : Int32)) 8 (0 : Int32)) 2 (1 : Int32))) H := hP
      have hD : va_D A (wX8_readWell cI cZ jhm jam (bI (bI (bI (bI (bI Sm 2 (0 : Int32)) 6 (0 : Int32)) 7 (0 : Int32)) 8 (0 : Int32)) 2 (1 : Int32))) := hD
      exact hj45 (bI (bI (bI (bI (bI Sm 2 (0 : Int32)) 6 (0 : Int32)) 7 (0 : Int32)) 8 (0 : Int32)) 2 (1 : Int32)) hf _ _ _ hP hD hS (lv_sub hl [0] rfl)
    · have hf := itN c7 hf
      refine lv_iconst (v := (0 : Int32)) hx hb dX8_readWell_38 rfl ?_
      cases hf
      exact W.iret hx hb hr (fun t ht9 hW => ⟨⟨_, (), rfl, rfl, by rw [ht9]; exact hP, va_K.moved hW.alike hK, hD⟩, hS.F ht9⟩) hS.2.2 dX8_readWell_39
abbrev wX8_fault (cI cZ : ClassId) (jhm : Nat) (jam : Nat → Nat) (Sm : Bk) : va_W := [(jhm, .inr (7, [.int (Sm.1 0), .ref (jam 0), .int (Sm.1 1), .int (Sm.1 2), .int (Sm.1 3), .int (Sm.1 4), .int (Sm.1 5), .ref (jam 1), .ref (jam 2), .ref (jam 3), .int (Sm.1 6), .int (Sm.1 7), .int (Sm.1 8), .ref (jam 4), .ref (jam 5), .ref (jam 6), .ref (jam 7), .ref (jam 8), .ref (jam 9), .int (Sm.1 9), .ref (jam 10), .ref (jam 11), .int (Sm.1 10), .ref (jam 12), .ref (jam 13), .long Sm.2.2, .ref (jam 14), .ref (jam 15), .int (Sm.1 11), .int (Sm.1 12), .int (Sm.1 13)])), (jam 0, .inl (cI, 64, .inl (Sm.2.1 0))), (jam 4, .inl (cI, 12, .inl (Sm.2.1 4))), (jam 5, .inl (cI, 16, .inl (Sm.2.1 5))), (jam 6, .inl (cI, 20, .inl (Sm.2.1 6)))]
def fX8_fault (Sm : Bk) : Option (Int32 × Bk) := (fX8_readWell (bI Sm 0 (0 : Int32))).bind (fun u1 => some (u1.1, u1.2))
theorem miX8_fault : MI yX8_fault cX8_fault 1 (some .int) 0 := ⟨wd1_8, wd4_54, by decide +kernel⟩
theorem mjX8_fault : Cond.instanceMethod yX8_fault ∈ wT ∧ Cond.selects yX8_fault.cls yX8_fault yX8_fault ∈ wT := ⟨wd4_52, wd4_53⟩
set_option maxHeartbeats 4000000 in
set_option maxRecDepth 100000 in
theorem qX8_fault (l : Launch) (D : va_G) (cI cZ cO : ClassId) (jhm : Nat) (jam : Nat → Nat) (Sm : Bk) (sz : Nat) (res : Int32 × Bk) (hf : fX8_fault Sm = some res) : Met l yX8_fault (Cond.code yX8_fault cX8_fault 1 (some .int) :: wT) (rmF 5 110) (va_Pc [.ref jhm] (cW D (tyL cI cZ cO) (wX8_fault cI cZ jhm jam Sm) sz)) (va_Qi (S := Unit) (fun r _ => r = res.1) (fun _ => qW D (tyL cI cZ cO) (va_A (wX8_fault cI cZ jhm jam Sm) sz) (wX8_fault cI cZ jhm jam res.2)) (va_A (wX8_fault cI cZ jhm jam Sm) sz)) 0 0 (va_A (wX8_fault cI cZ jhm jam Sm) sz) := by
  refine met_w (by decide) (Nat.le_of_ble_eq_true rfl) ?_
  intro p e s m below meth c hx hb hr hml ht hown hlk ls hl hsz hP hK hD0 hZ
  subst hsz
  have hD := hD0.self (sz := s.heap.size)
  generalize hAe : va_A (wX8_fault cI cZ jhm jam Sm) s.heap.size = A at hD hZ ⊢
  have hA : ∀ q : Nat, s.heap.size ≤ q → A q := fun q h => by rw [← hAe]; exact Or.inr h
  have hS : va_S A s.heap s.heap [] := va_S.rf
  have hown : s.vm.findClass "EyeDrinkModel" = some m.cls := hown
  have hl : lv_has ls 1 [(0, .ref jhm)] := hl
  have hC : CallFix p m c cX8_fault 1 s ([.ref jhm] : List Value).toArray wT "EyeDrinkModel" := ⟨hx, hb, hml, hown, ht⟩
  unfold fX8_fault at hf
  suffices hgo : ∀ (H : Heap) (locs : List Loc), va_P D vwCl (wX8_fault cI cZ jhm jam Sm) H → va_S A s.heap H locs → W p l e (rmF 5 110) s m ([.ref jhm] : List Value).toArray below meth c H locs 0 0 (MQ below (va_Qi (S := Unit) (fun r _ => r = res.1) (fun _ => qW D (tyL cI cZ cO) A (wX8_fault cI cZ jhm jam res.2)) A) ([.ref jhm] : List Value).toArray s 0 0 A) (F0 m 0 ls []) from hgo s.heap [] hP hS
  intro H locs hP hS
  refine lv_aload_n hx hb dX8_fault_0 rfl (lv_at hl 0 rfl) ?_
  refine lv_iconst (v := (0 : Int32)) hx hb dX8_fault_1 rfl ?_
  refine va_put (D := D) (ci := 7) (v := .int (0 : Int32)) (ty := .int) (C := RX8) (T := TX8) (N := 31) hx hb ht inX8 tyX8 tyX8_ok nmX8 hown hK hP hD hS 0 rfl rfl 0 (by decide) (ht _ wd3_185) (fun _ h9 => h9) rfl (tyX8_ok 0 (by decide)) rfl rfl (Nat.le_of_ble_eq_true rfl) dX8_fault_2 (fun H locs hP hD hS => ?_)
  have hP : va_P D vwCl (wX8_fault cI cZ jhm jam (bI Sm 0 (0 : Int32))) H := hP
  have hD : va_D A (wX8_fault cI cZ jhm jam (bI Sm 0 (0 : Int32))) := hD
  refine lv_aload_n hx hb dX8_fault_5 rfl (lv_at hl 0 rfl) ?_
  obtain ⟨u1, e2, hf⟩ := bdS hf
  refine k_wVi (ws' := (wX8_fault cI cZ jhm jam u1.2)) (wr := []) (As := []) (rest := []) hC miX8_readWell mjX8_readWell.1 mjX8_readWell.2 wd4_55 (qX8_readWell l D cI cZ cO jhm jam (bI Sm 0 (0 : Int32)) H.size u1 e2) ⟨Nat.le_of_ble_eq_true rfl, Nat.le_of_ble_eq_true rfl⟩ hP hD hK hZ hS hA [0, 1, 2, 3, 4] [] [0, 1, 2, 3, 4] rfl (by decide) rfl (by decide) (by decide) (by decide) rfl (va_recv hK hP (ci := 7) (q0 := 0) rfl rfl) hl.1 rfl rfl (Nat.le_of_ble_eq_true rfl) dX8_fault_6 (fun H locs hP hD hS => ?_)
  cases hf
  exact W.iret hx hb hr (fun t ht9 hW => ⟨⟨_, (), rfl, rfl, by rw [ht9]; exact hP, va_K.moved hW.alike hK, hD⟩, hS.F ht9⟩) hS.2.2 dX8_fault_9
abbrev wX8_well (cI cZ : ClassId) (jhm : Nat) (jam : Nat → Nat) (Sm : Bk) : va_W := [(jhm, .inr (7, [.int (Sm.1 0), .ref (jam 0), .int (Sm.1 1), .int (Sm.1 2), .int (Sm.1 3), .int (Sm.1 4), .int (Sm.1 5), .ref (jam 1), .ref (jam 2), .ref (jam 3), .int (Sm.1 6), .int (Sm.1 7), .int (Sm.1 8), .ref (jam 4), .ref (jam 5), .ref (jam 6), .ref (jam 7), .ref (jam 8), .ref (jam 9), .int (Sm.1 9), .ref (jam 10), .ref (jam 11), .int (Sm.1 10), .ref (jam 12), .ref (jam 13), .long Sm.2.2, .ref (jam 14), .ref (jam 15), .int (Sm.1 11), .int (Sm.1 12), .int (Sm.1 13)])), (jam 0, .inl (cI, 64, .inl (Sm.2.1 0))), (jam 1, .inl (cI, 12, .inl (Sm.2.1 1))), (jam 2, .inl (cI, 16, .inl (Sm.2.1 2))), (jam 3, .inl (cI, 20, .inl (Sm.2.1 3))), (jam 4, .inl (cI, 12, .inl (Sm.2.1 4))), (jam 5, .inl (cI, 16, .inl (Sm.2.1 5))), (jam 6, .inl (cI, 20, .inl (Sm.2.1 6))), (jam 7, .inl (cI, 16, .inl (Sm.2.1 7))), (jam 11, .inl (cZ, 2, .inl (Sm.2.1 11)))]
def gX8_well_164 (k133 : Int32 → Bk → Option (Int32 × Bk)) (x1 : Int32) (Sm : Bk) (y1 : Int32) (y2 : Int32) : Option (Int32 × Bk) := inB 16 y1 (nmV y1.toNatClampNeg (fun j2 => k133 (x1 + (1 : Int32)) (bW Sm 7 j2 y2)))
def sX8_well_133 (k133 : Int32 → Bk → Option (Int32 × Bk)) (x1 : Int32) (Sm : Bk) : Option (Int32 × Bk) := (if (16 : Int32) ≤ x1 then inB 2 (0 : Int32) (nmV (0 : Int32).toNatClampNeg (fun j5 => inB 2 (1 : Int32) (nmV (1 : Int32).toNatClampNeg (fun j7 => some (((((100 : Int32) * (Sm.1 3)) + ((10 : Int32) * (Sm.1 4))) + (Sm.1 5)), (bW (bW (bI Sm 9 (0 : Int32)) 11 j5 (vp_nar .boolean (0 : Int32))) 11 j7 (vp_nar .boolean (0 : Int32)))))))) else (if (Sm.1 3) ≤ x1 then gX8_well_164 k133 x1 Sm x1 (0 : Int32) else inB 12 ((3 : Int32) * x1) (gX8_well_164 k133 x1 Sm x1 ((Sm.2.1 1) ((3 : Int32) * x1).toNatClampNeg))))
def sX8_well_103 (k103 : Int32 → Bk → Option (Int32 × Bk)) (x1 : Int32) (Sm : Bk) : Option (Int32 × Bk) := (if ((5 : Int32) * (Sm.1 5)) ≤ x1 then lk2 (sX8_well_133 ) 1000 (0 : Int32) Sm else inB 20 x1 (nmV ((Sm.2.1 6) x1.toNatClampNeg) (fun v12 => inB 20 x1 (nmV x1.toNatClampNeg (fun j14 => k103 (x1 + (1 : Int32)) (bW Sm 3 j14 v12))))))
def sX8_well_73 (k73 : Int32 → Bk → Option (Int32 × Bk)) (x1 : Int32) (Sm : Bk) : Option (Int32 × Bk) := (if ((4 : Int32) * (Sm.1 4)) ≤ x1 then lk2 (sX8_well_103 ) 1000 (0 : Int32) Sm else inB 16 x1 (nmV ((Sm.2.1 5) x1.toNatClampNeg) (fun v17 => inB 16 x1 (nmV x1.toNatClampNeg (fun j19 => k73 (x1 + (1 : Int32)) (bW Sm 2 j19 v17))))))
def sX8_well_43 (k43 : Int32 → Bk → Option (Int32 × Bk)) (x1 : Int32) (Sm : Bk) : Option (Int32 × Bk) := (if ((3 : Int32) * (Sm.1 3)) ≤ x1 then lk2 (sX8_well_73 ) 1000 (0 : Int32) Sm else inB 12 x1 (nmV ((Sm.2.1 4) x1.toNatClampNeg) (fun v22 => inB 12 x1 (nmV x1.toNatClampNeg (fun j24 => k43 (x1 + (1 : Int32)) (bW Sm 1 j24 v22))))))
def fX8_well (Sm : Bk) : Option (Int32 × Bk) := (fX8_readWell (bI Sm 0 (0 : Int32))).bind (fun u25 => (if u25.1 = (-9 : Int32) then nmV (u25.2.1 6) (fun v28 => nmV (u25.2.1 7) (fun v29 => nmV (u25.2.1 8) (fun v30 => lk2 (sX8_well_43 ) 1000 (0 : Int32) (bI (bI (bI (bA (bA (bA (bA (bO (bI Sm 0 (0 : Int32)) u25.2) 0 (u25.2.2.1 0)) 4 (u25.2.2.1 4)) 5 (u25.2.2.1 5)) 6 (u25.2.2.1 6)) 3 v28) 4 v29) 5 v30)))) else some ((-3 : Int32), (bA (bA (bA (bA (bO (bI Sm 0 (0 : Int32)) u25.2) 0 (u25.2.2.1 0)) 4 (u25.2.2.1 4)) 5 (u25.2.2.1 5)) 6 (u25.2.2.1 6)))))
theorem miX8_well : MI yX8_well cX8_well 2 (some .int) 0 := ⟨wd1_8, wd4_82, by decide +kernel⟩
theorem mjX8_well : Cond.instanceMethod yX8_well ∈ wT ∧ Cond.selects yX8_well.cls yX8_well yX8_well ∈ wT := ⟨wd4_80, wd4_81⟩
set_option maxHeartbeats 4000000 in
set_option maxRecDepth 100000 in
theorem qX8_well (l : Launch) (D : va_G) (cI cZ cO : ClassId) (jhm : Nat) (jam : Nat → Nat) (Sm : Bk) (sz : Nat) (res : Int32 × Bk) (hf : fX8_well Sm = some res) : Met l yX8_well (Cond.code yX8_well cX8_well 2 (some .int) :: wT) (rmF 5 110) (va_Pc [.ref jhm] (cW D (tyL cI cZ cO) (wX8_well cI cZ jhm jam Sm) sz)) (va_Qi (S := Unit) (fun r _ => r = res.1) (fun _ => qW D (tyL cI cZ cO) (va_A (wX8_well cI cZ jhm jam Sm) sz) (wX8_well cI cZ jhm jam res.2)) (va_A (wX8_well cI cZ jhm jam Sm) sz)) 0 0 (va_A (wX8_well cI cZ jhm jam Sm) sz) := by
  refine met_w (by decide) (Nat.le_of_ble_eq_true rfl) ?_
  intro p e s m below meth c hx hb hr hml ht hown hlk ls hl hsz hP hK hD0 hZ
  subst hsz
  have hD := hD0.self (sz := s.heap.size)
  generalize hAe : va_A (wX8_well cI cZ jhm jam Sm) s.heap.size = A at hD hZ ⊢
  have hA : ∀ q : Nat, s.heap.size ≤ q → A q := fun q h => by rw [← hAe]; exact Or.inr h
  have hS : va_S A s.heap s.heap [] := va_S.rf
  have hown : s.vm.findClass "EyeDrinkModel" = some m.cls := hown
  have hl : lv_has ls 2 [(0, .ref jhm)] := hl
  have hC : CallFix p m c cX8_well 2 s ([.ref jhm] : List Value).toArray wT "EyeDrinkModel" := ⟨hx, hb, hml, hown, ht⟩
  unfold fX8_well at hf
  suffices hgo : ∀ (H : Heap) (locs : List Loc), va_P D vwCl (wX8_well cI cZ jhm jam Sm) H → va_S A s.heap H locs → W p l e (rmF 5 110) s m ([.ref jhm] : List Value).toArray below meth c H locs 0 0 (MQ below (va_Qi (S := Unit) (fun r _ => r = res.1) (fun _ => qW D (tyL cI cZ cO) A (wX8_well cI cZ jhm jam res.2)) A) ([.ref jhm] : List Value).toArray s 0 0 A) (F0 m 0 ls []) from hgo s.heap [] hP hS
  have hj133 : ∀ (x1 : Int32) (Sm : Bk), lk2 (sX8_well_133 ) 1000 x1 Sm = some res → ∀ (H : Heap) (locs : List Loc) (ls : Array Slot), va_P D vwCl (wX8_well cI cZ jhm jam Sm) H → va_D A (wX8_well cI cZ jhm jam Sm) → va_S A s.heap H locs → lv_has ls 2 [(0, .ref jhm), (1, .int x1)] → W p l e (rmF 5 110) s m ([.ref jhm] : List Value).toArray below meth c H locs 0 0 (MQ below (va_Qi (S := Unit) (fun r _ => r = res.1) (fun _ => qW D (tyL cI cZ cO) A (wX8_well cI cZ jhm jam res.2)) A) ([.ref jhm] : List Value).toArray s 0 0 A) (F0 m 133 ls []) := by
    refine lk2_w (fun (x1 : Int32) (Sm : Bk) => ∀ (H : Heap) (locs : List Loc) (ls : Array Slot), va_P D vwCl (wX8_well cI cZ jhm jam Sm) H → va_D A (wX8_well cI cZ jhm jam Sm) → va_S A s.heap H locs → lv_has ls 2 [(0, .ref jhm), (1, .int x1)] → W p l e (rmF 5 110) s m ([.ref jhm] : List Value).toArray below meth c H locs 0 0 (MQ below (va_Qi (S := Unit) (fun r _ => r = res.1) (fun _ => qW D (tyL cI cZ cO) A (wX8_well cI cZ jhm jam res.2)) A) ([.ref jhm] : List Value).toArray s 0 0 A) (F0 m 133 ls [])) ?_ 1000
    intro k133 hk133 x1 Sm hf H locs ls hP hD hS hl
    unfold sX8_well_133 at hf
    have hj164 : ∀ (x1 : Int32) (Sm : Bk) (y1 : Int32) (y2 : Int32), gX8_well_164 k133 x1 Sm y1 y2 = some res → ∀ (H : Heap) (locs : List Loc) (ls : Array Slot), va_P D vwCl (wX8_well cI cZ jhm jam Sm) H → va_D A (wX8_well cI cZ jhm jam Sm) → va_S A s.heap H locs → lv_has ls 2 [(0, .ref jhm), (1, .int x1)] → W p l e (rmF 5 110) s m ([.ref jhm] : List Value).toArray below meth c H locs 0 0 (MQ below (va_Qi (S := Unit) (fun r _ => r = res.1) (fun _ => qW D (tyL cI cZ cO) A (wX8_well cI cZ jhm jam res.2)) A) ([.ref jhm] : List Value).toArray s 0 0 A) (F0 m 164 ls [.int y2, .int y1, .ref (jam 7)]) := by
      intro x1 Sm y1 y2 hf H locs ls hP hD hS hl
      unfold gX8_well_164 at hf
      obtain ⟨h1, hf⟩ := inB_s hf
      obtain ⟨j2, ej2, hf⟩ := nmV_s hf
      refine va_iast (f := (Sm.2.1 7)) (n := 16) hx hb hK hP hD hS 8 0 rfl rfl h1 dX8_well_164 (fun H locs hP hD hS => ?_)
      rw [← ej2] at hP hD
      have hP : va_P D vwCl (wX8_well cI cZ jhm jam (bW Sm 7 j2 y2)) H := hP
      have hD : va_D A (wX8_well cI cZ jhm jam (bW Sm 7 j2 y2)) := hD
      refine lv_iinc (v := (x1 + (1 : Int32))) (lv' := [(1, .int (x1 + (1 : Int32))), (0, .ref jhm)]) hx hb dX8_well_165 hl (k := 1) rfl rfl (by decide) rfl (fun ls hl => ?_)
      refine lv_goto (tgt := 133) hx hb dX8_well_168 (by decide) ?_
      exact hk133 (x1 + (1 : Int32)) (bW Sm 7 j2 y2) hf _ _ _ hP hD hS (lv_sub hl [1, 0] rfl)
    refine lv_iload_n hx hb dX8_well_133 rfl (lv_at hl 1 rfl) ?_
    refine lv_bipush (v := (16 : Int32)) hx hb dX8_well_134 rfl ?_
    refine lv_icmp_ge (tgt := 171) hx hb dX8_well_136 (by decide) (fun c3 => ?_) (fun c3 => ?_)
    · have hf := itP c3 hf
      refine lv_aload_n hx hb dX8_well_171 rfl (lv_at hl 0 rfl) ?_
      refine lv_iconst (v := (0 : Int32)) hx hb dX8_well_172 rfl ?_
      refine va_put (D := D) (ci := 7) (v := .int (0 : Int32)) (ty := .int) (C := RX8) (T := TX8) (N := 31) hx hb ht inX8 tyX8 tyX8_ok nmX8 hown hK hP hD hS 0 rfl rfl 19 (by decide) (ht _ wd3_204) (fun _ h9 => h9) rfl (tyX8_ok 19 (by decide)) rfl rfl (Nat.le_of_ble_eq_true rfl) dX8_well_173 (fun H locs hP hD hS => ?_)
      have hP : va_P D vwCl (wX8_well cI cZ jhm jam (bI Sm 9 (0 : Int32))) H := hP
      have hD : va_D A (wX8_well cI cZ jhm jam (bI Sm 9 (0 : Int32))) := hD
      refine lv_aload_n hx hb dX8_well_176 rfl (lv_at hl 0 rfl) ?_
      refine va_get (D := D) (ci := 7) (v := .ref (jam 11)) (C := RX8) (T := TX8) (N := 31) hx hb ht inX8 hown hK hP 0 rfl rfl 21 (by decide) (ht _ wd3_206) (fun _ h9 => h9) rfl dX8_well_177 ?_
      refine lv_iconst (v := (0 : Int32)) hx hb dX8_well_180 rfl ?_
      refine lv_iconst (v := (0 : Int32)) hx hb dX8_well_181 rfl ?_
      obtain ⟨h4, hf⟩ := inB_s hf
      obtain ⟨j5, ej5, hf⟩ := nmV_s hf
      refine va_zast (f := (Sm.2.1 11)) (n := 2) hx hb hK hP hD hS 9 1 rfl rfl h4 dX8_well_182 (fun H locs hP hD hS => ?_)
      rw [← ej5] at hP hD
      have hP : va_P D vwCl (wX8_well cI cZ jhm jam (bW (bI Sm 9 (0 : Int32)) 11 j5 (vp_nar .boolean (0 : Int32)))) H := hP
      have hD : va_D A (wX8_well cI cZ jhm jam (bW (bI Sm 9 (0 : Int32)) 11 j5 (vp_nar .boolean (0 : Int32)))) := hD
      refine lv_aload_n hx hb dX8_well_183 rfl (lv_at hl 0 rfl) ?_
      refine va_get (D := D) (ci := 7) (v := .ref (jam 11)) (C := RX8) (T := TX8) (N := 31) hx hb ht inX8 hown hK hP 0 rfl rfl 21 (by decide) (ht _ wd3_206) (fun _ h9 => h9) rfl dX8_well_184 ?_
      refine lv_iconst (v := (1 : Int32)) hx hb dX8_well_187 rfl ?_
      refine lv_iconst (v := (0 : Int32)) hx hb dX8_well_188 rfl ?_
      obtain ⟨h6, hf⟩ := inB_s hf
      obtain ⟨j7, ej7, hf⟩ := nmV_s hf
      refine va_zast (f := (upd (Sm.2.1 11) j5 (vp_nar .boolean (0 : Int32)))) (n := 2) hx hb hK hP hD hS 9 1 rfl rfl h6 dX8_well_189 (fun H locs hP hD hS => ?_)
      rw [← ej7] at hP hD
      have hP : va_P D vwCl (wX8_well cI cZ jhm jam (bW (bW (bI Sm 9 (0 : Int32)) 11 j5 (vp_nar .boolean (0 : Int32))) 11 j7 (vp_nar .boolean (0 : Int32)))) H := hP
      have hD : va_D A (wX8_well cI cZ jhm jam (bW (bW (bI Sm 9 (0 : Int32)) 11 j5 (vp_nar .boolean (0 : Int32))) 11 j7 (vp_nar .boolean (0 : Int32)))) := hD
      refine lv_bipush (v := (100 : Int32)) hx hb dX8_well_190 rfl ?_
      refine lv_aload_n hx hb dX8_well_192 rfl (lv_at hl 0 rfl) ?_
      refine va_get (D := D) (ci := 7) (v := .int (Sm.1 3)) (C := RX8) (T := TX8) (N := 31) hx hb ht inX8 hown hK hP 0 rfl rfl 4 (by decide) (ht _ wd3_189) (fun _ h9 => h9) rfl dX8_well_193 ?_
      refine lv_imul hx hb dX8_well_196 ?_
      refine lv_bipush (v := (10 : Int32)) hx hb dX8_well_197 rfl ?_
      refine lv_aload_n hx hb dX8_well_199 rfl (lv_at hl 0 rfl) ?_
      refine va_get (D := D) (ci := 7) (v := .int (Sm.1 4)) (C := RX8) (T := TX8) (N := 31) hx hb ht inX8 hown hK hP 0 rfl rfl 5 (by decide) (ht _ wd3_190) (fun _ h9 => h9) rfl dX8_well_200 ?_
      refine lv_imul hx hb dX8_well_203 ?_
      refine lv_iadd hx hb dX8_well_204 ?_
      refine lv_aload_n hx hb dX8_well_205 rfl (lv_at hl 0 rfl) ?_
      refine va_get (D := D) (ci := 7) (v := .int (Sm.1 5)) (C := RX8) (T := TX8) (N := 31) hx hb ht inX8 hown hK hP 0 rfl rfl 6 (by decide) (ht _ wd3_191) (fun _ h9 => h9) rfl dX8_well_206 ?_
      refine lv_iadd hx hb dX8_well_209 ?_
      cases hf
      exact W.iret hx hb hr (fun t ht9 hW => ⟨⟨_, (), rfl, rfl, by rw [ht9]; exact hP, va_K.moved hW.alike hK, hD⟩, hS.F ht9⟩) hS.2.2 dX8_well_210
    · have hf := itN c3 hf
      refine lv_aload_n hx hb dX8_well_139 rfl (lv_at hl 0 rfl) ?_
      refine va_get (D := D) (ci := 7) (v := .ref (jam 7)) (C := RX8) (T := TX8) (N := 31) hx hb ht inX8 hown hK hP 0 rfl rfl 16 (by decide) (ht _ wd3_201) (fun _ h9 => h9) rfl dX8_well_140 ?_
      refine lv_iload_n hx hb dX8_well_143 rfl (lv_at hl 1 rfl) ?_
      refine lv_iload_n hx hb dX8_well_144 rfl (lv_at hl 1 rfl) ?_
      refine lv_aload_n hx hb dX8_well_145 rfl (lv_at hl 0 rfl) ?_
      refine va_get (D := D) (ci := 7) (v := .int (Sm.1 3)) (C := RX8) (T := TX8) (N := 31) hx hb ht inX8 hown hK hP 0 rfl rfl 4 (by decide) (ht _ wd3_189) (fun _ h9 => h9) rfl dX8_well_146 ?_
      refine lv_icmp_ge (tgt := 163) hx hb dX8_well_149 (by decide) (fun c8 => ?_) (fun c8 => ?_)
      · have hf := itP c8 hf
        refine lv_iconst (v := (0 : Int32)) hx hb dX8_well_163 rfl ?_
        exact hj164 x1 Sm x1 (0 : Int32) hf _ _ _ hP hD hS (lv_sub hl [0, 1] rfl)
      · have hf := itN c8 hf
        refine lv_aload_n hx hb dX8_well_152 rfl (lv_at hl 0 rfl) ?_
        refine va_get (D := D) (ci := 7) (v := .ref (jam 1)) (C := RX8) (T := TX8) (N := 31) hx hb ht inX8 hown hK hP 0 rfl rfl 7 (by decide) (ht _ wd3_192) (fun _ h9 => h9) rfl dX8_well_153 ?_
        refine lv_iconst (v := (3 : Int32)) hx hb dX8_well_156 rfl ?_
        refine lv_iload_n hx hb dX8_well_157 rfl (lv_at hl 1 rfl) ?_
        refine lv_imul hx hb dX8_well_158 ?_
        obtain ⟨h9, hf⟩ := inB_s hf
        refine va_iald (f := (Sm.2.1 1)) (n := 12) hx hb hK hP 2 0 rfl rfl h9 dX8_well_159 ?_
        refine lv_goto (tgt := 164) hx hb dX8_well_160 (by decide) ?_
        exact hj164 x1 Sm x1 ((Sm.2.1 1) ((3 : Int32) * x1).toNatClampNeg) hf _ _ _ hP hD hS (lv_sub hl [0, 1] rfl)
  have hj103 : ∀ (x1 : Int32) (Sm : Bk), lk2 (sX8_well_103 ) 1000 x1 Sm = some res → ∀ (H : Heap) (locs : List Loc) (ls : Array Slot), va_P D vwCl (wX8_well cI cZ jhm jam Sm) H → va_D A (wX8_well cI cZ jhm jam Sm) → va_S A s.heap H locs → lv_has ls 2 [(0, .ref jhm), (1, .int x1)] → W p l e (rmF 5 110) s m ([.ref jhm] : List Value).toArray below meth c H locs 0 0 (MQ below (va_Qi (S := Unit) (fun r _ => r = res.1) (fun _ => qW D (tyL cI cZ cO) A (wX8_well cI cZ jhm jam res.2)) A) ([.ref jhm] : List Value).toArray s 0 0 A) (F0 m 103 ls []) := by
    refine lk2_w (fun (x1 : Int32) (Sm : Bk) => ∀ (H : Heap) (locs : List Loc) (ls : Array Slot), va_P D vwCl (wX8_well cI cZ jhm jam Sm) H → va_D A (wX8_well cI cZ jhm jam Sm) → va_S A s.heap H locs → lv_has ls 2 [(0, .ref jhm), (1, .int x1)] → W p l e (rmF 5 110) s m ([.ref jhm] : List Value).toArray below meth c H locs 0 0 (MQ below (va_Qi (S := Unit) (fun r _ => r = res.1) (fun _ => qW D (tyL cI cZ cO) A (wX8_well cI cZ jhm jam res.2)) A) ([.ref jhm] : List Value).toArray s 0 0 A) (F0 m 103 ls [])) ?_ 1000
    intro k103 hk103 x1 Sm hf H locs ls hP hD hS hl
    unfold sX8_well_103 at hf
    refine lv_iload_n hx hb dX8_well_103 rfl (lv_at hl 1 rfl) ?_
    refine lv_iconst (v := (5 : Int32)) hx hb dX8_well_104 rfl ?_
    refine lv_aload_n hx hb dX8_well_105 rfl (lv_at hl 0 rfl) ?_
    refine va_get (D := D) (ci := 7) (v := .int (Sm.1 5)) (C := RX8) (T := TX8) (N := 31) hx hb ht inX8 hown hK hP 0 rfl rfl 6 (by decide) (ht _ wd3_191) (fun _ h9 => h9) rfl dX8_well_106 ?_
    refine lv_imul hx hb dX8_well_109 ?_
    refine lv_icmp_ge (tgt := 131) hx hb dX8_well_110 (by decide) (fun c10 => ?_) (fun c10 => ?_)
    · have hf := itP c10 hf
      refine lv_iconst (v := (0 : Int32)) hx hb dX8_well_131 rfl ?_
      refine lv_istore_n (lv' := [(1, .int (0 : Int32)), (0, .ref jhm)]) hx hb dX8_well_132 rfl hl (by decide) rfl (fun ls hl => ?_)
      exact hj133 (0 : Int32) Sm hf _ _ _ hP hD hS (lv_sub hl [1, 0] rfl)
    · have hf := itN c10 hf
      refine lv_aload_n hx hb dX8_well_113 rfl (lv_at hl 0 rfl) ?_
      refine va_get (D := D) (ci := 7) (v := .ref (jam 3)) (C := RX8) (T := TX8) (N := 31) hx hb ht inX8 hown hK hP 0 rfl rfl 9 (by decide) (ht _ wd3_194) (fun _ h9 => h9) rfl dX8_well_114 ?_
      refine lv_iload_n hx hb dX8_well_117 rfl (lv_at hl 1 rfl) ?_
      refine lv_aload_n hx hb dX8_well_118 rfl (lv_at hl 0 rfl) ?_
      refine va_get (D := D) (ci := 7) (v := .ref (jam 6)) (C := RX8) (T := TX8) (N := 31) hx hb ht inX8 hown hK hP 0 rfl rfl 15 (by decide) (ht _ wd3_200) (fun _ h9 => h9) rfl dX8_well_119 ?_
      refine lv_iload_n hx hb dX8_well_122 rfl (lv_at hl 1 rfl) ?_
      obtain ⟨h11, hf⟩ := inB_s hf
      refine va_iald (f := (Sm.2.1 6)) (n := 20) hx hb hK hP 7 0 rfl rfl h11 dX8_well_123 ?_
      obtain ⟨v12, ev12, hf⟩ := nmV_s hf
      rw [← ev12]
      obtain ⟨h13, hf⟩ := inB_s hf
      obtain ⟨j14, ej14, hf⟩ := nmV_s hf
      refine va_iast (f := (Sm.2.1 3)) (n := 20) hx hb hK hP hD hS 4 0 rfl rfl h13 dX8_well_124 (fun H locs hP hD hS => ?_)
      rw [← ej14] at hP hD
      have hP : va_P D vwCl (wX8_well cI cZ jhm jam (bW Sm 3 j14 v12)) H := hP
      have hD : va_D A (wX8_well cI cZ jhm jam (bW Sm 3 j14 v12)) := hD
      refine lv_iinc (v := (x1 + (1 : Int32))) (lv' := [(1, .int (x1 + (1 : Int32))), (0, .ref jhm)]) hx hb dX8_well_125 hl (k := 1) rfl rfl (by decide) rfl (fun ls hl => ?_)
      refine lv_goto (tgt := 103) hx hb dX8_well_128 (by decide) ?_
      exact hk103 (x1 + (1 : Int32)) (bW Sm 3 j14 v12) hf _ _ _ hP hD hS (lv_sub hl [1, 0] rfl)
  have hj73 : ∀ (x1 : Int32) (Sm : Bk), lk2 (sX8_well_73 ) 1000 x1 Sm = some res → ∀ (H : Heap) (locs : List Loc) (ls : Array Slot), va_P D vwCl (wX8_well cI cZ jhm jam Sm) H → va_D A (wX8_well cI cZ jhm jam Sm) → va_S A s.heap H locs → lv_has ls 2 [(0, .ref jhm), (1, .int x1)] → W p l e (rmF 5 110) s m ([.ref jhm] : List Value).toArray below meth c H locs 0 0 (MQ below (va_Qi (S := Unit) (fun r _ => r = res.1) (fun _ => qW D (tyL cI cZ cO) A (wX8_well cI cZ jhm jam res.2)) A) ([.ref jhm] : List Value).toArray s 0 0 A) (F0 m 73 ls []) := by
    refine lk2_w (fun (x1 : Int32) (Sm : Bk) => ∀ (H : Heap) (locs : List Loc) (ls : Array Slot), va_P D vwCl (wX8_well cI cZ jhm jam Sm) H → va_D A (wX8_well cI cZ jhm jam Sm) → va_S A s.heap H locs → lv_has ls 2 [(0, .ref jhm), (1, .int x1)] → W p l e (rmF 5 110) s m ([.ref jhm] : List Value).toArray below meth c H locs 0 0 (MQ below (va_Qi (S := Unit) (fun r _ => r = res.1) (fun _ => qW D (tyL cI cZ cO) A (wX8_well cI cZ jhm jam res.2)) A) ([.ref jhm] : List Value).toArray s 0 0 A) (F0 m 73 ls [])) ?_ 1000
    intro k73 hk73 x1 Sm hf H locs ls hP hD hS hl
    unfold sX8_well_73 at hf
    refine lv_iload_n hx hb dX8_well_73 rfl (lv_at hl 1 rfl) ?_
    refine lv_iconst (v := (4 : Int32)) hx hb dX8_well_74 rfl ?_
    refine lv_aload_n hx hb dX8_well_75 rfl (lv_at hl 0 rfl) ?_
    refine va_get (D := D) (ci := 7) (v := .int (Sm.1 4)) (C := RX8) (T := TX8) (N := 31) hx hb ht inX8 hown hK hP 0 rfl rfl 5 (by decide) (ht _ wd3_190) (fun _ h9 => h9) rfl dX8_well_76 ?_
    refine lv_imul hx hb dX8_well_79 ?_
    refine lv_icmp_ge (tgt := 101) hx hb dX8_well_80 (by decide) (fun c15 => ?_) (fun c15 => ?_)
    · have hf := itP c15 hf
      refine lv_iconst (v := (0 : Int32)) hx hb dX8_well_101 rfl ?_
      refine lv_istore_n (lv' := [(1, .int (0 : Int32)), (0, .ref jhm)]) hx hb dX8_well_102 rfl hl (by decide) rfl (fun ls hl => ?_)
      exact hj103 (0 : Int32) Sm hf _ _ _ hP hD hS (lv_sub hl [1, 0] rfl)
    · have hf := itN c15 hf
      refine lv_aload_n hx hb dX8_well_83 rfl (lv_at hl 0 rfl) ?_
      refine va_get (D := D) (ci := 7) (v := .ref (jam 2)) (C := RX8) (T := TX8) (N := 31) hx hb ht inX8 hown hK hP 0 rfl rfl 8 (by decide) (ht _ wd3_193) (fun _ h9 => h9) rfl dX8_well_84 ?_
      refine lv_iload_n hx hb dX8_well_87 rfl (lv_at hl 1 rfl) ?_
      refine lv_aload_n hx hb dX8_well_88 rfl (lv_at hl 0 rfl) ?_
      refine va_get (D := D) (ci := 7) (v := .ref (jam 5)) (C := RX8) (T := TX8) (N := 31) hx hb ht inX8 hown hK hP 0 rfl rfl 14 (by decide) (ht _ wd3_199) (fun _ h9 => h9) rfl dX8_well_89 ?_
      refine lv_iload_n hx hb dX8_well_92 rfl (lv_at hl 1 rfl) ?_
      obtain ⟨h16, hf⟩ := inB_s hf
      refine va_iald (f := (Sm.2.1 5)) (n := 16) hx hb hK hP 6 0 rfl rfl h16 dX8_well_93 ?_
      obtain ⟨v17, ev17, hf⟩ := nmV_s hf
      rw [← ev17]
      obtain ⟨h18, hf⟩ := inB_s hf
      obtain ⟨j19, ej19, hf⟩ := nmV_s hf
      refine va_iast (f := (Sm.2.1 2)) (n := 16) hx hb hK hP hD hS 3 0 rfl rfl h18 dX8_well_94 (fun H locs hP hD hS => ?_)
      rw [← ej19] at hP hD
      have hP : va_P D vwCl (wX8_well cI cZ jhm jam (bW Sm 2 j19 v17)) H := hP
      have hD : va_D A (wX8_well cI cZ jhm jam (bW Sm 2 j19 v17)) := hD
      refine lv_iinc (v := (x1 + (1 : Int32))) (lv' := [(1, .int (x1 + (1 : Int32))), (0, .ref jhm)]) hx hb dX8_well_95 hl (k := 1) rfl rfl (by decide) rfl (fun ls hl => ?_)
      refine lv_goto (tgt := 73) hx hb dX8_well_98 (by decide) ?_
      exact hk73 (x1 + (1 : Int32)) (bW Sm 2 j19 v17) hf _ _ _ hP hD hS (lv_sub hl [1, 0] rfl)
  have hj43 : ∀ (x1 : Int32) (Sm : Bk), lk2 (sX8_well_43 ) 1000 x1 Sm = some res → ∀ (H : Heap) (locs : List Loc) (ls : Array Slot), va_P D vwCl (wX8_well cI cZ jhm jam Sm) H → va_D A (wX8_well cI cZ jhm jam Sm) → va_S A s.heap H locs → lv_has ls 2 [(0, .ref jhm), (1, .int x1)] → W p l e (rmF 5 110) s m ([.ref jhm] : List Value).toArray below meth c H locs 0 0 (MQ below (va_Qi (S := Unit) (fun r _ => r = res.1) (fun _ => qW D (tyL cI cZ cO) A (wX8_well cI cZ jhm jam res.2)) A) ([.ref jhm] : List Value).toArray s 0 0 A) (F0 m 43 ls []) := by
    refine lk2_w (fun (x1 : Int32) (Sm : Bk) => ∀ (H : Heap) (locs : List Loc) (ls : Array Slot), va_P D vwCl (wX8_well cI cZ jhm jam Sm) H → va_D A (wX8_well cI cZ jhm jam Sm) → va_S A s.heap H locs → lv_has ls 2 [(0, .ref jhm), (1, .int x1)] → W p l e (rmF 5 110) s m ([.ref jhm] : List Value).toArray below meth c H locs 0 0 (MQ below (va_Qi (S := Unit) (fun r _ => r = res.1) (fun _ => qW D (tyL cI cZ cO) A (wX8_well cI cZ jhm jam res.2)) A) ([.ref jhm] : List Value).toArray s 0 0 A) (F0 m 43 ls [])) ?_ 1000
    intro k43 hk43 x1 Sm hf H locs ls hP hD hS hl
    unfold sX8_well_43 at hf
    refine lv_iload_n hx hb dX8_well_43 rfl (lv_at hl 1 rfl) ?_
    refine lv_iconst (v := (3 : Int32)) hx hb dX8_well_44 rfl ?_
    refine lv_aload_n hx hb dX8_well_45 rfl (lv_at hl 0 rfl) ?_
    refine va_get (D := D) (ci := 7) (v := .int (Sm.1 3)) (C := RX8) (T := TX8) (N := 31) hx hb ht inX8 hown hK hP 0 rfl rfl 4 (by decide) (ht _ wd3_189) (fun _ h9 => h9) rfl dX8_well_46 ?_
    refine lv_imul hx hb dX8_well_49 ?_
    refine lv_icmp_ge (tgt := 71) hx hb dX8_well_50 (by decide) (fun c20 => ?_) (fun c20 => ?_)
    · have hf := itP c20 hf
      refine lv_iconst (v := (0 : Int32)) hx hb dX8_well_71 rfl ?_
      refine lv_istore_n (lv' := [(1, .int (0 : Int32)), (0, .ref jhm)]) hx hb dX8_well_72 rfl hl (by decide) rfl (fun ls hl => ?_)
      exact hj73 (0 : Int32) Sm hf _ _ _ hP hD hS (lv_sub hl [1, 0] rfl)
    · have hf := itN c20 hf
      refine lv_aload_n hx hb dX8_well_53 rfl (lv_at hl 0 rfl) ?_
      refine va_get (D := D) (ci := 7) (v := .ref (jam 1)) (C := RX8) (T := TX8) (N := 31) hx hb ht inX8 hown hK hP 0 rfl rfl 7 (by decide) (ht _ wd3_192) (fun _ h9 => h9) rfl dX8_well_54 ?_
      refine lv_iload_n hx hb dX8_well_57 rfl (lv_at hl 1 rfl) ?_
      refine lv_aload_n hx hb dX8_well_58 rfl (lv_at hl 0 rfl) ?_
      refine va_get (D := D) (ci := 7) (v := .ref (jam 4)) (C := RX8) (T := TX8) (N := 31) hx hb ht inX8 hown hK hP 0 rfl rfl 13 (by decide) (ht _ wd3_198) (fun _ h9 => h9) rfl dX8_well_59 ?_
      refine lv_iload_n hx hb dX8_well_62 rfl (lv_at hl 1 rfl) ?_
      obtain ⟨h21, hf⟩ := inB_s hf
      refine va_iald (f := (Sm.2.1 4)) (n := 12) hx hb hK hP 5 0 rfl rfl h21 dX8_well_63 ?_
      obtain ⟨v22, ev22, hf⟩ := nmV_s hf
      rw [← ev22]
      obtain ⟨h23, hf⟩ := inB_s hf
      obtain ⟨j24, ej24, hf⟩ := nmV_s hf
      refine va_iast (f := (Sm.2.1 1)) (n := 12) hx hb hK hP hD hS 2 0 rfl rfl h23 dX8_well_64 (fun H locs hP hD hS => ?_)
      rw [← ej24] at hP hD
      have hP : va_P D vwCl (wX8_well cI cZ jhm jam (bW Sm 1 j24 v22)) H := hP
      have hD : va_D A (wX8_well cI cZ jhm jam (bW Sm 1 j24 v22)) := hD
      refine lv_iinc (v := (x1 + (1 : Int32))) (lv' := [(1, .int (x1 + (1 : Int32))), (0, .ref jhm)]) hx hb dX8_well_65 hl (k := 1) rfl rfl (by decide) rfl (fun ls hl => ?_)
      refine lv_goto (tgt := 43) hx hb dX8_well_68 (by decide) ?_
      exact hk43 (x1 + (1 : Int32)) (bW Sm 1 j24 v22) hf _ _ _ hP hD hS (lv_sub hl [1, 0] rfl)
  intro H locs hP hS
  refine lv_aload_n hx hb dX8_well_0 rfl (lv_at hl 0 rfl) ?_
  refine lv_iconst (v := (0 : Int32)) hx hb dX8_well_1 rfl ?_
  refine va_put (D := D) (ci := 7) (v := .int (0 : Int32)) (ty := .int) (C := RX8) (T := TX8) (N := 31) hx hb ht inX8 tyX8 tyX8_ok nmX8 hown hK hP hD hS 0 rfl rfl 0 (by decide) (ht _ wd3_185) (fun _ h9 => h9) rfl (tyX8_ok 0 (by decide)) rfl rfl (Nat.le_of_ble_eq_true rfl) dX8_well_2 (fun H locs hP hD hS => ?_)
  have hP : va_P D vwCl (wX8_well cI cZ jhm jam (bI Sm 0 (0 : Int32))) H := hP
  have hD : va_D A (wX8_well cI cZ jhm jam (bI Sm 0 (0 : Int32))) := hD
  refine lv_aload_n hx hb dX8_well_5 rfl (lv_at hl 0 rfl) ?_
  obtain ⟨u25, e26, hf⟩ := bdS hf
  refine k_wVi (ws' := (wX8_well cI cZ jhm jam (bA (bA (bA (bA (bO (bI Sm 0 (0 : Int32)) u25.2) 0 (u25.2.2.1 0)) 4 (u25.2.2.1 4)) 5 (u25.2.2.1 5)) 6 (u25.2.2.1 6)))) (wr := [(jam 1, .inl (cI, 12, .inl ((bA (bA (bA (bA (bO (bI Sm 0 (0 : Int32)) u25.2) 0 (u25.2.2.1 0)) 4 (u25.2.2.1 4)) 5 (u25.2.2.1 5)) 6 (u25.2.2.1 6)).2.1 1))), (jam 2, .inl (cI, 16, .inl ((bA (bA (bA (bA (bO (bI Sm 0 (0 : Int32)) u25.2) 0 (u25.2.2.1 0)) 4 (u25.2.2.1 4)) 5 (u25.2.2.1 5)) 6 (u25.2.2.1 6)).2.1 2))), (jam 3, .inl (cI, 20, .inl ((bA (bA (bA (bA (bO (bI Sm 0 (0 : Int32)) u25.2) 0 (u25.2.2.1 0)) 4 (u25.2.2.1 4)) 5 (u25.2.2.1 5)) 6 (u25.2.2.1 6)).2.1 3))), (jam 7, .inl (cI, 16, .inl ((bA (bA (bA (bA (bO (bI Sm 0 (0 : Int32)) u25.2) 0 (u25.2.2.1 0)) 4 (u25.2.2.1 4)) 5 (u25.2.2.1 5)) 6 (u25.2.2.1 6)).2.1 7))), (jam 11, .inl (cZ, 2, .inl ((bA (bA (bA (bA (bO (bI Sm 0 (0 : Int32)) u25.2) 0 (u25.2.2.1 0)) 4 (u25.2.2.1 4)) 5 (u25.2.2.1 5)) 6 (u25.2.2.1 6)).2.1 11)))]) (As := []) (rest := []) hC miX8_readWell mjX8_readWell.1 mjX8_readWell.2 wd4_55 (qX8_readWell l D cI cZ cO jhm jam (bI Sm 0 (0 : Int32)) H.size u25 e26) ⟨Nat.le_of_ble_eq_true rfl, Nat.le_of_ble_eq_true rfl⟩ hP hD hK hZ hS hA [0, 1, 5, 6, 7] [2, 3, 4, 8, 9] [5, 6, 0, 1, 2, 7, 8, 9, 3, 4] rfl (by decide) rfl (by decide) (by decide) (by decide) rfl (va_recv hK hP (ci := 7) (q0 := 0) rfl rfl) hl.1 rfl rfl (Nat.le_of_ble_eq_true rfl) dX8_well_6 (fun H locs hP hD hS => ?_)
  refine lv_bipush (v := (-9 : Int32)) hx hb dX8_well_9 rfl ?_
  refine lv_icmp_eq (tgt := 17) hx hb dX8_well_11 (by decide) (fun c27 => ?_) (fun c27 => ?_)
  · have hf := itP c27 hf
    refine lv_aload_n hx hb dX8_well_17 rfl (lv_at hl 0 rfl) ?_
    refine lv_aload_n hx hb dX8_well_18 rfl (lv_at hl 0 rfl) ?_
    refine va_get (D := D) (ci := 7) (v := .int (u25.2.1 6)) (C := RX8) (T := TX8) (N := 31) hx hb ht inX8 hown hK hP 0 rfl rfl 10 (by decide) (ht _ wd3_195) (fun _ h9 => h9) rfl dX8_well_19 ?_
    obtain ⟨v28, ev28, hf⟩ := nmV_s hf
    rw [← ev28]
    refine va_put (D := D) (ci := 7) (v := .int v28) (ty := .int) (C := RX8) (T := TX8) (N := 31) hx hb ht inX8 tyX8 tyX8_ok nmX8 hown hK hP hD hS 0 rfl rfl 4 (by decide) (ht _ wd3_189) (fun _ h9 => h9) rfl (tyX8_ok 4 (by decide)) rfl rfl (Nat.le_of_ble_eq_true rfl) dX8_well_22 (fun H locs hP hD hS => ?_)
    have hP : va_P D vwCl (wX8_well cI cZ jhm jam (bI (bA (bA (bA (bA (bO (bI Sm 0 (0 : Int32)) u25.2) 0 (u25.2.2.1 0)) 4 (u25.2.2.1 4)) 5 (u25.2.2.1 5)) 6 (u25.2.2.1 6)) 3 v28)) H := hP
    have hD : va_D A (wX8_well cI cZ jhm jam (bI (bA (bA (bA (bA (bO (bI Sm 0 (0 : Int32)) u25.2) 0 (u25.2.2.1 0)) 4 (u25.2.2.1 4)) 5 (u25.2.2.1 5)) 6 (u25.2.2.1 6)) 3 v28)) := hD
    refine lv_aload_n hx hb dX8_well_25 rfl (lv_at hl 0 rfl) ?_
    refine lv_aload_n hx hb dX8_well_26 rfl (lv_at hl 0 rfl) ?_
    refine va_get (D := D) (ci := 7) (v := .int (u25.2.1 7)) (C := RX8) (T := TX8) (N := 31) hx hb ht inX8 hown hK hP 0 rfl rfl 11 (by decide) (ht _ wd3_196) (fun _ h9 => h9) rfl dX8_well_27 ?_
    obtain ⟨v29, ev29, hf⟩ := nmV_s hf
    rw [← ev29]
    refine va_put (D := D) (ci := 7) (v := .int v29) (ty := .int) (C := RX8) (T := TX8) (N := 31) hx hb ht inX8 tyX8 tyX8_ok nmX8 hown hK hP hD hS 0 rfl rfl 5 (by decide) (ht _ wd3_190) (fun _ h9 => h9) rfl (tyX8_ok 5 (by decide)) rfl rfl (Nat.le_of_ble_eq_true rfl) dX8_well_30 (fun H locs hP hD hS => ?_)
    have hP : va_P D vwCl (wX8_well cI cZ jhm jam (bI (bI (bA (bA (bA (bA (bO (bI Sm 0 (0 : Int32)) u25.2) 0 (u25.2.2.1 0)) 4 (u25.2.2.1 4)) 5 (u25.2.2.1 5)) 6 (u25.2.2.1 6)) 3 v28) 4 v29)) H := hP
    have hD : va_D A (wX8_well cI cZ jhm jam (bI (bI (bA (bA (bA (bA (bO (bI Sm 0 (0 : Int32)) u25.2) 0 (u25.2.2.1 0)) 4 (u25.2.2.1 4)) 5 (u25.2.2.1 5)) 6 (u25.2.2.1 6)) 3 v28) 4 v29)) := hD
    refine lv_aload_n hx hb dX8_well_33 rfl (lv_at hl 0 rfl) ?_
    refine lv_aload_n hx hb dX8_well_34 rfl (lv_at hl 0 rfl) ?_
    refine va_get (D := D) (ci := 7) (v := .int (u25.2.1 8)) (C := RX8) (T := TX8) (N := 31) hx hb ht inX8 hown hK hP 0 rfl rfl 12 (by decide) (ht _ wd3_197) (fun _ h9 => h9) rfl dX8_well_35 ?_
    obtain ⟨v30, ev30, hf⟩ := nmV_s hf
    rw [← ev30]
    refine va_put (D := D) (ci := 7) (v := .int v30) (ty := .int) (C := RX8) (T := TX8) (N := 31) hx hb ht inX8 tyX8 tyX8_ok nmX8 hown hK hP hD hS 0 rfl rfl 6 (by decide) (ht _ wd3_191) (fun _ h9 => h9) rfl (tyX8_ok 6 (by decide)) rfl rfl (Nat.le_of_ble_eq_true rfl) dX8_well_38 (fun H locs hP hD hS => ?_)
    have hP : va_P D vwCl (wX8_well cI cZ jhm jam (bI (bI (bI (bA (bA (bA (bA (bO (bI Sm 0 (0 : Int32)) u25.2) 0 (u25.2.2.1 0)) 4 (u25.2.2.1 4)) 5 (u25.2.2.1 5)) 6 (u25.2.2.1 6)) 3 v28) 4 v29) 5 v30)) H := hP
    have hD : va_D A (wX8_well cI cZ jhm jam (bI (bI (bI (bA (bA (bA (bA (bO (bI Sm 0 (0 : Int32)) u25.2) 0 (u25.2.2.1 0)) 4 (u25.2.2.1 4)) 5 (u25.2.2.1 5)) 6 (u25.2.2.1 6)) 3 v28) 4 v29) 5 v30)) := hD
    refine lv_iconst (v := (0 : Int32)) hx hb dX8_well_41 rfl ?_
    refine lv_istore_n (lv' := [(1, .int (0 : Int32)), (0, .ref jhm)]) hx hb dX8_well_42 rfl hl (by decide) rfl (fun ls hl => ?_)
    exact hj43 (0 : Int32) (bI (bI (bI (bA (bA (bA (bA (bO (bI Sm 0 (0 : Int32)) u25.2) 0 (u25.2.2.1 0)) 4 (u25.2.2.1 4)) 5 (u25.2.2.1 5)) 6 (u25.2.2.1 6)) 3 v28) 4 v29) 5 v30) hf _ _ _ hP hD hS (lv_sub hl [1, 0] rfl)
  · have hf := itN c27 hf
    refine lv_bipush (v := (-3 : Int32)) hx hb dX8_well_14 rfl ?_
    cases hf
    exact W.iret hx hb hr (fun t ht9 hW => ⟨⟨_, (), rfl, rfl, by rw [ht9]; exact hP, va_K.moved hW.alike hK, hD⟩, hS.F ht9⟩) hS.2.2 dX8_well_16
abbrev wX8_worthOf (cI cZ : ClassId) (jhm : Nat) (jam : Nat → Nat) (jhp : Nat) (np : Nat) (Sm : Bk) (P : (Nat → Int32)) : va_W := [(jhm, .inr (7, [.int (Sm.1 0), .ref (jam 0), .int (Sm.1 1), .int (Sm.1 2), .int (Sm.1 3), .int (Sm.1 4), .int (Sm.1 5), .ref (jam 1), .ref (jam 2), .ref (jam 3), .int (Sm.1 6), .int (Sm.1 7), .int (Sm.1 8), .ref (jam 4), .ref (jam 5), .ref (jam 6), .ref (jam 7), .ref (jam 8), .ref (jam 9), .int (Sm.1 9), .ref (jam 10), .ref (jam 11), .int (Sm.1 10), .ref (jam 12), .ref (jam 13), .long Sm.2.2, .ref (jam 14), .ref (jam 15), .int (Sm.1 11), .int (Sm.1 12), .int (Sm.1 13)])), (jam 1, .inl (cI, 12, .inl (Sm.2.1 1))), (jhp, .inl (cI, np, .inl P))]
def gX8_worthOf_71 (Sm : Bk) (P : (Nat → Int32)) (np : Nat) (k4 : Int32 → Int32 → Option (Int32)) (x3 : Int32) (y0 : Int32) (y1 : Int32) : Option (Int32) := k4 (y0 + y1) (x3 + (1 : Int32))
def gX8_worthOf_45 (Sm : Bk) (P : (Nat → Int32)) (np : Nat) (k4 : Int32 → Int32 → Option (Int32)) (x2 : Int32) (x3 : Int32) (y0 : Int32) : Option (Int32) := (if y0 = 0 then inB np x3 (inB 12 (((3 : Int32) * x3) + (1 : Int32)) (gX8_worthOf_71 Sm P np k4 x3 x2 ((P x3.toNatClampNeg) * ((Sm.2.1 1) (((3 : Int32) * x3) + (1 : Int32)).toNatClampNeg)))) else gX8_worthOf_71 Sm P np k4 x3 x2 (0 : Int32))
def gX8_worthOf_44 (Sm : Bk) (P : (Nat → Int32)) (np : Nat) (k4 : Int32 → Int32 → Option (Int32)) (x2 : Int32) (x3 : Int32) : Option (Int32) := gX8_worthOf_45 Sm P np k4 x2 x3 (0 : Int32)
def sX8_worthOf_4 (Sm : Bk) (P : (Nat → Int32)) (np : Nat) (k4 : Int32 → Int32 → Option (Int32)) (x2 : Int32) (x3 : Int32) : Option (Int32) := (if (Sm.1 3) ≤ x3 then some x2 else inB 12 (((3 : Int32) * x3) + (2 : Int32)) ((if ((Sm.2.1 1) (((3 : Int32) * x3) + (2 : Int32)).toNatClampNeg) = (3 : Int32) then inB np x3 (inB 12 ((3 : Int32) * x3) ((if ((Sm.2.1 1) ((3 : Int32) * x3).toNatClampNeg) ≤ (P x3.toNatClampNeg) then gX8_worthOf_44 Sm P np k4 x2 x3 else gX8_worthOf_45 Sm P np k4 x2 x3 (1 : Int32)))) else gX8_worthOf_44 Sm P np k4 x2 x3)))
def fX8_worthOf (Sm : Bk) (P : (Nat → Int32)) (np : Nat) : Option (Int32) := lk2 (sX8_worthOf_4 Sm P np) 1000 (0 : Int32) (0 : Int32)
theorem miX8_worthOf : MI yX8_worthOf cX8_worthOf 5 (some .int) 1 := ⟨wd1_8, wd4_94, by decide +kernel⟩
theorem mjX8_worthOf : Cond.instanceMethod yX8_worthOf ∈ wT ∧ Cond.selects yX8_worthOf.cls yX8_worthOf yX8_worthOf ∈ wT := ⟨wd4_93, ws_20⟩
set_option maxHeartbeats 4000000 in
set_option maxRecDepth 100000 in
theorem qX8_worthOf (l : Launch) (D : va_G) (cI cZ cO : ClassId) (jhm : Nat) (jam : Nat → Nat) (jhp : Nat) (np : Nat) (Sm : Bk) (P : (Nat → Int32)) (res : Int32) (hf : fX8_worthOf Sm P np = some res) : Met l yX8_worthOf (Cond.code yX8_worthOf cX8_worthOf 5 (some .int) :: wT) (rmF 0 0) (va_Pc [.ref jhm, .ref jhp] (cR D (tyL cI cZ cO) (wX8_worthOf cI cZ jhm jam jhp np Sm P))) (vp_Si (fun r => r = res)) 0 0 (fun _ => False) := by
  refine met_r (by decide) (Nat.le_of_ble_eq_true rfl) ?_
  intro p e s m below meth c hx hb hr hml ht hown hlk ls hl hP hK hZ
  have hS : va_S (fun _ => False) s.heap s.heap [] := va_S.rf
  have hown : s.vm.findClass "EyeDrinkModel" = some m.cls := hown
  have hl : lv_has ls 5 [(0, .ref jhm), (1, .ref jhp)] := hl
  unfold fX8_worthOf at hf
  have hj4 : ∀ (x2 : Int32) (x3 : Int32), lk2 (sX8_worthOf_4 Sm P np) 1000 x2 x3 = some res → ∀ (ls : Array Slot), lv_has ls 5 [(0, .ref jhm), (1, .ref jhp), (2, .int x2), (3, .int x3)] → W p l e (rmF 0 0) s m ([.ref jhm, .ref jhp] : List Value).toArray below meth c s.heap [] 0 0 (MQ below (vp_Si (fun r => r = res)) ([.ref jhm, .ref jhp] : List Value).toArray s 0 0 (fun _ => False)) (F0 m 4 ls []) := by
    refine lk2_w (fun (x2 : Int32) (x3 : Int32) => ∀ (ls : Array Slot), lv_has ls 5 [(0, .ref jhm), (1, .ref jhp), (2, .int x2), (3, .int x3)] → W p l e (rmF 0 0) s m ([.ref jhm, .ref jhp] : List Value).toArray below meth c s.heap [] 0 0 (MQ below (vp_Si (fun r => r = res)) ([.ref jhm, .ref jhp] : List Value).toArray s 0 0 (fun _ => False)) (F0 m 4 ls [])) ?_ 1000
    intro k4 hk4 x2 x3 hf ls hl
    unfold sX8_worthOf_4 at hf
    have hj71 : ∀ (x3 : Int32) (y0 : Int32) (y1 : Int32), gX8_worthOf_71 Sm P np k4 x3 y0 y1 = some res → ∀ (ls : Array Slot), lv_has ls 5 [(0, .ref jhm), (1, .ref jhp), (3, .int x3)] → W p l e (rmF 0 0) s m ([.ref jhm, .ref jhp] : List Value).toArray below meth c s.heap [] 0 0 (MQ below (vp_Si (fun r => r = res)) ([.ref jhm, .ref jhp] : List Value).toArray s 0 0 (fun _ => False)) (F0 m 71 ls [.int y1, .int y0]) := by
      intro x3 y0 y1 hf ls hl
      unfold gX8_worthOf_71 at hf
      refine lv_iadd hx hb dX8_worthOf_71 ?_
      refine lv_istore_n (lv' := [(2, .int (y0 + y1)), (0, .ref jhm), (1, .ref jhp), (3, .int x3)]) hx hb dX8_worthOf_72 rfl hl (by decide) rfl (fun ls hl => ?_)
      refine lv_iinc (v := (x3 + (1 : Int32))) (lv' := [(3, .int (x3 + (1 : Int32))), (2, .int (y0 + y1)), (0, .ref jhm), (1, .ref jhp)]) hx hb dX8_worthOf_73 hl (k := 3) rfl rfl (by decide) rfl (fun ls hl => ?_)
      refine lv_goto (tgt := 4) hx hb dX8_worthOf_76 (by decide) ?_
      exact hk4 (y0 + y1) (x3 + (1 : Int32)) hf _ (lv_sub hl [2, 3, 1, 0] rfl)
    have hj45 : ∀ (x2 : Int32) (x3 : Int32) (y0 : Int32), gX8_worthOf_45 Sm P np k4 x2 x3 y0 = some res → ∀ (ls : Array Slot), lv_has ls 5 [(0, .ref jhm), (1, .ref jhp), (2, .int x2), (3, .int x3)] → W p l e (rmF 0 0) s m ([.ref jhm, .ref jhp] : List Value).toArray below meth c s.heap [] 0 0 (MQ below (vp_Si (fun r => r = res)) ([.ref jhm, .ref jhp] : List Value).toArray s 0 0 (fun _ => False)) (F0 m 45 ls [.int y0]) := by
      intro x2 x3 y0 hf ls hl
      unfold gX8_worthOf_45 at hf
      refine lv_istore (lv' := [(4, .int y0), (0, .ref jhm), (1, .ref jhp), (2, .int x2), (3, .int x3)]) hx hb dX8_worthOf_45 hl (by decide) rfl (fun ls hl => ?_)
      refine lv_iload_n hx hb dX8_worthOf_47 rfl (lv_at hl 3 rfl) ?_
      refine lv_iload hx hb dX8_worthOf_48 (lv_at hl 0 rfl) ?_
      refine lv_if_eq (tgt := 57) hx hb dX8_worthOf_50 (by decide) (fun c1 => ?_) (fun c1 => ?_)
      · have hf := itP c1 hf
        refine lv_aload_n hx hb dX8_worthOf_57 rfl (lv_at hl 2 rfl) ?_
        refine lv_iload_n hx hb dX8_worthOf_58 rfl (lv_at hl 4 rfl) ?_
        obtain ⟨h2, hf⟩ := inB_s hf
        refine va_iald (f := P) (n := np) hx hb hK hP 2 0 rfl rfl h2 dX8_worthOf_59 ?_
        refine lv_aload_n hx hb dX8_worthOf_60 rfl (lv_at hl 1 rfl) ?_
        refine va_get (D := D) (ci := 7) (v := .ref (jam 1)) (C := RX8) (T := TX8) (N := 31) hx hb ht inX8 hown hK hP 0 rfl rfl 7 (by decide) (ht _ wd3_192) (fun _ h9 => h9) rfl dX8_worthOf_61 ?_
        refine lv_iconst (v := (3 : Int32)) hx hb dX8_worthOf_64 rfl ?_
        refine lv_iload_n hx hb dX8_worthOf_65 rfl (lv_at hl 4 rfl) ?_
        refine lv_imul hx hb dX8_worthOf_66 ?_
        refine lv_iconst (v := (1 : Int32)) hx hb dX8_worthOf_67 rfl ?_
        refine lv_iadd hx hb dX8_worthOf_68 ?_
        obtain ⟨h3, hf⟩ := inB_s hf
        refine va_iald (f := (Sm.2.1 1)) (n := 12) hx hb hK hP 1 0 rfl rfl h3 dX8_worthOf_69 ?_
        refine lv_imul hx hb dX8_worthOf_70 ?_
        exact hj71 x3 x2 ((P x3.toNatClampNeg) * ((Sm.2.1 1) (((3 : Int32) * x3) + (1 : Int32)).toNatClampNeg)) hf _ (lv_sub hl [1, 2, 4] rfl)
      · have hf := itN c1 hf
        refine lv_iconst (v := (0 : Int32)) hx hb dX8_worthOf_53 rfl ?_
        refine lv_goto (tgt := 71) hx hb dX8_worthOf_54 (by decide) ?_
        exact hj71 x3 x2 (0 : Int32) hf _ (lv_sub hl [1, 2, 4] rfl)
    have hj44 : ∀ (x2 : Int32) (x3 : Int32), gX8_worthOf_44 Sm P np k4 x2 x3 = some res → ∀ (ls : Array Slot), lv_has ls 5 [(0, .ref jhm), (1, .ref jhp), (2, .int x2), (3, .int x3)] → W p l e (rmF 0 0) s m ([.ref jhm, .ref jhp] : List Value).toArray below meth c s.heap [] 0 0 (MQ below (vp_Si (fun r => r = res)) ([.ref jhm, .ref jhp] : List Value).toArray s 0 0 (fun _ => False)) (F0 m 44 ls []) := by
      intro x2 x3 hf ls hl
      unfold gX8_worthOf_44 at hf
      refine lv_iconst (v := (0 : Int32)) hx hb dX8_worthOf_44 rfl ?_
      exact hj45 x2 x3 (0 : Int32) hf _ (lv_sub hl [0, 1, 2, 3] rfl)
    refine lv_iload_n hx hb dX8_worthOf_4 rfl (lv_at hl 3 rfl) ?_
    refine lv_aload_n hx hb dX8_worthOf_5 rfl (lv_at hl 0 rfl) ?_
    refine va_get (D := D) (ci := 7) (v := .int (Sm.1 3)) (C := RX8) (T := TX8) (N := 31) hx hb ht inX8 hown hK hP 0 rfl rfl 4 (by decide) (ht _ wd3_189) (fun _ h9 => h9) rfl dX8_worthOf_6 ?_
    refine lv_icmp_ge (tgt := 79) hx hb dX8_worthOf_9 (by decide) (fun c4 => ?_) (fun c4 => ?_)
    · have hf := itP c4 hf
      refine lv_iload_n hx hb dX8_worthOf_79 rfl (lv_at hl 2 rfl) ?_
      exact W.iret hx hb hr (fun t ht9 _ => ⟨_, rfl, Option.some.inj hf, ht9⟩) (fun _ h9 => by cases h9) dX8_worthOf_80
    · have hf := itN c4 hf
      refine lv_aload_n hx hb dX8_worthOf_12 rfl (lv_at hl 0 rfl) ?_
      refine va_get (D := D) (ci := 7) (v := .ref (jam 1)) (C := RX8) (T := TX8) (N := 31) hx hb ht inX8 hown hK hP 0 rfl rfl 7 (by decide) (ht _ wd3_192) (fun _ h9 => h9) rfl dX8_worthOf_13 ?_
      refine lv_iconst (v := (3 : Int32)) hx hb dX8_worthOf_16 rfl ?_
      refine lv_iload_n hx hb dX8_worthOf_17 rfl (lv_at hl 3 rfl) ?_
      refine lv_imul hx hb dX8_worthOf_18 ?_
      refine lv_iconst (v := (2 : Int32)) hx hb dX8_worthOf_19 rfl ?_
      refine lv_iadd hx hb dX8_worthOf_20 ?_
      obtain ⟨h5, hf⟩ := inB_s hf
      refine va_iald (f := (Sm.2.1 1)) (n := 12) hx hb hK hP 1 0 rfl rfl h5 dX8_worthOf_21 ?_
      refine lv_iconst (v := (3 : Int32)) hx hb dX8_worthOf_22 rfl ?_
      refine lv_icmp_ne (tgt := 44) hx hb dX8_worthOf_23 (by decide) (fun c6 => ?_) (fun c6 => ?_)
      · have hf := itN c6 hf
        exact hj44 x2 x3 hf _ (lv_sub hl [0, 1, 2, 3] rfl)
      · have hf := itP c6 hf
        refine lv_aload_n hx hb dX8_worthOf_26 rfl (lv_at hl 1 rfl) ?_
        refine lv_iload_n hx hb dX8_worthOf_27 rfl (lv_at hl 3 rfl) ?_
        obtain ⟨h7, hf⟩ := inB_s hf
        refine va_iald (f := P) (n := np) hx hb hK hP 2 0 rfl rfl h7 dX8_worthOf_28 ?_
        refine lv_aload_n hx hb dX8_worthOf_29 rfl (lv_at hl 0 rfl) ?_
        refine va_get (D := D) (ci := 7) (v := .ref (jam 1)) (C := RX8) (T := TX8) (N := 31) hx hb ht inX8 hown hK hP 0 rfl rfl 7 (by decide) (ht _ wd3_192) (fun _ h9 => h9) rfl dX8_worthOf_30 ?_
        refine lv_iconst (v := (3 : Int32)) hx hb dX8_worthOf_33 rfl ?_
        refine lv_iload_n hx hb dX8_worthOf_34 rfl (lv_at hl 3 rfl) ?_
        refine lv_imul hx hb dX8_worthOf_35 ?_
        obtain ⟨h8, hf⟩ := inB_s hf
        refine va_iald (f := (Sm.2.1 1)) (n := 12) hx hb hK hP 1 0 rfl rfl h8 dX8_worthOf_36 ?_
        refine lv_icmp_ge (tgt := 44) hx hb dX8_worthOf_37 (by decide) (fun c9 => ?_) (fun c9 => ?_)
        · have hf := itP c9 hf
          exact hj44 x2 x3 hf _ (lv_sub hl [0, 1, 2, 3] rfl)
        · have hf := itN c9 hf
          refine lv_iconst (v := (1 : Int32)) hx hb dX8_worthOf_40 rfl ?_
          refine lv_goto (tgt := 45) hx hb dX8_worthOf_41 (by decide) ?_
          exact hj45 x2 x3 (1 : Int32) hf _ (lv_sub hl [0, 1, 2, 3] rfl)
  refine lv_iconst (v := (0 : Int32)) hx hb dX8_worthOf_0 rfl ?_
  refine lv_istore_n (lv' := [(2, .int (0 : Int32)), (0, .ref jhm), (1, .ref jhp)]) hx hb dX8_worthOf_1 rfl hl (by decide) rfl (fun ls hl => ?_)
  refine lv_iconst (v := (0 : Int32)) hx hb dX8_worthOf_2 rfl ?_
  refine lv_istore_n (lv' := [(3, .int (0 : Int32)), (2, .int (0 : Int32)), (0, .ref jhm), (1, .ref jhp)]) hx hb dX8_worthOf_3 rfl hl (by decide) rfl (fun ls hl => ?_)
  exact hj4 (0 : Int32) (0 : Int32) hf _ (lv_sub hl [2, 3, 1, 0] rfl)
abbrev wX8_estateOf (cI cZ : ClassId) (jhm : Nat) (jam : Nat → Nat) (jhp : Nat) (np : Nat) (Sm : Bk) (P : (Nat → Int32)) : va_W := [(jhm, .inr (7, [.int (Sm.1 0), .ref (jam 0), .int (Sm.1 1), .int (Sm.1 2), .int (Sm.1 3), .int (Sm.1 4), .int (Sm.1 5), .ref (jam 1), .ref (jam 2), .ref (jam 3), .int (Sm.1 6), .int (Sm.1 7), .int (Sm.1 8), .ref (jam 4), .ref (jam 5), .ref (jam 6), .ref (jam 7), .ref (jam 8), .ref (jam 9), .int (Sm.1 9), .ref (jam 10), .ref (jam 11), .int (Sm.1 10), .ref (jam 12), .ref (jam 13), .long Sm.2.2, .ref (jam 14), .ref (jam 15), .int (Sm.1 11), .int (Sm.1 12), .int (Sm.1 13)])), (jam 1, .inl (cI, 12, .inl (Sm.2.1 1))), (jhp, .inl (cI, np, .inl P))]
def fX8_estateOf (Sm : Bk) (P : (Nat → Int32)) (np : Nat) : Option (Int32) := inB np (15 : Int32) ((fX8_worthOf Sm P np).bind (fun u2 => some (((1000 : Int32) + (P (15 : Int32).toNatClampNeg)) + u2)))
theorem miX8_estateOf : MI yX8_estateOf cX8_estateOf 2 (some .int) 1 := ⟨wd1_8, wd4_90, by decide +kernel⟩
theorem mjX8_estateOf : Cond.instanceMethod yX8_estateOf ∈ wT ∧ Cond.selects yX8_estateOf.cls yX8_estateOf yX8_estateOf ∈ wT := ⟨wd4_89, ws_19⟩
set_option maxHeartbeats 4000000 in
set_option maxRecDepth 100000 in
theorem qX8_estateOf (l : Launch) (D : va_G) (cI cZ cO : ClassId) (jhm : Nat) (jam : Nat → Nat) (jhp : Nat) (np : Nat) (Sm : Bk) (P : (Nat → Int32)) (res : Int32) (hf : fX8_estateOf Sm P np = some res) : Met l yX8_estateOf (Cond.code yX8_estateOf cX8_estateOf 2 (some .int) :: wT) (rmF 1 24) (va_Pc [.ref jhm, .ref jhp] (cR D (tyL cI cZ cO) (wX8_estateOf cI cZ jhm jam jhp np Sm P))) (vp_Si (fun r => r = res)) 0 0 (fun _ => False) := by
  refine met_r (by decide) (Nat.le_of_ble_eq_true rfl) ?_
  intro p e s m below meth c hx hb hr hml ht hown hlk ls hl hP hK hZ
  have hS : va_S (fun _ => False) s.heap s.heap [] := va_S.rf
  have hown : s.vm.findClass "EyeDrinkModel" = some m.cls := hown
  have hl : lv_has ls 2 [(0, .ref jhm), (1, .ref jhp)] := hl
  have hC : CallFix p m c cX8_estateOf 2 s ([.ref jhm, .ref jhp] : List Value).toArray wT "EyeDrinkModel" := ⟨hx, hb, hml, hown, ht⟩
  unfold fX8_estateOf at hf
  refine lv_sipush (v := (1000 : Int32)) hx hb dX8_estateOf_0 rfl ?_
  refine lv_aload_n hx hb dX8_estateOf_3 rfl (lv_at hl 1 rfl) ?_
  refine lv_bipush (v := (15 : Int32)) hx hb dX8_estateOf_4 rfl ?_
  obtain ⟨h1, hf⟩ := inB_s hf
  refine va_iald (f := P) (n := np) hx hb hK hP 2 0 rfl rfl h1 dX8_estateOf_6 ?_
  refine lv_iadd hx hb dX8_estateOf_7 ?_
  refine lv_aload_n hx hb dX8_estateOf_8 rfl (lv_at hl 0 rfl) ?_
  refine lv_aload_n hx hb dX8_estateOf_9 rfl (lv_at hl 1 rfl) ?_
  obtain ⟨u2, e3, hf⟩ := bdS hf
  refine k_rV (As := [.ref jhp]) (rest := [.int ((1000 : Int32) + (P (15 : Int32).toNatClampNeg))]) hC miX8_worthOf mjX8_worthOf.1 mjX8_worthOf.2 wd4_91 (qX8_worthOf l D cI cZ cO jhm jam jhp np Sm P u2 e3) ⟨Nat.le_of_ble_eq_true rfl, Nat.le_of_ble_eq_true rfl⟩ (hP.sub [0, 1, 2] rfl) hK hZ hS (va_recv hK hP (ci := 7) (q0 := 0) rfl rfl) hl.1 rfl rfl (Nat.le_of_ble_eq_true rfl) dX8_estateOf_10 ?_
  refine lv_iadd hx hb dX8_estateOf_13 ?_
  exact W.iret hx hb hr (fun t ht9 _ => ⟨_, rfl, Option.some.inj hf, ht9⟩) (fun _ h9 => by cases h9) dX8_estateOf_14
abbrev wX8_about (cI cZ : ClassId) (jhm : Nat) (jam : Nat → Nat) (Sm : Bk) : va_W := [(jhm, .inr (7, [.int (Sm.1 0), .ref (jam 0), .int (Sm.1 1), .int (Sm.1 2), .int (Sm.1 3), .int (Sm.1 4), .int (Sm.1 5), .ref (jam 1), .ref (jam 2), .ref (jam 3), .int (Sm.1 6), .int (Sm.1 7), .int (Sm.1 8), .ref (jam 4), .ref (jam 5), .ref (jam 6), .ref (jam 7), .ref (jam 8), .ref (jam 9), .int (Sm.1 9), .ref (jam 10), .ref (jam 11), .int (Sm.1 10), .ref (jam 12), .ref (jam 13), .long Sm.2.2, .ref (jam 14), .ref (jam 15), .int (Sm.1 11), .int (Sm.1 12), .int (Sm.1 13)])), (jam 1, .inl (cI, 12, .inl (Sm.2.1 1))), (jam 7, .inl (cI, 16, .inl (Sm.2.1 7)))]
def fX8_about (Sm : Bk) (x1 : Int32) : Option (Int32 × Bk) := (if x1 = (0 : Int32) then some ((Sm.1 3), (bI Sm 0 (0 : Int32))) else (if x1 = (1 : Int32) then some ((Sm.1 4), (bI Sm 0 (0 : Int32))) else (if x1 = (2 : Int32) then some ((Sm.1 5), (bI Sm 0 (0 : Int32))) else (if x1 = (3 : Int32) then inB 16 (14 : Int32) (some (((Sm.2.1 7) (14 : Int32).toNatClampNeg), (bI Sm 0 (0 : Int32)))) else (if x1 = (4 : Int32) then inB 16 (12 : Int32) (some (((Sm.2.1 7) (12 : Int32).toNatClampNeg), (bI Sm 0 (0 : Int32)))) else (if x1 = (5 : Int32) then inB 16 (13 : Int32) (some (((Sm.2.1 7) (13 : Int32).toNatClampNeg), (bI Sm 0 (0 : Int32)))) else (if x1 = (6 : Int32) then (fX8_estateOf (bI Sm 0 (0 : Int32)) (Sm.2.1 7) 16).bind (fun u5 => some (u5, (bI Sm 0 (0 : Int32)))) else (if x1 = (7 : Int32) then some ((Sm.1 9), (bI Sm 0 (0 : Int32))) else (if x1 = (8 : Int32) then some ((Sm.1 10), (bI Sm 0 (0 : Int32))) else (if x1 = (9 : Int32) then some ((Sm.1 1), (bI Sm 0 (0 : Int32))) else some ((-2 : Int32), (bI Sm 0 (0 : Int32)))))))))))))
theorem miX8_about : MI yX8_about cX8_about 2 (some .int) 1 := ⟨wd1_8, wd4_86, by decide +kernel⟩
theorem mjX8_about : Cond.instanceMethod yX8_about ∈ wT ∧ Cond.selects yX8_about.cls yX8_about yX8_about ∈ wT := ⟨wd4_84, wd4_85⟩
set_option maxHeartbeats 4000000 in
set_option maxRecDepth 100000 in
theorem qX8_about (l : Launch) (D : va_G) (cI cZ cO : ClassId) (jhm : Nat) (jam : Nat → Nat) (Sm : Bk) (x1 : Int32) (sz : Nat) (res : Int32 × Bk) (hf : fX8_about Sm x1 = some res) : Met l yX8_about (Cond.code yX8_about cX8_about 2 (some .int) :: wT) (rmF 2 45) (va_Pc [.ref jhm, .int x1] (cW D (tyL cI cZ cO) (wX8_about cI cZ jhm jam Sm) sz)) (va_Qi (S := Unit) (fun r _ => r = res.1) (fun _ => qW D (tyL cI cZ cO) (va_A (wX8_about cI cZ jhm jam Sm) sz) (wX8_about cI cZ jhm jam res.2)) (va_A (wX8_about cI cZ jhm jam Sm) sz)) 0 0 (va_A (wX8_about cI cZ jhm jam Sm) sz) := by
  refine met_w (by decide) (Nat.le_of_ble_eq_true rfl) ?_
  intro p e s m below meth c hx hb hr hml ht hown hlk ls hl hsz hP hK hD0 hZ
  subst hsz
  have hD := hD0.self (sz := s.heap.size)
  generalize hAe : va_A (wX8_about cI cZ jhm jam Sm) s.heap.size = A at hD hZ ⊢
  have hA : ∀ q : Nat, s.heap.size ≤ q → A q := fun q h => by rw [← hAe]; exact Or.inr h
  have hS : va_S A s.heap s.heap [] := va_S.rf
  have hown : s.vm.findClass "EyeDrinkModel" = some m.cls := hown
  have hl : lv_has ls 2 [(0, .ref jhm), (1, .int x1)] := hl
  have hC : CallFix p m c cX8_about 2 s ([.ref jhm, .int x1] : List Value).toArray wT "EyeDrinkModel" := ⟨hx, hb, hml, hown, ht⟩
  unfold fX8_about at hf
  suffices hgo : ∀ (H : Heap) (locs : List Loc), va_P D vwCl (wX8_about cI cZ jhm jam Sm) H → va_S A s.heap H locs → W p l e (rmF 2 45) s m ([.ref jhm, .int x1] : List Value).toArray below meth c H locs 0 0 (MQ below (va_Qi (S := Unit) (fun r _ => r = res.1) (fun _ => qW D (tyL cI cZ cO) A (wX8_about cI cZ jhm jam res.2)) A) ([.ref jhm, .int x1] : List Value).toArray s 0 0 A) (F0 m 0 ls []) from hgo s.heap [] hP hS
  intro H locs hP hS
  refine lv_aload_n hx hb dX8_about_0 rfl (lv_at hl 0 rfl) ?_
  refine lv_iconst (v := (0 : Int32)) hx hb dX8_about_1 rfl ?_
  refine va_put (D := D) (ci := 7) (v := .int (0 : Int32)) (ty := .int) (C := RX8) (T := TX8) (N := 31) hx hb ht inX8 tyX8 tyX8_ok nmX8 hown hK hP hD hS 0 rfl rfl 0 (by decide) (ht _ wd3_185) (fun _ h9 => h9) rfl (tyX8_ok 0 (by decide)) rfl rfl (Nat.le_of_ble_eq_true rfl) dX8_about_2 (fun H locs hP hD hS => ?_)
  have hP : va_P D vwCl (wX8_about cI cZ jhm jam (bI Sm 0 (0 : Int32))) H := hP
  have hD : va_D A (wX8_about cI cZ jhm jam (bI Sm 0 (0 : Int32))) := hD
  refine lv_iload_n hx hb dX8_about_5 rfl (lv_at hl 1 rfl) ?_
  by_cases c1_0 : x1 = (0 : Int32)
  · have hf := itP c1_0 hf
    refine lv_tableIn (tgt := 60) hx hb dX8_about_6 (by rw [c1_0]; decide) (by rw [c1_0]; decide) (by rw [c1_0]; rfl) (by decide) ?_
    refine lv_aload_n hx hb dX8_about_60 rfl (lv_at hl 0 rfl) ?_
    refine va_get (D := D) (ci := 7) (v := .int (Sm.1 3)) (C := RX8) (T := TX8) (N := 31) hx hb ht inX8 hown hK hP 0 rfl rfl 4 (by decide) (ht _ wd3_189) (fun _ h9 => h9) rfl dX8_about_61 ?_
    cases hf
    exact W.iret hx hb hr (fun t ht9 hW => ⟨⟨_, (), rfl, rfl, by rw [ht9]; exact hP, va_K.moved hW.alike hK, hD⟩, hS.F ht9⟩) hS.2.2 dX8_about_64
  · have hf := itN c1_0 hf
    by_cases c1_1 : x1 = (1 : Int32)
    · have hf := itP c1_1 hf
      refine lv_tableIn (tgt := 65) hx hb dX8_about_6 (by rw [c1_1]; decide) (by rw [c1_1]; decide) (by rw [c1_1]; rfl) (by decide) ?_
      refine lv_aload_n hx hb dX8_about_65 rfl (lv_at hl 0 rfl) ?_
      refine va_get (D := D) (ci := 7) (v := .int (Sm.1 4)) (C := RX8) (T := TX8) (N := 31) hx hb ht inX8 hown hK hP 0 rfl rfl 5 (by decide) (ht _ wd3_190) (fun _ h9 => h9) rfl dX8_about_66 ?_
      cases hf
      exact W.iret hx hb hr (fun t ht9 hW => ⟨⟨_, (), rfl, rfl, by rw [ht9]; exact hP, va_K.moved hW.alike hK, hD⟩, hS.F ht9⟩) hS.2.2 dX8_about_69
    · have hf := itN c1_1 hf
      by_cases c1_2 : x1 = (2 : Int32)
      · have hf := itP c1_2 hf
        refine lv_tableIn (tgt := 70) hx hb dX8_about_6 (by rw [c1_2]; decide) (by rw [c1_2]; decide) (by rw [c1_2]; rfl) (by decide) ?_
        refine lv_aload_n hx hb dX8_about_70 rfl (lv_at hl 0 rfl) ?_
        refine va_get (D := D) (ci := 7) (v := .int (Sm.1 5)) (C := RX8) (T := TX8) (N := 31) hx hb ht inX8 hown hK hP 0 rfl rfl 6 (by decide) (ht _ wd3_191) (fun _ h9 => h9) rfl dX8_about_71 ?_
        cases hf
        exact W.iret hx hb hr (fun t ht9 hW => ⟨⟨_, (), rfl, rfl, by rw [ht9]; exact hP, va_K.moved hW.alike hK, hD⟩, hS.F ht9⟩) hS.2.2 dX8_about_74
      · have hf := itN c1_2 hf
        by_cases c1_3 : x1 = (3 : Int32)
        · have hf := itP c1_3 hf
          refine lv_tableIn (tgt := 75) hx hb dX8_about_6 (by rw [c1_3]; decide) (by rw [c1_3]; decide) (by rw [c1_3]; rfl) (by decide) ?_
          refine lv_aload_n hx hb dX8_about_75 rfl (lv_at hl 0 rfl) ?_
          refine va_get (D := D) (ci := 7) (v := .ref (jam 7)) (C := RX8) (T := TX8) (N := 31) hx hb ht inX8 hown hK hP 0 rfl rfl 16 (by decide) (ht _ wd3_201) (fun _ h9 => h9) rfl dX8_about_76 ?_
          refine lv_bipush (v := (14 : Int32)) hx hb dX8_about_79 rfl ?_
          obtain ⟨h2, hf⟩ := inB_s hf
          refine va_iald (f := (Sm.2.1 7)) (n := 16) hx hb hK hP 2 0 rfl rfl h2 dX8_about_81 ?_
          cases hf
          exact W.iret hx hb hr (fun t ht9 hW => ⟨⟨_, (), rfl, rfl, by rw [ht9]; exact hP, va_K.moved hW.alike hK, hD⟩, hS.F ht9⟩) hS.2.2 dX8_about_82
        · have hf := itN c1_3 hf
          by_cases c1_4 : x1 = (4 : Int32)
          · have hf := itP c1_4 hf
            refine lv_tableIn (tgt := 83) hx hb dX8_about_6 (by rw [c1_4]; decide) (by rw [c1_4]; decide) (by rw [c1_4]; rfl) (by decide) ?_
            refine lv_aload_n hx hb dX8_about_83 rfl (lv_at hl 0 rfl) ?_
            refine va_get (D := D) (ci := 7) (v := .ref (jam 7)) (C := RX8) (T := TX8) (N := 31) hx hb ht inX8 hown hK hP 0 rfl rfl 16 (by decide) (ht _ wd3_201) (fun _ h9 => h9) rfl dX8_about_84 ?_
            refine lv_bipush (v := (12 : Int32)) hx hb dX8_about_87 rfl ?_
            obtain ⟨h3, hf⟩ := inB_s hf
            refine va_iald (f := (Sm.2.1 7)) (n := 16) hx hb hK hP 2 0 rfl rfl h3 dX8_about_89 ?_
            cases hf
            exact W.iret hx hb hr (fun t ht9 hW => ⟨⟨_, (), rfl, rfl, by rw [ht9]; exact hP, va_K.moved hW.alike hK, hD⟩, hS.F ht9⟩) hS.2.2 dX8_about_90
          · have hf := itN c1_4 hf
            by_cases c1_5 : x1 = (5 : Int32)
            · have hf := itP c1_5 hf
              refine lv_tableIn (tgt := 91) hx hb dX8_about_6 (by rw [c1_5]; decide) (by rw [c1_5]; decide) (by rw [c1_5]; rfl) (by decide) ?_
              refine lv_aload_n hx hb dX8_about_91 rfl (lv_at hl 0 rfl) ?_
              refine va_get (D := D) (ci := 7) (v := .ref (jam 7)) (C := RX8) (T := TX8) (N := 31) hx hb ht inX8 hown hK hP 0 rfl rfl 16 (by decide) (ht _ wd3_201) (fun _ h9 => h9) rfl dX8_about_92 ?_
              refine lv_bipush (v := (13 : Int32)) hx hb dX8_about_95 rfl ?_
              obtain ⟨h4, hf⟩ := inB_s hf
              refine va_iald (f := (Sm.2.1 7)) (n := 16) hx hb hK hP 2 0 rfl rfl h4 dX8_about_97 ?_
              cases hf
              exact W.iret hx hb hr (fun t ht9 hW => ⟨⟨_, (), rfl, rfl, by rw [ht9]; exact hP, va_K.moved hW.alike hK, hD⟩, hS.F ht9⟩) hS.2.2 dX8_about_98
            · have hf := itN c1_5 hf
              by_cases c1_6 : x1 = (6 : Int32)
              · have hf := itP c1_6 hf
                refine lv_tableIn (tgt := 99) hx hb dX8_about_6 (by rw [c1_6]; decide) (by rw [c1_6]; decide) (by rw [c1_6]; rfl) (by decide) ?_
                refine lv_aload_n hx hb dX8_about_99 rfl (lv_at hl 0 rfl) ?_
                refine lv_aload_n hx hb dX8_about_100 rfl (lv_at hl 0 rfl) ?_
                refine va_get (D := D) (ci := 7) (v := .ref (jam 7)) (C := RX8) (T := TX8) (N := 31) hx hb ht inX8 hown hK hP 0 rfl rfl 16 (by decide) (ht _ wd3_201) (fun _ h9 => h9) rfl dX8_about_101 ?_
                obtain ⟨u5, e6, hf⟩ := bdS hf
                refine k_rV (As := [.ref (jam 7)]) (rest := []) hC miX8_estateOf mjX8_estateOf.1 mjX8_estateOf.2 wd4_87 (qX8_estateOf l D cI cZ cO jhm jam (jam 7) (16) (bI Sm 0 (0 : Int32)) (Sm.2.1 7) u5 e6) ⟨Nat.le_of_ble_eq_true rfl, Nat.le_of_ble_eq_true rfl⟩ (hP.sub [0, 1, 2] rfl) hK hZ hS (va_recv hK hP (ci := 7) (q0 := 0) rfl rfl) hl.1 rfl rfl (Nat.le_of_ble_eq_true rfl) dX8_about_104 ?_
                cases hf
                exact W.iret hx hb hr (fun t ht9 hW => ⟨⟨_, (), rfl, rfl, by rw [ht9]; exact hP, va_K.moved hW.alike hK, hD⟩, hS.F ht9⟩) hS.2.2 dX8_about_107
              · have hf := itN c1_6 hf
                by_cases c1_7 : x1 = (7 : Int32)
                · have hf := itP c1_7 hf
                  refine lv_tableIn (tgt := 108) hx hb dX8_about_6 (by rw [c1_7]; decide) (by rw [c1_7]; decide) (by rw [c1_7]; rfl) (by decide) ?_
                  refine lv_aload_n hx hb dX8_about_108 rfl (lv_at hl 0 rfl) ?_
                  refine va_get (D := D) (ci := 7) (v := .int (Sm.1 9)) (C := RX8) (T := TX8) (N := 31) hx hb ht inX8 hown hK hP 0 rfl rfl 19 (by decide) (ht _ wd3_204) (fun _ h9 => h9) rfl dX8_about_109 ?_
                  cases hf
                  exact W.iret hx hb hr (fun t ht9 hW => ⟨⟨_, (), rfl, rfl, by rw [ht9]; exact hP, va_K.moved hW.alike hK, hD⟩, hS.F ht9⟩) hS.2.2 dX8_about_112
                · have hf := itN c1_7 hf
                  by_cases c1_8 : x1 = (8 : Int32)
                  · have hf := itP c1_8 hf
                    refine lv_tableIn (tgt := 113) hx hb dX8_about_6 (by rw [c1_8]; decide) (by rw [c1_8]; decide) (by rw [c1_8]; rfl) (by decide) ?_
                    refine lv_aload_n hx hb dX8_about_113 rfl (lv_at hl 0 rfl) ?_
                    refine va_get (D := D) (ci := 7) (v := .int (Sm.1 10)) (C := RX8) (T := TX8) (N := 31) hx hb ht inX8 hown hK hP 0 rfl rfl 22 (by decide) (ht _ wd3_207) (fun _ h9 => h9) rfl dX8_about_114 ?_
                    cases hf
                    exact W.iret hx hb hr (fun t ht9 hW => ⟨⟨_, (), rfl, rfl, by rw [ht9]; exact hP, va_K.moved hW.alike hK, hD⟩, hS.F ht9⟩) hS.2.2 dX8_about_117
                  · have hf := itN c1_8 hf
                    by_cases c1_9 : x1 = (9 : Int32)
                    · have hf := itP c1_9 hf
                      refine lv_tableIn (tgt := 118) hx hb dX8_about_6 (by rw [c1_9]; decide) (by rw [c1_9]; decide) (by rw [c1_9]; rfl) (by decide) ?_
                      refine lv_aload_n hx hb dX8_about_118 rfl (lv_at hl 0 rfl) ?_
                      refine va_get (D := D) (ci := 7) (v := .int (Sm.1 1)) (C := RX8) (T := TX8) (N := 31) hx hb ht inX8 hown hK hP 0 rfl rfl 2 (by decide) (ht _ wd3_187) (fun _ h9 => h9) rfl dX8_about_119 ?_
                      cases hf
                      exact W.iret hx hb hr (fun t ht9 hW => ⟨⟨_, (), rfl, rfl, by rw [ht9]; exact hP, va_K.moved hW.alike hK, hD⟩, hS.F ht9⟩) hS.2.2 dX8_about_122
                    · have hf := itN c1_9 hf
                      have n0 := lv_neT (a := 0) c1_0 (by decide)
                      have n1 := lv_neT (a := 1) c1_1 (by decide)
                      have n2 := lv_neT (a := 2) c1_2 (by decide)
                      have n3 := lv_neT (a := 3) c1_3 (by decide)
                      have n4 := lv_neT (a := 4) c1_4 (by decide)
                      have n5 := lv_neT (a := 5) c1_5 (by decide)
                      have n6 := lv_neT (a := 6) c1_6 (by decide)
                      have n7 := lv_neT (a := 7) c1_7 (by decide)
                      have n8 := lv_neT (a := 8) c1_8 (by decide)
                      have n9 := lv_neT (a := 9) c1_9 (by decide)
                      refine lv_tableOut (tgt := 123) hx hb dX8_about_6 (by omega) (by decide) ?_
                      refine lv_bipush (v := (-2 : Int32)) hx hb dX8_about_123 rfl ?_
                      cases hf
                      exact W.iret hx hb hr (fun t ht9 hW => ⟨⟨_, (), rfl, rfl, by rw [ht9]; exact hP, va_K.moved hW.alike hK, hD⟩, hS.F ht9⟩) hS.2.2 dX8_about_125
abbrev wX8_thing (cI cZ : ClassId) (jhm : Nat) (jam : Nat → Nat) (Sm : Bk) : va_W := [(jhm, .inr (7, [.int (Sm.1 0), .ref (jam 0), .int (Sm.1 1), .int (Sm.1 2), .int (Sm.1 3), .int (Sm.1 4), .int (Sm.1 5), .ref (jam 1), .ref (jam 2), .ref (jam 3), .int (Sm.1 6), .int (Sm.1 7), .int (Sm.1 8), .ref (jam 4), .ref (jam 5), .ref (jam 6), .ref (jam 7), .ref (jam 8), .ref (jam 9), .int (Sm.1 9), .ref (jam 10), .ref (jam 11), .int (Sm.1 10), .ref (jam 12), .ref (jam 13), .long Sm.2.2, .ref (jam 14), .ref (jam 15), .int (Sm.1 11), .int (Sm.1 12), .int (Sm.1 13)])), (jam 1, .inl (cI, 12, .inl (Sm.2.1 1))), (jam 7, .inl (cI, 16, .inl (Sm.2.1 7)))]
def fX8_thing (Sm : Bk) (x1 : Int32) (x2 : Int32) : Option (Int32 × Bk) := (fX8_in x1.toInt64 (0 : Int64) (((Sm.1 3) - (1 : Int32)).toInt64)).bind (fun u1 => (if u1 = 0 then some ((-1 : Int32), (bI Sm 0 (0 : Int32))) else (fX8_in x2.toInt64 (0 : Int64) (2 : Int64)).bind (fun u4 => (if u4 = 0 then (if x2 = (3 : Int32) then inB 16 x1 (some (((Sm.2.1 7) x1.toNatClampNeg), (bI Sm 0 (0 : Int32)))) else (if x2 = (4 : Int32) then inB 12 (((3 : Int32) * x1) + (2 : Int32)) ((if ((Sm.2.1 1) (((3 : Int32) * x1) + (2 : Int32)).toNatClampNeg) = (1 : Int32) then inB 16 ((4 : Int32) + x1) (inB 16 ((8 : Int32) + x1) (some ((((Sm.2.1 7) ((4 : Int32) + x1).toNatClampNeg) + ((Sm.2.1 7) ((8 : Int32) + x1).toNatClampNeg)), (bI Sm 0 (0 : Int32))))) else some ((0 : Int32), (bI Sm 0 (0 : Int32))))) else some ((-2 : Int32), (bI Sm 0 (0 : Int32))))) else inB 12 (((3 : Int32) * x1) + x2) (some (((Sm.2.1 1) (((3 : Int32) * x1) + x2).toNatClampNeg), (bI Sm 0 (0 : Int32))))))))
theorem miX8_thing : MI yX8_thing cX8_thing 3 (some .int) 2 := ⟨wd1_8, wd4_98, by decide +kernel⟩
theorem mjX8_thing : Cond.instanceMethod yX8_thing ∈ wT ∧ Cond.selects yX8_thing.cls yX8_thing yX8_thing ∈ wT := ⟨wd4_96, wd4_97⟩
set_option maxHeartbeats 4000000 in
set_option maxRecDepth 100000 in
theorem qX8_thing (l : Launch) (D : va_G) (cI cZ cO : ClassId) (jhm : Nat) (jam : Nat → Nat) (Sm : Bk) (x1 : Int32) (x2 : Int32) (sz : Nat) (res : Int32 × Bk) (hf : fX8_thing Sm x1 x2 = some res) : Met l yX8_thing (Cond.code yX8_thing cX8_thing 3 (some .int) :: wT) (rmF 1 25) (va_Pc [.ref jhm, .int x1, .int x2] (cW D (tyL cI cZ cO) (wX8_thing cI cZ jhm jam Sm) sz)) (va_Qi (S := Unit) (fun r _ => r = res.1) (fun _ => qW D (tyL cI cZ cO) (va_A (wX8_thing cI cZ jhm jam Sm) sz) (wX8_thing cI cZ jhm jam res.2)) (va_A (wX8_thing cI cZ jhm jam Sm) sz)) 0 0 (va_A (wX8_thing cI cZ jhm jam Sm) sz) := by
  refine met_w (by decide) (Nat.le_of_ble_eq_true rfl) ?_
  intro p e s m below meth c hx hb hr hml ht hown hlk ls hl hsz hP hK hD0 hZ
  subst hsz
  have hD := hD0.self (sz := s.heap.size)
  generalize hAe : va_A (wX8_thing cI cZ jhm jam Sm) s.heap.size = A at hD hZ ⊢
  have hA : ∀ q : Nat, s.heap.size ≤ q → A q := fun q h => by rw [← hAe]; exact Or.inr h
  have hS : va_S A s.heap s.heap [] := va_S.rf
  have hown : s.vm.findClass "EyeDrinkModel" = some m.cls := hown
  have hl : lv_has ls 3 [(0, .ref jhm), (1, .int x1), (2, .int x2)] := hl
  have hC : CallFix p m c cX8_thing 3 s ([.ref jhm, .int x1, .int x2] : List Value).toArray wT "EyeDrinkModel" := ⟨hx, hb, hml, hown, ht⟩
  unfold fX8_thing at hf
  suffices hgo : ∀ (H : Heap) (locs : List Loc), va_P D vwCl (wX8_thing cI cZ jhm jam Sm) H → va_S A s.heap H locs → W p l e (rmF 1 25) s m ([.ref jhm, .int x1, .int x2] : List Value).toArray below meth c H locs 0 0 (MQ below (va_Qi (S := Unit) (fun r _ => r = res.1) (fun _ => qW D (tyL cI cZ cO) A (wX8_thing cI cZ jhm jam res.2)) A) ([.ref jhm, .int x1, .int x2] : List Value).toArray s 0 0 A) (F0 m 0 ls []) from hgo s.heap [] hP hS
  intro H locs hP hS
  refine lv_aload_n hx hb dX8_thing_0 rfl (lv_at hl 0 rfl) ?_
  refine lv_iconst (v := (0 : Int32)) hx hb dX8_thing_1 rfl ?_
  refine va_put (D := D) (ci := 7) (v := .int (0 : Int32)) (ty := .int) (C := RX8) (T := TX8) (N := 31) hx hb ht inX8 tyX8 tyX8_ok nmX8 hown hK hP hD hS 0 rfl rfl 0 (by decide) (ht _ wd3_185) (fun _ h9 => h9) rfl (tyX8_ok 0 (by decide)) rfl rfl (Nat.le_of_ble_eq_true rfl) dX8_thing_2 (fun H locs hP hD hS => ?_)
  have hP : va_P D vwCl (wX8_thing cI cZ jhm jam (bI Sm 0 (0 : Int32))) H := hP
  have hD : va_D A (wX8_thing cI cZ jhm jam (bI Sm 0 (0 : Int32))) := hD
  refine lv_iload_n hx hb dX8_thing_5 rfl (lv_at hl 1 rfl) ?_
  refine lv_i2l hx hb dX8_thing_6 rfl ?_
  refine lv_lconst (v := 0) hx hb dX8_thing_7 rfl ?_
  refine lv_aload_n hx hb dX8_thing_8 rfl (lv_at hl 0 rfl) ?_
  refine va_get (D := D) (ci := 7) (v := .int (Sm.1 3)) (C := RX8) (T := TX8) (N := 31) hx hb ht inX8 hown hK hP 0 rfl rfl 4 (by decide) (ht _ wd3_189) (fun _ h9 => h9) rfl dX8_thing_9 ?_
  refine lv_iconst (v := (1 : Int32)) hx hb dX8_thing_12 rfl ?_
  refine lv_isub hx hb dX8_thing_13 ?_
  refine lv_i2l hx hb dX8_thing_14 rfl ?_
  obtain ⟨u1, e2, hf⟩ := bdS hf
  refine k_pS (As := [.long x1.toInt64, .long (0 : Int64), .long ((Sm.1 3) - (1 : Int32)).toInt64]) (rest := []) hC miX8_in mjX8_in wd4_44 (qX8_in l x1.toInt64 (0 : Int64) (((Sm.1 3) - (1 : Int32)).toInt64) u1 e2) ⟨Nat.le_of_ble_eq_true rfl, Nat.le_of_ble_eq_true rfl⟩ hl.1 rfl rfl (Nat.le_of_ble_eq_true rfl) dX8_thing_15 ?_
  refine lv_if_ne (tgt := 23) hx hb dX8_thing_18 (by decide) (fun c3 => ?_) (fun c3 => ?_)
  · have hf := itN c3 hf
    refine lv_iload_n hx hb dX8_thing_23 rfl (lv_at hl 2 rfl) ?_
    refine lv_i2l hx hb dX8_thing_24 rfl ?_
    refine lv_lconst (v := 0) hx hb dX8_thing_25 rfl ?_
    refine lv_ldc2 hx hb hown (ht _ wd4_99) dX8_thing_26 ?_
    obtain ⟨u4, e5, hf⟩ := bdS hf
    refine k_pS (As := [.long x2.toInt64, .long (0 : Int64), .long (2 : Int64)]) (rest := []) hC miX8_in mjX8_in wd4_44 (qX8_in l x2.toInt64 (0 : Int64) (2 : Int64) u4 e5) ⟨Nat.le_of_ble_eq_true rfl, Nat.le_of_ble_eq_true rfl⟩ hl.1 rfl rfl (Nat.le_of_ble_eq_true rfl) dX8_thing_29 ?_
    refine lv_if_eq (tgt := 46) hx hb dX8_thing_32 (by decide) (fun c6 => ?_) (fun c6 => ?_)
    · have hf := itP c6 hf
      refine lv_iload_n hx hb dX8_thing_46 rfl (lv_at hl 2 rfl) ?_
      refine lv_iconst (v := (3 : Int32)) hx hb dX8_thing_47 rfl ?_
      refine lv_icmp_ne (tgt := 60) hx hb dX8_thing_48 (by decide) (fun c7 => ?_) (fun c7 => ?_)
      · have hf := itN c7 hf
        refine lv_iload_n hx hb dX8_thing_60 rfl (lv_at hl 2 rfl) ?_
        refine lv_iconst (v := (4 : Int32)) hx hb dX8_thing_61 rfl ?_
        refine lv_icmp_eq (tgt := 70) hx hb dX8_thing_62 (by decide) (fun c8 => ?_) (fun c8 => ?_)
        · have hf := itP c8 hf
          refine lv_aload_n hx hb dX8_thing_70 rfl (lv_at hl 0 rfl) ?_
          refine va_get (D := D) (ci := 7) (v := .ref (jam 1)) (C := RX8) (T := TX8) (N := 31) hx hb ht inX8 hown hK hP 0 rfl rfl 7 (by decide) (ht _ wd3_192) (fun _ h9 => h9) rfl dX8_thing_71 ?_
          refine lv_iconst (v := (3 : Int32)) hx hb dX8_thing_74 rfl ?_
          refine lv_iload_n hx hb dX8_thing_75 rfl (lv_at hl 1 rfl) ?_
          refine lv_imul hx hb dX8_thing_76 ?_
          refine lv_iconst (v := (2 : Int32)) hx hb dX8_thing_77 rfl ?_
          refine lv_iadd hx hb dX8_thing_78 ?_
          obtain ⟨h9, hf⟩ := inB_s hf
          refine va_iald (f := (Sm.2.1 1)) (n := 12) hx hb hK hP 1 0 rfl rfl h9 dX8_thing_79 ?_
          refine lv_iconst (v := (1 : Int32)) hx hb dX8_thing_80 rfl ?_
          refine lv_icmp_ne (tgt := 105) hx hb dX8_thing_81 (by decide) (fun c10 => ?_) (fun c10 => ?_)
          · have hf := itN c10 hf
            refine lv_iconst (v := (0 : Int32)) hx hb dX8_thing_105 rfl ?_
            cases hf
            exact W.iret hx hb hr (fun t ht9 hW => ⟨⟨_, (), rfl, rfl, by rw [ht9]; exact hP, va_K.moved hW.alike hK, hD⟩, hS.F ht9⟩) hS.2.2 dX8_thing_106
          · have hf := itP c10 hf
            refine lv_aload_n hx hb dX8_thing_84 rfl (lv_at hl 0 rfl) ?_
            refine va_get (D := D) (ci := 7) (v := .ref (jam 7)) (C := RX8) (T := TX8) (N := 31) hx hb ht inX8 hown hK hP 0 rfl rfl 16 (by decide) (ht _ wd3_201) (fun _ h9 => h9) rfl dX8_thing_85 ?_
            refine lv_iconst (v := (4 : Int32)) hx hb dX8_thing_88 rfl ?_
            refine lv_iload_n hx hb dX8_thing_89 rfl (lv_at hl 1 rfl) ?_
            refine lv_iadd hx hb dX8_thing_90 ?_
            obtain ⟨h11, hf⟩ := inB_s hf
            refine va_iald (f := (Sm.2.1 7)) (n := 16) hx hb hK hP 2 0 rfl rfl h11 dX8_thing_91 ?_
            refine lv_aload_n hx hb dX8_thing_92 rfl (lv_at hl 0 rfl) ?_
            refine va_get (D := D) (ci := 7) (v := .ref (jam 7)) (C := RX8) (T := TX8) (N := 31) hx hb ht inX8 hown hK hP 0 rfl rfl 16 (by decide) (ht _ wd3_201) (fun _ h9 => h9) rfl dX8_thing_93 ?_
            refine lv_bipush (v := (8 : Int32)) hx hb dX8_thing_96 rfl ?_
            refine lv_iload_n hx hb dX8_thing_98 rfl (lv_at hl 1 rfl) ?_
            refine lv_iadd hx hb dX8_thing_99 ?_
            obtain ⟨h12, hf⟩ := inB_s hf
            refine va_iald (f := (Sm.2.1 7)) (n := 16) hx hb hK hP 2 0 rfl rfl h12 dX8_thing_100 ?_
            refine lv_iadd hx hb dX8_thing_101 ?_
            refine lv_goto (tgt := 106) hx hb dX8_thing_102 (by decide) ?_
            cases hf
            exact W.iret hx hb hr (fun t ht9 hW => ⟨⟨_, (), rfl, rfl, by rw [ht9]; exact hP, va_K.moved hW.alike hK, hD⟩, hS.F ht9⟩) hS.2.2 dX8_thing_106
        · have hf := itN c8 hf
          refine lv_bipush (v := (-2 : Int32)) hx hb dX8_thing_65 rfl ?_
          refine lv_goto (tgt := 106) hx hb dX8_thing_67 (by decide) ?_
          cases hf
          exact W.iret hx hb hr (fun t ht9 hW => ⟨⟨_, (), rfl, rfl, by rw [ht9]; exact hP, va_K.moved hW.alike hK, hD⟩, hS.F ht9⟩) hS.2.2 dX8_thing_106
      · have hf := itP c7 hf
        refine lv_aload_n hx hb dX8_thing_51 rfl (lv_at hl 0 rfl) ?_
        refine va_get (D := D) (ci := 7) (v := .ref (jam 7)) (C := RX8) (T := TX8) (N := 31) hx hb ht inX8 hown hK hP 0 rfl rfl 16 (by decide) (ht _ wd3_201) (fun _ h9 => h9) rfl dX8_thing_52 ?_
        refine lv_iload_n hx hb dX8_thing_55 rfl (lv_at hl 1 rfl) ?_
        obtain ⟨h13, hf⟩ := inB_s hf
        refine va_iald (f := (Sm.2.1 7)) (n := 16) hx hb hK hP 2 0 rfl rfl h13 dX8_thing_56 ?_
        refine lv_goto (tgt := 106) hx hb dX8_thing_57 (by decide) ?_
        cases hf
        exact W.iret hx hb hr (fun t ht9 hW => ⟨⟨_, (), rfl, rfl, by rw [ht9]; exact hP, va_K.moved hW.alike hK, hD⟩, hS.F ht9⟩) hS.2.2 dX8_thing_106
    · have hf := itN c6 hf
      refine lv_aload_n hx hb dX8_thing_35 rfl (lv_at hl 0 rfl) ?_
      refine va_get (D := D) (ci := 7) (v := .ref (jam 1)) (C := RX8) (T := TX8) (N := 31) hx hb ht inX8 hown hK hP 0 rfl rfl 7 (by decide) (ht _ wd3_192) (fun _ h9 => h9) rfl dX8_thing_36 ?_
      refine lv_iconst (v := (3 : Int32)) hx hb dX8_thing_39 rfl ?_
      refine lv_iload_n hx hb dX8_thing_40 rfl (lv_at hl 1 rfl) ?_
      refine lv_imul hx hb dX8_thing_41 ?_
      refine lv_iload_n hx hb dX8_thing_42 rfl (lv_at hl 2 rfl) ?_
      refine lv_iadd hx hb dX8_thing_43 ?_
      obtain ⟨h14, hf⟩ := inB_s hf
      refine va_iald (f := (Sm.2.1 1)) (n := 12) hx hb hK hP 1 0 rfl rfl h14 dX8_thing_44 ?_
      cases hf
      exact W.iret hx hb hr (fun t ht9 hW => ⟨⟨_, (), rfl, rfl, by rw [ht9]; exact hP, va_K.moved hW.alike hK, hD⟩, hS.F ht9⟩) hS.2.2 dX8_thing_45
  · have hf := itP c3 hf
    refine lv_iconst (v := (-1 : Int32)) hx hb dX8_thing_21 rfl ?_
    cases hf
    exact W.iret hx hb hr (fun t ht9 hW => ⟨⟨_, (), rfl, rfl, by rw [ht9]; exact hP, va_K.moved hW.alike hK, hD⟩, hS.F ht9⟩) hS.2.2 dX8_thing_22
abbrev wX8_question (cI cZ : ClassId) (jhm : Nat) (jam : Nat → Nat) (Sm : Bk) : va_W := [(jhm, .inr (7, [.int (Sm.1 0), .ref (jam 0), .int (Sm.1 1), .int (Sm.1 2), .int (Sm.1 3), .int (Sm.1 4), .int (Sm.1 5), .ref (jam 1), .ref (jam 2), .ref (jam 3), .int (Sm.1 6), .int (Sm.1 7), .int (Sm.1 8), .ref (jam 4), .ref (jam 5), .ref (jam 6), .ref (jam 7), .ref (jam 8), .ref (jam 9), .int (Sm.1 9), .ref (jam 10), .ref (jam 11), .int (Sm.1 10), .ref (jam 12), .ref (jam 13), .long Sm.2.2, .ref (jam 14), .ref (jam 15), .int (Sm.1 11), .int (Sm.1 12), .int (Sm.1 13)])), (jam 2, .inl (cI, 16, .inl (Sm.2.1 2))), (jam 7, .inl (cI, 16, .inl (Sm.2.1 7)))]
def fX8_question (Sm : Bk) (x1 : Int32) (x2 : Int32) : Option (Int32 × Bk) := (fX8_noQuestion (bI Sm 0 (0 : Int32)) x1).bind (fun u1 => (if u1 = 0 then (if x2 = (0 : Int32) then inB 16 (((4 : Int32) * x1) + x2) (some (((Sm.2.1 2) (((4 : Int32) * x1) + x2).toNatClampNeg), (bI Sm 0 (0 : Int32)))) else (if x2 = (1 : Int32) then inB 16 (((4 : Int32) * x1) + x2) (some (((Sm.2.1 2) (((4 : Int32) * x1) + x2).toNatClampNeg), (bI Sm 0 (0 : Int32)))) else (if x2 = (2 : Int32) then inB 16 (((4 : Int32) * x1) + (3 : Int32)) (some (((Sm.2.1 2) (((4 : Int32) * x1) + (3 : Int32)).toNatClampNeg), (bI Sm 0 (0 : Int32)))) else (if x2 = (3 : Int32) then inB 16 (12 : Int32) ((fX8_has ((Sm.2.1 7) (12 : Int32).toNatClampNeg) x1).bind (fun u9 => (if u9 = 0 then some ((-9 : Int32), (bI Sm 0 (0 : Int32))) else inB 16 (((4 : Int32) * x1) + (2 : Int32)) (some (((Sm.2.1 2) (((4 : Int32) * x1) + (2 : Int32)).toNatClampNeg), (bI Sm 0 (0 : Int32))))))) else some ((-2 : Int32), (bI Sm 0 (0 : Int32))))))) else some ((-1 : Int32), (bI Sm 0 (0 : Int32)))))
theorem miX8_question : MI yX8_question cX8_question 3 (some .int) 2 := ⟨wd1_8, wd4_103, by decide +kernel⟩
theorem mjX8_question : Cond.instanceMethod yX8_question ∈ wT ∧ Cond.selects yX8_question.cls yX8_question yX8_question ∈ wT := ⟨wd4_101, wd4_102⟩
set_option maxHeartbeats 4000000 in
set_option maxRecDepth 100000 in
theorem qX8_question (l : Launch) (D : va_G) (cI cZ cO : ClassId) (jhm : Nat) (jam : Nat → Nat) (Sm : Bk) (x1 : Int32) (x2 : Int32) (sz : Nat) (res : Int32 × Bk) (hf : fX8_question Sm x1 x2 = some res) : Met l yX8_question (Cond.code yX8_question cX8_question 3 (some .int) :: wT) (rmF 2 46) (va_Pc [.ref jhm, .int x1, .int x2] (cW D (tyL cI cZ cO) (wX8_question cI cZ jhm jam Sm) sz)) (va_Qi (S := Unit) (fun r _ => r = res.1) (fun _ => qW D (tyL cI cZ cO) (va_A (wX8_question cI cZ jhm jam Sm) sz) (wX8_question cI cZ jhm jam res.2)) (va_A (wX8_question cI cZ jhm jam Sm) sz)) 0 0 (va_A (wX8_question cI cZ jhm jam Sm) sz) := by
  refine met_w (by decide) (Nat.le_of_ble_eq_true rfl) ?_
  intro p e s m below meth c hx hb hr hml ht hown hlk ls hl hsz hP hK hD0 hZ
  subst hsz
  have hD := hD0.self (sz := s.heap.size)
  generalize hAe : va_A (wX8_question cI cZ jhm jam Sm) s.heap.size = A at hD hZ ⊢
  have hA : ∀ q : Nat, s.heap.size ≤ q → A q := fun q h => by rw [← hAe]; exact Or.inr h
  have hS : va_S A s.heap s.heap [] := va_S.rf
  have hown : s.vm.findClass "EyeDrinkModel" = some m.cls := hown
  have hl : lv_has ls 3 [(0, .ref jhm), (1, .int x1), (2, .int x2)] := hl
  have hC : CallFix p m c cX8_question 3 s ([.ref jhm, .int x1, .int x2] : List Value).toArray wT "EyeDrinkModel" := ⟨hx, hb, hml, hown, ht⟩
  unfold fX8_question at hf
  suffices hgo : ∀ (H : Heap) (locs : List Loc), va_P D vwCl (wX8_question cI cZ jhm jam Sm) H → va_S A s.heap H locs → W p l e (rmF 2 46) s m ([.ref jhm, .int x1, .int x2] : List Value).toArray below meth c H locs 0 0 (MQ below (va_Qi (S := Unit) (fun r _ => r = res.1) (fun _ => qW D (tyL cI cZ cO) A (wX8_question cI cZ jhm jam res.2)) A) ([.ref jhm, .int x1, .int x2] : List Value).toArray s 0 0 A) (F0 m 0 ls []) from hgo s.heap [] hP hS
  intro H locs hP hS
  refine lv_aload_n hx hb dX8_question_0 rfl (lv_at hl 0 rfl) ?_
  refine lv_iconst (v := (0 : Int32)) hx hb dX8_question_1 rfl ?_
  refine va_put (D := D) (ci := 7) (v := .int (0 : Int32)) (ty := .int) (C := RX8) (T := TX8) (N := 31) hx hb ht inX8 tyX8 tyX8_ok nmX8 hown hK hP hD hS 0 rfl rfl 0 (by decide) (ht _ wd3_185) (fun _ h9 => h9) rfl (tyX8_ok 0 (by decide)) rfl rfl (Nat.le_of_ble_eq_true rfl) dX8_question_2 (fun H locs hP hD hS => ?_)
  have hP : va_P D vwCl (wX8_question cI cZ jhm jam (bI Sm 0 (0 : Int32))) H := hP
  have hD : va_D A (wX8_question cI cZ jhm jam (bI Sm 0 (0 : Int32))) := hD
  refine lv_aload_n hx hb dX8_question_5 rfl (lv_at hl 0 rfl) ?_
  refine lv_iload_n hx hb dX8_question_6 rfl (lv_at hl 1 rfl) ?_
  obtain ⟨u1, e2, hf⟩ := bdS hf
  refine k_rV (As := [.int x1]) (rest := []) hC miX8_noQuestion mjX8_noQuestion.1 mjX8_noQuestion.2 wd4_104 (qX8_noQuestion l D cI cZ cO jhm jam (bI Sm 0 (0 : Int32)) x1 u1 e2) ⟨Nat.le_of_ble_eq_true rfl, Nat.le_of_ble_eq_true rfl⟩ (hP.sub [0] rfl) hK hZ hS (va_recv hK hP (ci := 7) (q0 := 0) rfl rfl) hl.1 rfl rfl (Nat.le_of_ble_eq_true rfl) dX8_question_7 ?_
  refine lv_if_eq (tgt := 15) hx hb dX8_question_10 (by decide) (fun c3 => ?_) (fun c3 => ?_)
  · have hf := itP c3 hf
    refine lv_iload_n hx hb dX8_question_15 rfl (lv_at hl 2 rfl) ?_
    by_cases c4_0 : x2 = (0 : Int32)
    · have hf := itP c4_0 hf
      refine lv_tableIn (tgt := 48) hx hb dX8_question_16 (by rw [c4_0]; decide) (by rw [c4_0]; decide) (by rw [c4_0]; rfl) (by decide) ?_
      refine lv_aload_n hx hb dX8_question_48 rfl (lv_at hl 0 rfl) ?_
      refine va_get (D := D) (ci := 7) (v := .ref (jam 2)) (C := RX8) (T := TX8) (N := 31) hx hb ht inX8 hown hK hP 0 rfl rfl 8 (by decide) (ht _ wd3_193) (fun _ h9 => h9) rfl dX8_question_49 ?_
      refine lv_iconst (v := (4 : Int32)) hx hb dX8_question_52 rfl ?_
      refine lv_iload_n hx hb dX8_question_53 rfl (lv_at hl 1 rfl) ?_
      refine lv_imul hx hb dX8_question_54 ?_
      refine lv_iload_n hx hb dX8_question_55 rfl (lv_at hl 2 rfl) ?_
      refine lv_iadd hx hb dX8_question_56 ?_
      obtain ⟨h5, hf⟩ := inB_s hf
      refine va_iald (f := (Sm.2.1 2)) (n := 16) hx hb hK hP 1 0 rfl rfl h5 dX8_question_57 ?_
      cases hf
      exact W.iret hx hb hr (fun t ht9 hW => ⟨⟨_, (), rfl, rfl, by rw [ht9]; exact hP, va_K.moved hW.alike hK, hD⟩, hS.F ht9⟩) hS.2.2 dX8_question_58
    · have hf := itN c4_0 hf
      by_cases c4_1 : x2 = (1 : Int32)
      · have hf := itP c4_1 hf
        refine lv_tableIn (tgt := 48) hx hb dX8_question_16 (by rw [c4_1]; decide) (by rw [c4_1]; decide) (by rw [c4_1]; rfl) (by decide) ?_
        refine lv_aload_n hx hb dX8_question_48 rfl (lv_at hl 0 rfl) ?_
        refine va_get (D := D) (ci := 7) (v := .ref (jam 2)) (C := RX8) (T := TX8) (N := 31) hx hb ht inX8 hown hK hP 0 rfl rfl 8 (by decide) (ht _ wd3_193) (fun _ h9 => h9) rfl dX8_question_49 ?_
        refine lv_iconst (v := (4 : Int32)) hx hb dX8_question_52 rfl ?_
        refine lv_iload_n hx hb dX8_question_53 rfl (lv_at hl 1 rfl) ?_
        refine lv_imul hx hb dX8_question_54 ?_
        refine lv_iload_n hx hb dX8_question_55 rfl (lv_at hl 2 rfl) ?_
        refine lv_iadd hx hb dX8_question_56 ?_
        obtain ⟨h6, hf⟩ := inB_s hf
        refine va_iald (f := (Sm.2.1 2)) (n := 16) hx hb hK hP 1 0 rfl rfl h6 dX8_question_57 ?_
        cases hf
        exact W.iret hx hb hr (fun t ht9 hW => ⟨⟨_, (), rfl, rfl, by rw [ht9]; exact hP, va_K.moved hW.alike hK, hD⟩, hS.F ht9⟩) hS.2.2 dX8_question_58
      · have hf := itN c4_1 hf
        by_cases c4_2 : x2 = (2 : Int32)
        · have hf := itP c4_2 hf
          refine lv_tableIn (tgt := 59) hx hb dX8_question_16 (by rw [c4_2]; decide) (by rw [c4_2]; decide) (by rw [c4_2]; rfl) (by decide) ?_
          refine lv_aload_n hx hb dX8_question_59 rfl (lv_at hl 0 rfl) ?_
          refine va_get (D := D) (ci := 7) (v := .ref (jam 2)) (C := RX8) (T := TX8) (N := 31) hx hb ht inX8 hown hK hP 0 rfl rfl 8 (by decide) (ht _ wd3_193) (fun _ h9 => h9) rfl dX8_question_60 ?_
          refine lv_iconst (v := (4 : Int32)) hx hb dX8_question_63 rfl ?_
          refine lv_iload_n hx hb dX8_question_64 rfl (lv_at hl 1 rfl) ?_
          refine lv_imul hx hb dX8_question_65 ?_
          refine lv_iconst (v := (3 : Int32)) hx hb dX8_question_66 rfl ?_
          refine lv_iadd hx hb dX8_question_67 ?_
          obtain ⟨h7, hf⟩ := inB_s hf
          refine va_iald (f := (Sm.2.1 2)) (n := 16) hx hb hK hP 1 0 rfl rfl h7 dX8_question_68 ?_
          cases hf
          exact W.iret hx hb hr (fun t ht9 hW => ⟨⟨_, (), rfl, rfl, by rw [ht9]; exact hP, va_K.moved hW.alike hK, hD⟩, hS.F ht9⟩) hS.2.2 dX8_question_69
        · have hf := itN c4_2 hf
          by_cases c4_3 : x2 = (3 : Int32)
          · have hf := itP c4_3 hf
            refine lv_tableIn (tgt := 70) hx hb dX8_question_16 (by rw [c4_3]; decide) (by rw [c4_3]; decide) (by rw [c4_3]; rfl) (by decide) ?_
            refine lv_aload_n hx hb dX8_question_70 rfl (lv_at hl 0 rfl) ?_
            refine va_get (D := D) (ci := 7) (v := .ref (jam 7)) (C := RX8) (T := TX8) (N := 31) hx hb ht inX8 hown hK hP 0 rfl rfl 16 (by decide) (ht _ wd3_201) (fun _ h9 => h9) rfl dX8_question_71 ?_
            refine lv_bipush (v := (12 : Int32)) hx hb dX8_question_74 rfl ?_
            obtain ⟨h8, hf⟩ := inB_s hf
            refine va_iald (f := (Sm.2.1 7)) (n := 16) hx hb hK hP 2 0 rfl rfl h8 dX8_question_76 ?_
            refine lv_iload_n hx hb dX8_question_77 rfl (lv_at hl 1 rfl) ?_
            obtain ⟨u9, e10, hf⟩ := bdS hf
            refine k_pS (As := [.int ((Sm.2.1 7) (12 : Int32).toNatClampNeg), .int x1]) (rest := []) hC miX8_has mjX8_has wd4_108 (qX8_has l ((Sm.2.1 7) (12 : Int32).toNatClampNeg) x1 u9 e10) ⟨Nat.le_of_ble_eq_true rfl, Nat.le_of_ble_eq_true rfl⟩ hl.1 rfl rfl (Nat.le_of_ble_eq_true rfl) dX8_question_78 ?_
            refine lv_if_eq (tgt := 97) hx hb dX8_question_81 (by decide) (fun c11 => ?_) (fun c11 => ?_)
            · have hf := itP c11 hf
              refine lv_bipush (v := (-9 : Int32)) hx hb dX8_question_97 rfl ?_
              cases hf
              exact W.iret hx hb hr (fun t ht9 hW => ⟨⟨_, (), rfl, rfl, by rw [ht9]; exact hP, va_K.moved hW.alike hK, hD⟩, hS.F ht9⟩) hS.2.2 dX8_question_99
            · have hf := itN c11 hf
              refine lv_aload_n hx hb dX8_question_84 rfl (lv_at hl 0 rfl) ?_
              refine va_get (D := D) (ci := 7) (v := .ref (jam 2)) (C := RX8) (T := TX8) (N := 31) hx hb ht inX8 hown hK hP 0 rfl rfl 8 (by decide) (ht _ wd3_193) (fun _ h9 => h9) rfl dX8_question_85 ?_
              refine lv_iconst (v := (4 : Int32)) hx hb dX8_question_88 rfl ?_
              refine lv_iload_n hx hb dX8_question_89 rfl (lv_at hl 1 rfl) ?_
              refine lv_imul hx hb dX8_question_90 ?_
              refine lv_iconst (v := (2 : Int32)) hx hb dX8_question_91 rfl ?_
              refine lv_iadd hx hb dX8_question_92 ?_
              obtain ⟨h12, hf⟩ := inB_s hf
              refine va_iald (f := (Sm.2.1 2)) (n := 16) hx hb hK hP 1 0 rfl rfl h12 dX8_question_93 ?_
              refine lv_goto (tgt := 99) hx hb dX8_question_94 (by decide) ?_
              cases hf
              exact W.iret hx hb hr (fun t ht9 hW => ⟨⟨_, (), rfl, rfl, by rw [ht9]; exact hP, va_K.moved hW.alike hK, hD⟩, hS.F ht9⟩) hS.2.2 dX8_question_99
          · have hf := itN c4_3 hf
            have n0 := lv_neT (a := 0) c4_0 (by decide)
            have n1 := lv_neT (a := 1) c4_1 (by decide)
            have n2 := lv_neT (a := 2) c4_2 (by decide)
            have n3 := lv_neT (a := 3) c4_3 (by decide)
            refine lv_tableOut (tgt := 100) hx hb dX8_question_16 (by omega) (by decide) ?_
            refine lv_bipush (v := (-2 : Int32)) hx hb dX8_question_100 rfl ?_
            cases hf
            exact W.iret hx hb hr (fun t ht9 hW => ⟨⟨_, (), rfl, rfl, by rw [ht9]; exact hP, va_K.moved hW.alike hK, hD⟩, hS.F ht9⟩) hS.2.2 dX8_question_102
  · have hf := itN c3 hf
    refine lv_iconst (v := (-1 : Int32)) hx hb dX8_question_13 rfl ?_
    cases hf
    exact W.iret hx hb hr (fun t ht9 hW => ⟨⟨_, (), rfl, rfl, by rw [ht9]; exact hP, va_K.moved hW.alike hK, hD⟩, hS.F ht9⟩) hS.2.2 dX8_question_14
abbrev wX8_deed (cI cZ : ClassId) (jhm : Nat) (jam : Nat → Nat) (Sm : Bk) : va_W := [(jhm, .inr (7, [.int (Sm.1 0), .ref (jam 0), .int (Sm.1 1), .int (Sm.1 2), .int (Sm.1 3), .int (Sm.1 4), .int (Sm.1 5), .ref (jam 1), .ref (jam 2), .ref (jam 3), .int (Sm.1 6), .int (Sm.1 7), .int (Sm.1 8), .ref (jam 4), .ref (jam 5), .ref (jam 6), .ref (jam 7), .ref (jam 8), .ref (jam 9), .int (Sm.1 9), .ref (jam 10), .ref (jam 11), .int (Sm.1 10), .ref (jam 12), .ref (jam 13), .long Sm.2.2, .ref (jam 14), .ref (jam 15), .int (Sm.1 11), .int (Sm.1 12), .int (Sm.1 13)])), (jam 3, .inl (cI, 20, .inl (Sm.2.1 3))), (jam 7, .inl (cI, 16, .inl (Sm.2.1 7)))]
def fX8_deed (Sm : Bk) (x1 : Int32) (x2 : Int32) : Option (Int32 × Bk) := (fX8_noDeed (bI Sm 0 (0 : Int32)) x1).bind (fun u1 => (if u1 = 0 then (fX8_in x2.toInt64 (0 : Int64) (4 : Int64)).bind (fun u4 => (if u4 = 0 then (if x2 = (5 : Int32) then inB 16 (13 : Int32) (some (((((Sm.2.1 7) (13 : Int32).toNatClampNeg) >>> (x1 &&& 31)) &&& (1 : Int32)), (bI Sm 0 (0 : Int32)))) else some ((-2 : Int32), (bI Sm 0 (0 : Int32)))) else inB 20 (((5 : Int32) * x1) + x2) (some (((Sm.2.1 3) (((5 : Int32) * x1) + x2).toNatClampNeg), (bI Sm 0 (0 : Int32)))))) else some ((-1 : Int32), (bI Sm 0 (0 : Int32)))))
theorem miX8_deed : MI yX8_deed cX8_deed 3 (some .int) 2 := ⟨wd1_8, wd4_114, by decide +kernel⟩
theorem mjX8_deed : Cond.instanceMethod yX8_deed ∈ wT ∧ Cond.selects yX8_deed.cls yX8_deed yX8_deed ∈ wT := ⟨wd4_112, wd4_113⟩
set_option maxHeartbeats 4000000 in
set_option maxRecDepth 100000 in
theorem qX8_deed (l : Launch) (D : va_G) (cI cZ cO : ClassId) (jhm : Nat) (jam : Nat → Nat) (Sm : Bk) (x1 : Int32) (x2 : Int32) (sz : Nat) (res : Int32 × Bk) (hf : fX8_deed Sm x1 x2 = some res) : Met l yX8_deed (Cond.code yX8_deed cX8_deed 3 (some .int) :: wT) (rmF 2 46) (va_Pc [.ref jhm, .int x1, .int x2] (cW D (tyL cI cZ cO) (wX8_deed cI cZ jhm jam Sm) sz)) (va_Qi (S := Unit) (fun r _ => r = res.1) (fun _ => qW D (tyL cI cZ cO) (va_A (wX8_deed cI cZ jhm jam Sm) sz) (wX8_deed cI cZ jhm jam res.2)) (va_A (wX8_deed cI cZ jhm jam Sm) sz)) 0 0 (va_A (wX8_deed cI cZ jhm jam Sm) sz) := by
  refine met_w (by decide) (Nat.le_of_ble_eq_true rfl) ?_
  intro p e s m below meth c hx hb hr hml ht hown hlk ls hl hsz hP hK hD0 hZ
  subst hsz
  have hD := hD0.self (sz := s.heap.size)
  generalize hAe : va_A (wX8_deed cI cZ jhm jam Sm) s.heap.size = A at hD hZ ⊢
  have hA : ∀ q : Nat, s.heap.size ≤ q → A q := fun q h => by rw [← hAe]; exact Or.inr h
  have hS : va_S A s.heap s.heap [] := va_S.rf
  have hown : s.vm.findClass "EyeDrinkModel" = some m.cls := hown
  have hl : lv_has ls 3 [(0, .ref jhm), (1, .int x1), (2, .int x2)] := hl
  have hC : CallFix p m c cX8_deed 3 s ([.ref jhm, .int x1, .int x2] : List Value).toArray wT "EyeDrinkModel" := ⟨hx, hb, hml, hown, ht⟩
  unfold fX8_deed at hf
  suffices hgo : ∀ (H : Heap) (locs : List Loc), va_P D vwCl (wX8_deed cI cZ jhm jam Sm) H → va_S A s.heap H locs → W p l e (rmF 2 46) s m ([.ref jhm, .int x1, .int x2] : List Value).toArray below meth c H locs 0 0 (MQ below (va_Qi (S := Unit) (fun r _ => r = res.1) (fun _ => qW D (tyL cI cZ cO) A (wX8_deed cI cZ jhm jam res.2)) A) ([.ref jhm, .int x1, .int x2] : List Value).toArray s 0 0 A) (F0 m 0 ls []) from hgo s.heap [] hP hS
  intro H locs hP hS
  refine lv_aload_n hx hb dX8_deed_0 rfl (lv_at hl 0 rfl) ?_
  refine lv_iconst (v := (0 : Int32)) hx hb dX8_deed_1 rfl ?_
  refine va_put (D := D) (ci := 7) (v := .int (0 : Int32)) (ty := .int) (C := RX8) (T := TX8) (N := 31) hx hb ht inX8 tyX8 tyX8_ok nmX8 hown hK hP hD hS 0 rfl rfl 0 (by decide) (ht _ wd3_185) (fun _ h9 => h9) rfl (tyX8_ok 0 (by decide)) rfl rfl (Nat.le_of_ble_eq_true rfl) dX8_deed_2 (fun H locs hP hD hS => ?_)
  have hP : va_P D vwCl (wX8_deed cI cZ jhm jam (bI Sm 0 (0 : Int32))) H := hP
  have hD : va_D A (wX8_deed cI cZ jhm jam (bI Sm 0 (0 : Int32))) := hD
  refine lv_aload_n hx hb dX8_deed_5 rfl (lv_at hl 0 rfl) ?_
  refine lv_iload_n hx hb dX8_deed_6 rfl (lv_at hl 1 rfl) ?_
  obtain ⟨u1, e2, hf⟩ := bdS hf
  refine k_rV (As := [.int x1]) (rest := []) hC miX8_noDeed mjX8_noDeed.1 mjX8_noDeed.2 wd4_115 (qX8_noDeed l D cI cZ cO jhm jam (bI Sm 0 (0 : Int32)) x1 u1 e2) ⟨Nat.le_of_ble_eq_true rfl, Nat.le_of_ble_eq_true rfl⟩ (hP.sub [0] rfl) hK hZ hS (va_recv hK hP (ci := 7) (q0 := 0) rfl rfl) hl.1 rfl rfl (Nat.le_of_ble_eq_true rfl) dX8_deed_7 ?_
  refine lv_if_eq (tgt := 15) hx hb dX8_deed_10 (by decide) (fun c3 => ?_) (fun c3 => ?_)
  · have hf := itP c3 hf
    refine lv_iload_n hx hb dX8_deed_15 rfl (lv_at hl 2 rfl) ?_
    refine lv_i2l hx hb dX8_deed_16 rfl ?_
    refine lv_lconst (v := 0) hx hb dX8_deed_17 rfl ?_
    refine lv_ldc2 hx hb hown (ht _ wd4_119) dX8_deed_18 ?_
    obtain ⟨u4, e5, hf⟩ := bdS hf
    refine k_pS (As := [.long x2.toInt64, .long (0 : Int64), .long (4 : Int64)]) (rest := []) hC miX8_in mjX8_in wd4_44 (qX8_in l x2.toInt64 (0 : Int64) (4 : Int64) u4 e5) ⟨Nat.le_of_ble_eq_true rfl, Nat.le_of_ble_eq_true rfl⟩ hl.1 rfl rfl (Nat.le_of_ble_eq_true rfl) dX8_deed_21 ?_
    refine lv_if_eq (tgt := 40) hx hb dX8_deed_24 (by decide) (fun c6 => ?_) (fun c6 => ?_)
    · have hf := itP c6 hf
      refine lv_iload_n hx hb dX8_deed_40 rfl (lv_at hl 2 rfl) ?_
      refine lv_iconst (v := (5 : Int32)) hx hb dX8_deed_41 rfl ?_
      refine lv_icmp_ne (tgt := 59) hx hb dX8_deed_42 (by decide) (fun c7 => ?_) (fun c7 => ?_)
      · have hf := itN c7 hf
        refine lv_bipush (v := (-2 : Int32)) hx hb dX8_deed_59 rfl ?_
        cases hf
        exact W.iret hx hb hr (fun t ht9 hW => ⟨⟨_, (), rfl, rfl, by rw [ht9]; exact hP, va_K.moved hW.alike hK, hD⟩, hS.F ht9⟩) hS.2.2 dX8_deed_61
      · have hf := itP c7 hf
        refine lv_aload_n hx hb dX8_deed_45 rfl (lv_at hl 0 rfl) ?_
        refine va_get (D := D) (ci := 7) (v := .ref (jam 7)) (C := RX8) (T := TX8) (N := 31) hx hb ht inX8 hown hK hP 0 rfl rfl 16 (by decide) (ht _ wd3_201) (fun _ h9 => h9) rfl dX8_deed_46 ?_
        refine lv_bipush (v := (13 : Int32)) hx hb dX8_deed_49 rfl ?_
        obtain ⟨h8, hf⟩ := inB_s hf
        refine va_iald (f := (Sm.2.1 7)) (n := 16) hx hb hK hP 2 0 rfl rfl h8 dX8_deed_51 ?_
        refine lv_iload_n hx hb dX8_deed_52 rfl (lv_at hl 1 rfl) ?_
        refine lv_ishr hx hb dX8_deed_53 ?_
        refine lv_iconst (v := (1 : Int32)) hx hb dX8_deed_54 rfl ?_
        refine lv_iand hx hb dX8_deed_55 ?_
        refine lv_goto (tgt := 61) hx hb dX8_deed_56 (by decide) ?_
        cases hf
        exact W.iret hx hb hr (fun t ht9 hW => ⟨⟨_, (), rfl, rfl, by rw [ht9]; exact hP, va_K.moved hW.alike hK, hD⟩, hS.F ht9⟩) hS.2.2 dX8_deed_61
    · have hf := itN c6 hf
      refine lv_aload_n hx hb dX8_deed_27 rfl (lv_at hl 0 rfl) ?_
      refine va_get (D := D) (ci := 7) (v := .ref (jam 3)) (C := RX8) (T := TX8) (N := 31) hx hb ht inX8 hown hK hP 0 rfl rfl 9 (by decide) (ht _ wd3_194) (fun _ h9 => h9) rfl dX8_deed_28 ?_
      refine lv_iconst (v := (5 : Int32)) hx hb dX8_deed_31 rfl ?_
      refine lv_iload_n hx hb dX8_deed_32 rfl (lv_at hl 1 rfl) ?_
      refine lv_imul hx hb dX8_deed_33 ?_
      refine lv_iload_n hx hb dX8_deed_34 rfl (lv_at hl 2 rfl) ?_
      refine lv_iadd hx hb dX8_deed_35 ?_
      obtain ⟨h9, hf⟩ := inB_s hf
      refine va_iald (f := (Sm.2.1 3)) (n := 20) hx hb hK hP 1 0 rfl rfl h9 dX8_deed_36 ?_
      refine lv_goto (tgt := 61) hx hb dX8_deed_37 (by decide) ?_
      cases hf
      exact W.iret hx hb hr (fun t ht9 hW => ⟨⟨_, (), rfl, rfl, by rw [ht9]; exact hP, va_K.moved hW.alike hK, hD⟩, hS.F ht9⟩) hS.2.2 dX8_deed_61
  · have hf := itN c3 hf
    refine lv_iconst (v := (-1 : Int32)) hx hb dX8_deed_13 rfl ?_
    cases hf
    exact W.iret hx hb hr (fun t ht9 hW => ⟨⟨_, (), rfl, rfl, by rw [ht9]; exact hP, va_K.moved hW.alike hK, hD⟩, hS.F ht9⟩) hS.2.2 dX8_deed_14
abbrev wX8_note (cI cZ : ClassId) (jhm : Nat) (jam : Nat → Nat) (Sm : Bk) : va_W := [(jhm, .inr (7, [.int (Sm.1 0), .ref (jam 0), .int (Sm.1 1), .int (Sm.1 2), .int (Sm.1 3), .int (Sm.1 4), .int (Sm.1 5), .ref (jam 1), .ref (jam 2), .ref (jam 3), .int (Sm.1 6), .int (Sm.1 7), .int (Sm.1 8), .ref (jam 4), .ref (jam 5), .ref (jam 6), .ref (jam 7), .ref (jam 8), .ref (jam 9), .int (Sm.1 9), .ref (jam 10), .ref (jam 11), .int (Sm.1 10), .ref (jam 12), .ref (jam 13), .long Sm.2.2, .ref (jam 14), .ref (jam 15), .int (Sm.1 11), .int (Sm.1 12), .int (Sm.1 13)])), (jam 7, .inl (cI, 16, .inl (Sm.2.1 7))), (jam 9, .inl (cI, 224, .inl (Sm.2.1 9)))]
def sX8_note_51 (k51 : Int32 → Bk → Option (Bk)) (x1 : Int32) (Sm : Bk) : Option (Bk) := (if (16 : Int32) ≤ x1 then nmV ((Sm.1 9) + (1 : Int32)) (fun v2 => some (bI Sm 9 v2)) else inB 16 x1 (nmV ((Sm.2.1 7) x1.toNatClampNeg) (fun v4 => inB 224 (((16 : Int32) * (Sm.1 9)) + x1) (nmV (((16 : Int32) * (Sm.1 9)) + x1).toNatClampNeg (fun j6 => k51 (x1 + (1 : Int32)) (bW Sm 9 j6 v4))))))
def gX8_note_49 (Sm : Bk) : Option (Bk) := lk2 (sX8_note_51 ) 1000 (0 : Int32) Sm
def sX8_note_11 (k11 : Int32 → Bk → Option (Bk)) (x1 : Int32) (Sm : Bk) : Option (Bk) := (if (208 : Int32) ≤ x1 then nmV ((Sm.1 9) - (1 : Int32)) (fun v8 => gX8_note_49  (bI Sm 9 v8)) else inB 224 (x1 + (16 : Int32)) (nmV ((Sm.2.1 9) (x1 + (16 : Int32)).toNatClampNeg) (fun v10 => inB 224 x1 (nmV x1.toNatClampNeg (fun j12 => k11 (x1 + (1 : Int32)) (bW Sm 9 j12 v10))))))
def fX8_note (Sm : Bk) : Option (Bk) := (if (Sm.1 9) = (14 : Int32) then lk2 (sX8_note_11 ) 1000 (0 : Int32) Sm else gX8_note_49  Sm)
theorem miX8_note : MI yX8_note cX8_note 2 none 0 := ⟨wd1_8, wd4_131, by decide +kernel⟩
theorem mjX8_note : Cond.instanceMethod yX8_note ∈ wT ∧ Cond.selects yX8_note.cls yX8_note yX8_note ∈ wT := ⟨wd4_130, ws_24⟩
set_option maxHeartbeats 4000000 in
set_option maxRecDepth 100000 in
theorem qX8_note (l : Launch) (D : va_G) (cI cZ cO : ClassId) (jhm : Nat) (jam : Nat → Nat) (Sm : Bk) (sz : Nat) (res : Bk) (hf : fX8_note Sm = some res) : Met l yX8_note (Cond.code yX8_note cX8_note 2 none :: wT) (rmF 0 0) (va_Pc [.ref jhm] (cW D (tyL cI cZ cO) (wX8_note cI cZ jhm jam Sm) sz)) (va_Qv (S := Unit) (fun _ => True) (fun _ => qW D (tyL cI cZ cO) (va_A (wX8_note cI cZ jhm jam Sm) sz) (wX8_note cI cZ jhm jam res)) (va_A (wX8_note cI cZ jhm jam Sm) sz)) 0 0 (va_A (wX8_note cI cZ jhm jam Sm) sz) := by
  refine met_w (by decide) (Nat.le_of_ble_eq_true rfl) ?_
  intro p e s m below meth c hx hb hr hml ht hown hlk ls hl hsz hP hK hD0 hZ
  subst hsz
  have hD := hD0.self (sz := s.heap.size)
  generalize hAe : va_A (wX8_note cI cZ jhm jam Sm) s.heap.size = A at hD hZ ⊢
  have hA : ∀ q : Nat, s.heap.size ≤ q → A q := fun q h => by rw [← hAe]; exact Or.inr h
  have hS : va_S A s.heap s.heap [] := va_S.rf
  have hown : s.vm.findClass "EyeDrinkModel" = some m.cls := hown
  have hl : lv_has ls 2 [(0, .ref jhm)] := hl
  unfold fX8_note at hf
  suffices hgo : ∀ (H : Heap) (locs : List Loc), va_P D vwCl (wX8_note cI cZ jhm jam Sm) H → va_S A s.heap H locs → W p l e (rmF 0 0) s m ([.ref jhm] : List Value).toArray below meth c H locs 0 0 (MQ below (va_Qv (S := Unit) (fun _ => True) (fun _ => qW D (tyL cI cZ cO) A (wX8_note cI cZ jhm jam res)) A) ([.ref jhm] : List Value).toArray s 0 0 A) (F0 m 0 ls []) from hgo s.heap [] hP hS
  have hj51 : ∀ (x1 : Int32) (Sm : Bk), lk2 (sX8_note_51 ) 1000 x1 Sm = some res → ∀ (H : Heap) (locs : List Loc) (ls : Array Slot), va_P D vwCl (wX8_note cI cZ jhm jam Sm) H → va_D A (wX8_note cI cZ jhm jam Sm) → va_S A s.heap H locs → lv_has ls 2 [(0, .ref jhm), (1, .int x1)] → W p l e (rmF 0 0) s m ([.ref jhm] : List Value).toArray below meth c H locs 0 0 (MQ below (va_Qv (S := Unit) (fun _ => True) (fun _ => qW D (tyL cI cZ cO) A (wX8_note cI cZ jhm jam res)) A) ([.ref jhm] : List Value).toArray s 0 0 A) (F0 m 51 ls []) := by
    refine lk2_w (fun (x1 : Int32) (Sm : Bk) => ∀ (H : Heap) (locs : List Loc) (ls : Array Slot), va_P D vwCl (wX8_note cI cZ jhm jam Sm) H → va_D A (wX8_note cI cZ jhm jam Sm) → va_S A s.heap H locs → lv_has ls 2 [(0, .ref jhm), (1, .int x1)] → W p l e (rmF 0 0) s m ([.ref jhm] : List Value).toArray below meth c H locs 0 0 (MQ below (va_Qv (S := Unit) (fun _ => True) (fun _ => qW D (tyL cI cZ cO) A (wX8_note cI cZ jhm jam res)) A) ([.ref jhm] : List Value).toArray s 0 0 A) (F0 m 51 ls [])) ?_ 1000
    intro k51 hk51 x1 Sm hf H locs ls hP hD hS hl
    unfold sX8_note_51 at hf
    refine lv_iload_n hx hb dX8_note_51 rfl (lv_at hl 1 rfl) ?_
    refine lv_bipush (v := (16 : Int32)) hx hb dX8_note_52 rfl ?_
    refine lv_icmp_ge (tgt := 83) hx hb dX8_note_54 (by decide) (fun c1 => ?_) (fun c1 => ?_)
    · have hf := itP c1 hf
      refine lv_aload_n hx hb dX8_note_83 rfl (lv_at hl 0 rfl) ?_
      refine lv_dup hx hb dX8_note_84 rfl ?_
      refine va_get (D := D) (ci := 7) (v := .int (Sm.1 9)) (C := RX8) (T := TX8) (N := 31) hx hb ht inX8 hown hK hP 0 rfl rfl 19 (by decide) (ht _ wd3_204) (fun _ h9 => h9) rfl dX8_note_85 ?_
      refine lv_iconst (v := (1 : Int32)) hx hb dX8_note_88 rfl ?_
      refine lv_iadd hx hb dX8_note_89 ?_
      obtain ⟨v2, ev2, hf⟩ := nmV_s hf
      rw [← ev2]
      refine va_put (D := D) (ci := 7) (v := .int v2) (ty := .int) (C := RX8) (T := TX8) (N := 31) hx hb ht inX8 tyX8 tyX8_ok nmX8 hown hK hP hD hS 0 rfl rfl 19 (by decide) (ht _ wd3_204) (fun _ h9 => h9) rfl (tyX8_ok 19 (by decide)) rfl rfl (Nat.le_of_ble_eq_true rfl) dX8_note_90 (fun H locs hP hD hS => ?_)
      have hP : va_P D vwCl (wX8_note cI cZ jhm jam (bI Sm 9 v2)) H := hP
      have hD : va_D A (wX8_note cI cZ jhm jam (bI Sm 9 v2)) := hD
      cases hf
      exact W.vret hx hb hr (fun t ht9 hW => ⟨⟨(), rfl, trivial, by rw [ht9]; exact hP, va_K.moved hW.alike hK, hD⟩, hS.F ht9⟩) hS.2.2 dX8_note_93
    · have hf := itN c1 hf
      refine lv_aload_n hx hb dX8_note_57 rfl (lv_at hl 0 rfl) ?_
      refine va_get (D := D) (ci := 7) (v := .ref (jam 9)) (C := RX8) (T := TX8) (N := 31) hx hb ht inX8 hown hK hP 0 rfl rfl 18 (by decide) (ht _ wd3_203) (fun _ h9 => h9) rfl dX8_note_58 ?_
      refine lv_bipush (v := (16 : Int32)) hx hb dX8_note_61 rfl ?_
      refine lv_aload_n hx hb dX8_note_63 rfl (lv_at hl 0 rfl) ?_
      refine va_get (D := D) (ci := 7) (v := .int (Sm.1 9)) (C := RX8) (T := TX8) (N := 31) hx hb ht inX8 hown hK hP 0 rfl rfl 19 (by decide) (ht _ wd3_204) (fun _ h9 => h9) rfl dX8_note_64 ?_
      refine lv_imul hx hb dX8_note_67 ?_
      refine lv_iload_n hx hb dX8_note_68 rfl (lv_at hl 1 rfl) ?_
      refine lv_iadd hx hb dX8_note_69 ?_
      refine lv_aload_n hx hb dX8_note_70 rfl (lv_at hl 0 rfl) ?_
      refine va_get (D := D) (ci := 7) (v := .ref (jam 7)) (C := RX8) (T := TX8) (N := 31) hx hb ht inX8 hown hK hP 0 rfl rfl 16 (by decide) (ht _ wd3_201) (fun _ h9 => h9) rfl dX8_note_71 ?_
      refine lv_iload_n hx hb dX8_note_74 rfl (lv_at hl 1 rfl) ?_
      obtain ⟨h3, hf⟩ := inB_s hf
      refine va_iald (f := (Sm.2.1 7)) (n := 16) hx hb hK hP 1 0 rfl rfl h3 dX8_note_75 ?_
      obtain ⟨v4, ev4, hf⟩ := nmV_s hf
      rw [← ev4]
      obtain ⟨h5, hf⟩ := inB_s hf
      obtain ⟨j6, ej6, hf⟩ := nmV_s hf
      refine va_iast (f := (Sm.2.1 9)) (n := 224) hx hb hK hP hD hS 2 0 rfl rfl h5 dX8_note_76 (fun H locs hP hD hS => ?_)
      rw [← ej6] at hP hD
      have hP : va_P D vwCl (wX8_note cI cZ jhm jam (bW Sm 9 j6 v4)) H := hP
      have hD : va_D A (wX8_note cI cZ jhm jam (bW Sm 9 j6 v4)) := hD
      refine lv_iinc (v := (x1 + (1 : Int32))) (lv' := [(1, .int (x1 + (1 : Int32))), (0, .ref jhm)]) hx hb dX8_note_77 hl (k := 1) rfl rfl (by decide) rfl (fun ls hl => ?_)
      refine lv_goto (tgt := 51) hx hb dX8_note_80 (by decide) ?_
      exact hk51 (x1 + (1 : Int32)) (bW Sm 9 j6 v4) hf _ _ _ hP hD hS (lv_sub hl [1, 0] rfl)
  have hj49 : ∀ (Sm : Bk), gX8_note_49  Sm = some res → ∀ (H : Heap) (locs : List Loc) (ls : Array Slot), va_P D vwCl (wX8_note cI cZ jhm jam Sm) H → va_D A (wX8_note cI cZ jhm jam Sm) → va_S A s.heap H locs → lv_has ls 2 [(0, .ref jhm)] → W p l e (rmF 0 0) s m ([.ref jhm] : List Value).toArray below meth c H locs 0 0 (MQ below (va_Qv (S := Unit) (fun _ => True) (fun _ => qW D (tyL cI cZ cO) A (wX8_note cI cZ jhm jam res)) A) ([.ref jhm] : List Value).toArray s 0 0 A) (F0 m 49 ls []) := by
    intro Sm hf H locs ls hP hD hS hl
    unfold gX8_note_49 at hf
    refine lv_iconst (v := (0 : Int32)) hx hb dX8_note_49 rfl ?_
    refine lv_istore_n (lv' := [(1, .int (0 : Int32)), (0, .ref jhm)]) hx hb dX8_note_50 rfl hl (by decide) rfl (fun ls hl => ?_)
    exact hj51 (0 : Int32) Sm hf _ _ _ hP hD hS (lv_sub hl [1, 0] rfl)
  have hj11 : ∀ (x1 : Int32) (Sm : Bk), lk2 (sX8_note_11 ) 1000 x1 Sm = some res → ∀ (H : Heap) (locs : List Loc) (ls : Array Slot), va_P D vwCl (wX8_note cI cZ jhm jam Sm) H → va_D A (wX8_note cI cZ jhm jam Sm) → va_S A s.heap H locs → lv_has ls 2 [(0, .ref jhm), (1, .int x1)] → W p l e (rmF 0 0) s m ([.ref jhm] : List Value).toArray below meth c H locs 0 0 (MQ below (va_Qv (S := Unit) (fun _ => True) (fun _ => qW D (tyL cI cZ cO) A (wX8_note cI cZ jhm jam res)) A) ([.ref jhm] : List Value).toArray s 0 0 A) (F0 m 11 ls []) := by
    refine lk2_w (fun (x1 : Int32) (Sm : Bk) => ∀ (H : Heap) (locs : List Loc) (ls : Array Slot), va_P D vwCl (wX8_note cI cZ jhm jam Sm) H → va_D A (wX8_note cI cZ jhm jam Sm) → va_S A s.heap H locs → lv_has ls 2 [(0, .ref jhm), (1, .int x1)] → W p l e (rmF 0 0) s m ([.ref jhm] : List Value).toArray below meth c H locs 0 0 (MQ below (va_Qv (S := Unit) (fun _ => True) (fun _ => qW D (tyL cI cZ cO) A (wX8_note cI cZ jhm jam res)) A) ([.ref jhm] : List Value).toArray s 0 0 A) (F0 m 11 ls [])) ?_ 1000
    intro k11 hk11 x1 Sm hf H locs ls hP hD hS hl
    unfold sX8_note_11 at hf
    refine lv_iload_n hx hb dX8_note_11 rfl (lv_at hl 1 rfl) ?_
    refine lv_sipush (v := (208 : Int32)) hx hb dX8_note_12 rfl ?_
    refine lv_icmp_ge (tgt := 39) hx hb dX8_note_15 (by decide) (fun c7 => ?_) (fun c7 => ?_)
    · have hf := itP c7 hf
      refine lv_aload_n hx hb dX8_note_39 rfl (lv_at hl 0 rfl) ?_
      refine lv_dup hx hb dX8_note_40 rfl ?_
      refine va_get (D := D) (ci := 7) (v := .int (Sm.1 9)) (C := RX8) (T := TX8) (N := 31) hx hb ht inX8 hown hK hP 0 rfl rfl 19 (by decide) (ht _ wd3_204) (fun _ h9 => h9) rfl dX8_note_41 ?_
      refine lv_iconst (v := (1 : Int32)) hx hb dX8_note_44 rfl ?_
      refine lv_isub hx hb dX8_note_45 ?_
      obtain ⟨v8, ev8, hf⟩ := nmV_s hf
      rw [← ev8]
      refine va_put (D := D) (ci := 7) (v := .int v8) (ty := .int) (C := RX8) (T := TX8) (N := 31) hx hb ht inX8 tyX8 tyX8_ok nmX8 hown hK hP hD hS 0 rfl rfl 19 (by decide) (ht _ wd3_204) (fun _ h9 => h9) rfl (tyX8_ok 19 (by decide)) rfl rfl (Nat.le_of_ble_eq_true rfl) dX8_note_46 (fun H locs hP hD hS => ?_)
      have hP : va_P D vwCl (wX8_note cI cZ jhm jam (bI Sm 9 v8)) H := hP
      have hD : va_D A (wX8_note cI cZ jhm jam (bI Sm 9 v8)) := hD
      exact hj49 (bI Sm 9 v8) hf _ _ _ hP hD hS (lv_sub hl [0] rfl)
    · have hf := itN c7 hf
      refine lv_aload_n hx hb dX8_note_18 rfl (lv_at hl 0 rfl) ?_
      refine va_get (D := D) (ci := 7) (v := .ref (jam 9)) (C := RX8) (T := TX8) (N := 31) hx hb ht inX8 hown hK hP 0 rfl rfl 18 (by decide) (ht _ wd3_203) (fun _ h9 => h9) rfl dX8_note_19 ?_
      refine lv_iload_n hx hb dX8_note_22 rfl (lv_at hl 1 rfl) ?_
      refine lv_aload_n hx hb dX8_note_23 rfl (lv_at hl 0 rfl) ?_
      refine va_get (D := D) (ci := 7) (v := .ref (jam 9)) (C := RX8) (T := TX8) (N := 31) hx hb ht inX8 hown hK hP 0 rfl rfl 18 (by decide) (ht _ wd3_203) (fun _ h9 => h9) rfl dX8_note_24 ?_
      refine lv_iload_n hx hb dX8_note_27 rfl (lv_at hl 1 rfl) ?_
      refine lv_bipush (v := (16 : Int32)) hx hb dX8_note_28 rfl ?_
      refine lv_iadd hx hb dX8_note_30 ?_
      obtain ⟨h9, hf⟩ := inB_s hf
      refine va_iald (f := (Sm.2.1 9)) (n := 224) hx hb hK hP 2 0 rfl rfl h9 dX8_note_31 ?_
      obtain ⟨v10, ev10, hf⟩ := nmV_s hf
      rw [← ev10]
      obtain ⟨h11, hf⟩ := inB_s hf
      obtain ⟨j12, ej12, hf⟩ := nmV_s hf
      refine va_iast (f := (Sm.2.1 9)) (n := 224) hx hb hK hP hD hS 2 0 rfl rfl h11 dX8_note_32 (fun H locs hP hD hS => ?_)
      rw [← ej12] at hP hD
      have hP : va_P D vwCl (wX8_note cI cZ jhm jam (bW Sm 9 j12 v10)) H := hP
      have hD : va_D A (wX8_note cI cZ jhm jam (bW Sm 9 j12 v10)) := hD
      refine lv_iinc (v := (x1 + (1 : Int32))) (lv' := [(1, .int (x1 + (1 : Int32))), (0, .ref jhm)]) hx hb dX8_note_33 hl (k := 1) rfl rfl (by decide) rfl (fun ls hl => ?_)
      refine lv_goto (tgt := 11) hx hb dX8_note_36 (by decide) ?_
      exact hk11 (x1 + (1 : Int32)) (bW Sm 9 j12 v10) hf _ _ _ hP hD hS (lv_sub hl [1, 0] rfl)
  intro H locs hP hS
  refine lv_aload_n hx hb dX8_note_0 rfl (lv_at hl 0 rfl) ?_
  refine va_get (D := D) (ci := 7) (v := .int (Sm.1 9)) (C := RX8) (T := TX8) (N := 31) hx hb ht inX8 hown hK hP 0 rfl rfl 19 (by decide) (ht _ wd3_204) (fun _ h9 => h9) rfl dX8_note_1 ?_
  refine lv_bipush (v := (14 : Int32)) hx hb dX8_note_4 rfl ?_
  refine lv_icmp_ne (tgt := 49) hx hb dX8_note_6 (by decide) (fun c13 => ?_) (fun c13 => ?_)
  · have hf := itN c13 hf
    exact hj49 Sm hf _ _ _ hP hD hS (lv_sub hl [0] rfl)
  · have hf := itP c13 hf
    refine lv_iconst (v := (0 : Int32)) hx hb dX8_note_9 rfl ?_
    refine lv_istore_n (lv' := [(1, .int (0 : Int32)), (0, .ref jhm)]) hx hb dX8_note_10 rfl hl (by decide) rfl (fun ls hl => ?_)
    exact hj11 (0 : Int32) Sm hf _ _ _ hP hD hS (lv_sub hl [1, 0] rfl)
abbrev wX8_give (cI cZ : ClassId) (jhp : Nat) (np : Nat) (jhm : Nat) (P : (Nat → Int32)) : va_W := [(jhp, .inl (cI, np, .inl P))]
def fX8_give (P : (Nat → Int32)) (np : Nat) (x2 : Int32) (x3 : Int32) : Option ((Nat → Int32)) := inB np x2 (nmV ((P x2.toNatClampNeg) - x3) (fun v2 => inB np x2 (nmV x2.toNatClampNeg (fun j4 => inB np ((4 : Int32) + x2) (nmV (((upd P j4 v2) ((4 : Int32) + x2).toNatClampNeg) + x3) (fun v6 => inB np ((4 : Int32) + x2) (nmV ((4 : Int32) + x2).toNatClampNeg (fun j8 => some (upd (upd P j4 v2) j8 v6)))))))))
theorem miX8_give : MI yX8_give cX8_give 4 none 3 := ⟨wd1_8, wd4_139, by decide +kernel⟩
theorem mjX8_give : Cond.instanceMethod yX8_give ∈ wT ∧ Cond.selects yX8_give.cls yX8_give yX8_give ∈ wT := ⟨wd4_138, ws_26⟩
set_option maxHeartbeats 4000000 in
set_option maxRecDepth 100000 in
theorem qX8_give (l : Launch) (D : va_G) (cI cZ cO : ClassId) (jhp : Nat) (np : Nat) (jhm : Nat) (P : (Nat → Int32)) (x2 : Int32) (x3 : Int32) (sz : Nat) (res : (Nat → Int32)) (hf : fX8_give P np x2 x3 = some res) : Met l yX8_give (Cond.code yX8_give cX8_give 4 none :: wT) (rmF 0 0) (va_Pc [.ref jhm, .ref jhp, .int x2, .int x3] (cW D (tyL cI cZ cO) (wX8_give cI cZ jhp np jhm P) sz)) (va_Qv (S := Unit) (fun _ => True) (fun _ => qW D (tyL cI cZ cO) (va_A (wX8_give cI cZ jhp np jhm P) sz) (wX8_give cI cZ jhp np jhm res)) (va_A (wX8_give cI cZ jhp np jhm P) sz)) 0 0 (va_A (wX8_give cI cZ jhp np jhm P) sz) := by
  refine met_w (by decide) (Nat.le_of_ble_eq_true rfl) ?_
  intro p e s m below meth c hx hb hr hml ht hown hlk ls hl hsz hP hK hD0 hZ
  subst hsz
  have hD := hD0.self (sz := s.heap.size)
  generalize hAe : va_A (wX8_give cI cZ jhp np jhm P) s.heap.size = A at hD hZ ⊢
  have hA : ∀ q : Nat, s.heap.size ≤ q → A q := fun q h => by rw [← hAe]; exact Or.inr h
  have hS : va_S A s.heap s.heap [] := va_S.rf
  have hown : s.vm.findClass "EyeDrinkModel" = some m.cls := hown
  have hl : lv_has ls 4 [(0, .ref jhm), (1, .ref jhp), (2, .int x2), (3, .int x3)] := hl
  unfold fX8_give at hf
  suffices hgo : ∀ (H : Heap) (locs : List Loc), va_P D vwCl (wX8_give cI cZ jhp np jhm P) H → va_S A s.heap H locs → W p l e (rmF 0 0) s m ([.ref jhm, .ref jhp, .int x2, .int x3] : List Value).toArray below meth c H locs 0 0 (MQ below (va_Qv (S := Unit) (fun _ => True) (fun _ => qW D (tyL cI cZ cO) A (wX8_give cI cZ jhp np jhm res)) A) ([.ref jhm, .ref jhp, .int x2, .int x3] : List Value).toArray s 0 0 A) (F0 m 0 ls []) from hgo s.heap [] hP hS
  intro H locs hP hS
  refine lv_aload_n hx hb dX8_give_0 rfl (lv_at hl 1 rfl) ?_
  refine lv_iload_n hx hb dX8_give_1 rfl (lv_at hl 2 rfl) ?_
  refine lv_dup2_11 hx hb dX8_give_2 rfl rfl ?_
  obtain ⟨h1, hf⟩ := inB_s hf
  refine va_iald (f := P) (n := np) hx hb hK hP 0 0 rfl rfl h1 dX8_give_3 ?_
  refine lv_iload_n hx hb dX8_give_4 rfl (lv_at hl 3 rfl) ?_
  refine lv_isub hx hb dX8_give_5 ?_
  obtain ⟨v2, ev2, hf⟩ := nmV_s hf
  rw [← ev2]
  obtain ⟨h3, hf⟩ := inB_s hf
  obtain ⟨j4, ej4, hf⟩ := nmV_s hf
  refine va_iast (f := P) (n := np) hx hb hK hP hD hS 0 0 rfl rfl h3 dX8_give_6 (fun H locs hP hD hS => ?_)
  rw [← ej4] at hP hD
  have hP : va_P D vwCl (wX8_give cI cZ jhp np jhm (upd P j4 v2)) H := hP
  have hD : va_D A (wX8_give cI cZ jhp np jhm (upd P j4 v2)) := hD
  refine lv_aload_n hx hb dX8_give_7 rfl (lv_at hl 1 rfl) ?_
  refine lv_iconst (v := (4 : Int32)) hx hb dX8_give_8 rfl ?_
  refine lv_iload_n hx hb dX8_give_9 rfl (lv_at hl 2 rfl) ?_
  refine lv_iadd hx hb dX8_give_10 ?_
  refine lv_dup2_11 hx hb dX8_give_11 rfl rfl ?_
  obtain ⟨h5, hf⟩ := inB_s hf
  refine va_iald (f := (upd P j4 v2)) (n := np) hx hb hK hP 0 0 rfl rfl h5 dX8_give_12 ?_
  refine lv_iload_n hx hb dX8_give_13 rfl (lv_at hl 3 rfl) ?_
  refine lv_iadd hx hb dX8_give_14 ?_
  obtain ⟨v6, ev6, hf⟩ := nmV_s hf
  rw [← ev6]
  obtain ⟨h7, hf⟩ := inB_s hf
  obtain ⟨j8, ej8, hf⟩ := nmV_s hf
  refine va_iast (f := (upd P j4 v2)) (n := np) hx hb hK hP hD hS 0 0 rfl rfl h7 dX8_give_15 (fun H locs hP hD hS => ?_)
  rw [← ej8] at hP hD
  have hP : va_P D vwCl (wX8_give cI cZ jhp np jhm (upd (upd P j4 v2) j8 v6)) H := hP
  have hD : va_D A (wX8_give cI cZ jhp np jhm (upd (upd P j4 v2) j8 v6)) := hD
  cases hf
  exact W.vret hx hb hr (fun t ht9 hW => ⟨⟨(), rfl, trivial, by rw [ht9]; exact hP, va_K.moved hW.alike hK, hD⟩, hS.F ht9⟩) hS.2.2 dX8_give_16
abbrev wX8_noDrink (cI cZ : ClassId) (jhm : Nat) (jam : Nat → Nat) (jhp : Nat) (np : Nat) (Sm : Bk) (P : (Nat → Int32)) : va_W := [(jhm, .inr (7, [.int (Sm.1 0), .ref (jam 0), .int (Sm.1 1), .int (Sm.1 2), .int (Sm.1 3), .int (Sm.1 4), .int (Sm.1 5), .ref (jam 1), .ref (jam 2), .ref (jam 3), .int (Sm.1 6), .int (Sm.1 7), .int (Sm.1 8), .ref (jam 4), .ref (jam 5), .ref (jam 6), .ref (jam 7), .ref (jam 8), .ref (jam 9), .int (Sm.1 9), .ref (jam 10), .ref (jam 11), .int (Sm.1 10), .ref (jam 12), .ref (jam 13), .long Sm.2.2, .ref (jam 14), .ref (jam 15), .int (Sm.1 11), .int (Sm.1 12), .int (Sm.1 13)])), (jam 2, .inl (cI, 16, .inl (Sm.2.1 2))), (jhp, .inl (cI, np, .inl P))]
def fX8_noDrink (Sm : Bk) (P : (Nat → Int32)) (np : Nat) (x2 : Int32) : Option (Int32) := inB np (12 : Int32) ((fX8_has (P (12 : Int32).toNatClampNeg) x2).bind (fun u2 => (if u2 = 0 then inB 16 ((4 : Int32) * x2) (inB np ((Sm.2.1 2) ((4 : Int32) * x2).toNatClampNeg) (inB 16 (((4 : Int32) * x2) + (1 : Int32)) ((if ((Sm.2.1 2) (((4 : Int32) * x2) + (1 : Int32)).toNatClampNeg) ≤ (P ((Sm.2.1 2) ((4 : Int32) * x2).toNatClampNeg).toNatClampNeg) then some (0 : Int32) else some (-4 : Int32))))) else some (-3 : Int32))))
theorem miX8_noDrink : MI yX8_noDrink cX8_noDrink 3 (some .int) 2 := ⟨wd1_8, wd4_127, by decide +kernel⟩
theorem mjX8_noDrink : Cond.instanceMethod yX8_noDrink ∈ wT ∧ Cond.selects yX8_noDrink.cls yX8_noDrink yX8_noDrink ∈ wT := ⟨wd4_126, ws_23⟩
set_option maxHeartbeats 4000000 in
set_option maxRecDepth 100000 in
theorem qX8_noDrink (l : Launch) (D : va_G) (cI cZ cO : ClassId) (jhm : Nat) (jam : Nat → Nat) (jhp : Nat) (np : Nat) (Sm : Bk) (P : (Nat → Int32)) (x2 : Int32) (res : Int32) (hf : fX8_noDrink Sm P np x2 = some res) : Met l yX8_noDrink (Cond.code yX8_noDrink cX8_noDrink 3 (some .int) :: wT) (rmF 1 21) (va_Pc [.ref jhm, .ref jhp, .int x2] (cR D (tyL cI cZ cO) (wX8_noDrink cI cZ jhm jam jhp np Sm P))) (vp_Si (fun r => r = res)) 0 0 (fun _ => False) := by
  refine met_r (by decide) (Nat.le_of_ble_eq_true rfl) ?_
  intro p e s m below meth c hx hb hr hml ht hown hlk ls hl hP hK hZ
  have hS : va_S (fun _ => False) s.heap s.heap [] := va_S.rf
  have hown : s.vm.findClass "EyeDrinkModel" = some m.cls := hown
  have hl : lv_has ls 3 [(0, .ref jhm), (1, .ref jhp), (2, .int x2)] := hl
  have hC : CallFix p m c cX8_noDrink 3 s ([.ref jhm, .ref jhp, .int x2] : List Value).toArray wT "EyeDrinkModel" := ⟨hx, hb, hml, hown, ht⟩
  unfold fX8_noDrink at hf
  refine lv_aload_n hx hb dX8_noDrink_0 rfl (lv_at hl 1 rfl) ?_
  refine lv_bipush (v := (12 : Int32)) hx hb dX8_noDrink_1 rfl ?_
  obtain ⟨h1, hf⟩ := inB_s hf
  refine va_iald (f := P) (n := np) hx hb hK hP 2 0 rfl rfl h1 dX8_noDrink_3 ?_
  refine lv_iload_n hx hb dX8_noDrink_4 rfl (lv_at hl 2 rfl) ?_
  obtain ⟨u2, e3, hf⟩ := bdS hf
  refine k_pS (As := [.int (P (12 : Int32).toNatClampNeg), .int x2]) (rest := []) hC miX8_has mjX8_has wd4_108 (qX8_has l (P (12 : Int32).toNatClampNeg) x2 u2 e3) ⟨Nat.le_of_ble_eq_true rfl, Nat.le_of_ble_eq_true rfl⟩ hl.1 rfl rfl (Nat.le_of_ble_eq_true rfl) dX8_noDrink_5 ?_
  refine lv_if_eq (tgt := 16) hx hb dX8_noDrink_8 (by decide) (fun c4 => ?_) (fun c4 => ?_)
  · have hf := itP c4 hf
    refine lv_aload_n hx hb dX8_noDrink_16 rfl (lv_at hl 1 rfl) ?_
    refine lv_aload_n hx hb dX8_noDrink_17 rfl (lv_at hl 0 rfl) ?_
    refine va_get (D := D) (ci := 7) (v := .ref (jam 2)) (C := RX8) (T := TX8) (N := 31) hx hb ht inX8 hown hK hP 0 rfl rfl 8 (by decide) (ht _ wd3_193) (fun _ h9 => h9) rfl dX8_noDrink_18 ?_
    refine lv_iconst (v := (4 : Int32)) hx hb dX8_noDrink_21 rfl ?_
    refine lv_iload_n hx hb dX8_noDrink_22 rfl (lv_at hl 2 rfl) ?_
    refine lv_imul hx hb dX8_noDrink_23 ?_
    obtain ⟨h5, hf⟩ := inB_s hf
    refine va_iald (f := (Sm.2.1 2)) (n := 16) hx hb hK hP 1 0 rfl rfl h5 dX8_noDrink_24 ?_
    obtain ⟨h6, hf⟩ := inB_s hf
    refine va_iald (f := P) (n := np) hx hb hK hP 2 0 rfl rfl h6 dX8_noDrink_25 ?_
    refine lv_aload_n hx hb dX8_noDrink_26 rfl (lv_at hl 0 rfl) ?_
    refine va_get (D := D) (ci := 7) (v := .ref (jam 2)) (C := RX8) (T := TX8) (N := 31) hx hb ht inX8 hown hK hP 0 rfl rfl 8 (by decide) (ht _ wd3_193) (fun _ h9 => h9) rfl dX8_noDrink_27 ?_
    refine lv_iconst (v := (4 : Int32)) hx hb dX8_noDrink_30 rfl ?_
    refine lv_iload_n hx hb dX8_noDrink_31 rfl (lv_at hl 2 rfl) ?_
    refine lv_imul hx hb dX8_noDrink_32 ?_
    refine lv_iconst (v := (1 : Int32)) hx hb dX8_noDrink_33 rfl ?_
    refine lv_iadd hx hb dX8_noDrink_34 ?_
    obtain ⟨h7, hf⟩ := inB_s hf
    refine va_iald (f := (Sm.2.1 2)) (n := 16) hx hb hK hP 1 0 rfl rfl h7 dX8_noDrink_35 ?_
    refine lv_icmp_ge (tgt := 44) hx hb dX8_noDrink_36 (by decide) (fun c8 => ?_) (fun c8 => ?_)
    · have hf := itP c8 hf
      refine lv_iconst (v := (0 : Int32)) hx hb dX8_noDrink_44 rfl ?_
      exact W.iret hx hb hr (fun t ht9 _ => ⟨_, rfl, Option.some.inj hf, ht9⟩) (fun _ h9 => by cases h9) dX8_noDrink_45
    · have hf := itN c8 hf
      refine lv_bipush (v := (-4 : Int32)) hx hb dX8_noDrink_39 rfl ?_
      refine lv_goto (tgt := 45) hx hb dX8_noDrink_41 (by decide) ?_
      exact W.iret hx hb hr (fun t ht9 _ => ⟨_, rfl, Option.some.inj hf, ht9⟩) (fun _ h9 => by cases h9) dX8_noDrink_45
  · have hf := itN c4 hf
    refine lv_bipush (v := (-3 : Int32)) hx hb dX8_noDrink_11 rfl ?_
    refine lv_goto (tgt := 45) hx hb dX8_noDrink_13 (by decide) ?_
    exact W.iret hx hb hr (fun t ht9 _ => ⟨_, rfl, Option.some.inj hf, ht9⟩) (fun _ h9 => by cases h9) dX8_noDrink_45
abbrev wX8_noAct (cI cZ : ClassId) (jhm : Nat) (jam : Nat → Nat) (jhp : Nat) (np : Nat) (Sm : Bk) (P : (Nat → Int32)) : va_W := [(jhm, .inr (7, [.int (Sm.1 0), .ref (jam 0), .int (Sm.1 1), .int (Sm.1 2), .int (Sm.1 3), .int (Sm.1 4), .int (Sm.1 5), .ref (jam 1), .ref (jam 2), .ref (jam 3), .int (Sm.1 6), .int (Sm.1 7), .int (Sm.1 8), .ref (jam 4), .ref (jam 5), .ref (jam 6), .ref (jam 7), .ref (jam 8), .ref (jam 9), .int (Sm.1 9), .ref (jam 10), .ref (jam 11), .int (Sm.1 10), .ref (jam 12), .ref (jam 13), .long Sm.2.2, .ref (jam 14), .ref (jam 15), .int (Sm.1 11), .int (Sm.1 12), .int (Sm.1 13)])), (jam 3, .inl (cI, 20, .inl (Sm.2.1 3))), (jhp, .inl (cI, np, .inl P))]
def fX8_noAct (Sm : Bk) (P : (Nat → Int32)) (np : Nat) (x2 : Int32) : Option (Int32) := inB np (13 : Int32) ((fX8_has (P (13 : Int32).toNatClampNeg) x2).bind (fun u2 => (if u2 = 0 then inB 20 (((5 : Int32) * x2) + (3 : Int32)) (inB np ((Sm.2.1 3) (((5 : Int32) * x2) + (3 : Int32)).toNatClampNeg) (inB 20 (((5 : Int32) * x2) + (4 : Int32)) ((if ((Sm.2.1 3) (((5 : Int32) * x2) + (4 : Int32)).toNatClampNeg) ≤ (P ((Sm.2.1 3) (((5 : Int32) * x2) + (3 : Int32)).toNatClampNeg).toNatClampNeg) then some (0 : Int32) else some (-4 : Int32))))) else some (-3 : Int32))))
theorem miX8_noAct : MI yX8_noAct cX8_noAct 3 (some .int) 2 := ⟨wd1_8, wd4_147, by decide +kernel⟩
theorem mjX8_noAct : Cond.instanceMethod yX8_noAct ∈ wT ∧ Cond.selects yX8_noAct.cls yX8_noAct yX8_noAct ∈ wT := ⟨wd4_146, ws_27⟩
set_option maxHeartbeats 4000000 in
set_option maxRecDepth 100000 in
theorem qX8_noAct (l : Launch) (D : va_G) (cI cZ cO : ClassId) (jhm : Nat) (jam : Nat → Nat) (jhp : Nat) (np : Nat) (Sm : Bk) (P : (Nat → Int32)) (x2 : Int32) (res : Int32) (hf : fX8_noAct Sm P np x2 = some res) : Met l yX8_noAct (Cond.code yX8_noAct cX8_noAct 3 (some .int) :: wT) (rmF 1 21) (va_Pc [.ref jhm, .ref jhp, .int x2] (cR D (tyL cI cZ cO) (wX8_noAct cI cZ jhm jam jhp np Sm P))) (vp_Si (fun r => r = res)) 0 0 (fun _ => False) := by
  refine met_r (by decide) (Nat.le_of_ble_eq_true rfl) ?_
  intro p e s m below meth c hx hb hr hml ht hown hlk ls hl hP hK hZ
  have hS : va_S (fun _ => False) s.heap s.heap [] := va_S.rf
  have hown : s.vm.findClass "EyeDrinkModel" = some m.cls := hown
  have hl : lv_has ls 3 [(0, .ref jhm), (1, .ref jhp), (2, .int x2)] := hl
  have hC : CallFix p m c cX8_noAct 3 s ([.ref jhm, .ref jhp, .int x2] : List Value).toArray wT "EyeDrinkModel" := ⟨hx, hb, hml, hown, ht⟩
  unfold fX8_noAct at hf
  refine lv_aload_n hx hb dX8_noAct_0 rfl (lv_at hl 1 rfl) ?_
  refine lv_bipush (v := (13 : Int32)) hx hb dX8_noAct_1 rfl ?_
  obtain ⟨h1, hf⟩ := inB_s hf
  refine va_iald (f := P) (n := np) hx hb hK hP 2 0 rfl rfl h1 dX8_noAct_3 ?_
  refine lv_iload_n hx hb dX8_noAct_4 rfl (lv_at hl 2 rfl) ?_
  obtain ⟨u2, e3, hf⟩ := bdS hf
  refine k_pS (As := [.int (P (13 : Int32).toNatClampNeg), .int x2]) (rest := []) hC miX8_has mjX8_has wd4_108 (qX8_has l (P (13 : Int32).toNatClampNeg) x2 u2 e3) ⟨Nat.le_of_ble_eq_true rfl, Nat.le_of_ble_eq_true rfl⟩ hl.1 rfl rfl (Nat.le_of_ble_eq_true rfl) dX8_noAct_5 ?_
  refine lv_if_eq (tgt := 16) hx hb dX8_noAct_8 (by decide) (fun c4 => ?_) (fun c4 => ?_)
  · have hf := itP c4 hf
    refine lv_aload_n hx hb dX8_noAct_16 rfl (lv_at hl 1 rfl) ?_
    refine lv_aload_n hx hb dX8_noAct_17 rfl (lv_at hl 0 rfl) ?_
    refine va_get (D := D) (ci := 7) (v := .ref (jam 3)) (C := RX8) (T := TX8) (N := 31) hx hb ht inX8 hown hK hP 0 rfl rfl 9 (by decide) (ht _ wd3_194) (fun _ h9 => h9) rfl dX8_noAct_18 ?_
    refine lv_iconst (v := (5 : Int32)) hx hb dX8_noAct_21 rfl ?_
    refine lv_iload_n hx hb dX8_noAct_22 rfl (lv_at hl 2 rfl) ?_
    refine lv_imul hx hb dX8_noAct_23 ?_
    refine lv_iconst (v := (3 : Int32)) hx hb dX8_noAct_24 rfl ?_
    refine lv_iadd hx hb dX8_noAct_25 ?_
    obtain ⟨h5, hf⟩ := inB_s hf
    refine va_iald (f := (Sm.2.1 3)) (n := 20) hx hb hK hP 1 0 rfl rfl h5 dX8_noAct_26 ?_
    obtain ⟨h6, hf⟩ := inB_s hf
    refine va_iald (f := P) (n := np) hx hb hK hP 2 0 rfl rfl h6 dX8_noAct_27 ?_
    refine lv_aload_n hx hb dX8_noAct_28 rfl (lv_at hl 0 rfl) ?_
    refine va_get (D := D) (ci := 7) (v := .ref (jam 3)) (C := RX8) (T := TX8) (N := 31) hx hb ht inX8 hown hK hP 0 rfl rfl 9 (by decide) (ht _ wd3_194) (fun _ h9 => h9) rfl dX8_noAct_29 ?_
    refine lv_iconst (v := (5 : Int32)) hx hb dX8_noAct_32 rfl ?_
    refine lv_iload_n hx hb dX8_noAct_33 rfl (lv_at hl 2 rfl) ?_
    refine lv_imul hx hb dX8_noAct_34 ?_
    refine lv_iconst (v := (4 : Int32)) hx hb dX8_noAct_35 rfl ?_
    refine lv_iadd hx hb dX8_noAct_36 ?_
    obtain ⟨h7, hf⟩ := inB_s hf
    refine va_iald (f := (Sm.2.1 3)) (n := 20) hx hb hK hP 1 0 rfl rfl h7 dX8_noAct_37 ?_
    refine lv_icmp_ge (tgt := 46) hx hb dX8_noAct_38 (by decide) (fun c8 => ?_) (fun c8 => ?_)
    · have hf := itP c8 hf
      refine lv_iconst (v := (0 : Int32)) hx hb dX8_noAct_46 rfl ?_
      exact W.iret hx hb hr (fun t ht9 _ => ⟨_, rfl, Option.some.inj hf, ht9⟩) (fun _ h9 => by cases h9) dX8_noAct_47
    · have hf := itN c8 hf
      refine lv_bipush (v := (-4 : Int32)) hx hb dX8_noAct_41 rfl ?_
      refine lv_goto (tgt := 47) hx hb dX8_noAct_43 (by decide) ?_
      exact W.iret hx hb hr (fun t ht9 _ => ⟨_, rfl, Option.some.inj hf, ht9⟩) (fun _ h9 => by cases h9) dX8_noAct_47
  · have hf := itN c4 hf
    refine lv_bipush (v := (-3 : Int32)) hx hb dX8_noAct_11 rfl ?_
    refine lv_goto (tgt := 47) hx hb dX8_noAct_13 (by decide) ?_
    exact W.iret hx hb hr (fun t ht9 _ => ⟨_, rfl, Option.some.inj hf, ht9⟩) (fun _ h9 => by cases h9) dX8_noAct_47
abbrev wX8_goDrink (cI cZ : ClassId) (jhm : Nat) (jam : Nat → Nat) (jhp : Nat) (np : Nat) (Sm : Bk) (P : (Nat → Int32)) : va_W := [(jhm, .inr (7, [.int (Sm.1 0), .ref (jam 0), .int (Sm.1 1), .int (Sm.1 2), .int (Sm.1 3), .int (Sm.1 4), .int (Sm.1 5), .ref (jam 1), .ref (jam 2), .ref (jam 3), .int (Sm.1 6), .int (Sm.1 7), .int (Sm.1 8), .ref (jam 4), .ref (jam 5), .ref (jam 6), .ref (jam 7), .ref (jam 8), .ref (jam 9), .int (Sm.1 9), .ref (jam 10), .ref (jam 11), .int (Sm.1 10), .ref (jam 12), .ref (jam 13), .long Sm.2.2, .ref (jam 14), .ref (jam 15), .int (Sm.1 11), .int (Sm.1 12), .int (Sm.1 13)])), (jam 2, .inl (cI, 16, .inl (Sm.2.1 2))), (jhp, .inl (cI, np, .inl P))]
def fX8_goDrink (Sm : Bk) (P : (Nat → Int32)) (np : Nat) (x2 : Int32) : Option ((Nat → Int32)) := inB 16 ((4 : Int32) * x2) (inB 16 (((4 : Int32) * x2) + (1 : Int32)) ((fX8_give P np ((Sm.2.1 2) ((4 : Int32) * x2).toNatClampNeg) ((Sm.2.1 2) (((4 : Int32) * x2) + (1 : Int32)).toNatClampNeg)).bind (fun u3 => inB np (12 : Int32) (nmV ((u3 (12 : Int32).toNatClampNeg) ||| ((1 : Int32) <<< (x2 &&& 31))) (fun v6 => inB np (12 : Int32) (nmV (12 : Int32).toNatClampNeg (fun j8 => some (upd u3 j8 v6))))))))
theorem miX8_goDrink : MI yX8_goDrink cX8_goDrink 3 none 2 := ⟨wd1_8, wd4_135, by decide +kernel⟩
theorem mjX8_goDrink : Cond.instanceMethod yX8_goDrink ∈ wT ∧ Cond.selects yX8_goDrink.cls yX8_goDrink yX8_goDrink ∈ wT := ⟨wd4_134, ws_25⟩
set_option maxHeartbeats 4000000 in
set_option maxRecDepth 100000 in
theorem qX8_goDrink (l : Launch) (D : va_G) (cI cZ cO : ClassId) (jhm : Nat) (jam : Nat → Nat) (jhp : Nat) (np : Nat) (Sm : Bk) (P : (Nat → Int32)) (x2 : Int32) (sz : Nat) (res : (Nat → Int32)) (hf : fX8_goDrink Sm P np x2 = some res) : Met l yX8_goDrink (Cond.code yX8_goDrink cX8_goDrink 3 none :: wT) (rmF 1 23) (va_Pc [.ref jhm, .ref jhp, .int x2] (cW D (tyL cI cZ cO) (wX8_goDrink cI cZ jhm jam jhp np Sm P) sz)) (va_Qv (S := Unit) (fun _ => True) (fun _ => qW D (tyL cI cZ cO) (va_A (wX8_goDrink cI cZ jhm jam jhp np Sm P) sz) (wX8_goDrink cI cZ jhm jam jhp np Sm res)) (va_A (wX8_goDrink cI cZ jhm jam jhp np Sm P) sz)) 0 0 (va_A (wX8_goDrink cI cZ jhm jam jhp np Sm P) sz) := by
  refine met_w (by decide) (Nat.le_of_ble_eq_true rfl) ?_
  intro p e s m below meth c hx hb hr hml ht hown hlk ls hl hsz hP hK hD0 hZ
  subst hsz
  have hD := hD0.self (sz := s.heap.size)
  generalize hAe : va_A (wX8_goDrink cI cZ jhm jam jhp np Sm P) s.heap.size = A at hD hZ ⊢
  have hA : ∀ q : Nat, s.heap.size ≤ q → A q := fun q h => by rw [← hAe]; exact Or.inr h
  have hS : va_S A s.heap s.heap [] := va_S.rf
  have hown : s.vm.findClass "EyeDrinkModel" = some m.cls := hown
  have hl : lv_has ls 3 [(0, .ref jhm), (1, .ref jhp), (2, .int x2)] := hl
  have hC : CallFix p m c cX8_goDrink 3 s ([.ref jhm, .ref jhp, .int x2] : List Value).toArray wT "EyeDrinkModel" := ⟨hx, hb, hml, hown, ht⟩
  unfold fX8_goDrink at hf
  suffices hgo : ∀ (H : Heap) (locs : List Loc), va_P D vwCl (wX8_goDrink cI cZ jhm jam jhp np Sm P) H → va_S A s.heap H locs → W p l e (rmF 1 23) s m ([.ref jhm, .ref jhp, .int x2] : List Value).toArray below meth c H locs 0 0 (MQ below (va_Qv (S := Unit) (fun _ => True) (fun _ => qW D (tyL cI cZ cO) A (wX8_goDrink cI cZ jhm jam jhp np Sm res)) A) ([.ref jhm, .ref jhp, .int x2] : List Value).toArray s 0 0 A) (F0 m 0 ls []) from hgo s.heap [] hP hS
  intro H locs hP hS
  refine lv_aload_n hx hb dX8_goDrink_0 rfl (lv_at hl 0 rfl) ?_
  refine lv_aload_n hx hb dX8_goDrink_1 rfl (lv_at hl 1 rfl) ?_
  refine lv_aload_n hx hb dX8_goDrink_2 rfl (lv_at hl 0 rfl) ?_
  refine va_get (D := D) (ci := 7) (v := .ref (jam 2)) (C := RX8) (T := TX8) (N := 31) hx hb ht inX8 hown hK hP 0 rfl rfl 8 (by decide) (ht _ wd3_193) (fun _ h9 => h9) rfl dX8_goDrink_3 ?_
  refine lv_iconst (v := (4 : Int32)) hx hb dX8_goDrink_6 rfl ?_
  refine lv_iload_n hx hb dX8_goDrink_7 rfl (lv_at hl 2 rfl) ?_
  refine lv_imul hx hb dX8_goDrink_8 ?_
  obtain ⟨h1, hf⟩ := inB_s hf
  refine va_iald (f := (Sm.2.1 2)) (n := 16) hx hb hK hP 1 0 rfl rfl h1 dX8_goDrink_9 ?_
  refine lv_aload_n hx hb dX8_goDrink_10 rfl (lv_at hl 0 rfl) ?_
  refine va_get (D := D) (ci := 7) (v := .ref (jam 2)) (C := RX8) (T := TX8) (N := 31) hx hb ht inX8 hown hK hP 0 rfl rfl 8 (by decide) (ht _ wd3_193) (fun _ h9 => h9) rfl dX8_goDrink_11 ?_
  refine lv_iconst (v := (4 : Int32)) hx hb dX8_goDrink_14 rfl ?_
  refine lv_iload_n hx hb dX8_goDrink_15 rfl (lv_at hl 2 rfl) ?_
  refine lv_imul hx hb dX8_goDrink_16 ?_
  refine lv_iconst (v := (1 : Int32)) hx hb dX8_goDrink_17 rfl ?_
  refine lv_iadd hx hb dX8_goDrink_18 ?_
  obtain ⟨h2, hf⟩ := inB_s hf
  refine va_iald (f := (Sm.2.1 2)) (n := 16) hx hb hK hP 1 0 rfl rfl h2 dX8_goDrink_19 ?_
  obtain ⟨u3, e4, hf⟩ := bdS hf
  refine k_wVv (ws' := (wX8_goDrink cI cZ jhm jam jhp np Sm u3)) (wr := [(jhm, .inr (7, [.int (Sm.1 0), .ref (jam 0), .int (Sm.1 1), .int (Sm.1 2), .int (Sm.1 3), .int (Sm.1 4), .int (Sm.1 5), .ref (jam 1), .ref (jam 2), .ref (jam 3), .int (Sm.1 6), .int (Sm.1 7), .int (Sm.1 8), .ref (jam 4), .ref (jam 5), .ref (jam 6), .ref (jam 7), .ref (jam 8), .ref (jam 9), .int (Sm.1 9), .ref (jam 10), .ref (jam 11), .int (Sm.1 10), .ref (jam 12), .ref (jam 13), .long Sm.2.2, .ref (jam 14), .ref (jam 15), .int (Sm.1 11), .int (Sm.1 12), .int (Sm.1 13)])), (jam 2, .inl (cI, 16, .inl (Sm.2.1 2)))]) (As := [.ref jhp, .int ((Sm.2.1 2) ((4 : Int32) * x2).toNatClampNeg), .int ((Sm.2.1 2) (((4 : Int32) * x2) + (1 : Int32)).toNatClampNeg)]) (rest := []) hC miX8_give mjX8_give.1 mjX8_give.2 wd4_136 (qX8_give l D cI cZ cO jhp np jhm P ((Sm.2.1 2) ((4 : Int32) * x2).toNatClampNeg) ((Sm.2.1 2) (((4 : Int32) * x2) + (1 : Int32)).toNatClampNeg) H.size u3 e4) ⟨Nat.le_of_ble_eq_true rfl, Nat.le_of_ble_eq_true rfl⟩ hP hD hK hZ hS hA [2] [0, 1] [0, 1, 2] rfl (by decide) rfl (by decide) (by decide) (by decide) rfl (va_recv hK hP (ci := 7) (q0 := 0) rfl rfl) hl.1 rfl rfl (Nat.le_of_ble_eq_true rfl) dX8_goDrink_20 (fun H locs hP hD hS => ?_)
  refine lv_aload_n hx hb dX8_goDrink_23 rfl (lv_at hl 1 rfl) ?_
  refine lv_bipush (v := (12 : Int32)) hx hb dX8_goDrink_24 rfl ?_
  refine lv_dup2_11 hx hb dX8_goDrink_26 rfl rfl ?_
  obtain ⟨h5, hf⟩ := inB_s hf
  refine va_iald (f := u3) (n := np) hx hb hK hP 2 0 rfl rfl h5 dX8_goDrink_27 ?_
  refine lv_iconst (v := (1 : Int32)) hx hb dX8_goDrink_28 rfl ?_
  refine lv_iload_n hx hb dX8_goDrink_29 rfl (lv_at hl 2 rfl) ?_
  refine lv_ishl hx hb dX8_goDrink_30 ?_
  refine lv_ior hx hb dX8_goDrink_31 ?_
  obtain ⟨v6, ev6, hf⟩ := nmV_s hf
  rw [← ev6]
  obtain ⟨h7, hf⟩ := inB_s hf
  obtain ⟨j8, ej8, hf⟩ := nmV_s hf
  refine va_iast (f := u3) (n := np) hx hb hK hP hD hS 2 0 rfl rfl h7 dX8_goDrink_32 (fun H locs hP hD hS => ?_)
  rw [← ej8] at hP hD
  have hP : va_P D vwCl (wX8_goDrink cI cZ jhm jam jhp np Sm (upd u3 j8 v6)) H := hP
  have hD : va_D A (wX8_goDrink cI cZ jhm jam jhp np Sm (upd u3 j8 v6)) := hD
  cases hf
  exact W.vret hx hb hr (fun t ht9 hW => ⟨⟨(), rfl, trivial, by rw [ht9]; exact hP, va_K.moved hW.alike hK, hD⟩, hS.F ht9⟩) hS.2.2 dX8_goDrink_33
abbrev wX8_goAct (cI cZ : ClassId) (jhm : Nat) (jam : Nat → Nat) (jhp : Nat) (np : Nat) (Sm : Bk) (P : (Nat → Int32)) : va_W := [(jhm, .inr (7, [.int (Sm.1 0), .ref (jam 0), .int (Sm.1 1), .int (Sm.1 2), .int (Sm.1 3), .int (Sm.1 4), .int (Sm.1 5), .ref (jam 1), .ref (jam 2), .ref (jam 3), .int (Sm.1 6), .int (Sm.1 7), .int (Sm.1 8), .ref (jam 4), .ref (jam 5), .ref (jam 6), .ref (jam 7), .ref (jam 8), .ref (jam 9), .int (Sm.1 9), .ref (jam 10), .ref (jam 11), .int (Sm.1 10), .ref (jam 12), .ref (jam 13), .long Sm.2.2, .ref (jam 14), .ref (jam 15), .int (Sm.1 11), .int (Sm.1 12), .int (Sm.1 13)])), (jam 2, .inl (cI, 16, .inl (Sm.2.1 2))), (jam 3, .inl (cI, 20, .inl (Sm.2.1 3))), (jhp, .inl (cI, np, .inl P))]
def gX8_goAct_104 (Sm : Bk) (np : Nat) (x2 : Int32) (P : (Nat → Int32)) (y1 : Int32) (y2 : Int32) (y3 : Int32) : Option ((Nat → Int32)) := nmV (y2 + y3) (fun v1 => inB np y1 (nmV y1.toNatClampNeg (fun j3 => some (upd P j3 v1))))
def gX8_goAct_70 (Sm : Bk) (np : Nat) (x2 : Int32) (P : (Nat → Int32)) (y0 : Int32) : Option ((Nat → Int32)) := inB np (15 : Int32) ((if y0 = 0 then inB 20 (((5 : Int32) * x2) + (2 : Int32)) (gX8_goAct_104 Sm np x2 P (15 : Int32) (P (15 : Int32).toNatClampNeg) (-((Sm.2.1 3) (((5 : Int32) * x2) + (2 : Int32)).toNatClampNeg))) else inB 20 (((5 : Int32) * x2) + (2 : Int32)) (gX8_goAct_104 Sm np x2 P (15 : Int32) (P (15 : Int32).toNatClampNeg) ((Sm.2.1 3) (((5 : Int32) * x2) + (2 : Int32)).toNatClampNeg))))
def fX8_goAct (Sm : Bk) (P : (Nat → Int32)) (np : Nat) (x2 : Int32) : Option ((Nat → Int32)) := inB 20 (((5 : Int32) * x2) + (3 : Int32)) (inB 20 (((5 : Int32) * x2) + (4 : Int32)) ((fX8_give P np ((Sm.2.1 3) (((5 : Int32) * x2) + (3 : Int32)).toNatClampNeg) ((Sm.2.1 3) (((5 : Int32) * x2) + (4 : Int32)).toNatClampNeg)).bind (fun u10 => inB np (13 : Int32) (nmV ((u10 (13 : Int32).toNatClampNeg) ||| ((1 : Int32) <<< (x2 &&& 31))) (fun v13 => inB np (13 : Int32) (nmV (13 : Int32).toNatClampNeg (fun j15 => inB 20 ((5 : Int32) * x2) (inB 16 (((4 : Int32) * ((Sm.2.1 3) ((5 : Int32) * x2).toNatClampNeg)) + (2 : Int32)) (inB 20 (((5 : Int32) * x2) + (1 : Int32)) ((if ((Sm.2.1 2) (((4 : Int32) * ((Sm.2.1 3) ((5 : Int32) * x2).toNatClampNeg)) + (2 : Int32)).toNatClampNeg) = ((Sm.2.1 3) (((5 : Int32) * x2) + (1 : Int32)).toNatClampNeg) then gX8_goAct_70 Sm np x2 (upd u10 j15 v13) (1 : Int32) else gX8_goAct_70 Sm np x2 (upd u10 j15 v13) (0 : Int32))))))))))))
theorem miX8_goAct : MI yX8_goAct cX8_goAct 4 none 2 := ⟨wd1_8, wd4_151, by decide +kernel⟩
theorem mjX8_goAct : Cond.instanceMethod yX8_goAct ∈ wT ∧ Cond.selects yX8_goAct.cls yX8_goAct yX8_goAct ∈ wT := ⟨wd4_150, ws_28⟩
set_option maxHeartbeats 4000000 in
set_option maxRecDepth 100000 in
theorem qX8_goAct (l : Launch) (D : va_G) (cI cZ cO : ClassId) (jhm : Nat) (jam : Nat → Nat) (jhp : Nat) (np : Nat) (Sm : Bk) (P : (Nat → Int32)) (x2 : Int32) (sz : Nat) (res : (Nat → Int32)) (hf : fX8_goAct Sm P np x2 = some res) : Met l yX8_goAct (Cond.code yX8_goAct cX8_goAct 4 none :: wT) (rmF 1 23) (va_Pc [.ref jhm, .ref jhp, .int x2] (cW D (tyL cI cZ cO) (wX8_goAct cI cZ jhm jam jhp np Sm P) sz)) (va_Qv (S := Unit) (fun _ => True) (fun _ => qW D (tyL cI cZ cO) (va_A (wX8_goAct cI cZ jhm jam jhp np Sm P) sz) (wX8_goAct cI cZ jhm jam jhp np Sm res)) (va_A (wX8_goAct cI cZ jhm jam jhp np Sm P) sz)) 0 0 (va_A (wX8_goAct cI cZ jhm jam jhp np Sm P) sz) := by
  refine met_w (by decide) (Nat.le_of_ble_eq_true rfl) ?_
  intro p e s m below meth c hx hb hr hml ht hown hlk ls hl hsz hP hK hD0 hZ
  subst hsz
  have hD := hD0.self (sz := s.heap.size)
  generalize hAe : va_A (wX8_goAct cI cZ jhm jam jhp np Sm P) s.heap.size = A at hD hZ ⊢
  have hA : ∀ q : Nat, s.heap.size ≤ q → A q := fun q h => by rw [← hAe]; exact Or.inr h
  have hS : va_S A s.heap s.heap [] := va_S.rf
  have hown : s.vm.findClass "EyeDrinkModel" = some m.cls := hown
  have hl : lv_has ls 4 [(0, .ref jhm), (1, .ref jhp), (2, .int x2)] := hl
  have hC : CallFix p m c cX8_goAct 4 s ([.ref jhm, .ref jhp, .int x2] : List Value).toArray wT "EyeDrinkModel" := ⟨hx, hb, hml, hown, ht⟩
  unfold fX8_goAct at hf
  suffices hgo : ∀ (H : Heap) (locs : List Loc), va_P D vwCl (wX8_goAct cI cZ jhm jam jhp np Sm P) H → va_S A s.heap H locs → W p l e (rmF 1 23) s m ([.ref jhm, .ref jhp, .int x2] : List Value).toArray below meth c H locs 0 0 (MQ below (va_Qv (S := Unit) (fun _ => True) (fun _ => qW D (tyL cI cZ cO) A (wX8_goAct cI cZ jhm jam jhp np Sm res)) A) ([.ref jhm, .ref jhp, .int x2] : List Value).toArray s 0 0 A) (F0 m 0 ls []) from hgo s.heap [] hP hS
  have hj104 : ∀ (P : (Nat → Int32)) (y1 : Int32) (y2 : Int32) (y3 : Int32), gX8_goAct_104 Sm np x2 P y1 y2 y3 = some res → ∀ (H : Heap) (locs : List Loc) (ls : Array Slot), va_P D vwCl (wX8_goAct cI cZ jhm jam jhp np Sm P) H → va_D A (wX8_goAct cI cZ jhm jam jhp np Sm P) → va_S A s.heap H locs → lv_has ls 4 [] → W p l e (rmF 1 23) s m ([.ref jhm, .ref jhp, .int x2] : List Value).toArray below meth c H locs 0 0 (MQ below (va_Qv (S := Unit) (fun _ => True) (fun _ => qW D (tyL cI cZ cO) A (wX8_goAct cI cZ jhm jam jhp np Sm res)) A) ([.ref jhm, .ref jhp, .int x2] : List Value).toArray s 0 0 A) (F0 m 104 ls [.int y3, .int y2, .int y1, .ref jhp]) := by
    intro P y1 y2 y3 hf H locs ls hP hD hS hl
    unfold gX8_goAct_104 at hf
    refine lv_iadd hx hb dX8_goAct_104 ?_
    obtain ⟨v1, ev1, hf⟩ := nmV_s hf
    rw [← ev1]
    obtain ⟨h2, hf⟩ := inB_s hf
    obtain ⟨j3, ej3, hf⟩ := nmV_s hf
    refine va_iast (f := P) (n := np) hx hb hK hP hD hS 3 0 rfl rfl h2 dX8_goAct_105 (fun H locs hP hD hS => ?_)
    rw [← ej3] at hP hD
    have hP : va_P D vwCl (wX8_goAct cI cZ jhm jam jhp np Sm (upd P j3 v1)) H := hP
    have hD : va_D A (wX8_goAct cI cZ jhm jam jhp np Sm (upd P j3 v1)) := hD
    cases hf
    exact W.vret hx hb hr (fun t ht9 hW => ⟨⟨(), rfl, trivial, by rw [ht9]; exact hP, va_K.moved hW.alike hK, hD⟩, hS.F ht9⟩) hS.2.2 dX8_goAct_106
  have hj70 : ∀ (P : (Nat → Int32)) (y0 : Int32), gX8_goAct_70 Sm np x2 P y0 = some res → ∀ (H : Heap) (locs : List Loc) (ls : Array Slot), va_P D vwCl (wX8_goAct cI cZ jhm jam jhp np Sm P) H → va_D A (wX8_goAct cI cZ jhm jam jhp np Sm P) → va_S A s.heap H locs → lv_has ls 4 [(0, .ref jhm), (1, .ref jhp), (2, .int x2)] → W p l e (rmF 1 23) s m ([.ref jhm, .ref jhp, .int x2] : List Value).toArray below meth c H locs 0 0 (MQ below (va_Qv (S := Unit) (fun _ => True) (fun _ => qW D (tyL cI cZ cO) A (wX8_goAct cI cZ jhm jam jhp np Sm res)) A) ([.ref jhm, .ref jhp, .int x2] : List Value).toArray s 0 0 A) (F0 m 70 ls [.int y0]) := by
    intro P y0 hf H locs ls hP hD hS hl
    unfold gX8_goAct_70 at hf
    refine lv_istore_n (lv' := [(3, .int y0), (0, .ref jhm), (1, .ref jhp), (2, .int x2)]) hx hb dX8_goAct_70 rfl hl (by decide) rfl (fun ls hl => ?_)
    refine lv_aload_n hx hb dX8_goAct_71 rfl (lv_at hl 2 rfl) ?_
    refine lv_bipush (v := (15 : Int32)) hx hb dX8_goAct_72 rfl ?_
    refine lv_dup2_11 hx hb dX8_goAct_74 rfl rfl ?_
    obtain ⟨h4, hf⟩ := inB_s hf
    refine va_iald (f := P) (n := np) hx hb hK hP 3 0 rfl rfl h4 dX8_goAct_75 ?_
    refine lv_iload_n hx hb dX8_goAct_76 rfl (lv_at hl 0 rfl) ?_
    refine lv_if_eq (tgt := 93) hx hb dX8_goAct_77 (by decide) (fun c5 => ?_) (fun c5 => ?_)
    · have hf := itP c5 hf
      refine lv_aload_n hx hb dX8_goAct_93 rfl (lv_at hl 1 rfl) ?_
      refine va_get (D := D) (ci := 7) (v := .ref (jam 3)) (C := RX8) (T := TX8) (N := 31) hx hb ht inX8 hown hK hP 0 rfl rfl 9 (by decide) (ht _ wd3_194) (fun _ h9 => h9) rfl dX8_goAct_94 ?_
      refine lv_iconst (v := (5 : Int32)) hx hb dX8_goAct_97 rfl ?_
      refine lv_iload_n hx hb dX8_goAct_98 rfl (lv_at hl 3 rfl) ?_
      refine lv_imul hx hb dX8_goAct_99 ?_
      refine lv_iconst (v := (2 : Int32)) hx hb dX8_goAct_100 rfl ?_
      refine lv_iadd hx hb dX8_goAct_101 ?_
      obtain ⟨h6, hf⟩ := inB_s hf
      refine va_iald (f := (Sm.2.1 3)) (n := 20) hx hb hK hP 2 0 rfl rfl h6 dX8_goAct_102 ?_
      refine lv_ineg hx hb dX8_goAct_103 ?_
      exact hj104 P (15 : Int32) (P (15 : Int32).toNatClampNeg) (-((Sm.2.1 3) (((5 : Int32) * x2) + (2 : Int32)).toNatClampNeg)) hf _ _ _ hP hD hS (lv_sub hl [] rfl)
    · have hf := itN c5 hf
      refine lv_aload_n hx hb dX8_goAct_80 rfl (lv_at hl 1 rfl) ?_
      refine va_get (D := D) (ci := 7) (v := .ref (jam 3)) (C := RX8) (T := TX8) (N := 31) hx hb ht inX8 hown hK hP 0 rfl rfl 9 (by decide) (ht _ wd3_194) (fun _ h9 => h9) rfl dX8_goAct_81 ?_
      refine lv_iconst (v := (5 : Int32)) hx hb dX8_goAct_84 rfl ?_
      refine lv_iload_n hx hb dX8_goAct_85 rfl (lv_at hl 3 rfl) ?_
      refine lv_imul hx hb dX8_goAct_86 ?_
      refine lv_iconst (v := (2 : Int32)) hx hb dX8_goAct_87 rfl ?_
      refine lv_iadd hx hb dX8_goAct_88 ?_
      obtain ⟨h7, hf⟩ := inB_s hf
      refine va_iald (f := (Sm.2.1 3)) (n := 20) hx hb hK hP 2 0 rfl rfl h7 dX8_goAct_89 ?_
      refine lv_goto (tgt := 104) hx hb dX8_goAct_90 (by decide) ?_
      exact hj104 P (15 : Int32) (P (15 : Int32).toNatClampNeg) ((Sm.2.1 3) (((5 : Int32) * x2) + (2 : Int32)).toNatClampNeg) hf _ _ _ hP hD hS (lv_sub hl [] rfl)
  intro H locs hP hS
  refine lv_aload_n hx hb dX8_goAct_0 rfl (lv_at hl 0 rfl) ?_
  refine lv_aload_n hx hb dX8_goAct_1 rfl (lv_at hl 1 rfl) ?_
  refine lv_aload_n hx hb dX8_goAct_2 rfl (lv_at hl 0 rfl) ?_
  refine va_get (D := D) (ci := 7) (v := .ref (jam 3)) (C := RX8) (T := TX8) (N := 31) hx hb ht inX8 hown hK hP 0 rfl rfl 9 (by decide) (ht _ wd3_194) (fun _ h9 => h9) rfl dX8_goAct_3 ?_
  refine lv_iconst (v := (5 : Int32)) hx hb dX8_goAct_6 rfl ?_
  refine lv_iload_n hx hb dX8_goAct_7 rfl (lv_at hl 2 rfl) ?_
  refine lv_imul hx hb dX8_goAct_8 ?_
  refine lv_iconst (v := (3 : Int32)) hx hb dX8_goAct_9 rfl ?_
  refine lv_iadd hx hb dX8_goAct_10 ?_
  obtain ⟨h8, hf⟩ := inB_s hf
  refine va_iald (f := (Sm.2.1 3)) (n := 20) hx hb hK hP 2 0 rfl rfl h8 dX8_goAct_11 ?_
  refine lv_aload_n hx hb dX8_goAct_12 rfl (lv_at hl 0 rfl) ?_
  refine va_get (D := D) (ci := 7) (v := .ref (jam 3)) (C := RX8) (T := TX8) (N := 31) hx hb ht inX8 hown hK hP 0 rfl rfl 9 (by decide) (ht _ wd3_194) (fun _ h9 => h9) rfl dX8_goAct_13 ?_
  refine lv_iconst (v := (5 : Int32)) hx hb dX8_goAct_16 rfl ?_
  refine lv_iload_n hx hb dX8_goAct_17 rfl (lv_at hl 2 rfl) ?_
  refine lv_imul hx hb dX8_goAct_18 ?_
  refine lv_iconst (v := (4 : Int32)) hx hb dX8_goAct_19 rfl ?_
  refine lv_iadd hx hb dX8_goAct_20 ?_
  obtain ⟨h9, hf⟩ := inB_s hf
  refine va_iald (f := (Sm.2.1 3)) (n := 20) hx hb hK hP 2 0 rfl rfl h9 dX8_goAct_21 ?_
  obtain ⟨u10, e11, hf⟩ := bdS hf
  refine k_wVv (ws' := (wX8_goAct cI cZ jhm jam jhp np Sm u10)) (wr := [(jhm, .inr (7, [.int (Sm.1 0), .ref (jam 0), .int (Sm.1 1), .int (Sm.1 2), .int (Sm.1 3), .int (Sm.1 4), .int (Sm.1 5), .ref (jam 1), .ref (jam 2), .ref (jam 3), .int (Sm.1 6), .int (Sm.1 7), .int (Sm.1 8), .ref (jam 4), .ref (jam 5), .ref (jam 6), .ref (jam 7), .ref (jam 8), .ref (jam 9), .int (Sm.1 9), .ref (jam 10), .ref (jam 11), .int (Sm.1 10), .ref (jam 12), .ref (jam 13), .long Sm.2.2, .ref (jam 14), .ref (jam 15), .int (Sm.1 11), .int (Sm.1 12), .int (Sm.1 13)])), (jam 2, .inl (cI, 16, .inl (Sm.2.1 2))), (jam 3, .inl (cI, 20, .inl (Sm.2.1 3)))]) (As := [.ref jhp, .int ((Sm.2.1 3) (((5 : Int32) * x2) + (3 : Int32)).toNatClampNeg), .int ((Sm.2.1 3) (((5 : Int32) * x2) + (4 : Int32)).toNatClampNeg)]) (rest := []) hC miX8_give mjX8_give.1 mjX8_give.2 wd4_136 (qX8_give l D cI cZ cO jhp np jhm P ((Sm.2.1 3) (((5 : Int32) * x2) + (3 : Int32)).toNatClampNeg) ((Sm.2.1 3) (((5 : Int32) * x2) + (4 : Int32)).toNatClampNeg) H.size u10 e11) ⟨Nat.le_of_ble_eq_true rfl, Nat.le_of_ble_eq_true rfl⟩ hP hD hK hZ hS hA [3] [0, 1, 2] [0, 1, 2, 3] rfl (by decide) rfl (by decide) (by decide) (by decide) rfl (va_recv hK hP (ci := 7) (q0 := 0) rfl rfl) hl.1 rfl rfl (Nat.le_of_ble_eq_true rfl) dX8_goAct_22 (fun H locs hP hD hS => ?_)
  refine lv_aload_n hx hb dX8_goAct_25 rfl (lv_at hl 1 rfl) ?_
  refine lv_bipush (v := (13 : Int32)) hx hb dX8_goAct_26 rfl ?_
  refine lv_dup2_11 hx hb dX8_goAct_28 rfl rfl ?_
  obtain ⟨h12, hf⟩ := inB_s hf
  refine va_iald (f := u10) (n := np) hx hb hK hP 3 0 rfl rfl h12 dX8_goAct_29 ?_
  refine lv_iconst (v := (1 : Int32)) hx hb dX8_goAct_30 rfl ?_
  refine lv_iload_n hx hb dX8_goAct_31 rfl (lv_at hl 2 rfl) ?_
  refine lv_ishl hx hb dX8_goAct_32 ?_
  refine lv_ior hx hb dX8_goAct_33 ?_
  obtain ⟨v13, ev13, hf⟩ := nmV_s hf
  rw [← ev13]
  obtain ⟨h14, hf⟩ := inB_s hf
  obtain ⟨j15, ej15, hf⟩ := nmV_s hf
  refine va_iast (f := u10) (n := np) hx hb hK hP hD hS 3 0 rfl rfl h14 dX8_goAct_34 (fun H locs hP hD hS => ?_)
  rw [← ej15] at hP hD
  have hP : va_P D vwCl (wX8_goAct cI cZ jhm jam jhp np Sm (upd u10 j15 v13)) H := hP
  have hD : va_D A (wX8_goAct cI cZ jhm jam jhp np Sm (upd u10 j15 v13)) := hD
  refine lv_aload_n hx hb dX8_goAct_35 rfl (lv_at hl 0 rfl) ?_
  refine va_get (D := D) (ci := 7) (v := .ref (jam 2)) (C := RX8) (T := TX8) (N := 31) hx hb ht inX8 hown hK hP 0 rfl rfl 8 (by decide) (ht _ wd3_193) (fun _ h9 => h9) rfl dX8_goAct_36 ?_
  refine lv_iconst (v := (4 : Int32)) hx hb dX8_goAct_39 rfl ?_
  refine lv_aload_n hx hb dX8_goAct_40 rfl (lv_at hl 0 rfl) ?_
  refine va_get (D := D) (ci := 7) (v := .ref (jam 3)) (C := RX8) (T := TX8) (N := 31) hx hb ht inX8 hown hK hP 0 rfl rfl 9 (by decide) (ht _ wd3_194) (fun _ h9 => h9) rfl dX8_goAct_41 ?_
  refine lv_iconst (v := (5 : Int32)) hx hb dX8_goAct_44 rfl ?_
  refine lv_iload_n hx hb dX8_goAct_45 rfl (lv_at hl 2 rfl) ?_
  refine lv_imul hx hb dX8_goAct_46 ?_
  obtain ⟨h16, hf⟩ := inB_s hf
  refine va_iald (f := (Sm.2.1 3)) (n := 20) hx hb hK hP 2 0 rfl rfl h16 dX8_goAct_47 ?_
  refine lv_imul hx hb dX8_goAct_48 ?_
  refine lv_iconst (v := (2 : Int32)) hx hb dX8_goAct_49 rfl ?_
  refine lv_iadd hx hb dX8_goAct_50 ?_
  obtain ⟨h17, hf⟩ := inB_s hf
  refine va_iald (f := (Sm.2.1 2)) (n := 16) hx hb hK hP 1 0 rfl rfl h17 dX8_goAct_51 ?_
  refine lv_aload_n hx hb dX8_goAct_52 rfl (lv_at hl 0 rfl) ?_
  refine va_get (D := D) (ci := 7) (v := .ref (jam 3)) (C := RX8) (T := TX8) (N := 31) hx hb ht inX8 hown hK hP 0 rfl rfl 9 (by decide) (ht _ wd3_194) (fun _ h9 => h9) rfl dX8_goAct_53 ?_
  refine lv_iconst (v := (5 : Int32)) hx hb dX8_goAct_56 rfl ?_
  refine lv_iload_n hx hb dX8_goAct_57 rfl (lv_at hl 2 rfl) ?_
  refine lv_imul hx hb dX8_goAct_58 ?_
  refine lv_iconst (v := (1 : Int32)) hx hb dX8_goAct_59 rfl ?_
  refine lv_iadd hx hb dX8_goAct_60 ?_
  obtain ⟨h18, hf⟩ := inB_s hf
  refine va_iald (f := (Sm.2.1 3)) (n := 20) hx hb hK hP 2 0 rfl rfl h18 dX8_goAct_61 ?_
  refine lv_icmp_ne (tgt := 69) hx hb dX8_goAct_62 (by decide) (fun c19 => ?_) (fun c19 => ?_)
  · have hf := itN c19 hf
    refine lv_iconst (v := (0 : Int32)) hx hb dX8_goAct_69 rfl ?_
    exact hj70 (upd u10 j15 v13) (0 : Int32) hf _ _ _ hP hD hS (lv_sub hl [0, 1, 2] rfl)
  · have hf := itP c19 hf
    refine lv_iconst (v := (1 : Int32)) hx hb dX8_goAct_65 rfl ?_
    refine lv_goto (tgt := 70) hx hb dX8_goAct_66 (by decide) ?_
    exact hj70 (upd u10 j15 v13) (1 : Int32) hf _ _ _ hP hD hS (lv_sub hl [0, 1, 2] rfl)
