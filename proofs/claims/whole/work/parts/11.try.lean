def fX8_in (x0 : Int64) (x2 : Int64) (x4 : Int64) : Option (Int32) := (if (lg_cmp x0 x2) < 0 then some (0 : Int32) else (if 0 < (lg_cmp x0 x4) then some (0 : Int32) else some (1 : Int32)))
theorem miX8_in : MI yX8_in cX8_in 6 (some .boolean) 3 := ⟨wd1_8, wd4_46, by decide +kernel⟩
theorem mjX8_in : Cond.static yX8_in ∈ wT := wd4_45
set_option maxHeartbeats 4000000 in
set_option maxRecDepth 100000 in
theorem qX8_in (l : Launch) (x0 : Int64) (x2 : Int64) (x4 : Int64) (res : Int32) (hf : fX8_in x0 x2 x4 = some res) : Met l yX8_in (Cond.code yX8_in cX8_in 6 (some .boolean) :: wT) (rmF 0 0) (va_Pc [.long x0, .long x2, .long x4] (fun _ => True)) (vp_Si (fun r => r = res)) 0 0 (fun _ => False) := by
  refine met_p (by decide) (Nat.le_of_ble_eq_true rfl) ?_
  intro p e s m below meth c hx hb hr hml ht hown hlk ls hl
  have hown : s.vm.findClass "EyeDrinkModel" = some m.cls := hown
  have hl : lv_has ls 6 [(0, .long x0), (2, .long x2), (4, .long x4)] := hl
  unfold fX8_in at hf
  refine lv_lload_n hx hb dX8_in_0 rfl (lv_at hl 0 rfl) ?_
  refine lv_lload_n hx hb dX8_in_1 rfl (lv_at hl 1 rfl) ?_
  refine W.lcmp hx hb dX8_in_2 ?_
  refine lv_if_lt (tgt := 17) hx hb dX8_in_3 (by decide) (fun c1 => ?_) (fun c1 => ?_)
  · have hf := itP c1 hf
    refine lv_iconst (v := (0 : Int32)) hx hb dX8_in_17 rfl ?_
    exact W.zret hx hb hr rfl (fun t ht9 _ => ⟨_, rfl, Option.some.inj hf, ht9⟩) (fun _ h9 => by cases h9) dX8_in_18
  · have hf := itN c1 hf
    refine lv_lload_n hx hb dX8_in_6 rfl (lv_at hl 0 rfl) ?_
    refine lv_lload hx hb dX8_in_7 (lv_at hl 2 rfl) ?_
    refine W.lcmp hx hb dX8_in_9 ?_
    refine lv_if_gt (tgt := 17) hx hb dX8_in_10 (by decide) (fun c2 => ?_) (fun c2 => ?_)
    · have hf := itP c2 hf
      refine lv_iconst (v := (0 : Int32)) hx hb dX8_in_17 rfl ?_
      exact W.zret hx hb hr rfl (fun t ht9 _ => ⟨_, rfl, Option.some.inj hf, ht9⟩) (fun _ h9 => by cases h9) dX8_in_18
    · have hf := itN c2 hf
      refine lv_iconst (v := (1 : Int32)) hx hb dX8_in_13 rfl ?_
      refine lv_goto (tgt := 18) hx hb dX8_in_14 (by decide) ?_
      exact W.zret hx hb hr rfl (fun t ht9 _ => ⟨_, rfl, Option.some.inj hf, ht9⟩) (fun _ h9 => by cases h9) dX8_in_18
def fX8_has (x0 : Int32) (x1 : Int32) : Option (Int32) := (if ((x0 >>> (x1 &&& 31)) &&& (1 : Int32)) = (1 : Int32) then some (1 : Int32) else some (0 : Int32))
theorem miX8_has : MI yX8_has cX8_has 2 (some .boolean) 2 := ⟨wd1_8, wd4_110, by decide +kernel⟩
theorem mjX8_has : Cond.static yX8_has ∈ wT := wd4_109
set_option maxHeartbeats 4000000 in
set_option maxRecDepth 100000 in
theorem qX8_has (l : Launch) (x0 : Int32) (x1 : Int32) (res : Int32) (hf : fX8_has x0 x1 = some res) : Met l yX8_has (Cond.code yX8_has cX8_has 2 (some .boolean) :: wT) (rmF 0 0) (va_Pc [.int x0, .int x1] (fun _ => True)) (vp_Si (fun r => r = res)) 0 0 (fun _ => False) := by
  refine met_p (by decide) (Nat.le_of_ble_eq_true rfl) ?_
  intro p e s m below meth c hx hb hr hml ht hown hlk ls hl
  have hown : s.vm.findClass "EyeDrinkModel" = some m.cls := hown
  have hl : lv_has ls 2 [(0, .int x0), (1, .int x1)] := hl
  unfold fX8_has at hf
  refine lv_iload_n hx hb dX8_has_0 rfl (lv_at hl 0 rfl) ?_
  refine lv_iload_n hx hb dX8_has_1 rfl (lv_at hl 1 rfl) ?_
  refine lv_ishr hx hb dX8_has_2 ?_
  refine lv_iconst (v := (1 : Int32)) hx hb dX8_has_3 rfl ?_
  refine lv_iand hx hb dX8_has_4 ?_
  refine lv_iconst (v := (1 : Int32)) hx hb dX8_has_5 rfl ?_
  refine lv_icmp_ne (tgt := 13) hx hb dX8_has_6 (by decide) (fun c1 => ?_) (fun c1 => ?_)
  · have hf := itN c1 hf
    refine lv_iconst (v := (0 : Int32)) hx hb dX8_has_13 rfl ?_
    exact W.zret hx hb hr rfl (fun t ht9 _ => ⟨_, rfl, Option.some.inj hf, ht9⟩) (fun _ h9 => by cases h9) dX8_has_14
  · have hf := itP c1 hf
    refine lv_iconst (v := (1 : Int32)) hx hb dX8_has_9 rfl ?_
    refine lv_goto (tgt := 14) hx hb dX8_has_10 (by decide) ?_
    exact W.zret hx hb hr rfl (fun t ht9 _ => ⟨_, rfl, Option.some.inj hf, ht9⟩) (fun _ h9 => by cases h9) dX8_has_14
def sX8_many_4 (x0 : Int32) (k4 : Int32 → Int32 → Option (Int32)) (x1 : Int32) (x2 : Int32) : Option (Int32) := (if (4 : Int32) ≤ x2 then some x1 else k4 (x1 + ((x0 >>> (x2 &&& 31)) &&& (1 : Int32))) (x2 + (1 : Int32)))
def fX8_many (x0 : Int32) : Option (Int32) := lk2 (sX8_many_4 x0) 1000 (0 : Int32) (0 : Int32)
theorem miX8_many : MI yX8_many cX8_many 3 (some .int) 1 := ⟨wd1_8, wd4_200, by decide +kernel⟩
theorem mjX8_many : Cond.static yX8_many ∈ wT := wd4_199
set_option maxHeartbeats 4000000 in
set_option maxRecDepth 100000 in
theorem qX8_many (l : Launch) (x0 : Int32) (res : Int32) (hf : fX8_many x0 = some res) : Met l yX8_many (Cond.code yX8_many cX8_many 3 (some .int) :: wT) (rmF 0 0) (va_Pc [.int x0] (fun _ => True)) (vp_Si (fun r => r = res)) 0 0 (fun _ => False) := by
  refine met_p (by decide) (Nat.le_of_ble_eq_true rfl) ?_
  intro p e s m below meth c hx hb hr hml ht hown hlk ls hl
  have hown : s.vm.findClass "EyeDrinkModel" = some m.cls := hown
  have hl : lv_has ls 3 [(0, .int x0)] := hl
  unfold fX8_many at hf
  have hj4 : ∀ (x1 : Int32) (x2 : Int32), lk2 (sX8_many_4 x0) 1000 x1 x2 = some res → ∀ (ls : Array Slot), lv_has ls 3 [(0, .int x0), (1, .int x1), (2, .int x2)] → W p l e (rmF 0 0) s m ([.int x0] : List Value).toArray below meth c s.heap [] 0 0 (MQ below (vp_Si (fun r => r = res)) ([.int x0] : List Value).toArray s 0 0 (fun _ => False)) (F0 m 4 ls []) := by
    refine lk2_w (fun (x1 : Int32) (x2 : Int32) => ∀ (ls : Array Slot), lv_has ls 3 [(0, .int x0), (1, .int x1), (2, .int x2)] → W p l e (rmF 0 0) s m ([.int x0] : List Value).toArray below meth c s.heap [] 0 0 (MQ below (vp_Si (fun r => r = res)) ([.int x0] : List Value).toArray s 0 0 (fun _ => False)) (F0 m 4 ls [])) ?_ 1000
    intro k4 hk4 x1 x2 hf ls hl
    unfold sX8_many_4 at hf
    refine lv_iload_n hx hb dX8_many_4 rfl (lv_at hl 2 rfl) ?_
    refine lv_iconst (v := (4 : Int32)) hx hb dX8_many_5 rfl ?_
    refine lv_icmp_ge (tgt := 23) hx hb dX8_many_6 (by decide) (fun c1 => ?_) (fun c1 => ?_)
    · have hf := itP c1 hf
      refine lv_iload_n hx hb dX8_many_23 rfl (lv_at hl 1 rfl) ?_
      exact W.iret hx hb hr (fun t ht9 _ => ⟨_, rfl, Option.some.inj hf, ht9⟩) (fun _ h9 => by cases h9) dX8_many_24
    · have hf := itN c1 hf
      refine lv_iload_n hx hb dX8_many_9 rfl (lv_at hl 1 rfl) ?_
      refine lv_iload_n hx hb dX8_many_10 rfl (lv_at hl 0 rfl) ?_
      refine lv_iload_n hx hb dX8_many_11 rfl (lv_at hl 2 rfl) ?_
      refine lv_ishr hx hb dX8_many_12 ?_
      refine lv_iconst (v := (1 : Int32)) hx hb dX8_many_13 rfl ?_
      refine lv_iand hx hb dX8_many_14 ?_
      refine lv_iadd hx hb dX8_many_15 ?_
      refine lv_istore_n (lv' := [(1, .int (x1 + ((x0 >>> (x2 &&& 31)) &&& (1 : Int32)))), (0, .int x0), (2, .int x2)]) hx hb dX8_many_16 rfl hl (by decide) rfl (fun ls hl => ?_)
      refine lv_iinc (v := (x2 + (1 : Int32))) (lv' := [(2, .int (x2 + (1 : Int32))), (1, .int (x1 + ((x0 >>> (x2 &&& 31)) &&& (1 : Int32)))), (0, .int x0)]) hx hb dX8_many_17 hl (k := 2) rfl rfl (by decide) rfl (fun ls hl => ?_)
      refine lv_goto (tgt := 4) hx hb dX8_many_20 (by decide) ?_
      exact hk4 (x1 + ((x0 >>> (x2 &&& 31)) &&& (1 : Int32))) (x2 + (1 : Int32)) hf _ (lv_sub hl [2, 1, 0] rfl)
  refine lv_iconst (v := (0 : Int32)) hx hb dX8_many_0 rfl ?_
  refine lv_istore_n (lv' := [(1, .int (0 : Int32)), (0, .int x0)]) hx hb dX8_many_1 rfl hl (by decide) rfl (fun ls hl => ?_)
  refine lv_iconst (v := (0 : Int32)) hx hb dX8_many_2 rfl ?_
  refine lv_istore_n (lv' := [(2, .int (0 : Int32)), (1, .int (0 : Int32)), (0, .int x0)]) hx hb dX8_many_3 rfl hl (by decide) rfl (fun ls hl => ?_)
  exact hj4 (0 : Int32) (0 : Int32) hf _ (lv_sub hl [2, 1, 0] rfl)
abbrev wX8_noQuestion (cI cZ : ClassId) (hm : Nat) (am : Nat → Nat) (Sm : Bk) : va_W := [(hm, .inr (7, [.int (Sm.1 0), .ref (am 0), .int (Sm.1 1), .int (Sm.1 2), .int (Sm.1 3), .int (Sm.1 4), .int (Sm.1 5), .ref (am 1), .ref (am 2), .ref (am 3), .int (Sm.1 6), .int (Sm.1 7), .int (Sm.1 8), .ref (am 4), .ref (am 5), .ref (am 6), .ref (am 7), .ref (am 8), .ref (am 9), .int (Sm.1 9), .ref (am 10), .ref (am 11), .int (Sm.1 10), .ref (am 12), .ref (am 13), .long Sm.2.2, .ref (am 14), .ref (am 15), .int (Sm.1 11), .int (Sm.1 12), .int (Sm.1 13)]))]
def fX8_noQuestion (Sm : Bk) (x1 : Int32) : Option (Int32) := (fX8_in x1.toInt64 (0 : Int64) (((Sm.1 4) - (1 : Int32)).toInt64)).bind (fun u1 => (if u1 = 0 then some (1 : Int32) else some (0 : Int32)))
theorem miX8_noQuestion : MI yX8_noQuestion cX8_noQuestion 2 (some .boolean) 1 := ⟨wd1_8, wd4_107, by decide +kernel⟩
theorem mjX8_noQuestion : Cond.instanceMethod yX8_noQuestion ∈ wT ∧ Cond.selects yX8_noQuestion.cls yX8_noQuestion yX8_noQuestion ∈ wT := ⟨wd4_106, ws_21⟩
set_option maxHeartbeats 4000000 in
set_option maxRecDepth 100000 in
theorem qX8_noQuestion (l : Launch) (D : va_G) (cI cZ cO : ClassId) (hm : Nat) (am : Nat → Nat) (Sm : Bk) (x1 : Int32) (res : Int32) (hf : fX8_noQuestion Sm x1 = some res) : Met l yX8_noQuestion (Cond.code yX8_noQuestion cX8_noQuestion 2 (some .boolean) :: wT) (rmF 1 25) (va_Pc [.ref hm, .int x1] (cR D (tyL cI cZ cO) (wX8_noQuestion cI cZ hm am Sm))) (vp_Si (fun r => r = res)) 0 0 (fun _ => False) := by
  refine met_r (by decide) (Nat.le_of_ble_eq_true rfl) ?_
  intro p e s m below meth c hx hb hr hml ht hown hlk ls hl hP hK hZ
  have hS : va_S (fun _ => False) s.heap s.heap [] := va_S.rf
  have hown : s.vm.findClass "EyeDrinkModel" = some m.cls := hown
  have hl : lv_has ls 2 [(0, .ref hm), (1, .int x1)] := hl
  have hC : CallFix p m c cX8_noQuestion 2 s ([.ref hm, .int x1] : List Value).toArray wT "EyeDrinkModel" := ⟨hx, hb, hml, hown, ht⟩
  unfold fX8_noQuestion at hf
  refine lv_iload_n hx hb dX8_noQuestion_0 rfl (lv_at hl 1 rfl) ?_
  refine lv_i2l hx hb dX8_noQuestion_1 rfl ?_
  refine lv_lconst (v := 0) hx hb dX8_noQuestion_2 rfl ?_
  refine lv_aload_n hx hb dX8_noQuestion_3 rfl (lv_at hl 0 rfl) ?_
  refine va_get (D := D) (ci := 7) (v := .int (Sm.1 4)) (C := RX8) (T := TX8) (N := 31) hx hb ht inX8 hown hK hP 0 rfl rfl 5 (by decide) (ht _ wd3_190) (fun _ h9 => h9) rfl dX8_noQuestion_4 ?_
  refine lv_iconst (v := (1 : Int32)) hx hb dX8_noQuestion_7 rfl ?_
  refine lv_isub hx hb dX8_noQuestion_8 ?_
  refine lv_i2l hx hb dX8_noQuestion_9 rfl ?_
  obtain ⟨u1, e2, hf⟩ := bdS hf
  refine k_pS (As := [.long x1.toInt64, .long (0 : Int64), .long ((Sm.1 4) - (1 : Int32)).toInt64]) (rest := []) hC miX8_in mjX8_in wd4_44 (qX8_in l x1.toInt64 (0 : Int64) (((Sm.1 4) - (1 : Int32)).toInt64) u1 e2) ⟨Nat.le_of_ble_eq_true rfl, Nat.le_of_ble_eq_true rfl⟩ hl.1 rfl rfl (Nat.le_of_ble_eq_true rfl) dX8_noQuestion_10 ?_
  refine lv_if_ne (tgt := 20) hx hb dX8_noQuestion_13 (by decide) (fun c3 => ?_) (fun c3 => ?_)
  · have hf := itN c3 hf
    refine lv_iconst (v := (0 : Int32)) hx hb dX8_noQuestion_20 rfl ?_
    exact W.zret hx hb hr rfl (fun t ht9 _ => ⟨_, rfl, Option.some.inj hf, ht9⟩) (fun _ h9 => by cases h9) dX8_noQuestion_21
  · have hf := itP c3 hf
    refine lv_iconst (v := (1 : Int32)) hx hb dX8_noQuestion_16 rfl ?_
    refine lv_goto (tgt := 21) hx hb dX8_noQuestion_17 (by decide) ?_
    exact W.zret hx hb hr rfl (fun t ht9 _ => ⟨_, rfl, Option.some.inj hf, ht9⟩) (fun _ h9 => by cases h9) dX8_noQuestion_21
abbrev wX8_write (cI cZ : ClassId) (hm : Nat) (am : Nat → Nat) (Sm : Bk) : va_W := [(hm, .inr (7, [.int (Sm.1 0), .ref (am 0), .int (Sm.1 1), .int (Sm.1 2), .int (Sm.1 3), .int (Sm.1 4), .int (Sm.1 5), .ref (am 1), .ref (am 2), .ref (am 3), .int (Sm.1 6), .int (Sm.1 7), .int (Sm.1 8), .ref (am 4), .ref (am 5), .ref (am 6), .ref (am 7), .ref (am 8), .ref (am 9), .int (Sm.1 9), .ref (am 10), .ref (am 11), .int (Sm.1 10), .ref (am 12), .ref (am 13), .long Sm.2.2, .ref (am 14), .ref (am 15), .int (Sm.1 11), .int (Sm.1 12), .int (Sm.1 13)])), (am 0, .inl (cI, 64, .inl (Sm.2.1 0)))]
def fX8_write (Sm : Bk) (x1 : Int32) : Option (Int32 × Bk) := (fX8_in x1.toInt64 (0 : Int64) (255 : Int64)).bind (fun u1 => (if u1 = 0 then some ((-2 : Int32), (bI Sm 0 (0 : Int32))) else (if (Sm.1 1) = (64 : Int32) then some ((-4 : Int32), (bI Sm 0 (0 : Int32))) else inB 64 (Sm.1 1) (some (((Sm.1 1) + (1 : Int32)), (bI (bW (bI Sm 0 (0 : Int32)) 0 (Sm.1 1).toNatClampNeg x1) 1 ((Sm.1 1) + (1 : Int32))))))))
theorem miX8_write : MI yX8_write cX8_write 2 (some .int) 1 := ⟨wd1_8, wd4_42, by decide +kernel⟩
theorem mjX8_write : Cond.instanceMethod yX8_write ∈ wT ∧ Cond.selects yX8_write.cls yX8_write yX8_write ∈ wT := ⟨wd4_40, wd4_41⟩
set_option maxHeartbeats 4000000 in
set_option maxRecDepth 100000 in
theorem qX8_write (l : Launch) (D : va_G) (cI cZ cO : ClassId) (hm : Nat) (am : Nat → Nat) (Sm : Bk) (x1 : Int32) (sz : Nat) (res : Int32 × Bk) (hf : fX8_write Sm x1 = some res) : Met l yX8_write (Cond.code yX8_write cX8_write 2 (some .int) :: wT) (rmF 1 25) (va_Pc [.ref hm, .int x1] (cW D (tyL cI cZ cO) (wX8_write cI cZ hm am Sm) sz)) (va_Qi (S := Unit) (fun r _ => r = res.1) (fun _ => qW D (tyL cI cZ cO) (va_A (wX8_write cI cZ hm am Sm) sz) (wX8_write cI cZ hm am res.2)) (va_A (wX8_write cI cZ hm am Sm) sz)) 0 0 (va_A (wX8_write cI cZ hm am Sm) sz) := by
  refine met_w (by decide) (Nat.le_of_ble_eq_true rfl) ?_
  intro p e s m below meth c hx hb hr hml ht hown hlk ls hl hsz hP hK hD0 hZ
  subst hsz
  have hD := hD0.self (sz := s.heap.size)
  generalize hAe : va_A (wX8_write cI cZ hm am Sm) s.heap.size = A at hD hZ ⊢
  have hA : ∀ q : Nat, s.heap.size ≤ q → A q := fun q h => by rw [← hAe]; exact Or.inr h
  have hS : va_S A s.heap s.heap [] := va_S.rf
  have hown : s.vm.findClass "EyeDrinkModel" = some m.cls := hown
  have hl : lv_has ls 2 [(0, .ref hm), (1, .int x1)] := hl
  have hC : CallFix p m c cX8_write 2 s ([.ref hm, .int x1] : List Value).toArray wT "EyeDrinkModel" := ⟨hx, hb, hml, hown, ht⟩
  unfold fX8_write at hf
  suffices hgo : ∀ (H : Heap) (locs : List Loc), va_P D vwCl (wX8_write cI cZ hm am Sm) H → va_S A s.heap H locs → W p l e (rmF 1 25) s m ([.ref hm, .int x1] : List Value).toArray below meth c H locs 0 0 (MQ below (va_Qi (S := Unit) (fun r _ => r = res.1) (fun _ => qW D (tyL cI cZ cO) A (wX8_write cI cZ hm am res.2)) A) ([.ref hm, .int x1] : List Value).toArray s 0 0 A) (F0 m 0 ls []) from hgo s.heap [] hP hS
  intro H locs hP hS
  refine lv_aload_n hx hb dX8_write_0 rfl (lv_at hl 0 rfl) ?_
  refine lv_iconst (v := (0 : Int32)) hx hb dX8_write_1 rfl ?_
  refine va_put (D := D) (ci := 7) (v := .int (0 : Int32)) (ty := .int) (C := RX8) (T := TX8) (N := 31) hx hb ht inX8 tyX8 tyX8_ok nmX8 hown hK hP hD hS 0 rfl rfl 0 (by decide) (ht _ wd3_185) (fun _ h9 => h9) rfl (tyX8_ok 0 (by decide)) rfl rfl (Nat.le_of_ble_eq_true rfl) dX8_write_2 (fun H locs hP hD hS => ?_)
  have hP : va_P D vwCl (wX8_write cI cZ hm am (bI Sm 0 (0 : Int32))) H := hP
  have hD : va_D A (wX8_write cI cZ hm am (bI Sm 0 (0 : Int32))) := hD
  refine lv_iload_n hx hb dX8_write_5 rfl (lv_at hl 1 rfl) ?_
  refine lv_i2l hx hb dX8_write_6 rfl ?_
  refine lv_lconst (v := 0) hx hb dX8_write_7 rfl ?_
  refine lv_ldc2 hx hb hown (ht _ wd4_43) dX8_write_8 ?_
  obtain ⟨u1, e2, hf⟩ := bdS hf
  refine k_pS (As := [.long x1.toInt64, .long (0 : Int64), .long (255 : Int64)]) (rest := []) hC miX8_in mjX8_in wd4_44 (qX8_in l x1.toInt64 (0 : Int64) (255 : Int64) u1 e2) ⟨Nat.le_of_ble_eq_true rfl, Nat.le_of_ble_eq_true rfl⟩ hl.1 rfl rfl (Nat.le_of_ble_eq_true rfl) dX8_write_11 ?_
  refine lv_if_ne (tgt := 20) hx hb dX8_write_14 (by decide) (fun c3 => ?_) (fun c3 => ?_)
  · have hf := itN c3 hf
    refine lv_aload_n hx hb dX8_write_20 rfl (lv_at hl 0 rfl) ?_
    refine va_get (D := D) (ci := 7) (v := .int (Sm.1 1)) (C := RX8) (T := TX8) (N := 31) hx hb ht inX8 hown hK hP 0 rfl rfl 2 (by decide) (ht _ wd3_187) (fun _ h9 => h9) rfl dX8_write_21 ?_
    refine lv_bipush (v := (64 : Int32)) hx hb dX8_write_24 rfl ?_
    refine lv_icmp_ne (tgt := 32) hx hb dX8_write_26 (by decide) (fun c4 => ?_) (fun c4 => ?_)
    · have hf := itN c4 hf
      refine lv_aload_n hx hb dX8_write_32 rfl (lv_at hl 0 rfl) ?_
      refine va_get (D := D) (ci := 7) (v := .ref (am 0)) (C := RX8) (T := TX8) (N := 31) hx hb ht inX8 hown hK hP 0 rfl rfl 1 (by decide) (ht _ wd3_186) (fun _ h9 => h9) rfl dX8_write_33 ?_
      refine lv_aload_n hx hb dX8_write_36 rfl (lv_at hl 0 rfl) ?_
      refine va_get (D := D) (ci := 7) (v := .int (Sm.1 1)) (C := RX8) (T := TX8) (N := 31) hx hb ht inX8 hown hK hP 0 rfl rfl 2 (by decide) (ht _ wd3_187) (fun _ h9 => h9) rfl dX8_write_37 ?_
      refine lv_iload_n hx hb dX8_write_40 rfl (lv_at hl 1 rfl) ?_
      obtain ⟨h5, hf⟩ := inB_s hf
      refine va_iast (f := (Sm.2.1 0)) (n := 64) hx hb hK hP hD hS 1 0 rfl rfl h5 dX8_write_41 (fun H locs hP hD hS => ?_)
      have hP : va_P D vwCl (wX8_write cI cZ hm am (bW (bI Sm 0 (0 : Int32)) 0 (Sm.1 1).toNatClampNeg x1)) H := hP
      have hD : va_D A (wX8_write cI cZ hm am (bW (bI Sm 0 (0 : Int32)) 0 (Sm.1 1).toNatClampNeg x1)) := hD
      refine lv_aload_n hx hb dX8_write_42 rfl (lv_at hl 0 rfl) ?_
      refine lv_dup hx hb dX8_write_43 rfl ?_
      refine va_get (D := D) (ci := 7) (v := .int (Sm.1 1)) (C := RX8) (T := TX8) (N := 31) hx hb ht inX8 hown hK hP 0 rfl rfl 2 (by decide) (ht _ wd3_187) (fun _ h9 => h9) rfl dX8_write_44 ?_
      refine lv_iconst (v := (1 : Int32)) hx hb dX8_write_47 rfl ?_
      refine lv_iadd hx hb dX8_write_48 ?_
      refine va_put (D := D) (ci := 7) (v := .int ((Sm.1 1) + (1 : Int32))) (ty := .int) (C := RX8) (T := TX8) (N := 31) hx hb ht inX8 tyX8 tyX8_ok nmX8 hown hK hP hD hS 0 rfl rfl 2 (by decide) (ht _ wd3_187) (fun _ h9 => h9) rfl (tyX8_ok 2 (by decide)) rfl rfl (Nat.le_of_ble_eq_true rfl) dX8_write_49 (fun H locs hP hD hS => ?_)
      have hP : va_P D vwCl (wX8_write cI cZ hm am (bI (bW (bI Sm 0 (0 : Int32)) 0 (Sm.1 1).toNatClampNeg x1) 1 ((Sm.1 1) + (1 : Int32)))) H := hP
      have hD : va_D A (wX8_write cI cZ hm am (bI (bW (bI Sm 0 (0 : Int32)) 0 (Sm.1 1).toNatClampNeg x1) 1 ((Sm.1 1) + (1 : Int32)))) := hD
      refine lv_aload_n hx hb dX8_write_52 rfl (lv_at hl 0 rfl) ?_
      refine va_get (D := D) (ci := 7) (v := .int ((Sm.1 1) + (1 : Int32))) (C := RX8) (T := TX8) (N := 31) hx hb ht inX8 hown hK hP 0 rfl rfl 2 (by decide) (ht _ wd3_187) (fun _ h9 => h9) rfl dX8_write_53 ?_
      cases hf
      exact W.iret hx hb hr (fun t ht9 hW => ⟨⟨_, (), rfl, rfl, by rw [ht9]; exact hP, va_K.moved hW.alike hK, hD⟩, hS.F ht9⟩) hS.2.2 dX8_write_56
    · have hf := itP c4 hf
      refine lv_bipush (v := (-4 : Int32)) hx hb dX8_write_29 rfl ?_
      cases hf
      exact W.iret hx hb hr (fun t ht9 hW => ⟨⟨_, (), rfl, rfl, by rw [ht9]; exact hP, va_K.moved hW.alike hK, hD⟩, hS.F ht9⟩) hS.2.2 dX8_write_31
  · have hf := itP c3 hf
    refine lv_bipush (v := (-2 : Int32)) hx hb dX8_write_17 rfl ?_
    cases hf
    exact W.iret hx hb hr (fun t ht9 hW => ⟨⟨_, (), rfl, rfl, by rw [ht9]; exact hP, va_K.moved hW.alike hK, hD⟩, hS.F ht9⟩) hS.2.2 dX8_write_19
abbrev wX8_figure (cI cZ : ClassId) (hm : Nat) (am : Nat → Nat) (Sm : Bk) : va_W := [(hm, .inr (7, [.int (Sm.1 0), .ref (am 0), .int (Sm.1 1), .int (Sm.1 2), .int (Sm.1 3), .int (Sm.1 4), .int (Sm.1 5), .ref (am 1), .ref (am 2), .ref (am 3), .int (Sm.1 6), .int (Sm.1 7), .int (Sm.1 8), .ref (am 4), .ref (am 5), .ref (am 6), .ref (am 7), .ref (am 8), .ref (am 9), .int (Sm.1 9), .ref (am 10), .ref (am 11), .int (Sm.1 10), .ref (am 12), .ref (am 13), .long Sm.2.2, .ref (am 14), .ref (am 15), .int (Sm.1 11), .int (Sm.1 12), .int (Sm.1 13)])), (am 0, .inl (cI, 64, .inl (Sm.2.1 0)))]
def fX8_figure (Sm : Bk) (x1 : Int32) (x2 : Int32) : Option (Int32 × Bk) := (if (Sm.1 2) = (Sm.1 1) then some ((-9 : Int32), Sm) else inB 64 (Sm.1 2) ((fX8_in ((((Sm.2.1 0) (Sm.1 2).toNatClampNeg) - (48 : Int32)).toInt64) x1.toInt64 x2.toInt64).bind (fun u3 => (if u3 = 0 then some ((-9 : Int32), Sm) else inB 64 (((Sm.1 2) + (1 : Int32)) - (1 : Int32)) (some ((((Sm.2.1 0) (((Sm.1 2) + (1 : Int32)) - (1 : Int32)).toNatClampNeg) - (48 : Int32)), (bI Sm 2 ((Sm.1 2) + (1 : Int32)))))))))
theorem miX8_figure : MI yX8_figure cX8_figure 3 (some .int) 2 := ⟨wd1_8, wd4_70, by decide +kernel⟩
theorem mjX8_figure : Cond.instanceMethod yX8_figure ∈ wT ∧ Cond.selects yX8_figure.cls yX8_figure yX8_figure ∈ wT := ⟨wd4_69, ws_16⟩
set_option maxHeartbeats 4000000 in
set_option maxRecDepth 100000 in
theorem qX8_figure (l : Launch) (D : va_G) (cI cZ cO : ClassId) (hm : Nat) (am : Nat → Nat) (Sm : Bk) (x1 : Int32) (x2 : Int32) (sz : Nat) (res : Int32 × Bk) (hf : fX8_figure Sm x1 x2 = some res) : Met l yX8_figure (Cond.code yX8_figure cX8_figure 3 (some .int) :: wT) (rmF 1 25) (va_Pc [.ref hm, .int x1, .int x2] (cW D (tyL cI cZ cO) (wX8_figure cI cZ hm am Sm) sz)) (va_Qi (S := Unit) (fun r _ => r = res.1) (fun _ => qW D (tyL cI cZ cO) (va_A (wX8_figure cI cZ hm am Sm) sz) (wX8_figure cI cZ hm am res.2)) (va_A (wX8_figure cI cZ hm am Sm) sz)) 0 0 (va_A (wX8_figure cI cZ hm am Sm) sz) := by
  refine met_w (by decide) (Nat.le_of_ble_eq_true rfl) ?_
  intro p e s m below meth c hx hb hr hml ht hown hlk ls hl hsz hP hK hD0 hZ
  subst hsz
  have hD := hD0.self (sz := s.heap.size)
  generalize hAe : va_A (wX8_figure cI cZ hm am Sm) s.heap.size = A at hD hZ ⊢
  have hA : ∀ q : Nat, s.heap.size ≤ q → A q := fun q h => by rw [← hAe]; exact Or.inr h
  have hS : va_S A s.heap s.heap [] := va_S.rf
  have hown : s.vm.findClass "EyeDrinkModel" = some m.cls := hown
  have hl : lv_has ls 3 [(0, .ref hm), (1, .int x1), (2, .int x2)] := hl
  have hC : CallFix p m c cX8_figure 3 s ([.ref hm, .int x1, .int x2] : List Value).toArray wT "EyeDrinkModel" := ⟨hx, hb, hml, hown, ht⟩
  unfold fX8_figure at hf
  suffices hgo : ∀ (H : Heap) (locs : List Loc), va_P D vwCl (wX8_figure cI cZ hm am Sm) H → va_S A s.heap H locs → W p l e (rmF 1 25) s m ([.ref hm, .int x1, .int x2] : List Value).toArray below meth c H locs 0 0 (MQ below (va_Qi (S := Unit) (fun r _ => r = res.1) (fun _ => qW D (tyL cI cZ cO) A (wX8_figure cI cZ hm am res.2)) A) ([.ref hm, .int x1, .int x2] : List Value).toArray s 0 0 A) (F0 m 0 ls []) from hgo s.heap [] hP hS
  intro H locs hP hS
  refine lv_aload_n hx hb dX8_figure_0 rfl (lv_at hl 0 rfl) ?_
  refine va_get (D := D) (ci := 7) (v := .int (Sm.1 2)) (C := RX8) (T := TX8) (N := 31) hx hb ht inX8 hown hK hP 0 rfl rfl 3 (by decide) (ht _ wd3_188) (fun _ h9 => h9) rfl dX8_figure_1 ?_
  refine lv_aload_n hx hb dX8_figure_4 rfl (lv_at hl 0 rfl) ?_
  refine va_get (D := D) (ci := 7) (v := .int (Sm.1 1)) (C := RX8) (T := TX8) (N := 31) hx hb ht inX8 hown hK hP 0 rfl rfl 2 (by decide) (ht _ wd3_187) (fun _ h9 => h9) rfl dX8_figure_5 ?_
  refine lv_icmp_eq (tgt := 34) hx hb dX8_figure_8 (by decide) (fun c1 => ?_) (fun c1 => ?_)
  · have hf := itP c1 hf
    refine lv_bipush (v := (-9 : Int32)) hx hb dX8_figure_34 rfl ?_
    cases hf
    exact W.iret hx hb hr (fun t ht9 hW => ⟨⟨_, (), rfl, rfl, by rw [ht9]; exact hP, va_K.moved hW.alike hK, hD⟩, hS.F ht9⟩) hS.2.2 dX8_figure_36
  · have hf := itN c1 hf
    refine lv_aload_n hx hb dX8_figure_11 rfl (lv_at hl 0 rfl) ?_
    refine va_get (D := D) (ci := 7) (v := .ref (am 0)) (C := RX8) (T := TX8) (N := 31) hx hb ht inX8 hown hK hP 0 rfl rfl 1 (by decide) (ht _ wd3_186) (fun _ h9 => h9) rfl dX8_figure_12 ?_
    refine lv_aload_n hx hb dX8_figure_15 rfl (lv_at hl 0 rfl) ?_
    refine va_get (D := D) (ci := 7) (v := .int (Sm.1 2)) (C := RX8) (T := TX8) (N := 31) hx hb ht inX8 hown hK hP 0 rfl rfl 3 (by decide) (ht _ wd3_188) (fun _ h9 => h9) rfl dX8_figure_16 ?_
    obtain ⟨h2, hf⟩ := inB_s hf
    refine va_iald (f := (Sm.2.1 0)) (n := 64) hx hb hK hP 1 0 rfl rfl h2 dX8_figure_19 ?_
    refine lv_bipush (v := (48 : Int32)) hx hb dX8_figure_20 rfl ?_
    refine lv_isub hx hb dX8_figure_22 ?_
    refine lv_i2l hx hb dX8_figure_23 rfl ?_
    refine lv_iload_n hx hb dX8_figure_24 rfl (lv_at hl 1 rfl) ?_
    refine lv_i2l hx hb dX8_figure_25 rfl ?_
    refine lv_iload_n hx hb dX8_figure_26 rfl (lv_at hl 2 rfl) ?_
    refine lv_i2l hx hb dX8_figure_27 rfl ?_
    obtain ⟨u3, e4, hf⟩ := bdS hf
    refine k_pS (As := [.long (((Sm.2.1 0) (Sm.1 2).toNatClampNeg) - (48 : Int32)).toInt64, .long x1.toInt64, .long x2.toInt64]) (rest := []) hC miX8_in mjX8_in wd4_44 (qX8_in l ((((Sm.2.1 0) (Sm.1 2).toNatClampNeg) - (48 : Int32)).toInt64) x1.toInt64 x2.toInt64 u3 e4) ⟨Nat.le_of_ble_eq_true rfl, Nat.le_of_ble_eq_true rfl⟩ hl.1 rfl rfl (Nat.le_of_ble_eq_true rfl) dX8_figure_28 ?_
    refine lv_if_ne (tgt := 37) hx hb dX8_figure_31 (by decide) (fun c5 => ?_) (fun c5 => ?_)
    · have hf := itN c5 hf
      refine lv_aload_n hx hb dX8_figure_37 rfl (lv_at hl 0 rfl) ?_
      refine lv_dup hx hb dX8_figure_38 rfl ?_
      refine va_get (D := D) (ci := 7) (v := .int (Sm.1 2)) (C := RX8) (T := TX8) (N := 31) hx hb ht inX8 hown hK hP 0 rfl rfl 3 (by decide) (ht _ wd3_188) (fun _ h9 => h9) rfl dX8_figure_39 ?_
      refine lv_iconst (v := (1 : Int32)) hx hb dX8_figure_42 rfl ?_
      refine lv_iadd hx hb dX8_figure_43 ?_
      refine va_put (D := D) (ci := 7) (v := .int ((Sm.1 2) + (1 : Int32))) (ty := .int) (C := RX8) (T := TX8) (N := 31) hx hb ht inX8 tyX8 tyX8_ok nmX8 hown hK hP hD hS 0 rfl rfl 3 (by decide) (ht _ wd3_188) (fun _ h9 => h9) rfl (tyX8_ok 3 (by decide)) rfl rfl (Nat.le_of_ble_eq_true rfl) dX8_figure_44 (fun H locs hP hD hS => ?_)
      have hP : va_P D vwCl (wX8_figure cI cZ hm am (bI Sm 2 ((Sm.1 2) + (1 : Int32)))) H := hP
      have hD : va_D A (wX8_figure cI cZ hm am (bI Sm 2 ((Sm.1 2) + (1 : Int32)))) := hD
      refine lv_aload_n hx hb dX8_figure_47 rfl (lv_at hl 0 rfl) ?_
      refine va_get (D := D) (ci := 7) (v := .ref (am 0)) (C := RX8) (T := TX8) (N := 31) hx hb ht inX8 hown hK hP 0 rfl rfl 1 (by decide) (ht _ wd3_186) (fun _ h9 => h9) rfl dX8_figure_48 ?_
      refine lv_aload_n hx hb dX8_figure_51 rfl (lv_at hl 0 rfl) ?_
      refine va_get (D := D) (ci := 7) (v := .int ((Sm.1 2) + (1 : Int32))) (C := RX8) (T := TX8) (N := 31) hx hb ht inX8 hown hK hP 0 rfl rfl 3 (by decide) (ht _ wd3_188) (fun _ h9 => h9) rfl dX8_figure_52 ?_
      refine lv_iconst (v := (1 : Int32)) hx hb dX8_figure_55 rfl ?_
      refine lv_isub hx hb dX8_figure_56 ?_
      obtain ⟨h6, hf⟩ := inB_s hf
      refine va_iald (f := (Sm.2.1 0)) (n := 64) hx hb hK hP 1 0 rfl rfl h6 dX8_figure_57 ?_
      refine lv_bipush (v := (48 : Int32)) hx hb dX8_figure_58 rfl ?_
      refine lv_isub hx hb dX8_figure_60 ?_
      cases hf
      exact W.iret hx hb hr (fun t ht9 hW => ⟨⟨_, (), rfl, rfl, by rw [ht9]; exact hP, va_K.moved hW.alike hK, hD⟩, hS.F ht9⟩) hS.2.2 dX8_figure_61
    · have hf := itP c5 hf
      refine lv_bipush (v := (-9 : Int32)) hx hb dX8_figure_34 rfl ?_
      cases hf
      exact W.iret hx hb hr (fun t ht9 hW => ⟨⟨_, (), rfl, rfl, by rw [ht9]; exact hP, va_K.moved hW.alike hK, hD⟩, hS.F ht9⟩) hS.2.2 dX8_figure_36
abbrev wX8_noDrink (cI cZ : ClassId) (hm : Nat) (am : Nat → Nat) (hp : Nat) (np : Nat) (Sm : Bk) (P : (Nat → Int32)) : va_W := [(hm, .inr (7, [.int (Sm.1 0), .ref (am 0), .int (Sm.1 1), .int (Sm.1 2), .int (Sm.1 3), .int (Sm.1 4), .int (Sm.1 5), .ref (am 1), .ref (am 2), .ref (am 3), .int (Sm.1 6), .int (Sm.1 7), .int (Sm.1 8), .ref (am 4), .ref (am 5), .ref (am 6), .ref (am 7), .ref (am 8), .ref (am 9), .int (Sm.1 9), .ref (am 10), .ref (am 11), .int (Sm.1 10), .ref (am 12), .ref (am 13), .long Sm.2.2, .ref (am 14), .ref (am 15), .int (Sm.1 11), .int (Sm.1 12), .int (Sm.1 13)])), (am 2, .inl (cI, 16, .inl (Sm.2.1 2))), (hp, .inl (cI, np, .inl P))]
def fX8_noDrink (Sm : Bk) (P : (Nat → Int32)) (np : Nat) (x2 : Int32) : Option (Int32) := inB np (12 : Int32) ((fX8_has (P (12 : Int32).toNatClampNeg) x2).bind (fun u2 => (if u2 = 0 then inB 16 ((4 : Int32) * x2) (inB np ((Sm.2.1 2) ((4 : Int32) * x2).toNatClampNeg) (inB 16 (((4 : Int32) * x2) + (1 : Int32)) ((if ((Sm.2.1 2) (((4 : Int32) * x2) + (1 : Int32)).toNatClampNeg) ≤ (P ((Sm.2.1 2) ((4 : Int32) * x2).toNatClampNeg).toNatClampNeg) then some (0 : Int32) else some (-4 : Int32))))) else some (-3 : Int32))))
theorem miX8_noDrink : MI yX8_noDrink cX8_noDrink 3 (some .int) 2 := ⟨wd1_8, wd4_127, by decide +kernel⟩
theorem mjX8_noDrink : Cond.instanceMethod yX8_noDrink ∈ wT ∧ Cond.selects yX8_noDrink.cls yX8_noDrink yX8_noDrink ∈ wT := ⟨wd4_126, ws_23⟩
set_option maxHeartbeats 4000000 in
set_option maxRecDepth 100000 in
theorem qX8_noDrink (l : Launch) (D : va_G) (cI cZ cO : ClassId) (hm : Nat) (am : Nat → Nat) (hp : Nat) (np : Nat) (Sm : Bk) (P : (Nat → Int32)) (x2 : Int32) (res : Int32) (hf : fX8_noDrink Sm P np x2 = some res) : Met l yX8_noDrink (Cond.code yX8_noDrink cX8_noDrink 3 (some .int) :: wT) (rmF 1 21) (va_Pc [.ref hm, .ref hp, .int x2] (cR D (tyL cI cZ cO) (wX8_noDrink cI cZ hm am hp np Sm P))) (vp_Si (fun r => r = res)) 0 0 (fun _ => False) := by
  refine met_r (by decide) (Nat.le_of_ble_eq_true rfl) ?_
  intro p e s m below meth c hx hb hr hml ht hown hlk ls hl hP hK hZ
  have hS : va_S (fun _ => False) s.heap s.heap [] := va_S.rf
  have hown : s.vm.findClass "EyeDrinkModel" = some m.cls := hown
  have hl : lv_has ls 3 [(0, .ref hm), (1, .ref hp), (2, .int x2)] := hl
  have hC : CallFix p m c cX8_noDrink 3 s ([.ref hm, .ref hp, .int x2] : List Value).toArray wT "EyeDrinkModel" := ⟨hx, hb, hml, hown, ht⟩
  unfold fX8_noDrink at hf
  refine lv_aload_n hx hb dX8_noDrink_0 rfl (lv_at hl 1 rfl) ?_
  refine lv_bipush (v := (12 : Int32)) hx hb dX8_noDrink_1 rfl ?_
  obtain ⟨h1, hf⟩ := inB_s hf
  refine va_iald (f := P) (n := np) hx hb hK hP 2 0 rfl rfl h1 dX8_noDrink_3 ?_
  refine lv_iload_n hx hb dX8_noDrink_4 rfl (lv_at hl 2 rfl) ?_
  obtain ⟨u2, e3, hf⟩ := bdS hf
  refine k_pS (As := [.int (P (12 : Int32).toNatClampNeg), .int x2]) (rest := []) hC miX8_has mjX8_has wd4_108 (qX8_has l (P (12 : Int32).toNatClampNeg) x2 u2 e3) ⟨Nat.le_of_ble_eq_true rfl, Nat.le_of_ble_eq_true rfl⟩ hl.1 rfl rfl (Nat.le_of_ble_eq_true rfl) dX8_noDrink_5 ?_
  refine lv_if_eq (tgt := 16) hx hb dX8_noDrink_8 (by decide) (fun c4 => ?_) (fun c4 => ?_)
  · have hf := itP c4 hf
    refine lv_aload_n hx hb dX8_noDrink_16 rfl (lv_at hl 1 rfl) ?_
    refine lv_aload_n hx hb dX8_noDrink_17 rfl (lv_at hl 0 rfl) ?_
    refine va_get (D := D) (ci := 7) (v := .ref (am 2)) (C := RX8) (T := TX8) (N := 31) hx hb ht inX8 hown hK hP 0 rfl rfl 8 (by decide) (ht _ wd3_193) (fun _ h9 => h9) rfl dX8_noDrink_18 ?_
    refine lv_iconst (v := (4 : Int32)) hx hb dX8_noDrink_21 rfl ?_
    refine lv_iload_n hx hb dX8_noDrink_22 rfl (lv_at hl 2 rfl) ?_
    refine lv_imul hx hb dX8_noDrink_23 ?_
    obtain ⟨h5, hf⟩ := inB_s hf
    refine va_iald (f := (Sm.2.1 2)) (n := 16) hx hb hK hP 1 0 rfl rfl h5 dX8_noDrink_24 ?_
    obtain ⟨h6, hf⟩ := inB_s hf
    refine va_iald (f := P) (n := np) hx hb hK hP 2 0 rfl rfl h6 dX8_noDrink_25 ?_
    refine lv_aload_n hx hb dX8_noDrink_26 rfl (lv_at hl 0 rfl) ?_
    refine va_get (D := D) (ci := 7) (v := .ref (am 2)) (C := RX8) (T := TX8) (N := 31) hx hb ht inX8 hown hK hP 0 rfl rfl 8 (by decide) (ht _ wd3_193) (fun _ h9 => h9) rfl dX8_noDrink_27 ?_
    refine lv_iconst (v := (4 : Int32)) hx hb dX8_noDrink_30 rfl ?_
    refine lv_iload_n hx hb dX8_noDrink_31 rfl (lv_at hl 2 rfl) ?_
    refine lv_imul hx hb dX8_noDrink_32 ?_
    refine lv_iconst (v := (1 : Int32)) hx hb dX8_noDrink_33 rfl ?_
    refine lv_iadd hx hb dX8_noDrink_34 ?_
    obtain ⟨h7, hf⟩ := inB_s hf
    refine va_iald (f := (Sm.2.1 2)) (n := 16) hx hb hK hP 1 0 rfl rfl h7 dX8_noDrink_35 ?_
    refine lv_icmp_ge (tgt := 44) hx hb dX8_noDrink_36 (by decide) (fun c8 => ?_) (fun c8 => ?_)
    · have hf := itP c8 hf
      refine lv_iconst (v := (0 : Int32)) hx hb dX8_noDrink_44 rfl ?_
      exact W.iret hx hb hr (fun t ht9 _ => ⟨_, rfl, Option.some.inj hf, ht9⟩) (fun _ h9 => by cases h9) dX8_noDrink_45
    · have hf := itN c8 hf
      refine lv_bipush (v := (-4 : Int32)) hx hb dX8_noDrink_39 rfl ?_
      refine lv_goto (tgt := 45) hx hb dX8_noDrink_41 (by decide) ?_
      exact W.iret hx hb hr (fun t ht9 _ => ⟨_, rfl, Option.some.inj hf, ht9⟩) (fun _ h9 => by cases h9) dX8_noDrink_45
  · have hf := itN c4 hf
    refine lv_bipush (v := (-3 : Int32)) hx hb dX8_noDrink_11 rfl ?_
    refine lv_goto (tgt := 45) hx hb dX8_noDrink_13 (by decide) ?_
    exact W.iret hx hb hr (fun t ht9 _ => ⟨_, rfl, Option.some.inj hf, ht9⟩) (fun _ h9 => by cases h9) dX8_noDrink_45
abbrev wX8_give (cI cZ : ClassId) (hp : Nat) (np : Nat) (hm : Nat) (P : (Nat → Int32)) : va_W := [(hp, .inl (cI, np, .inl P))]
def fX8_give (P : (Nat → Int32)) (np : Nat) (x2 : Int32) (x3 : Int32) : Option ((Nat → Int32)) := inB np x2 (inB np x2 (inB np ((4 : Int32) + x2) (inB np ((4 : Int32) + x2) (some (upd (upd P x2.toNatClampNeg ((P x2.toNatClampNeg) - x3)) ((4 : Int32) + x2).toNatClampNeg (((upd P x2.toNatClampNeg ((P x2.toNatClampNeg) - x3)) ((4 : Int32) + x2).toNatClampNeg) + x3))))))
theorem miX8_give : MI yX8_give cX8_give 4 none 3 := ⟨wd1_8, wd4_139, by decide +kernel⟩
theorem mjX8_give : Cond.instanceMethod yX8_give ∈ wT ∧ Cond.selects yX8_give.cls yX8_give yX8_give ∈ wT := ⟨wd4_138, ws_26⟩
set_option maxHeartbeats 4000000 in
set_option maxRecDepth 100000 in
theorem qX8_give (l : Launch) (D : va_G) (cI cZ cO : ClassId) (hp : Nat) (np : Nat) (hm : Nat) (P : (Nat → Int32)) (x2 : Int32) (x3 : Int32) (sz : Nat) (res : (Nat → Int32)) (hf : fX8_give P np x2 x3 = some res) : Met l yX8_give (Cond.code yX8_give cX8_give 4 none :: wT) (rmF 0 0) (va_Pc [.ref hm, .ref hp, .int x2, .int x3] (cW D (tyL cI cZ cO) (wX8_give cI cZ hp np hm P) sz)) (va_Qv (S := Unit) (fun _ => True) (fun _ => qW D (tyL cI cZ cO) (va_A (wX8_give cI cZ hp np hm P) sz) (wX8_give cI cZ hp np hm res)) (va_A (wX8_give cI cZ hp np hm P) sz)) 0 0 (va_A (wX8_give cI cZ hp np hm P) sz) := by
  refine met_w (by decide) (Nat.le_of_ble_eq_true rfl) ?_
  intro p e s m below meth c hx hb hr hml ht hown hlk ls hl hsz hP hK hD0 hZ
  subst hsz
  have hD := hD0.self (sz := s.heap.size)
  generalize hAe : va_A (wX8_give cI cZ hp np hm P) s.heap.size = A at hD hZ ⊢
  have hA : ∀ q : Nat, s.heap.size ≤ q → A q := fun q h => by rw [← hAe]; exact Or.inr h
  have hS : va_S A s.heap s.heap [] := va_S.rf
  have hown : s.vm.findClass "EyeDrinkModel" = some m.cls := hown
  have hl : lv_has ls 4 [(0, .ref hm), (1, .ref hp), (2, .int x2), (3, .int x3)] := hl
  unfold fX8_give at hf
  suffices hgo : ∀ (H : Heap) (locs : List Loc), va_P D vwCl (wX8_give cI cZ hp np hm P) H → va_S A s.heap H locs → W p l e (rmF 0 0) s m ([.ref hm, .ref hp, .int x2, .int x3] : List Value).toArray below meth c H locs 0 0 (MQ below (va_Qv (S := Unit) (fun _ => True) (fun _ => qW D (tyL cI cZ cO) A (wX8_give cI cZ hp np hm res)) A) ([.ref hm, .ref hp, .int x2, .int x3] : List Value).toArray s 0 0 A) (F0 m 0 ls []) from hgo s.heap [] hP hS
  intro H locs hP hS
  refine lv_aload_n hx hb dX8_give_0 rfl (lv_at hl 1 rfl) ?_
  refine lv_iload_n hx hb dX8_give_1 rfl (lv_at hl 2 rfl) ?_
  refine lv_dup2_11 hx hb dX8_give_2 rfl rfl ?_
  obtain ⟨h1, hf⟩ := inB_s hf
  refine va_iald (f := P) (n := np) hx hb hK hP 0 0 rfl rfl h1 dX8_give_3 ?_
  refine lv_iload_n hx hb dX8_give_4 rfl (lv_at hl 3 rfl) ?_
  refine lv_isub hx hb dX8_give_5 ?_
  obtain ⟨h2, hf⟩ := inB_s hf
  refine va_iast (f := P) (n := np) hx hb hK hP hD hS 0 0 rfl rfl h2 dX8_give_6 (fun H locs hP hD hS => ?_)
  have hP : va_P D vwCl (wX8_give cI cZ hp np hm (upd P x2.toNatClampNeg ((P x2.toNatClampNeg) - x3))) H := hP
  have hD : va_D A (wX8_give cI cZ hp np hm (upd P x2.toNatClampNeg ((P x2.toNatClampNeg) - x3))) := hD
  refine lv_aload_n hx hb dX8_give_7 rfl (lv_at hl 1 rfl) ?_
  refine lv_iconst (v := (4 : Int32)) hx hb dX8_give_8 rfl ?_
  refine lv_iload_n hx hb dX8_give_9 rfl (lv_at hl 2 rfl) ?_
  refine lv_iadd hx hb dX8_give_10 ?_
  refine lv_dup2_11 hx hb dX8_give_11 rfl rfl ?_
  obtain ⟨h3, hf⟩ := inB_s hf
  refine va_iald (f := (upd P x2.toNatClampNeg ((P x2.toNatClampNeg) - x3))) (n := np) hx hb hK hP 0 0 rfl rfl h3 dX8_give_12 ?_
  refine lv_iload_n hx hb dX8_give_13 rfl (lv_at hl 3 rfl) ?_
  refine lv_iadd hx hb dX8_give_14 ?_
  obtain ⟨h4, hf⟩ := inB_s hf
  refine va_iast (f := (upd P x2.toNatClampNeg ((P x2.toNatClampNeg) - x3))) (n := np) hx hb hK hP hD hS 0 0 rfl rfl h4 dX8_give_15 (fun H locs hP hD hS => ?_)
  have hP : va_P D vwCl (wX8_give cI cZ hp np hm (upd (upd P x2.toNatClampNeg ((P x2.toNatClampNeg) - x3)) ((4 : Int32) + x2).toNatClampNeg (((upd P x2.toNatClampNeg ((P x2.toNatClampNeg) - x3)) ((4 : Int32) + x2).toNatClampNeg) + x3))) H := hP
  have hD : va_D A (wX8_give cI cZ hp np hm (upd (upd P x2.toNatClampNeg ((P x2.toNatClampNeg) - x3)) ((4 : Int32) + x2).toNatClampNeg (((upd P x2.toNatClampNeg ((P x2.toNatClampNeg) - x3)) ((4 : Int32) + x2).toNatClampNeg) + x3))) := hD
  cases hf
  exact W.vret hx hb hr (fun t ht9 hW => ⟨⟨(), rfl, trivial, by rw [ht9]; exact hP, va_K.moved hW.alike hK, hD⟩, hS.F ht9⟩) hS.2.2 dX8_give_16
abbrev wX8_goDrink (cI cZ : ClassId) (hm : Nat) (am : Nat → Nat) (hp : Nat) (np : Nat) (Sm : Bk) (P : (Nat → Int32)) : va_W := [(hm, .inr (7, [.int (Sm.1 0), .ref (am 0), .int (Sm.1 1), .int (Sm.1 2), .int (Sm.1 3), .int (Sm.1 4), .int (Sm.1 5), .ref (am 1), .ref (am 2), .ref (am 3), .int (Sm.1 6), .int (Sm.1 7), .int (Sm.1 8), .ref (am 4), .ref (am 5), .ref (am 6), .ref (am 7), .ref (am 8), .ref (am 9), .int (Sm.1 9), .ref (am 10), .ref (am 11), .int (Sm.1 10), .ref (am 12), .ref (am 13), .long Sm.2.2, .ref (am 14), .ref (am 15), .int (Sm.1 11), .int (Sm.1 12), .int (Sm.1 13)])), (am 2, .inl (cI, 16, .inl (Sm.2.1 2))), (hp, .inl (cI, np, .inl P))]
def fX8_goDrink (Sm : Bk) (P : (Nat → Int32)) (np : Nat) (x2 : Int32) : Option ((Nat → Int32)) := inB 16 ((4 : Int32) * x2) (inB 16 (((4 : Int32) * x2) + (1 : Int32)) ((fX8_give P np ((Sm.2.1 2) ((4 : Int32) * x2).toNatClampNeg) ((Sm.2.1 2) (((4 : Int32) * x2) + (1 : Int32)).toNatClampNeg)).bind (fun u3 => inB np (12 : Int32) (inB np (12 : Int32) (some (upd u3 (12 : Int32).toNatClampNeg ((u3 (12 : Int32).toNatClampNeg) ||| ((1 : Int32) <<< (x2 &&& 31)))))))))
theorem miX8_goDrink : MI yX8_goDrink cX8_goDrink 3 none 2 := ⟨wd1_8, wd4_135, by decide +kernel⟩
theorem mjX8_goDrink : Cond.instanceMethod yX8_goDrink ∈ wT ∧ Cond.selects yX8_goDrink.cls yX8_goDrink yX8_goDrink ∈ wT := ⟨wd4_134, ws_25⟩
set_option maxHeartbeats 4000000 in
set_option maxRecDepth 100000 in
theorem qX8_goDrink (l : Launch) (D : va_G) (cI cZ cO : ClassId) (hm : Nat) (am : Nat → Nat) (hp : Nat) (np : Nat) (Sm : Bk) (P : (Nat → Int32)) (x2 : Int32) (sz : Nat) (res : (Nat → Int32)) (hf : fX8_goDrink Sm P np x2 = some res) : Met l yX8_goDrink (Cond.code yX8_goDrink cX8_goDrink 3 none :: wT) (rmF 1 23) (va_Pc [.ref hm, .ref hp, .int x2] (cW D (tyL cI cZ cO) (wX8_goDrink cI cZ hm am hp np Sm P) sz)) (va_Qv (S := Unit) (fun _ => True) (fun _ => qW D (tyL cI cZ cO) (va_A (wX8_goDrink cI cZ hm am hp np Sm P) sz) (wX8_goDrink cI cZ hm am hp np Sm res)) (va_A (wX8_goDrink cI cZ hm am hp np Sm P) sz)) 0 0 (va_A (wX8_goDrink cI cZ hm am hp np Sm P) sz) := by
  refine met_w (by decide) (Nat.le_of_ble_eq_true rfl) ?_
  intro p e s m below meth c hx hb hr hml ht hown hlk ls hl hsz hP hK hD0 hZ
  subst hsz
  have hD := hD0.self (sz := s.heap.size)
  generalize hAe : va_A (wX8_goDrink cI cZ hm am hp np Sm P) s.heap.size = A at hD hZ ⊢
  have hA : ∀ q : Nat, s.heap.size ≤ q → A q := fun q h => by rw [← hAe]; exact Or.inr h
  have hS : va_S A s.heap s.heap [] := va_S.rf
  have hown : s.vm.findClass "EyeDrinkModel" = some m.cls := hown
  have hl : lv_has ls 3 [(0, .ref hm), (1, .ref hp), (2, .int x2)] := hl
  have hC : CallFix p m c cX8_goDrink 3 s ([.ref hm, .ref hp, .int x2] : List Value).toArray wT "EyeDrinkModel" := ⟨hx, hb, hml, hown, ht⟩
  unfold fX8_goDrink at hf
  suffices hgo : ∀ (H : Heap) (locs : List Loc), va_P D vwCl (wX8_goDrink cI cZ hm am hp np Sm P) H → va_S A s.heap H locs → W p l e (rmF 1 23) s m ([.ref hm, .ref hp, .int x2] : List Value).toArray below meth c H locs 0 0 (MQ below (va_Qv (S := Unit) (fun _ => True) (fun _ => qW D (tyL cI cZ cO) A (wX8_goDrink cI cZ hm am hp np Sm res)) A) ([.ref hm, .ref hp, .int x2] : List Value).toArray s 0 0 A) (F0 m 0 ls []) from hgo s.heap [] hP hS
  intro H locs hP hS
  refine lv_aload_n hx hb dX8_goDrink_0 rfl (lv_at hl 0 rfl) ?_
  refine lv_aload_n hx hb dX8_goDrink_1 rfl (lv_at hl 1 rfl) ?_
  refine lv_aload_n hx hb dX8_goDrink_2 rfl (lv_at hl 0 rfl) ?_
  refine va_get (D := D) (ci := 7) (v := .ref (am 2)) (C := RX8) (T := TX8) (N := 31) hx hb ht inX8 hown hK hP 0 rfl rfl 8 (by decide) (ht _ wd3_193) (fun _ h9 => h9) rfl dX8_goDrink_3 ?_
  refine lv_iconst (v := (4 : Int32)) hx hb dX8_goDrink_6 rfl ?_
  refine lv_iload_n hx hb dX8_goDrink_7 rfl (lv_at hl 2 rfl) ?_
  refine lv_imul hx hb dX8_goDrink_8 ?_
  obtain ⟨h1, hf⟩ := inB_s hf
  refine va_iald (f := (Sm.2.1 2)) (n := 16) hx hb hK hP 1 0 rfl rfl h1 dX8_goDrink_9 ?_
  refine lv_aload_n hx hb dX8_goDrink_10 rfl (lv_at hl 0 rfl) ?_
  refine va_get (D := D) (ci := 7) (v := .ref (am 2)) (C := RX8) (T := TX8) (N := 31) hx hb ht inX8 hown hK hP 0 rfl rfl 8 (by decide) (ht _ wd3_193) (fun _ h9 => h9) rfl dX8_goDrink_11 ?_
  refine lv_iconst (v := (4 : Int32)) hx hb dX8_goDrink_14 rfl ?_
  refine lv_iload_n hx hb dX8_goDrink_15 rfl (lv_at hl 2 rfl) ?_
  refine lv_imul hx hb dX8_goDrink_16 ?_
  refine lv_iconst (v := (1 : Int32)) hx hb dX8_goDrink_17 rfl ?_
  refine lv_iadd hx hb dX8_goDrink_18 ?_
  obtain ⟨h2, hf⟩ := inB_s hf
  refine va_iald (f := (Sm.2.1 2)) (n := 16) hx hb hK hP 1 0 rfl rfl h2 dX8_goDrink_19 ?_
  obtain ⟨u3, e4, hf⟩ := bdS hf
  refine k_wVv (ws' := (wX8_goDrink cI cZ hm am hp np Sm u3)) (wr := [(hm, .inr (7, [.int (Sm.1 0), .ref (am 0), .int (Sm.1 1), .int (Sm.1 2), .int (Sm.1 3), .int (Sm.1 4), .int (Sm.1 5), .ref (am 1), .ref (am 2), .ref (am 3), .int (Sm.1 6), .int (Sm.1 7), .int (Sm.1 8), .ref (am 4), .ref (am 5), .ref (am 6), .ref (am 7), .ref (am 8), .ref (am 9), .int (Sm.1 9), .ref (am 10), .ref (am 11), .int (Sm.1 10), .ref (am 12), .ref (am 13), .long Sm.2.2, .ref (am 14), .ref (am 15), .int (Sm.1 11), .int (Sm.1 12), .int (Sm.1 13)])), (am 2, .inl (cI, 16, .inl (Sm.2.1 2)))]) (As := [.ref hp, .int ((Sm.2.1 2) ((4 : Int32) * x2).toNatClampNeg), .int ((Sm.2.1 2) (((4 : Int32) * x2) + (1 : Int32)).toNatClampNeg)]) (rest := []) hC miX8_give mjX8_give.1 mjX8_give.2 wd4_136 (qX8_give l D cI cZ cO hp np hm P ((Sm.2.1 2) ((4 : Int32) * x2).toNatClampNeg) ((Sm.2.1 2) (((4 : Int32) * x2) + (1 : Int32)).toNatClampNeg) H.size u3 e4) ⟨Nat.le_of_ble_eq_true rfl, Nat.le_of_ble_eq_true rfl⟩ hP hD hK hZ hS hA [2] [0, 1] [0, 1, 2] rfl (by decide) rfl (by decide) (by decide) (by decide) rfl (va_recv hK hP (ci := 7) (q0 := 0) rfl rfl) hl.1 rfl rfl (Nat.le_of_ble_eq_true rfl) dX8_goDrink_20 (fun H locs hP hD hS => ?_)
  refine lv_aload_n hx hb dX8_goDrink_23 rfl (lv_at hl 1 rfl) ?_
  refine lv_bipush (v := (12 : Int32)) hx hb dX8_goDrink_24 rfl ?_
  refine lv_dup2_11 hx hb dX8_goDrink_26 rfl rfl ?_
  obtain ⟨h5, hf⟩ := inB_s hf
  refine va_iald (f := u3) (n := np) hx hb hK hP 2 0 rfl rfl h5 dX8_goDrink_27 ?_
  refine lv_iconst (v := (1 : Int32)) hx hb dX8_goDrink_28 rfl ?_
  refine lv_iload_n hx hb dX8_goDrink_29 rfl (lv_at hl 2 rfl) ?_
  refine lv_ishl hx hb dX8_goDrink_30 ?_
  refine lv_ior hx hb dX8_goDrink_31 ?_
  obtain ⟨h6, hf⟩ := inB_s hf
  refine va_iast (f := u3) (n := np) hx hb hK hP hD hS 2 0 rfl rfl h6 dX8_goDrink_32 (fun H locs hP hD hS => ?_)
  have hP : va_P D vwCl (wX8_goDrink cI cZ hm am hp np Sm (upd u3 (12 : Int32).toNatClampNeg ((u3 (12 : Int32).toNatClampNeg) ||| ((1 : Int32) <<< (x2 &&& 31))))) H := hP
  have hD : va_D A (wX8_goDrink cI cZ hm am hp np Sm (upd u3 (12 : Int32).toNatClampNeg ((u3 (12 : Int32).toNatClampNeg) ||| ((1 : Int32) <<< (x2 &&& 31))))) := hD
  cases hf
  exact W.vret hx hb hr (fun t ht9 hW => ⟨⟨(), rfl, trivial, by rw [ht9]; exact hP, va_K.moved hW.alike hK, hD⟩, hS.F ht9⟩) hS.2.2 dX8_goDrink_33
abbrev wX8_note (cI cZ : ClassId) (hm : Nat) (am : Nat → Nat) (Sm : Bk) : va_W := [(hm, .inr (7, [.int (Sm.1 0), .ref (am 0), .int (Sm.1 1), .int (Sm.1 2), .int (Sm.1 3), .int (Sm.1 4), .int (Sm.1 5), .ref (am 1), .ref (am 2), .ref (am 3), .int (Sm.1 6), .int (Sm.1 7), .int (Sm.1 8), .ref (am 4), .ref (am 5), .ref (am 6), .ref (am 7), .ref (am 8), .ref (am 9), .int (Sm.1 9), .ref (am 10), .ref (am 11), .int (Sm.1 10), .ref (am 12), .ref (am 13), .long Sm.2.2, .ref (am 14), .ref (am 15), .int (Sm.1 11), .int (Sm.1 12), .int (Sm.1 13)])), (am 7, .inl (cI, 16, .inl (Sm.2.1 7))), (am 9, .inl (cI, 224, .inl (Sm.2.1 9)))]
def sX8_note_51 (k51 : Int32 → Bk → Option (Bk)) (x1 : Int32) (Sm : Bk) : Option (Bk) := (if (16 : Int32) ≤ x1 then some (bI Sm 9 ((Sm.1 9) + (1 : Int32))) else inB 16 x1 (inB 224 (((16 : Int32) * (Sm.1 9)) + x1) (k51 (x1 + (1 : Int32)) (bW Sm 9 (((16 : Int32) * (Sm.1 9)) + x1).toNatClampNeg ((Sm.2.1 7) x1.toNatClampNeg)))))
def gX8_note_49 (Sm : Bk) : Option (Bk) := lk2 (sX8_note_51 ) 1000 (0 : Int32) Sm
def sX8_note_11 (k11 : Int32 → Bk → Option (Bk)) (x1 : Int32) (Sm : Bk) : Option (Bk) := (if (208 : Int32) ≤ x1 then gX8_note_49  (bI Sm 9 ((Sm.1 9) - (1 : Int32))) else inB 224 (x1 + (16 : Int32)) (inB 224 x1 (k11 (x1 + (1 : Int32)) (bW Sm 9 x1.toNatClampNeg ((Sm.2.1 9) (x1 + (16 : Int32)).toNatClampNeg)))))
def fX8_note (Sm : Bk) : Option (Bk) := (if (Sm.1 9) = (14 : Int32) then lk2 (sX8_note_11 ) 1000 (0 : Int32) Sm else gX8_note_49  Sm)
theorem miX8_note : MI yX8_note cX8_note 2 none 0 := ⟨wd1_8, wd4_131, by decide +kernel⟩
theorem mjX8_note : Cond.instanceMethod yX8_note ∈ wT ∧ Cond.selects yX8_note.cls yX8_note yX8_note ∈ wT := ⟨wd4_130, ws_24⟩
set_option maxHeartbeats 4000000 in
set_option maxRecDepth 100000 in
theorem qX8_note (l : Launch) (D : va_G) (cI cZ cO : ClassId) (hm : Nat) (am : Nat → Nat) (Sm : Bk) (sz : Nat) (res : Bk) (hf : fX8_note Sm = some res) : Met l yX8_note (Cond.code yX8_note cX8_note 2 none :: wT) (rmF 0 0) (va_Pc [.ref hm] (cW D (tyL cI cZ cO) (wX8_note cI cZ hm am Sm) sz)) (va_Qv (S := Unit) (fun _ => True) (fun _ => qW D (tyL cI cZ cO) (va_A (wX8_note cI cZ hm am Sm) sz) (wX8_note cI cZ hm am res)) (va_A (wX8_note cI cZ hm am Sm) sz)) 0 0 (va_A (wX8_note cI cZ hm am Sm) sz) := by
  refine met_w (by decide) (Nat.le_of_ble_eq_true rfl) ?_
  intro p e s m below meth c hx hb hr hml ht hown hlk ls hl hsz hP hK hD0 hZ
  subst hsz
  have hD := hD0.self (sz := s.heap.size)
  generalize hAe : va_A (wX8_note cI cZ hm am Sm) s.heap.size = A at hD hZ ⊢
  have hA : ∀ q : Nat, s.heap.size ≤ q → A q := fun q h => by rw [← hAe]; exact Or.inr h
  have hS : va_S A s.heap s.heap [] := va_S.rf
  have hown : s.vm.findClass "EyeDrinkModel" = some m.cls := hown
  have hl : lv_has ls 2 [(0, .ref hm)] := hl
  unfold fX8_note at hf
  suffices hgo : ∀ (H : Heap) (locs : List Loc), va_P D vwCl (wX8_note cI cZ hm am Sm) H → va_S A s.heap H locs → W p l e (rmF 0 0) s m ([.ref hm] : List Value).toArray below meth c H locs 0 0 (MQ below (va_Qv (S := Unit) (fun _ => True) (fun _ => qW D (tyL cI cZ cO) A (wX8_note cI cZ hm am res)) A) ([.ref hm] : List Value).toArray s 0 0 A) (F0 m 0 ls []) from hgo s.heap [] hP hS
  have hj51 : ∀ (x1 : Int32) (Sm : Bk), lk2 (sX8_note_51 ) 1000 x1 Sm = some res → ∀ (H : Heap) (locs : List Loc) (ls : Array Slot), va_P D vwCl (wX8_note cI cZ hm am Sm) H → va_D A (wX8_note cI cZ hm am Sm) → va_S A s.heap H locs → lv_has ls 2 [(0, .ref hm), (1, .int x1)] → W p l e (rmF 0 0) s m ([.ref hm] : List Value).toArray below meth c H locs 0 0 (MQ below (va_Qv (S := Unit) (fun _ => True) (fun _ => qW D (tyL cI cZ cO) A (wX8_note cI cZ hm am res)) A) ([.ref hm] : List Value).toArray s 0 0 A) (F0 m 51 ls []) := by
    refine lk2_w (fun (x1 : Int32) (Sm : Bk) => ∀ (H : Heap) (locs : List Loc) (ls : Array Slot), va_P D vwCl (wX8_note cI cZ hm am Sm) H → va_D A (wX8_note cI cZ hm am Sm) → va_S A s.heap H locs → lv_has ls 2 [(0, .ref hm), (1, .int x1)] → W p l e (rmF 0 0) s m ([.ref hm] : List Value).toArray below meth c H locs 0 0 (MQ below (va_Qv (S := Unit) (fun _ => True) (fun _ => qW D (tyL cI cZ cO) A (wX8_note cI cZ hm am res)) A) ([.ref hm] : List Value).toArray s 0 0 A) (F0 m 51 ls [])) ?_ 1000
    intro k51 hk51 x1 Sm hf H locs ls hP hD hS hl
    unfold sX8_note_51 at hf
    refine lv_iload_n hx hb dX8_note_51 rfl (lv_at hl 1 rfl) ?_
    refine lv_bipush (v := (16 : Int32)) hx hb dX8_note_52 rfl ?_
    refine lv_icmp_ge (tgt := 83) hx hb dX8_note_54 (by decide) (fun c1 => ?_) (fun c1 => ?_)
    · have hf := itP c1 hf
      refine lv_aload_n hx hb dX8_note_83 rfl (lv_at hl 0 rfl) ?_
      refine lv_dup hx hb dX8_note_84 rfl ?_
      refine va_get (D := D) (ci := 7) (v := .int (Sm.1 9)) (C := RX8) (T := TX8) (N := 31) hx hb ht inX8 hown hK hP 0 rfl rfl 19 (by decide) (ht _ wd3_204) (fun _ h9 => h9) rfl dX8_note_85 ?_
      refine lv_iconst (v := (1 : Int32)) hx hb dX8_note_88 rfl ?_
      refine lv_iadd hx hb dX8_note_89 ?_
      refine va_put (D := D) (ci := 7) (v := .int ((Sm.1 9) + (1 : Int32))) (ty := .int) (C := RX8) (T := TX8) (N := 31) hx hb ht inX8 tyX8 tyX8_ok nmX8 hown hK hP hD hS 0 rfl rfl 19 (by decide) (ht _ wd3_204) (fun _ h9 => h9) rfl (tyX8_ok 19 (by decide)) rfl rfl (Nat.le_of_ble_eq_true rfl) dX8_note_90 (fun H locs hP hD hS => ?_)
      have hP : va_P D vwCl (wX8_note cI cZ hm am (bI Sm 9 ((Sm.1 9) + (1 : Int32)))) H := hP
      have hD : va_D A (wX8_note cI cZ hm am (bI Sm 9 ((Sm.1 9) + (1 : Int32)))) := hD
      cases hf
      exact W.vret hx hb hr (fun t ht9 hW => ⟨⟨(), rfl, trivial, by rw [ht9]; exact hP, va_K.moved hW.alike hK, hD⟩, hS.F ht9⟩) hS.2.2 dX8_note_93
    · have hf := itN c1 hf
      refine lv_aload_n hx hb dX8_note_57 rfl (lv_at hl 0 rfl) ?_
      refine va_get (D := D) (ci := 7) (v := .ref (am 9)) (C := RX8) (T := TX8) (N := 31) hx hb ht inX8 hown hK hP 0 rfl rfl 18 (by decide) (ht _ wd3_203) (fun _ h9 => h9) rfl dX8_note_58 ?_
      refine lv_bipush (v := (16 : Int32)) hx hb dX8_note_61 rfl ?_
      refine lv_aload_n hx hb dX8_note_63 rfl (lv_at hl 0 rfl) ?_
      refine va_get (D := D) (ci := 7) (v := .int (Sm.1 9)) (C := RX8) (T := TX8) (N := 31) hx hb ht inX8 hown hK hP 0 rfl rfl 19 (by decide) (ht _ wd3_204) (fun _ h9 => h9) rfl dX8_note_64 ?_
      refine lv_imul hx hb dX8_note_67 ?_
      refine lv_iload_n hx hb dX8_note_68 rfl (lv_at hl 1 rfl) ?_
      refine lv_iadd hx hb dX8_note_69 ?_
      refine lv_aload_n hx hb dX8_note_70 rfl (lv_at hl 0 rfl) ?_
      refine va_get (D := D) (ci := 7) (v := .ref (am 7)) (C := RX8) (T := TX8) (N := 31) hx hb ht inX8 hown hK hP 0 rfl rfl 16 (by decide) (ht _ wd3_201) (fun _ h9 => h9) rfl dX8_note_71 ?_
      refine lv_iload_n hx hb dX8_note_74 rfl (lv_at hl 1 rfl) ?_
      obtain ⟨h2, hf⟩ := inB_s hf
      refine va_iald (f := (Sm.2.1 7)) (n := 16) hx hb hK hP 1 0 rfl rfl h2 dX8_note_75 ?_
      obtain ⟨h3, hf⟩ := inB_s hf
      refine va_iast (f := (Sm.2.1 9)) (n := 224) hx hb hK hP hD hS 2 0 rfl rfl h3 dX8_note_76 (fun H locs hP hD hS => ?_)
      have hP : va_P D vwCl (wX8_note cI cZ hm am (bW Sm 9 (((16 : Int32) * (Sm.1 9)) + x1).toNatClampNeg ((Sm.2.1 7) x1.toNatClampNeg))) H := hP
      have hD : va_D A (wX8_note cI cZ hm am (bW Sm 9 (((16 : Int32) * (Sm.1 9)) + x1).toNatClampNeg ((Sm.2.1 7) x1.toNatClampNeg))) := hD
      refine lv_iinc (v := (x1 + (1 : Int32))) (lv' := [(1, .int (x1 + (1 : Int32))), (0, .ref hm)]) hx hb dX8_note_77 hl (k := 1) rfl rfl (by decide) rfl (fun ls hl => ?_)
      refine lv_goto (tgt := 51) hx hb dX8_note_80 (by decide) ?_
      exact hk51 (x1 + (1 : Int32)) (bW Sm 9 (((16 : Int32) * (Sm.1 9)) + x1).toNatClampNeg ((Sm.2.1 7) x1.toNatClampNeg)) hf _ _ _ hP hD hS (lv_sub hl [1, 0] rfl)
  have hj49 : ∀ (Sm : Bk), gX8_note_49  Sm = some res → ∀ (H : Heap) (locs : List Loc) (ls : Array Slot), va_P D vwCl (wX8_note cI cZ hm am Sm) H → va_D A (wX8_note cI cZ hm am Sm) → va_S A s.heap H locs → lv_has ls 2 [(0, .ref hm)] → W p l e (rmF 0 0) s m ([.ref hm] : List Value).toArray below meth c H locs 0 0 (MQ below (va_Qv (S := Unit) (fun _ => True) (fun _ => qW D (tyL cI cZ cO) A (wX8_note cI cZ hm am res)) A) ([.ref hm] : List Value).toArray s 0 0 A) (F0 m 49 ls []) := by
    intro Sm hf H locs ls hP hD hS hl
    unfold gX8_note_49 at hf
    refine lv_iconst (v := (0 : Int32)) hx hb dX8_note_49 rfl ?_
    refine lv_istore_n (lv' := [(1, .int (0 : Int32)), (0, .ref hm)]) hx hb dX8_note_50 rfl hl (by decide) rfl (fun ls hl => ?_)
    exact hj51 (0 : Int32) Sm hf _ _ _ hP hD hS (lv_sub hl [1, 0] rfl)
  have hj11 : ∀ (x1 : Int32) (Sm : Bk), lk2 (sX8_note_11 ) 1000 x1 Sm = some res → ∀ (H : Heap) (locs : List Loc) (ls : Array Slot), va_P D vwCl (wX8_note cI cZ hm am Sm) H → va_D A (wX8_note cI cZ hm am Sm) → va_S A s.heap H locs → lv_has ls 2 [(0, .ref hm), (1, .int x1)] → W p l e (rmF 0 0) s m ([.ref hm] : List Value).toArray below meth c H locs 0 0 (MQ below (va_Qv (S := Unit) (fun _ => True) (fun _ => qW D (tyL cI cZ cO) A (wX8_note cI cZ hm am res)) A) ([.ref hm] : List Value).toArray s 0 0 A) (F0 m 11 ls []) := by
    refine lk2_w (fun (x1 : Int32) (Sm : Bk) => ∀ (H : Heap) (locs : List Loc) (ls : Array Slot), va_P D vwCl (wX8_note cI cZ hm am Sm) H → va_D A (wX8_note cI cZ hm am Sm) → va_S A s.heap H locs → lv_has ls 2 [(0, .ref hm), (1, .int x1)] → W p l e (rmF 0 0) s m ([.ref hm] : List Value).toArray below meth c H locs 0 0 (MQ below (va_Qv (S := Unit) (fun _ => True) (fun _ => qW D (tyL cI cZ cO) A (wX8_note cI cZ hm am res)) A) ([.ref hm] : List Value).toArray s 0 0 A) (F0 m 11 ls [])) ?_ 1000
    intro k11 hk11 x1 Sm hf H locs ls hP hD hS hl
    unfold sX8_note_11 at hf
    refine lv_iload_n hx hb dX8_note_11 rfl (lv_at hl 1 rfl) ?_
    refine lv_sipush (v := (208 : Int32)) hx hb dX8_note_12 rfl ?_
    refine lv_icmp_ge (tgt := 39) hx hb dX8_note_15 (by decide) (fun c4 => ?_) (fun c4 => ?_)
    · have hf := itP c4 hf
      refine lv_aload_n hx hb dX8_note_39 rfl (lv_at hl 0 rfl) ?_
      refine lv_dup hx hb dX8_note_40 rfl ?_
      refine va_get (D := D) (ci := 7) (v := .int (Sm.1 9)) (C := RX8) (T := TX8) (N := 31) hx hb ht inX8 hown hK hP 0 rfl rfl 19 (by decide) (ht _ wd3_204) (fun _ h9 => h9) rfl dX8_note_41 ?_
      refine lv_iconst (v := (1 : Int32)) hx hb dX8_note_44 rfl ?_
      refine lv_isub hx hb dX8_note_45 ?_
      refine va_put (D := D) (ci := 7) (v := .int ((Sm.1 9) - (1 : Int32))) (ty := .int) (C := RX8) (T := TX8) (N := 31) hx hb ht inX8 tyX8 tyX8_ok nmX8 hown hK hP hD hS 0 rfl rfl 19 (by decide) (ht _ wd3_204) (fun _ h9 => h9) rfl (tyX8_ok 19 (by decide)) rfl rfl (Nat.le_of_ble_eq_true rfl) dX8_note_46 (fun H locs hP hD hS => ?_)
      have hP : va_P D vwCl (wX8_note cI cZ hm am (bI Sm 9 ((Sm.1 9) - (1 : Int32)))) H := hP
      have hD : va_D A (wX8_note cI cZ hm am (bI Sm 9 ((Sm.1 9) - (1 : Int32)))) := hD
      exact hj49 (bI Sm 9 ((Sm.1 9) - (1 : Int32))) hf _ _ _ hP hD hS (lv_sub hl [0] rfl)
    · have hf := itN c4 hf
      refine lv_aload_n hx hb dX8_note_18 rfl (lv_at hl 0 rfl) ?_
      refine va_get (D := D) (ci := 7) (v := .ref (am 9)) (C := RX8) (T := TX8) (N := 31) hx hb ht inX8 hown hK hP 0 rfl rfl 18 (by decide) (ht _ wd3_203) (fun _ h9 => h9) rfl dX8_note_19 ?_
      refine lv_iload_n hx hb dX8_note_22 rfl (lv_at hl 1 rfl) ?_
      refine lv_aload_n hx hb dX8_note_23 rfl (lv_at hl 0 rfl) ?_
      refine va_get (D := D) (ci := 7) (v := .ref (am 9)) (C := RX8) (T := TX8) (N := 31) hx hb ht inX8 hown hK hP 0 rfl rfl 18 (by decide) (ht _ wd3_203) (fun _ h9 => h9) rfl dX8_note_24 ?_
      refine lv_iload_n hx hb dX8_note_27 rfl (lv_at hl 1 rfl) ?_
      refine lv_bipush (v := (16 : Int32)) hx hb dX8_note_28 rfl ?_
      refine lv_iadd hx hb dX8_note_30 ?_
      obtain ⟨h5, hf⟩ := inB_s hf
      refine va_iald (f := (Sm.2.1 9)) (n := 224) hx hb hK hP 2 0 rfl rfl h5 dX8_note_31 ?_
      obtain ⟨h6, hf⟩ := inB_s hf
      refine va_iast (f := (Sm.2.1 9)) (n := 224) hx hb hK hP hD hS 2 0 rfl rfl h6 dX8_note_32 (fun H locs hP hD hS => ?_)
      have hP : va_P D vwCl (wX8_note cI cZ hm am (bW Sm 9 x1.toNatClampNeg ((Sm.2.1 9) (x1 + (16 : Int32)).toNatClampNeg))) H := hP
      have hD : va_D A (wX8_note cI cZ hm am (bW Sm 9 x1.toNatClampNeg ((Sm.2.1 9) (x1 + (16 : Int32)).toNatClampNeg))) := hD
      refine lv_iinc (v := (x1 + (1 : Int32))) (lv' := [(1, .int (x1 + (1 : Int32))), (0, .ref hm)]) hx hb dX8_note_33 hl (k := 1) rfl rfl (by decide) rfl (fun ls hl => ?_)
      refine lv_goto (tgt := 11) hx hb dX8_note_36 (by decide) ?_
      exact hk11 (x1 + (1 : Int32)) (bW Sm 9 x1.toNatClampNeg ((Sm.2.1 9) (x1 + (16 : Int32)).toNatClampNeg)) hf _ _ _ hP hD hS (lv_sub hl [1, 0] rfl)
  intro H locs hP hS
  refine lv_aload_n hx hb dX8_note_0 rfl (lv_at hl 0 rfl) ?_
  refine va_get (D := D) (ci := 7) (v := .int (Sm.1 9)) (C := RX8) (T := TX8) (N := 31) hx hb ht inX8 hown hK hP 0 rfl rfl 19 (by decide) (ht _ wd3_204) (fun _ h9 => h9) rfl dX8_note_1 ?_
  refine lv_bipush (v := (14 : Int32)) hx hb dX8_note_4 rfl ?_
  refine lv_icmp_ne (tgt := 49) hx hb dX8_note_6 (by decide) (fun c7 => ?_) (fun c7 => ?_)
  · have hf := itN c7 hf
    exact hj49 Sm hf _ _ _ hP hD hS (lv_sub hl [0] rfl)
  · have hf := itP c7 hf
    refine lv_iconst (v := (0 : Int32)) hx hb dX8_note_9 rfl ?_
    refine lv_istore_n (lv' := [(1, .int (0 : Int32)), (0, .ref hm)]) hx hb dX8_note_10 rfl hl (by decide) rfl (fun ls hl => ?_)
    exact hj11 (0 : Int32) Sm hf _ _ _ hP hD hS (lv_sub hl [1, 0] rfl)
abbrev wX8_drink (cI cZ : ClassId) (hm : Nat) (am : Nat → Nat) (Sm : Bk) : va_W := [(hm, .inr (7, [.int (Sm.1 0), .ref (am 0), .int (Sm.1 1), .int (Sm.1 2), .int (Sm.1 3), .int (Sm.1 4), .int (Sm.1 5), .ref (am 1), .ref (am 2), .ref (am 3), .int (Sm.1 6), .int (Sm.1 7), .int (Sm.1 8), .ref (am 4), .ref (am 5), .ref (am 6), .ref (am 7), .ref (am 8), .ref (am 9), .int (Sm.1 9), .ref (am 10), .ref (am 11), .int (Sm.1 10), .ref (am 12), .ref (am 13), .long Sm.2.2, .ref (am 14), .ref (am 15), .int (Sm.1 11), .int (Sm.1 12), .int (Sm.1 13)])), (am 2, .inl (cI, 16, .inl (Sm.2.1 2))), (am 7, .inl (cI, 16, .inl (Sm.2.1 7))), (am 9, .inl (cI, 224, .inl (Sm.2.1 9)))]
def fX8_drink (Sm : Bk) (x1 : Int32) : Option (Int32 × Bk) := (fX8_noQuestion (bI Sm 0 (0 : Int32)) x1).bind (fun u1 => (if u1 = 0 then (fX8_noDrink (bI Sm 0 (0 : Int32)) (Sm.2.1 7) 16 x1).bind (fun u4 => (if u4 = 0 then (fX8_note (bI Sm 0 (0 : Int32))).bind (fun u7 => (fX8_goDrink (bA (bA (bO (bI Sm 0 (0 : Int32)) u7) 7 (u7.2.1 7)) 9 (u7.2.1 9)) (u7.2.1 7) 16 x1).bind (fun u9 => inB 16 (((4 : Int32) * x1) + (2 : Int32)) (some (((Sm.2.1 2) (((4 : Int32) * x1) + (2 : Int32)).toNatClampNeg), (bA (bA (bA (bO (bI Sm 0 (0 : Int32)) u7) 7 (u7.2.1 7)) 9 (u7.2.1 9)) 7 u9))))) else some (u4, (bI Sm 0 (0 : Int32))))) else some ((-1 : Int32), (bI Sm 0 (0 : Int32)))))
theorem miX8_drink : MI yX8_drink cX8_drink 3 (some .int) 1 := ⟨wd1_8, wd4_123, by decide +kernel⟩
theorem mjX8_drink : Cond.instanceMethod yX8_drink ∈ wT ∧ Cond.selects yX8_drink.cls yX8_drink yX8_drink ∈ wT := ⟨wd4_121, wd4_122⟩
set_option maxHeartbeats 4000000 in
set_option maxRecDepth 100000 in
theorem qX8_drink (l : Launch) (D : va_G) (cI cZ cO : ClassId) (hm : Nat) (am : Nat → Nat) (Sm : Bk) (x1 : Int32) (sz : Nat) (res : Int32 × Bk) (hf : fX8_drink Sm x1 = some res) : Met l yX8_drink (Cond.code yX8_drink cX8_drink 3 (some .int) :: wT) (rmF 2 46) (va_Pc [.ref hm, .int x1] (cW D (tyL cI cZ cO) (wX8_drink cI cZ hm am Sm) sz)) (va_Qi (S := Unit) (fun r _ => r = res.1) (fun _ => qW D (tyL cI cZ cO) (va_A (wX8_drink cI cZ hm am Sm) sz) (wX8_drink cI cZ hm am res.2)) (va_A (wX8_drink cI cZ hm am Sm) sz)) 0 0 (va_A (wX8_drink cI cZ hm am Sm) sz) := by
  refine met_w (by decide) (Nat.le_of_ble_eq_true rfl) ?_
  intro p e s m below meth c hx hb hr hml ht hown hlk ls hl hsz hP hK hD0 hZ
  subst hsz
  have hD := hD0.self (sz := s.heap.size)
  generalize hAe : va_A (wX8_drink cI cZ hm am Sm) s.heap.size = A at hD hZ ⊢
  have hA : ∀ q : Nat, s.heap.size ≤ q → A q := fun q h => by rw [← hAe]; exact Or.inr h
  have hS : va_S A s.heap s.heap [] := va_S.rf
  have hown : s.vm.findClass "EyeDrinkModel" = some m.cls := hown
  have hl : lv_has ls 3 [(0, .ref hm), (1, .int x1)] := hl
  have hC : CallFix p m c cX8_drink 3 s ([.ref hm, .int x1] : List Value).toArray wT "EyeDrinkModel" := ⟨hx, hb, hml, hown, ht⟩
  unfold fX8_drink at hf
  suffices hgo : ∀ (H : Heap) (locs : List Loc), va_P D vwCl (wX8_drink cI cZ hm am Sm) H → va_S A s.heap H locs → W p l e (rmF 2 46) s m ([.ref hm, .int x1] : List Value).toArray below meth c H locs 0 0 (MQ below (va_Qi (S := Unit) (fun r _ => r = res.1) (fun _ => qW D (tyL cI cZ cO) A (wX8_drink cI cZ hm am res.2)) A) ([.ref hm, .int x1] : List Value).toArray s 0 0 A) (F0 m 0 ls []) from hgo s.heap [] hP hS
  intro H locs hP hS
  refine lv_aload_n hx hb dX8_drink_0 rfl (lv_at hl 0 rfl) ?_
  refine lv_iconst (v := (0 : Int32)) hx hb dX8_drink_1 rfl ?_
  refine va_put (D := D) (ci := 7) (v := .int (0 : Int32)) (ty := .int) (C := RX8) (T := TX8) (N := 31) hx hb ht inX8 tyX8 tyX8_ok nmX8 hown hK hP hD hS 0 rfl rfl 0 (by decide) (ht _ wd3_185) (fun _ h9 => h9) rfl (tyX8_ok 0 (by decide)) rfl rfl (Nat.le_of_ble_eq_true rfl) dX8_drink_2 (fun H locs hP hD hS => ?_)
  have hP : va_P D vwCl (wX8_drink cI cZ hm am (bI Sm 0 (0 : Int32))) H := hP
  have hD : va_D A (wX8_drink cI cZ hm am (bI Sm 0 (0 : Int32))) := hD
  refine lv_aload_n hx hb dX8_drink_5 rfl (lv_at hl 0 rfl) ?_
  refine lv_iload_n hx hb dX8_drink_6 rfl (lv_at hl 1 rfl) ?_
  obtain ⟨u1, e2, hf⟩ := bdS hf
  refine k_rV (As := [.int x1]) (rest := []) hC miX8_noQuestion mjX8_noQuestion.1 mjX8_noQuestion.2 wd4_104 (qX8_noQuestion l D cI cZ cO hm am (bI Sm 0 (0 : Int32)) x1 u1 e2) ⟨Nat.le_of_ble_eq_true rfl, Nat.le_of_ble_eq_true rfl⟩ (hP.sub [0] rfl) hK hZ hS (va_recv hK hP (ci := 7) (q0 := 0) rfl rfl) hl.1 rfl rfl (Nat.le_of_ble_eq_true rfl) dX8_drink_7 ?_
  refine lv_if_eq (tgt := 15) hx hb dX8_drink_10 (by decide) (fun c3 => ?_) (fun c3 => ?_)
  · have hf := itP c3 hf
    refine lv_aload_n hx hb dX8_drink_15 rfl (lv_at hl 0 rfl) ?_
    refine lv_aload_n hx hb dX8_drink_16 rfl (lv_at hl 0 rfl) ?_
    refine va_get (D := D) (ci := 7) (v := .ref (am 7)) (C := RX8) (T := TX8) (N := 31) hx hb ht inX8 hown hK hP 0 rfl rfl 16 (by decide) (ht _ wd3_201) (fun _ h9 => h9) rfl dX8_drink_17 ?_
    refine lv_iload_n hx hb dX8_drink_20 rfl (lv_at hl 1 rfl) ?_
    obtain ⟨u4, e5, hf⟩ := bdS hf
    refine k_rV (As := [.ref (am 7), .int x1]) (rest := []) hC miX8_noDrink mjX8_noDrink.1 mjX8_noDrink.2 wd4_124 (qX8_noDrink l D cI cZ cO hm am (am 7) (16) (bI Sm 0 (0 : Int32)) (Sm.2.1 7) x1 u4 e5) ⟨Nat.le_of_ble_eq_true rfl, Nat.le_of_ble_eq_true rfl⟩ (hP.sub [0, 1, 2] rfl) hK hZ hS (va_recv hK hP (ci := 7) (q0 := 0) rfl rfl) hl.1 rfl rfl (Nat.le_of_ble_eq_true rfl) dX8_drink_21 ?_
    refine lv_istore_n (lv' := [(2, .int u4), (0, .ref hm), (1, .int x1)]) hx hb dX8_drink_24 rfl hl (by decide) rfl (fun ls hl => ?_)
    refine lv_iload_n hx hb dX8_drink_25 rfl (lv_at hl 0 rfl) ?_
    refine lv_if_eq (tgt := 31) hx hb dX8_drink_26 (by decide) (fun c6 => ?_) (fun c6 => ?_)
    · have hf := itP c6 hf
      refine lv_aload_n hx hb dX8_drink_31 rfl (lv_at hl 1 rfl) ?_
      obtain ⟨u7, e8, hf⟩ := bdS hf
      refine k_wVv (ws' := (wX8_drink cI cZ hm am (bA (bA (bO (bI Sm 0 (0 : Int32)) u7) 7 (u7.2.1 7)) 9 (u7.2.1 9)))) (wr := [(am 2, .inl (cI, 16, .inl ((bA (bA (bO (bI Sm 0 (0 : Int32)) u7) 7 (u7.2.1 7)) 9 (u7.2.1 9)).2.1 2)))]) (As := []) (rest := []) hC miX8_note mjX8_note.1 mjX8_note.2 wd4_128 (qX8_note l D cI cZ cO hm am (bI Sm 0 (0 : Int32)) H.size u7 e8) ⟨Nat.le_of_ble_eq_true rfl, Nat.le_of_ble_eq_true rfl⟩ hP hD hK hZ hS hA [0, 2, 3] [1] [1, 0, 2, 3] rfl (by decide) rfl (by decide) (by decide) (by decide) rfl (va_recv hK hP (ci := 7) (q0 := 0) rfl rfl) hl.1 rfl rfl (Nat.le_of_ble_eq_true rfl) dX8_drink_32 (fun H locs hP hD hS => ?_)
      refine lv_aload_n hx hb dX8_drink_35 rfl (lv_at hl 1 rfl) ?_
      refine lv_aload_n hx hb dX8_drink_36 rfl (lv_at hl 1 rfl) ?_
      refine va_get (D := D) (ci := 7) (v := .ref (am 7)) (C := RX8) (T := TX8) (N := 31) hx hb ht inX8 hown hK hP 0 rfl rfl 16 (by decide) (ht _ wd3_201) (fun _ h9 => h9) rfl dX8_drink_37 ?_
      refine lv_iload_n hx hb dX8_drink_40 rfl (lv_at hl 2 rfl) ?_
      obtain ⟨u9, e10, hf⟩ := bdS hf
      refine k_wVv (ws' := (wX8_drink cI cZ hm am (bA (bA (bA (bO (bI Sm 0 (0 : Int32)) u7) 7 (u7.2.1 7)) 9 (u7.2.1 9)) 7 u9))) (wr := [(am 9, .inl (cI, 224, .inl ((bA (bA (bA (bO (bI Sm 0 (0 : Int32)) u7) 7 (u7.2.1 7)) 9 (u7.2.1 9)) 7 u9).2.1 9)))]) (As := [.ref (am 7), .int x1]) (rest := []) hC miX8_goDrink mjX8_goDrink.1 mjX8_goDrink.2 wd4_132 (qX8_goDrink l D cI cZ cO hm am (am 7) (16) (bA (bA (bO (bI Sm 0 (0 : Int32)) u7) 7 (u7.2.1 7)) 9 (u7.2.1 9)) (u7.2.1 7) x1 H.size u9 e10) ⟨Nat.le_of_ble_eq_true rfl, Nat.le_of_ble_eq_true rfl⟩ hP hD hK hZ hS hA [0, 1, 2] [3] [1, 2, 3, 0] rfl (by decide) rfl (by decide) (by decide) (by decide) rfl (va_recv hK hP (ci := 7) (q0 := 0) rfl rfl) hl.1 rfl rfl (Nat.le_of_ble_eq_true rfl) dX8_drink_41 (fun H locs hP hD hS => ?_)
      refine lv_aload_n hx hb dX8_drink_44 rfl (lv_at hl 1 rfl) ?_
      refine va_get (D := D) (ci := 7) (v := .ref (am 2)) (C := RX8) (T := TX8) (N := 31) hx hb ht inX8 hown hK hP 0 rfl rfl 8 (by decide) (ht _ wd3_193) (fun _ h9 => h9) rfl dX8_drink_45 ?_
      refine lv_iconst (v := (4 : Int32)) hx hb dX8_drink_48 rfl ?_
      refine lv_iload_n hx hb dX8_drink_49 rfl (lv_at hl 2 rfl) ?_
      refine lv_imul hx hb dX8_drink_50 ?_
      refine lv_iconst (v := (2 : Int32)) hx hb dX8_drink_51 rfl ?_
      refine lv_iadd hx hb dX8_drink_52 ?_
      obtain ⟨h11, hf⟩ := inB_s hf
      refine va_iald (f := (Sm.2.1 2)) (n := 16) hx hb hK hP 1 0 rfl rfl h11 dX8_drink_53 ?_
      cases hf
      exact W.iret hx hb hr (fun t ht9 hW => ⟨⟨_, (), rfl, rfl, by rw [ht9]; exact hP, va_K.moved hW.alike hK, hD⟩, hS.F ht9⟩) hS.2.2 dX8_drink_54
    · have hf := itN c6 hf
      refine lv_iload_n hx hb dX8_drink_29 rfl (lv_at hl 0 rfl) ?_
      cases hf
      exact W.iret hx hb hr (fun t ht9 hW => ⟨⟨_, (), rfl, rfl, by rw [ht9]; exact hP, va_K.moved hW.alike hK, hD⟩, hS.F ht9⟩) hS.2.2 dX8_drink_30
  · have hf := itN c3 hf
    refine lv_iconst (v := (-1 : Int32)) hx hb dX8_drink_13 rfl ?_
    cases hf
    exact W.iret hx hb hr (fun t ht9 hW => ⟨⟨_, (), rfl, rfl, by rw [ht9]; exact hP, va_K.moved hW.alike hK, hD⟩, hS.F ht9⟩) hS.2.2 dX8_drink_14
