def fX1_suits (x0 : Int32) (x1 : Int32) (x2 : Int32) (x3 : Int32) : Option (Int32) := (if x2 < (((x1 * x0) + (9 : Int32)) / (10 : Int32)) then some (0 : Int32) else (if x3 < (x1 - (((x1 * x0) + (9 : Int32)) / (10 : Int32))) then some (0 : Int32) else some (1 : Int32)))
theorem miX1_suits : MI yX1_suits cX1_suits 5 (some .boolean) 4 := ⟨wd1_12, wd3_90, by decide +kernel⟩
theorem mjX1_suits : Cond.static yX1_suits ∈ wT := wd3_89
set_option maxHeartbeats 4000000 in
set_option maxRecDepth 100000 in
theorem qX1_suits (l : Launch) (x0 : Int32) (x1 : Int32) (x2 : Int32) (x3 : Int32) (res : Int32) (hf : fX1_suits x0 x1 x2 x3 = some res) : Met l yX1_suits (Cond.code yX1_suits cX1_suits 5 (some .boolean) :: wT) (rmF 0 0) (va_Pc [.int x0, .int x1, .int x2, .int x3] (fun _ => True)) (vp_Si (fun r => r = res)) 0 0 (fun _ => False) := by
  refine met_p (by decide) (Nat.le_of_ble_eq_true rfl) ?_
  intro p e s m below meth c hx hb hr hml ht hown hlk ls hl
  have hown : s.vm.findClass "EyeDrink$Prices" = some m.cls := hown
  have hl : lv_has ls 5 [(0, .int x0), (1, .int x1), (2, .int x2), (3, .int x3)] := hl
  unfold fX1_suits at hf
  refine lv_iload_n hx hb dX1_suits_0 rfl (lv_at hl 1 rfl) ?_
  refine lv_iload_n hx hb dX1_suits_1 rfl (lv_at hl 0 rfl) ?_
  refine lv_imul hx hb dX1_suits_2 ?_
  refine lv_bipush (v := (9 : Int32)) hx hb dX1_suits_3 rfl ?_
  refine lv_iadd hx hb dX1_suits_5 ?_
  refine lv_bipush (v := (10 : Int32)) hx hb dX1_suits_6 rfl ?_
  refine lv_idiv hx hb dX1_suits_8 (by decide) ?_
  refine lv_istore (lv' := [(4, .int (((x1 * x0) + (9 : Int32)) / (10 : Int32))), (0, .int x0), (1, .int x1), (2, .int x2), (3, .int x3)]) hx hb dX1_suits_9 hl (by decide) rfl (fun ls hl => ?_)
  refine lv_iload hx hb dX1_suits_11 (lv_at hl 0 rfl) ?_
  refine lv_iload_n hx hb dX1_suits_13 rfl (lv_at hl 3 rfl) ?_
  refine lv_icmp_gt (tgt := 29) hx hb dX1_suits_14 (by decide) (fun c1 => ?_) (fun c1 => ?_)
  · have hf := itP c1 hf
    refine lv_iconst (v := (0 : Int32)) hx hb dX1_suits_29 rfl ?_
    exact W.zret hx hb hr rfl (fun t ht9 _ => ⟨_, rfl, Option.some.inj hf, ht9⟩) (fun _ h9 => by cases h9) dX1_suits_30
  · have hf := itN c1 hf
    refine lv_iload_n hx hb dX1_suits_17 rfl (lv_at hl 2 rfl) ?_
    refine lv_iload hx hb dX1_suits_18 (lv_at hl 0 rfl) ?_
    refine lv_isub hx hb dX1_suits_20 ?_
    refine lv_iload_n hx hb dX1_suits_21 rfl (lv_at hl 4 rfl) ?_
    refine lv_icmp_gt (tgt := 29) hx hb dX1_suits_22 (by decide) (fun c2 => ?_) (fun c2 => ?_)
    · have hf := itP c2 hf
      refine lv_iconst (v := (0 : Int32)) hx hb dX1_suits_29 rfl ?_
      exact W.zret hx hb hr rfl (fun t ht9 _ => ⟨_, rfl, Option.some.inj hf, ht9⟩) (fun _ h9 => by cases h9) dX1_suits_30
    · have hf := itN c2 hf
      refine lv_iconst (v := (1 : Int32)) hx hb dX1_suits_25 rfl ?_
      refine lv_goto (tgt := 30) hx hb dX1_suits_26 (by decide) ?_
      exact W.zret hx hb hr rfl (fun t ht9 _ => ⟨_, rfl, Option.some.inj hf, ht9⟩) (fun _ h9 => by cases h9) dX1_suits_30
def gX1_sharesThatSuit_26 (x0 : Int32) (x1 : Int32) (x2 : Int32) (k5 : Int32 → Int32 → Option (Int32)) (x3 : Int32) (x4 : Int32) : Option (Int32) := k5 x3 (x4 + (1 : Int32))
def sX1_sharesThatSuit_5 (x0 : Int32) (x1 : Int32) (x2 : Int32) (k5 : Int32 → Int32 → Option (Int32)) (x3 : Int32) (x4 : Int32) : Option (Int32) := (if (10 : Int32) < x4 then some x3 else (fX1_suits x4 x0 x1 x2).bind (fun u2 => (if u2 = 0 then gX1_sharesThatSuit_26 x0 x1 x2 k5 x3 x4 else gX1_sharesThatSuit_26 x0 x1 x2 k5 (x3 + (1 : Int32)) x4)))
def fX1_sharesThatSuit (x0 : Int32) (x1 : Int32) (x2 : Int32) : Option (Int32) := lk2 (sX1_sharesThatSuit_5 x0 x1 x2) 1000 (0 : Int32) (0 : Int32)
theorem miX1_sharesThatSuit : MI yX1_sharesThatSuit cX1_sharesThatSuit 5 (some .int) 3 := ⟨wd1_12, wd3_87, by decide +kernel⟩
theorem mjX1_sharesThatSuit : Cond.static yX1_sharesThatSuit ∈ wT := wd3_86
set_option maxHeartbeats 4000000 in
set_option maxRecDepth 100000 in
theorem qX1_sharesThatSuit (l : Launch) (x0 : Int32) (x1 : Int32) (x2 : Int32) (res : Int32) (hf : fX1_sharesThatSuit x0 x1 x2 = some res) : Met l yX1_sharesThatSuit (Cond.code yX1_sharesThatSuit cX1_sharesThatSuit 5 (some .int) :: wT) (rmF 1 24) (va_Pc [.int x0, .int x1, .int x2] (fun _ => True)) (vp_Si (fun r => r = res)) 0 0 (fun _ => False) := by
  refine met_p (by decide) (Nat.le_of_ble_eq_true rfl) ?_
  intro p e s m below meth c hx hb hr hml ht hown hlk ls hl
  have hown : s.vm.findClass "EyeDrink$Prices" = some m.cls := hown
  have hl : lv_has ls 5 [(0, .int x0), (1, .int x1), (2, .int x2)] := hl
  have hC : CallFix p m c cX1_sharesThatSuit 5 s ([.int x0, .int x1, .int x2] : List Value).toArray wT "EyeDrink$Prices" := ⟨hx, hb, hml, hown, ht⟩
  unfold fX1_sharesThatSuit at hf
  have hj5 : ∀ (x3 : Int32) (x4 : Int32), lk2 (sX1_sharesThatSuit_5 x0 x1 x2) 1000 x3 x4 = some res → ∀ (ls : Array Slot), lv_has ls 5 [(0, .int x0), (1, .int x1), (2, .int x2), (3, .int x3), (4, .int x4)] → W p l e (rmF 1 24) s m ([.int x0, .int x1, .int x2] : List Value).toArray below meth c s.heap [] 0 0 (MQ below (vp_Si (fun r => r = res)) ([.int x0, .int x1, .int x2] : List Value).toArray s 0 0 (fun _ => False)) (F0 m 5 ls []) := by
    refine lk2_w (fun (x3 : Int32) (x4 : Int32) => ∀ (ls : Array Slot), lv_has ls 5 [(0, .int x0), (1, .int x1), (2, .int x2), (3, .int x3), (4, .int x4)] → W p l e (rmF 1 24) s m ([.int x0, .int x1, .int x2] : List Value).toArray below meth c s.heap [] 0 0 (MQ below (vp_Si (fun r => r = res)) ([.int x0, .int x1, .int x2] : List Value).toArray s 0 0 (fun _ => False)) (F0 m 5 ls [])) ?_ 1000
    intro k5 hk5 x3 x4 hf ls hl
    unfold sX1_sharesThatSuit_5 at hf
    have hj26 : ∀ (x3 : Int32) (x4 : Int32), gX1_sharesThatSuit_26 x0 x1 x2 k5 x3 x4 = some res → ∀ (ls : Array Slot), lv_has ls 5 [(0, .int x0), (1, .int x1), (2, .int x2), (3, .int x3), (4, .int x4)] → W p l e (rmF 1 24) s m ([.int x0, .int x1, .int x2] : List Value).toArray below meth c s.heap [] 0 0 (MQ below (vp_Si (fun r => r = res)) ([.int x0, .int x1, .int x2] : List Value).toArray s 0 0 (fun _ => False)) (F0 m 26 ls []) := by
      intro x3 x4 hf ls hl
      unfold gX1_sharesThatSuit_26 at hf
      refine lv_iinc (v := (x4 + (1 : Int32))) (lv' := [(4, .int (x4 + (1 : Int32))), (0, .int x0), (1, .int x1), (2, .int x2), (3, .int x3)]) hx hb dX1_sharesThatSuit_26 hl (k := 4) rfl rfl (by decide) rfl (fun ls hl => ?_)
      refine lv_goto (tgt := 5) hx hb dX1_sharesThatSuit_29 (by decide) ?_
      exact hk5 x3 (x4 + (1 : Int32)) hf _ (lv_sub hl [1, 2, 3, 4, 0] rfl)
    refine lv_iload hx hb dX1_sharesThatSuit_5 (lv_at hl 4 rfl) ?_
    refine lv_bipush (v := (10 : Int32)) hx hb dX1_sharesThatSuit_7 rfl ?_
    refine lv_icmp_gt (tgt := 32) hx hb dX1_sharesThatSuit_9 (by decide) (fun c1 => ?_) (fun c1 => ?_)
    · have hf := itP c1 hf
      refine lv_iload_n hx hb dX1_sharesThatSuit_32 rfl (lv_at hl 3 rfl) ?_
      exact W.iret hx hb hr (fun t ht9 _ => ⟨_, rfl, Option.some.inj hf, ht9⟩) (fun _ h9 => by cases h9) dX1_sharesThatSuit_33
    · have hf := itN c1 hf
      refine lv_iload hx hb dX1_sharesThatSuit_12 (lv_at hl 4 rfl) ?_
      refine lv_iload_n hx hb dX1_sharesThatSuit_14 rfl (lv_at hl 0 rfl) ?_
      refine lv_iload_n hx hb dX1_sharesThatSuit_15 rfl (lv_at hl 1 rfl) ?_
      refine lv_iload_n hx hb dX1_sharesThatSuit_16 rfl (lv_at hl 2 rfl) ?_
      obtain ⟨u2, e3, hf⟩ := bdS hf
      refine k_pS (As := [.int x4, .int x0, .int x1, .int x2]) (rest := []) hC miX1_suits mjX1_suits wd3_88 (qX1_suits l x4 x0 x1 x2 u2 e3) ⟨Nat.le_of_ble_eq_true rfl, Nat.le_of_ble_eq_true rfl⟩ hl.1 rfl rfl (Nat.le_of_ble_eq_true rfl) dX1_sharesThatSuit_17 ?_
      refine lv_if_eq (tgt := 26) hx hb dX1_sharesThatSuit_20 (by decide) (fun c4 => ?_) (fun c4 => ?_)
      · have hf := itP c4 hf
        exact hj26 x3 x4 hf _ (lv_sub hl [0, 1, 2, 3, 4] rfl)
      · have hf := itN c4 hf
        refine lv_iinc (v := (x3 + (1 : Int32))) (lv' := [(3, .int (x3 + (1 : Int32))), (0, .int x0), (1, .int x1), (2, .int x2), (4, .int x4)]) hx hb dX1_sharesThatSuit_23 hl (k := 3) rfl rfl (by decide) rfl (fun ls hl => ?_)
        exact hj26 (x3 + (1 : Int32)) x4 hf _ (lv_sub hl [1, 2, 3, 0, 4] rfl)
  refine lv_iconst (v := (0 : Int32)) hx hb dX1_sharesThatSuit_0 rfl ?_
  refine lv_istore_n (lv' := [(3, .int (0 : Int32)), (0, .int x0), (1, .int x1), (2, .int x2)]) hx hb dX1_sharesThatSuit_1 rfl hl (by decide) rfl (fun ls hl => ?_)
  refine lv_iconst (v := (0 : Int32)) hx hb dX1_sharesThatSuit_2 rfl ?_
  refine lv_istore (lv' := [(4, .int (0 : Int32)), (3, .int (0 : Int32)), (0, .int x0), (1, .int x1), (2, .int x2)]) hx hb dX1_sharesThatSuit_3 hl (by decide) rfl (fun ls hl => ?_)
  exact hj5 (0 : Int32) (0 : Int32) hf _ (lv_sub hl [2, 3, 4, 1, 0] rfl)
def sX1_leastShare_2 (x0 : Int32) (x1 : Int32) (x2 : Int32) (k2 : Int32 → Option (Int32)) (x3 : Int32) : Option (Int32) := (if (10 : Int32) < x3 then some (-9 : Int32) else (fX1_suits x3 x0 x1 x2).bind (fun u2 => (if u2 = 0 then k2 (x3 + (1 : Int32)) else some x3)))
def fX1_leastShare (x0 : Int32) (x1 : Int32) (x2 : Int32) : Option (Int32) := lk1 (sX1_leastShare_2 x0 x1 x2) 1000 (0 : Int32)
theorem miX1_leastShare : MI yX1_leastShare cX1_leastShare 4 (some .int) 3 := ⟨wd1_12, wd3_93, by decide +kernel⟩
theorem mjX1_leastShare : Cond.static yX1_leastShare ∈ wT := wd3_92
set_option maxHeartbeats 4000000 in
set_option maxRecDepth 100000 in
theorem qX1_leastShare (l : Launch) (x0 : Int32) (x1 : Int32) (x2 : Int32) (res : Int32) (hf : fX1_leastShare x0 x1 x2 = some res) : Met l yX1_leastShare (Cond.code yX1_leastShare cX1_leastShare 4 (some .int) :: wT) (rmF 1 24) (va_Pc [.int x0, .int x1, .int x2] (fun _ => True)) (vp_Si (fun r => r = res)) 0 0 (fun _ => False) := by
  refine met_p (by decide) (Nat.le_of_ble_eq_true rfl) ?_
  intro p e s m below meth c hx hb hr hml ht hown hlk ls hl
  have hown : s.vm.findClass "EyeDrink$Prices" = some m.cls := hown
  have hl : lv_has ls 4 [(0, .int x0), (1, .int x1), (2, .int x2)] := hl
  have hC : CallFix p m c cX1_leastShare 4 s ([.int x0, .int x1, .int x2] : List Value).toArray wT "EyeDrink$Prices" := ⟨hx, hb, hml, hown, ht⟩
  unfold fX1_leastShare at hf
  have hj2 : ∀ (x3 : Int32), lk1 (sX1_leastShare_2 x0 x1 x2) 1000 x3 = some res → ∀ (ls : Array Slot), lv_has ls 4 [(0, .int x0), (1, .int x1), (2, .int x2), (3, .int x3)] → W p l e (rmF 1 24) s m ([.int x0, .int x1, .int x2] : List Value).toArray below meth c s.heap [] 0 0 (MQ below (vp_Si (fun r => r = res)) ([.int x0, .int x1, .int x2] : List Value).toArray s 0 0 (fun _ => False)) (F0 m 2 ls []) := by
    refine lk1_w (fun (x3 : Int32) => ∀ (ls : Array Slot), lv_has ls 4 [(0, .int x0), (1, .int x1), (2, .int x2), (3, .int x3)] → W p l e (rmF 1 24) s m ([.int x0, .int x1, .int x2] : List Value).toArray below meth c s.heap [] 0 0 (MQ below (vp_Si (fun r => r = res)) ([.int x0, .int x1, .int x2] : List Value).toArray s 0 0 (fun _ => False)) (F0 m 2 ls [])) ?_ 1000
    intro k2 hk2 x3 hf ls hl
    unfold sX1_leastShare_2 at hf
    refine lv_iload_n hx hb dX1_leastShare_2 rfl (lv_at hl 3 rfl) ?_
    refine lv_bipush (v := (10 : Int32)) hx hb dX1_leastShare_3 rfl ?_
    refine lv_icmp_gt (tgt := 26) hx hb dX1_leastShare_5 (by decide) (fun c1 => ?_) (fun c1 => ?_)
    · have hf := itP c1 hf
      refine lv_bipush (v := (-9 : Int32)) hx hb dX1_leastShare_26 rfl ?_
      exact W.iret hx hb hr (fun t ht9 _ => ⟨_, rfl, Option.some.inj hf, ht9⟩) (fun _ h9 => by cases h9) dX1_leastShare_28
    · have hf := itN c1 hf
      refine lv_iload_n hx hb dX1_leastShare_8 rfl (lv_at hl 3 rfl) ?_
      refine lv_iload_n hx hb dX1_leastShare_9 rfl (lv_at hl 0 rfl) ?_
      refine lv_iload_n hx hb dX1_leastShare_10 rfl (lv_at hl 1 rfl) ?_
      refine lv_iload_n hx hb dX1_leastShare_11 rfl (lv_at hl 2 rfl) ?_
      obtain ⟨u2, e3, hf⟩ := bdS hf
      refine k_pS (As := [.int x3, .int x0, .int x1, .int x2]) (rest := []) hC miX1_suits mjX1_suits wd3_88 (qX1_suits l x3 x0 x1 x2 u2 e3) ⟨Nat.le_of_ble_eq_true rfl, Nat.le_of_ble_eq_true rfl⟩ hl.1 rfl rfl (Nat.le_of_ble_eq_true rfl) dX1_leastShare_12 ?_
      refine lv_if_eq (tgt := 20) hx hb dX1_leastShare_15 (by decide) (fun c4 => ?_) (fun c4 => ?_)
      · have hf := itP c4 hf
        refine lv_iinc (v := (x3 + (1 : Int32))) (lv' := [(3, .int (x3 + (1 : Int32))), (0, .int x0), (1, .int x1), (2, .int x2)]) hx hb dX1_leastShare_20 hl (k := 3) rfl rfl (by decide) rfl (fun ls hl => ?_)
        refine lv_goto (tgt := 2) hx hb dX1_leastShare_23 (by decide) ?_
        exact hk2 (x3 + (1 : Int32)) hf _ (lv_sub hl [1, 2, 3, 0] rfl)
      · have hf := itN c4 hf
        refine lv_iload_n hx hb dX1_leastShare_18 rfl (lv_at hl 3 rfl) ?_
        exact W.iret hx hb hr (fun t ht9 _ => ⟨_, rfl, Option.some.inj hf, ht9⟩) (fun _ h9 => by cases h9) dX1_leastShare_19
  refine lv_iconst (v := (0 : Int32)) hx hb dX1_leastShare_0 rfl ?_
  refine lv_istore_n (lv' := [(3, .int (0 : Int32)), (0, .int x0), (1, .int x1), (2, .int x2)]) hx hb dX1_leastShare_1 rfl hl (by decide) rfl (fun ls hl => ?_)
  exact hj2 (0 : Int32) hf _ (lv_sub hl [1, 2, 3, 0] rfl)
def gX1_brings_27 (x0 : Int32) (x1 : Int32) (x2 : Int32) (k8 : Int32 → Int32 → Int32 → Option (Int32)) (x3 : Int32) (x4 : Int32) (x5 : Int32) : Option (Int32) := k8 x3 (x4 / (10 : Int32)) (x5 + (1 : Int32))
def sX1_brings_8 (x0 : Int32) (x1 : Int32) (x2 : Int32) (k8 : Int32 → Int32 → Int32 → Option (Int32)) (x3 : Int32) (x4 : Int32) (x5 : Int32) : Option (Int32) := (if x1 ≤ x5 then some x3 else (if (x4 - x4 / (10 : Int32) * (10 : Int32)) < x0 then gX1_brings_27 x0 x1 x2 k8 x3 x4 x5 else gX1_brings_27 x0 x1 x2 k8 (x3 + x0) x4 x5))
def fX1_brings (x0 : Int32) (x1 : Int32) (x2 : Int32) : Option (Int32) := lk3 (sX1_brings_8 x0 x1 x2) 1000 (0 : Int32) x2 (0 : Int32)
theorem miX1_brings : MI yX1_brings cX1_brings 6 (some .int) 3 := ⟨wd1_12, wd3_105, by decide +kernel⟩
theorem mjX1_brings : Cond.static yX1_brings ∈ wT := wd3_104
set_option maxHeartbeats 4000000 in
set_option maxRecDepth 100000 in
theorem qX1_brings (l : Launch) (x0 : Int32) (x1 : Int32) (x2 : Int32) (res : Int32) (hf : fX1_brings x0 x1 x2 = some res) : Met l yX1_brings (Cond.code yX1_brings cX1_brings 6 (some .int) :: wT) (rmF 0 0) (va_Pc [.int x0, .int x1, .int x2] (fun _ => True)) (vp_Si (fun r => r = res)) 0 0 (fun _ => False) := by
  refine met_p (by decide) (Nat.le_of_ble_eq_true rfl) ?_
  intro p e s m below meth c hx hb hr hml ht hown hlk ls hl
  have hown : s.vm.findClass "EyeDrink$Prices" = some m.cls := hown
  have hl : lv_has ls 6 [(0, .int x0), (1, .int x1), (2, .int x2)] := hl
  unfold fX1_brings at hf
  have hj8 : ∀ (x3 : Int32) (x4 : Int32) (x5 : Int32), lk3 (sX1_brings_8 x0 x1 x2) 1000 x3 x4 x5 = some res → ∀ (ls : Array Slot), lv_has ls 6 [(0, .int x0), (1, .int x1), (3, .int x3), (4, .int x4), (5, .int x5)] → W p l e (rmF 0 0) s m ([.int x0, .int x1, .int x2] : List Value).toArray below meth c s.heap [] 0 0 (MQ below (vp_Si (fun r => r = res)) ([.int x0, .int x1, .int x2] : List Value).toArray s 0 0 (fun _ => False)) (F0 m 8 ls []) := by
    refine lk3_w (fun (x3 : Int32) (x4 : Int32) (x5 : Int32) => ∀ (ls : Array Slot), lv_has ls 6 [(0, .int x0), (1, .int x1), (3, .int x3), (4, .int x4), (5, .int x5)] → W p l e (rmF 0 0) s m ([.int x0, .int x1, .int x2] : List Value).toArray below meth c s.heap [] 0 0 (MQ below (vp_Si (fun r => r = res)) ([.int x0, .int x1, .int x2] : List Value).toArray s 0 0 (fun _ => False)) (F0 m 8 ls [])) ?_ 1000
    intro k8 hk8 x3 x4 x5 hf ls hl
    unfold sX1_brings_8 at hf
    have hj27 : ∀ (x3 : Int32) (x4 : Int32) (x5 : Int32), gX1_brings_27 x0 x1 x2 k8 x3 x4 x5 = some res → ∀ (ls : Array Slot), lv_has ls 6 [(0, .int x0), (1, .int x1), (3, .int x3), (4, .int x4), (5, .int x5)] → W p l e (rmF 0 0) s m ([.int x0, .int x1, .int x2] : List Value).toArray below meth c s.heap [] 0 0 (MQ below (vp_Si (fun r => r = res)) ([.int x0, .int x1, .int x2] : List Value).toArray s 0 0 (fun _ => False)) (F0 m 27 ls []) := by
      intro x3 x4 x5 hf ls hl
      unfold gX1_brings_27 at hf
      refine lv_iload hx hb dX1_brings_27 (lv_at hl 3 rfl) ?_
      refine lv_bipush (v := (10 : Int32)) hx hb dX1_brings_29 rfl ?_
      refine lv_idiv hx hb dX1_brings_31 (by decide) ?_
      refine lv_istore (lv' := [(4, .int (x4 / (10 : Int32))), (0, .int x0), (1, .int x1), (3, .int x3), (5, .int x5)]) hx hb dX1_brings_32 hl (by decide) rfl (fun ls hl => ?_)
      refine lv_iinc (v := (x5 + (1 : Int32))) (lv' := [(5, .int (x5 + (1 : Int32))), (4, .int (x4 / (10 : Int32))), (0, .int x0), (1, .int x1), (3, .int x3)]) hx hb dX1_brings_34 hl (k := 4) rfl rfl (by decide) rfl (fun ls hl => ?_)
      refine lv_goto (tgt := 8) hx hb dX1_brings_37 (by decide) ?_
      exact hk8 x3 (x4 / (10 : Int32)) (x5 + (1 : Int32)) hf _ (lv_sub hl [2, 3, 4, 1, 0] rfl)
    refine lv_iload hx hb dX1_brings_8 (lv_at hl 4 rfl) ?_
    refine lv_iload_n hx hb dX1_brings_10 rfl (lv_at hl 1 rfl) ?_
    refine lv_icmp_ge (tgt := 40) hx hb dX1_brings_11 (by decide) (fun c1 => ?_) (fun c1 => ?_)
    · have hf := itP c1 hf
      refine lv_iload_n hx hb dX1_brings_40 rfl (lv_at hl 2 rfl) ?_
      exact W.iret hx hb hr (fun t ht9 _ => ⟨_, rfl, Option.some.inj hf, ht9⟩) (fun _ h9 => by cases h9) dX1_brings_41
    · have hf := itN c1 hf
      refine lv_iload hx hb dX1_brings_14 (lv_at hl 3 rfl) ?_
      refine lv_bipush (v := (10 : Int32)) hx hb dX1_brings_16 rfl ?_
      refine lv_irem hx hb dX1_brings_18 (by decide) ?_
      refine lv_iload_n hx hb dX1_brings_19 rfl (lv_at hl 0 rfl) ?_
      refine lv_icmp_lt (tgt := 27) hx hb dX1_brings_20 (by decide) (fun c2 => ?_) (fun c2 => ?_)
      · have hf := itP c2 hf
        exact hj27 x3 x4 x5 hf _ (lv_sub hl [0, 1, 2, 3, 4] rfl)
      · have hf := itN c2 hf
        refine lv_iload_n hx hb dX1_brings_23 rfl (lv_at hl 2 rfl) ?_
        refine lv_iload_n hx hb dX1_brings_24 rfl (lv_at hl 0 rfl) ?_
        refine lv_iadd hx hb dX1_brings_25 ?_
        refine lv_istore_n (lv' := [(3, .int (x3 + x0)), (0, .int x0), (1, .int x1), (4, .int x4), (5, .int x5)]) hx hb dX1_brings_26 rfl hl (by decide) rfl (fun ls hl => ?_)
        exact hj27 (x3 + x0) x4 x5 hf _ (lv_sub hl [1, 2, 0, 3, 4] rfl)
  refine lv_iconst (v := (0 : Int32)) hx hb dX1_brings_0 rfl ?_
  refine lv_istore_n (lv' := [(3, .int (0 : Int32)), (0, .int x0), (1, .int x1), (2, .int x2)]) hx hb dX1_brings_1 rfl hl (by decide) rfl (fun ls hl => ?_)
  refine lv_iload_n hx hb dX1_brings_2 rfl (lv_at hl 3 rfl) ?_
  refine lv_istore (lv' := [(4, .int x2), (3, .int (0 : Int32)), (0, .int x0), (1, .int x1), (2, .int x2)]) hx hb dX1_brings_3 hl (by decide) rfl (fun ls hl => ?_)
  refine lv_iconst (v := (0 : Int32)) hx hb dX1_brings_5 rfl ?_
  refine lv_istore (lv' := [(5, .int (0 : Int32)), (4, .int x2), (3, .int (0 : Int32)), (0, .int x0), (1, .int x1), (2, .int x2)]) hx hb dX1_brings_6 hl (by decide) rfl (fun ls hl => ?_)
  exact hj8 (0 : Int32) x2 (0 : Int32) hf _ (lv_sub hl [3, 4, 2, 1, 0] rfl)
def gX1_bestToAsk_27 (x0 : Int32) (x1 : Int32) (k4 : Int32 → Int32 → Option (Int32)) (x2 : Int32) (x3 : Int32) : Option (Int32) := k4 x2 (x3 + (1 : Int32))
def sX1_bestToAsk_4 (x0 : Int32) (x1 : Int32) (k4 : Int32 → Int32 → Option (Int32)) (x2 : Int32) (x3 : Int32) : Option (Int32) := (if (9 : Int32) < x3 then some x2 else (fX1_brings x3 x0 x1).bind (fun u2 => (fX1_brings x2 x0 x1).bind (fun u4 => (if u2 ≤ u4 then gX1_bestToAsk_27 x0 x1 k4 x2 x3 else gX1_bestToAsk_27 x0 x1 k4 x3 x3))))
def fX1_bestToAsk (x0 : Int32) (x1 : Int32) : Option (Int32) := lk2 (sX1_bestToAsk_4 x0 x1) 1000 (1 : Int32) (2 : Int32)
theorem miX1_bestToAsk : MI yX1_bestToAsk cX1_bestToAsk 4 (some .int) 2 := ⟨wd1_12, wd3_102, by decide +kernel⟩
theorem mjX1_bestToAsk : Cond.static yX1_bestToAsk ∈ wT := wd3_101
set_option maxHeartbeats 4000000 in
set_option maxRecDepth 100000 in
theorem qX1_bestToAsk (l : Launch) (x0 : Int32) (x1 : Int32) (res : Int32) (hf : fX1_bestToAsk x0 x1 = some res) : Met l yX1_bestToAsk (Cond.code yX1_bestToAsk cX1_bestToAsk 4 (some .int) :: wT) (rmF 1 25) (va_Pc [.int x0, .int x1] (fun _ => True)) (vp_Si (fun r => r = res)) 0 0 (fun _ => False) := by
  refine met_p (by decide) (Nat.le_of_ble_eq_true rfl) ?_
  intro p e s m below meth c hx hb hr hml ht hown hlk ls hl
  have hown : s.vm.findClass "EyeDrink$Prices" = some m.cls := hown
  have hl : lv_has ls 4 [(0, .int x0), (1, .int x1)] := hl
  have hC : CallFix p m c cX1_bestToAsk 4 s ([.int x0, .int x1] : List Value).toArray wT "EyeDrink$Prices" := ⟨hx, hb, hml, hown, ht⟩
  unfold fX1_bestToAsk at hf
  have hj4 : ∀ (x2 : Int32) (x3 : Int32), lk2 (sX1_bestToAsk_4 x0 x1) 1000 x2 x3 = some res → ∀ (ls : Array Slot), lv_has ls 4 [(0, .int x0), (1, .int x1), (2, .int x2), (3, .int x3)] → W p l e (rmF 1 25) s m ([.int x0, .int x1] : List Value).toArray below meth c s.heap [] 0 0 (MQ below (vp_Si (fun r => r = res)) ([.int x0, .int x1] : List Value).toArray s 0 0 (fun _ => False)) (F0 m 4 ls []) := by
    refine lk2_w (fun (x2 : Int32) (x3 : Int32) => ∀ (ls : Array Slot), lv_has ls 4 [(0, .int x0), (1, .int x1), (2, .int x2), (3, .int x3)] → W p l e (rmF 1 25) s m ([.int x0, .int x1] : List Value).toArray below meth c s.heap [] 0 0 (MQ below (vp_Si (fun r => r = res)) ([.int x0, .int x1] : List Value).toArray s 0 0 (fun _ => False)) (F0 m 4 ls [])) ?_ 1000
    intro k4 hk4 x2 x3 hf ls hl
    unfold sX1_bestToAsk_4 at hf
    have hj27 : ∀ (x2 : Int32) (x3 : Int32), gX1_bestToAsk_27 x0 x1 k4 x2 x3 = some res → ∀ (ls : Array Slot), lv_has ls 4 [(0, .int x0), (1, .int x1), (2, .int x2), (3, .int x3)] → W p l e (rmF 1 25) s m ([.int x0, .int x1] : List Value).toArray below meth c s.heap [] 0 0 (MQ below (vp_Si (fun r => r = res)) ([.int x0, .int x1] : List Value).toArray s 0 0 (fun _ => False)) (F0 m 27 ls []) := by
      intro x2 x3 hf ls hl
      unfold gX1_bestToAsk_27 at hf
      refine lv_iinc (v := (x3 + (1 : Int32))) (lv' := [(3, .int (x3 + (1 : Int32))), (0, .int x0), (1, .int x1), (2, .int x2)]) hx hb dX1_bestToAsk_27 hl (k := 3) rfl rfl (by decide) rfl (fun ls hl => ?_)
      refine lv_goto (tgt := 4) hx hb dX1_bestToAsk_30 (by decide) ?_
      exact hk4 x2 (x3 + (1 : Int32)) hf _ (lv_sub hl [1, 2, 3, 0] rfl)
    refine lv_iload_n hx hb dX1_bestToAsk_4 rfl (lv_at hl 3 rfl) ?_
    refine lv_bipush (v := (9 : Int32)) hx hb dX1_bestToAsk_5 rfl ?_
    refine lv_icmp_gt (tgt := 33) hx hb dX1_bestToAsk_7 (by decide) (fun c1 => ?_) (fun c1 => ?_)
    · have hf := itP c1 hf
      refine lv_iload_n hx hb dX1_bestToAsk_33 rfl (lv_at hl 2 rfl) ?_
      exact W.iret hx hb hr (fun t ht9 _ => ⟨_, rfl, Option.some.inj hf, ht9⟩) (fun _ h9 => by cases h9) dX1_bestToAsk_34
    · have hf := itN c1 hf
      refine lv_iload_n hx hb dX1_bestToAsk_10 rfl (lv_at hl 3 rfl) ?_
      refine lv_iload_n hx hb dX1_bestToAsk_11 rfl (lv_at hl 0 rfl) ?_
      refine lv_iload_n hx hb dX1_bestToAsk_12 rfl (lv_at hl 1 rfl) ?_
      obtain ⟨u2, e3, hf⟩ := bdS hf
      refine k_pS (As := [.int x3, .int x0, .int x1]) (rest := []) hC miX1_brings mjX1_brings wd3_103 (qX1_brings l x3 x0 x1 u2 e3) ⟨Nat.le_of_ble_eq_true rfl, Nat.le_of_ble_eq_true rfl⟩ hl.1 rfl rfl (Nat.le_of_ble_eq_true rfl) dX1_bestToAsk_13 ?_
      refine lv_iload_n hx hb dX1_bestToAsk_16 rfl (lv_at hl 2 rfl) ?_
      refine lv_iload_n hx hb dX1_bestToAsk_17 rfl (lv_at hl 0 rfl) ?_
      refine lv_iload_n hx hb dX1_bestToAsk_18 rfl (lv_at hl 1 rfl) ?_
      obtain ⟨u4, e5, hf⟩ := bdS hf
      refine k_pS (As := [.int x2, .int x0, .int x1]) (rest := [.int u2]) hC miX1_brings mjX1_brings wd3_103 (qX1_brings l x2 x0 x1 u4 e5) ⟨Nat.le_of_ble_eq_true rfl, Nat.le_of_ble_eq_true rfl⟩ hl.1 rfl rfl (Nat.le_of_ble_eq_true rfl) dX1_bestToAsk_19 ?_
      refine lv_icmp_le (tgt := 27) hx hb dX1_bestToAsk_22 (by decide) (fun c6 => ?_) (fun c6 => ?_)
      · have hf := itP c6 hf
        exact hj27 x2 x3 hf _ (lv_sub hl [0, 1, 2, 3] rfl)
      · have hf := itN c6 hf
        refine lv_iload_n hx hb dX1_bestToAsk_25 rfl (lv_at hl 3 rfl) ?_
        refine lv_istore_n (lv' := [(2, .int x3), (0, .int x0), (1, .int x1), (3, .int x3)]) hx hb dX1_bestToAsk_26 rfl hl (by decide) rfl (fun ls hl => ?_)
        exact hj27 x3 x3 hf _ (lv_sub hl [1, 2, 0, 3] rfl)
  refine lv_iconst (v := (1 : Int32)) hx hb dX1_bestToAsk_0 rfl ?_
  refine lv_istore_n (lv' := [(2, .int (1 : Int32)), (0, .int x0), (1, .int x1)]) hx hb dX1_bestToAsk_1 rfl hl (by decide) rfl (fun ls hl => ?_)
  refine lv_iconst (v := (2 : Int32)) hx hb dX1_bestToAsk_2 rfl ?_
  refine lv_istore_n (lv' := [(3, .int (2 : Int32)), (2, .int (1 : Int32)), (0, .int x0), (1, .int x1)]) hx hb dX1_bestToAsk_3 rfl hl (by decide) rfl (fun ls hl => ?_)
  exact hj4 (1 : Int32) (2 : Int32) hf _ (lv_sub hl [2, 3, 1, 0] rfl)
def sX1_drinkerNames_2 (x0 : Int32) (x1 : Int32) (x2 : Int32) (k2 : Int32 → Option (Int32)) (x3 : Int32) : Option (Int32) := (if (9 : Int32) < x3 then some (-9 : Int32) else (if x3 < x1 then k2 (x3 + (1 : Int32)) else (if (x0 - x3) < x2 then some (-9 : Int32) else some x3)))
def fX1_drinkerNames (x0 : Int32) (x1 : Int32) (x2 : Int32) : Option (Int32) := lk1 (sX1_drinkerNames_2 x0 x1 x2) 1000 (0 : Int32)
theorem miX1_drinkerNames : MI yX1_drinkerNames cX1_drinkerNames 4 (some .int) 3 := ⟨wd1_12, wd3_120, by decide +kernel⟩
theorem mjX1_drinkerNames : Cond.static yX1_drinkerNames ∈ wT := wd3_119
set_option maxHeartbeats 4000000 in
set_option maxRecDepth 100000 in
theorem qX1_drinkerNames (l : Launch) (x0 : Int32) (x1 : Int32) (x2 : Int32) (res : Int32) (hf : fX1_drinkerNames x0 x1 x2 = some res) : Met l yX1_drinkerNames (Cond.code yX1_drinkerNames cX1_drinkerNames 4 (some .int) :: wT) (rmF 0 0) (va_Pc [.int x0, .int x1, .int x2] (fun _ => True)) (vp_Si (fun r => r = res)) 0 0 (fun _ => False) := by
  refine met_p (by decide) (Nat.le_of_ble_eq_true rfl) ?_
  intro p e s m below meth c hx hb hr hml ht hown hlk ls hl
  have hown : s.vm.findClass "EyeDrink$Prices" = some m.cls := hown
  have hl : lv_has ls 4 [(0, .int x0), (1, .int x1), (2, .int x2)] := hl
  unfold fX1_drinkerNames at hf
  have hj2 : ∀ (x3 : Int32), lk1 (sX1_drinkerNames_2 x0 x1 x2) 1000 x3 = some res → ∀ (ls : Array Slot), lv_has ls 4 [(0, .int x0), (1, .int x1), (2, .int x2), (3, .int x3)] → W p l e (rmF 0 0) s m ([.int x0, .int x1, .int x2] : List Value).toArray below meth c s.heap [] 0 0 (MQ below (vp_Si (fun r => r = res)) ([.int x0, .int x1, .int x2] : List Value).toArray s 0 0 (fun _ => False)) (F0 m 2 ls []) := by
    refine lk1_w (fun (x3 : Int32) => ∀ (ls : Array Slot), lv_has ls 4 [(0, .int x0), (1, .int x1), (2, .int x2), (3, .int x3)] → W p l e (rmF 0 0) s m ([.int x0, .int x1, .int x2] : List Value).toArray below meth c s.heap [] 0 0 (MQ below (vp_Si (fun r => r = res)) ([.int x0, .int x1, .int x2] : List Value).toArray s 0 0 (fun _ => False)) (F0 m 2 ls [])) ?_ 1000
    intro k2 hk2 x3 hf ls hl
    unfold sX1_drinkerNames_2 at hf
    refine lv_iload_n hx hb dX1_drinkerNames_2 rfl (lv_at hl 3 rfl) ?_
    refine lv_bipush (v := (9 : Int32)) hx hb dX1_drinkerNames_3 rfl ?_
    refine lv_icmp_gt (tgt := 33) hx hb dX1_drinkerNames_5 (by decide) (fun c1 => ?_) (fun c1 => ?_)
    · have hf := itP c1 hf
      refine lv_bipush (v := (-9 : Int32)) hx hb dX1_drinkerNames_33 rfl ?_
      exact W.iret hx hb hr (fun t ht9 _ => ⟨_, rfl, Option.some.inj hf, ht9⟩) (fun _ h9 => by cases h9) dX1_drinkerNames_35
    · have hf := itN c1 hf
      refine lv_iload_n hx hb dX1_drinkerNames_8 rfl (lv_at hl 3 rfl) ?_
      refine lv_iload_n hx hb dX1_drinkerNames_9 rfl (lv_at hl 1 rfl) ?_
      refine lv_icmp_lt (tgt := 27) hx hb dX1_drinkerNames_10 (by decide) (fun c2 => ?_) (fun c2 => ?_)
      · have hf := itP c2 hf
        refine lv_iinc (v := (x3 + (1 : Int32))) (lv' := [(3, .int (x3 + (1 : Int32))), (0, .int x0), (1, .int x1), (2, .int x2)]) hx hb dX1_drinkerNames_27 hl (k := 3) rfl rfl (by decide) rfl (fun ls hl => ?_)
        refine lv_goto (tgt := 2) hx hb dX1_drinkerNames_30 (by decide) ?_
        exact hk2 (x3 + (1 : Int32)) hf _ (lv_sub hl [1, 2, 3, 0] rfl)
      · have hf := itN c2 hf
        refine lv_iload_n hx hb dX1_drinkerNames_13 rfl (lv_at hl 0 rfl) ?_
        refine lv_iload_n hx hb dX1_drinkerNames_14 rfl (lv_at hl 3 rfl) ?_
        refine lv_isub hx hb dX1_drinkerNames_15 ?_
        refine lv_iload_n hx hb dX1_drinkerNames_16 rfl (lv_at hl 2 rfl) ?_
        refine lv_icmp_lt (tgt := 24) hx hb dX1_drinkerNames_17 (by decide) (fun c3 => ?_) (fun c3 => ?_)
        · have hf := itP c3 hf
          refine lv_bipush (v := (-9 : Int32)) hx hb dX1_drinkerNames_24 rfl ?_
          exact W.iret hx hb hr (fun t ht9 _ => ⟨_, rfl, Option.some.inj hf, ht9⟩) (fun _ h9 => by cases h9) dX1_drinkerNames_26
        · have hf := itN c3 hf
          refine lv_iload_n hx hb dX1_drinkerNames_20 rfl (lv_at hl 3 rfl) ?_
          refine lv_goto (tgt := 26) hx hb dX1_drinkerNames_21 (by decide) ?_
          exact W.iret hx hb hr (fun t ht9 _ => ⟨_, rfl, Option.some.inj hf, ht9⟩) (fun _ h9 => by cases h9) dX1_drinkerNames_26
  refine lv_iconst (v := (0 : Int32)) hx hb dX1_drinkerNames_0 rfl ?_
  refine lv_istore_n (lv' := [(3, .int (0 : Int32)), (0, .int x0), (1, .int x1), (2, .int x2)]) hx hb dX1_drinkerNames_1 rfl hl (by decide) rfl (fun ls hl => ?_)
  exact hj2 (0 : Int32) hf _ (lv_sub hl [1, 2, 3, 0] rfl)
def sX1_keeperNames_3 (x0 : Int32) (x1 : Int32) (x2 : Int32) (k3 : Int32 → Option (Int32)) (x3 : Int32) : Option (Int32) := (if x3 < x1 then some (-9 : Int32) else (if (x0 - x3) < x2 then k3 (x3 + (-1 : Int32)) else some x3))
def fX1_keeperNames (x0 : Int32) (x1 : Int32) (x2 : Int32) : Option (Int32) := lk1 (sX1_keeperNames_3 x0 x1 x2) 1000 (9 : Int32)
theorem miX1_keeperNames : MI yX1_keeperNames cX1_keeperNames 4 (some .int) 3 := ⟨wd1_12, wd3_117, by decide +kernel⟩
theorem mjX1_keeperNames : Cond.static yX1_keeperNames ∈ wT := wd3_116
set_option maxHeartbeats 4000000 in
set_option maxRecDepth 100000 in
theorem qX1_keeperNames (l : Launch) (x0 : Int32) (x1 : Int32) (x2 : Int32) (res : Int32) (hf : fX1_keeperNames x0 x1 x2 = some res) : Met l yX1_keeperNames (Cond.code yX1_keeperNames cX1_keeperNames 4 (some .int) :: wT) (rmF 0 0) (va_Pc [.int x0, .int x1, .int x2] (fun _ => True)) (vp_Si (fun r => r = res)) 0 0 (fun _ => False) := by
  refine met_p (by decide) (Nat.le_of_ble_eq_true rfl) ?_
  intro p e s m below meth c hx hb hr hml ht hown hlk ls hl
  have hown : s.vm.findClass "EyeDrink$Prices" = some m.cls := hown
  have hl : lv_has ls 4 [(0, .int x0), (1, .int x1), (2, .int x2)] := hl
  unfold fX1_keeperNames at hf
  have hj3 : ∀ (x3 : Int32), lk1 (sX1_keeperNames_3 x0 x1 x2) 1000 x3 = some res → ∀ (ls : Array Slot), lv_has ls 4 [(0, .int x0), (1, .int x1), (2, .int x2), (3, .int x3)] → W p l e (rmF 0 0) s m ([.int x0, .int x1, .int x2] : List Value).toArray below meth c s.heap [] 0 0 (MQ below (vp_Si (fun r => r = res)) ([.int x0, .int x1, .int x2] : List Value).toArray s 0 0 (fun _ => False)) (F0 m 3 ls []) := by
    refine lk1_w (fun (x3 : Int32) => ∀ (ls : Array Slot), lv_has ls 4 [(0, .int x0), (1, .int x1), (2, .int x2), (3, .int x3)] → W p l e (rmF 0 0) s m ([.int x0, .int x1, .int x2] : List Value).toArray below meth c s.heap [] 0 0 (MQ below (vp_Si (fun r => r = res)) ([.int x0, .int x1, .int x2] : List Value).toArray s 0 0 (fun _ => False)) (F0 m 3 ls [])) ?_ 1000
    intro k3 hk3 x3 hf ls hl
    unfold sX1_keeperNames_3 at hf
    refine lv_iload_n hx hb dX1_keeperNames_3 rfl (lv_at hl 3 rfl) ?_
    refine lv_iload_n hx hb dX1_keeperNames_4 rfl (lv_at hl 1 rfl) ?_
    refine lv_icmp_lt (tgt := 23) hx hb dX1_keeperNames_5 (by decide) (fun c1 => ?_) (fun c1 => ?_)
    · have hf := itP c1 hf
      refine lv_bipush (v := (-9 : Int32)) hx hb dX1_keeperNames_23 rfl ?_
      exact W.iret hx hb hr (fun t ht9 _ => ⟨_, rfl, Option.some.inj hf, ht9⟩) (fun _ h9 => by cases h9) dX1_keeperNames_25
    · have hf := itN c1 hf
      refine lv_iload_n hx hb dX1_keeperNames_8 rfl (lv_at hl 0 rfl) ?_
      refine lv_iload_n hx hb dX1_keeperNames_9 rfl (lv_at hl 3 rfl) ?_
      refine lv_isub hx hb dX1_keeperNames_10 ?_
      refine lv_iload_n hx hb dX1_keeperNames_11 rfl (lv_at hl 2 rfl) ?_
      refine lv_icmp_lt (tgt := 17) hx hb dX1_keeperNames_12 (by decide) (fun c2 => ?_) (fun c2 => ?_)
      · have hf := itP c2 hf
        refine lv_iinc (v := (x3 + (-1 : Int32))) (lv' := [(3, .int (x3 + (-1 : Int32))), (0, .int x0), (1, .int x1), (2, .int x2)]) hx hb dX1_keeperNames_17 hl (k := 3) rfl rfl (by decide) rfl (fun ls hl => ?_)
        refine lv_goto (tgt := 3) hx hb dX1_keeperNames_20 (by decide) ?_
        exact hk3 (x3 + (-1 : Int32)) hf _ (lv_sub hl [1, 2, 3, 0] rfl)
      · have hf := itN c2 hf
        refine lv_iload_n hx hb dX1_keeperNames_15 rfl (lv_at hl 3 rfl) ?_
        exact W.iret hx hb hr (fun t ht9 _ => ⟨_, rfl, Option.some.inj hf, ht9⟩) (fun _ h9 => by cases h9) dX1_keeperNames_16
  refine lv_bipush (v := (9 : Int32)) hx hb dX1_keeperNames_0 rfl ?_
  refine lv_istore_n (lv' := [(3, .int (9 : Int32)), (0, .int x0), (1, .int x1), (2, .int x2)]) hx hb dX1_keeperNames_2 rfl hl (by decide) rfl (fun ls hl => ?_)
  exact hj3 (9 : Int32) hf _ (lv_sub hl [1, 2, 3, 0] rfl)
def gX1_agreedByTurns_66 (x0 : Int32) (x1 : Int32) (k9 : Int32 → Int32 → Int32 → Option (Int32)) (x2 : Int32) (x3 : Int32) (x4 : Int32) : Option (Int32) := k9 x2 x3 (x4 + (-1 : Int32))
def gX1_agreedByTurns_48 (x0 : Int32) (x1 : Int32) (k9 : Int32 → Int32 → Int32 → Option (Int32)) (x2 : Int32) (x3 : Int32) (x4 : Int32) (x5 : Int32) (y0 : Int32) : Option (Int32) := (if y0 = (-9 : Int32) then gX1_agreedByTurns_66 x0 x1 k9 x2 x3 x4 else gX1_agreedByTurns_66 x0 x1 k9 y0 (x5 - y0) x4)
def sX1_agreedByTurns_9 (x0 : Int32) (x1 : Int32) (k9 : Int32 → Int32 → Int32 → Option (Int32)) (x2 : Int32) (x3 : Int32) (x4 : Int32) : Option (Int32) := (if x4 < 0 then some x2 else (if (x4 - x4 / (2 : Int32) * (2 : Int32)) = 0 then (fX1_keeperNames (if (0 : Int32) < (x0 - x4) then (x0 - x4) else (0 : Int32)) x2 x3).bind (fun u6 => gX1_agreedByTurns_48 x0 x1 k9 x2 x3 x4 (if (0 : Int32) < (x0 - x4) then (x0 - x4) else (0 : Int32)) u6) else (fX1_drinkerNames (if (0 : Int32) < (x0 - x4) then (x0 - x4) else (0 : Int32)) x2 x3).bind (fun u4 => gX1_agreedByTurns_48 x0 x1 k9 x2 x3 x4 (if (0 : Int32) < (x0 - x4) then (x0 - x4) else (0 : Int32)) u4)))
def fX1_agreedByTurns (x0 : Int32) (x1 : Int32) : Option (Int32) := lk3 (sX1_agreedByTurns_9 x0 x1) 1000 (0 : Int32) (0 : Int32) (x1 - (1 : Int32))
theorem miX1_agreedByTurns : MI yX1_agreedByTurns cX1_agreedByTurns 7 (some .int) 2 := ⟨wd1_12, wd3_113, by decide +kernel⟩
theorem mjX1_agreedByTurns : Cond.static yX1_agreedByTurns ∈ wT := wd3_112
set_option maxHeartbeats 4000000 in
set_option maxRecDepth 100000 in
theorem qX1_agreedByTurns (l : Launch) (x0 : Int32) (x1 : Int32) (res : Int32) (hf : fX1_agreedByTurns x0 x1 = some res) : Met l yX1_agreedByTurns (Cond.code yX1_agreedByTurns cX1_agreedByTurns 7 (some .int) :: wT) (rmF 1 23) (va_Pc [.int x0, .int x1] (fun _ => True)) (vp_Si (fun r => r = res)) 0 0 (fun _ => False) := by
  refine met_p (by decide) (Nat.le_of_ble_eq_true rfl) ?_
  intro p e s m below meth c hx hb hr hml ht hown hlk ls hl
  have hown : s.vm.findClass "EyeDrink$Prices" = some m.cls := hown
  have hl : lv_has ls 7 [(0, .int x0), (1, .int x1)] := hl
  have hC : CallFix p m c cX1_agreedByTurns 7 s ([.int x0, .int x1] : List Value).toArray wT "EyeDrink$Prices" := ⟨hx, hb, hml, hown, ht⟩
  unfold fX1_agreedByTurns at hf
  have hj9 : ∀ (x2 : Int32) (x3 : Int32) (x4 : Int32), lk3 (sX1_agreedByTurns_9 x0 x1) 1000 x2 x3 x4 = some res → ∀ (ls : Array Slot), lv_has ls 7 [(0, .int x0), (2, .int x2), (3, .int x3), (4, .int x4)] → W p l e (rmF 1 23) s m ([.int x0, .int x1] : List Value).toArray below meth c s.heap [] 0 0 (MQ below (vp_Si (fun r => r = res)) ([.int x0, .int x1] : List Value).toArray s 0 0 (fun _ => False)) (F0 m 9 ls []) := by
    refine lk3_w (fun (x2 : Int32) (x3 : Int32) (x4 : Int32) => ∀ (ls : Array Slot), lv_has ls 7 [(0, .int x0), (2, .int x2), (3, .int x3), (4, .int x4)] → W p l e (rmF 1 23) s m ([.int x0, .int x1] : List Value).toArray below meth c s.heap [] 0 0 (MQ below (vp_Si (fun r => r = res)) ([.int x0, .int x1] : List Value).toArray s 0 0 (fun _ => False)) (F0 m 9 ls [])) ?_ 1000
    intro k9 hk9 x2 x3 x4 hf ls hl
    unfold sX1_agreedByTurns_9 at hf
    have hj66 : ∀ (x2 : Int32) (x3 : Int32) (x4 : Int32), gX1_agreedByTurns_66 x0 x1 k9 x2 x3 x4 = some res → ∀ (ls : Array Slot), lv_has ls 7 [(0, .int x0), (2, .int x2), (3, .int x3), (4, .int x4)] → W p l e (rmF 1 23) s m ([.int x0, .int x1] : List Value).toArray below meth c s.heap [] 0 0 (MQ below (vp_Si (fun r => r = res)) ([.int x0, .int x1] : List Value).toArray s 0 0 (fun _ => False)) (F0 m 66 ls []) := by
      intro x2 x3 x4 hf ls hl
      unfold gX1_agreedByTurns_66 at hf
      refine lv_iinc (v := (x4 + (-1 : Int32))) (lv' := [(4, .int (x4 + (-1 : Int32))), (0, .int x0), (2, .int x2), (3, .int x3)]) hx hb dX1_agreedByTurns_66 hl (k := 3) rfl rfl (by decide) rfl (fun ls hl => ?_)
      refine lv_goto (tgt := 9) hx hb dX1_agreedByTurns_69 (by decide) ?_
      exact hk9 x2 x3 (x4 + (-1 : Int32)) hf _ (lv_sub hl [1, 2, 3, 0] rfl)
    have hj48 : ∀ (x2 : Int32) (x3 : Int32) (x4 : Int32) (x5 : Int32) (y0 : Int32), gX1_agreedByTurns_48 x0 x1 k9 x2 x3 x4 x5 y0 = some res → ∀ (ls : Array Slot), lv_has ls 7 [(0, .int x0), (2, .int x2), (3, .int x3), (4, .int x4), (5, .int x5)] → W p l e (rmF 1 23) s m ([.int x0, .int x1] : List Value).toArray below meth c s.heap [] 0 0 (MQ below (vp_Si (fun r => r = res)) ([.int x0, .int x1] : List Value).toArray s 0 0 (fun _ => False)) (F0 m 48 ls [.int y0]) := by
      intro x2 x3 x4 x5 y0 hf ls hl
      unfold gX1_agreedByTurns_48 at hf
      refine lv_istore (lv' := [(6, .int y0), (0, .int x0), (2, .int x2), (3, .int x3), (4, .int x4), (5, .int x5)]) hx hb dX1_agreedByTurns_48 hl (by decide) rfl (fun ls hl => ?_)
      refine lv_iload hx hb dX1_agreedByTurns_50 (lv_at hl 0 rfl) ?_
      refine lv_bipush (v := (-9 : Int32)) hx hb dX1_agreedByTurns_52 rfl ?_
      refine lv_icmp_eq (tgt := 66) hx hb dX1_agreedByTurns_54 (by decide) (fun c1 => ?_) (fun c1 => ?_)
      · have hf := itP c1 hf
        exact hj66 x2 x3 x4 hf _ (lv_sub hl [1, 2, 3, 4] rfl)
      · have hf := itN c1 hf
        refine lv_iload hx hb dX1_agreedByTurns_57 (lv_at hl 0 rfl) ?_
        refine lv_istore_n (lv' := [(2, .int y0), (6, .int y0), (0, .int x0), (3, .int x3), (4, .int x4), (5, .int x5)]) hx hb dX1_agreedByTurns_59 rfl hl (by decide) rfl (fun ls hl => ?_)
        refine lv_iload hx hb dX1_agreedByTurns_60 (lv_at hl 5 rfl) ?_
        refine lv_iload hx hb dX1_agreedByTurns_62 (lv_at hl 1 rfl) ?_
        refine lv_isub hx hb dX1_agreedByTurns_64 ?_
        refine lv_istore_n (lv' := [(3, .int (x5 - y0)), (2, .int y0), (6, .int y0), (0, .int x0), (4, .int x4), (5, .int x5)]) hx hb dX1_agreedByTurns_65 rfl hl (by decide) rfl (fun ls hl => ?_)
        exact hj66 y0 (x5 - y0) x4 hf _ (lv_sub hl [3, 1, 0, 4] rfl)
    refine lv_iload hx hb dX1_agreedByTurns_9 (lv_at hl 3 rfl) ?_
    refine lv_if_lt (tgt := 72) hx hb dX1_agreedByTurns_11 (by decide) (fun c2 => ?_) (fun c2 => ?_)
    · have hf := itP c2 hf
      refine lv_iload_n hx hb dX1_agreedByTurns_72 rfl (lv_at hl 1 rfl) ?_
      exact W.iret hx hb hr (fun t ht9 _ => ⟨_, rfl, Option.some.inj hf, ht9⟩) (fun _ h9 => by cases h9) dX1_agreedByTurns_73
    · have hf := itN c2 hf
      refine lv_iconst (v := (0 : Int32)) hx hb dX1_agreedByTurns_14 rfl ?_
      refine lv_iload_n hx hb dX1_agreedByTurns_15 rfl (lv_at hl 0 rfl) ?_
      refine lv_iload hx hb dX1_agreedByTurns_16 (lv_at hl 3 rfl) ?_
      refine lv_isub hx hb dX1_agreedByTurns_18 ?_
      refine va_mmax hx hb (hml.trans hl.1.symm) hown (ht _ wd3_114) (ht _ wd3_38) (ht _ wd1_11) (ht _ wd3_39) (Nat.le_of_ble_eq_true rfl) (Nat.le_of_ble_eq_true rfl) (Nat.zero_le _) (Nat.zero_le _) dX1_agreedByTurns_19 ?_
      refine lv_istore (lv' := [(5, .int (if (0 : Int32) < (x0 - x4) then (x0 - x4) else (0 : Int32))), (0, .int x0), (2, .int x2), (3, .int x3), (4, .int x4)]) hx hb dX1_agreedByTurns_22 hl (by decide) rfl (fun ls hl => ?_)
      refine lv_iload hx hb dX1_agreedByTurns_24 (lv_at hl 4 rfl) ?_
      refine lv_iconst (v := (2 : Int32)) hx hb dX1_agreedByTurns_26 rfl ?_
      refine lv_irem hx hb dX1_agreedByTurns_27 (by decide) ?_
      refine lv_if_ne (tgt := 41) hx hb dX1_agreedByTurns_28 (by decide) (fun c3 => ?_) (fun c3 => ?_)
      · have hf := itN c3 hf
        refine lv_iload hx hb dX1_agreedByTurns_41 (lv_at hl 0 rfl) ?_
        refine lv_iload_n hx hb dX1_agreedByTurns_43 rfl (lv_at hl 2 rfl) ?_
        refine lv_iload_n hx hb dX1_agreedByTurns_44 rfl (lv_at hl 3 rfl) ?_
        obtain ⟨u4, e5, hf⟩ := bdS hf
        refine k_pS (As := [.int (if (0 : Int32) < (x0 - x4) then (x0 - x4) else (0 : Int32)), .int x2, .int x3]) (rest := []) hC miX1_drinkerNames mjX1_drinkerNames wd3_118 (qX1_drinkerNames l (if (0 : Int32) < (x0 - x4) then (x0 - x4) else (0 : Int32)) x2 x3 u4 e5) ⟨Nat.le_of_ble_eq_true rfl, Nat.le_of_ble_eq_true rfl⟩ hl.1 rfl rfl (Nat.le_of_ble_eq_true rfl) dX1_agreedByTurns_45 ?_
        exact hj48 x2 x3 x4 (if (0 : Int32) < (x0 - x4) then (x0 - x4) else (0 : Int32)) u4 hf _ (lv_sub hl [1, 2, 3, 4, 0] rfl)
      · have hf := itP c3 hf
        refine lv_iload hx hb dX1_agreedByTurns_31 (lv_at hl 0 rfl) ?_
        refine lv_iload_n hx hb dX1_agreedByTurns_33 rfl (lv_at hl 2 rfl) ?_
        refine lv_iload_n hx hb dX1_agreedByTurns_34 rfl (lv_at hl 3 rfl) ?_
        obtain ⟨u6, e7, hf⟩ := bdS hf
        refine k_pS (As := [.int (if (0 : Int32) < (x0 - x4) then (x0 - x4) else (0 : Int32)), .int x2, .int x3]) (rest := []) hC miX1_keeperNames mjX1_keeperNames wd3_115 (qX1_keeperNames l (if (0 : Int32) < (x0 - x4) then (x0 - x4) else (0 : Int32)) x2 x3 u6 e7) ⟨Nat.le_of_ble_eq_true rfl, Nat.le_of_ble_eq_true rfl⟩ hl.1 rfl rfl (Nat.le_of_ble_eq_true rfl) dX1_agreedByTurns_35 ?_
        refine lv_goto (tgt := 48) hx hb dX1_agreedByTurns_38 (by decide) ?_
        exact hj48 x2 x3 x4 (if (0 : Int32) < (x0 - x4) then (x0 - x4) else (0 : Int32)) u6 hf _ (lv_sub hl [1, 2, 3, 4, 0] rfl)
  refine lv_iconst (v := (0 : Int32)) hx hb dX1_agreedByTurns_0 rfl ?_
  refine lv_istore_n (lv' := [(2, .int (0 : Int32)), (0, .int x0), (1, .int x1)]) hx hb dX1_agreedByTurns_1 rfl hl (by decide) rfl (fun ls hl => ?_)
  refine lv_iconst (v := (0 : Int32)) hx hb dX1_agreedByTurns_2 rfl ?_
  refine lv_istore_n (lv' := [(3, .int (0 : Int32)), (2, .int (0 : Int32)), (0, .int x0), (1, .int x1)]) hx hb dX1_agreedByTurns_3 rfl hl (by decide) rfl (fun ls hl => ?_)
  refine lv_iload_n hx hb dX1_agreedByTurns_4 rfl (lv_at hl 3 rfl) ?_
  refine lv_iconst (v := (1 : Int32)) hx hb dX1_agreedByTurns_5 rfl ?_
  refine lv_isub hx hb dX1_agreedByTurns_6 ?_
  refine lv_istore (lv' := [(4, .int (x1 - (1 : Int32))), (3, .int (0 : Int32)), (2, .int (0 : Int32)), (0, .int x0), (1, .int x1)]) hx hb dX1_agreedByTurns_7 hl (by decide) rfl (fun ls hl => ?_)
  exact hj9 (0 : Int32) (0 : Int32) (x1 - (1 : Int32)) hf _ (lv_sub hl [3, 2, 1, 0] rfl)
abbrev wX2_add (cI cZ : ClassId) (jhg : Nat) (jag : Nat → Nat) (jhw : Nat) (Sg : Bk) : va_W := [(jhg, .inr (1, [.ref jhw, .ref (jag 1), .ref (jag 2), .int (Sg.1 0)])), (jag 1, .inl (cI, 6, .inl (Sg.2.1 1))), (jag 2, .inl (cZ, 6, .inl (Sg.2.1 2)))]
def fX2_add (Sg : Bk) (x1 : Int32) (x2 : Int32) : Option (Int32 × Bk) := (if (Sg.1 0) < (6 : Int32) then inB 6 (Sg.1 0) (nmV (Sg.1 0).toNatClampNeg (fun j3 => inB 6 (Sg.1 0) (nmV (Sg.1 0).toNatClampNeg (fun j5 => nmV ((Sg.1 0) + (1 : Int32)) (fun v6 => some ((1 : Int32), (bI (bW (bW Sg 1 j3 x1) 2 j5 (vp_nar .boolean x2)) 0 v6))))))) else some ((0 : Int32), Sg))
theorem miX2_add : MI yX2_add cX2_add 3 (some .boolean) 2 := ⟨wd1_7, wd3_128, by decide +kernel⟩
theorem mjX2_add : Cond.instanceMethod yX2_add ∈ wT ∧ Cond.selects yX2_add.cls yX2_add yX2_add ∈ wT := ⟨wd3_126, wd3_127⟩
set_option maxHeartbeats 4000000 in
set_option maxRecDepth 100000 in
theorem qX2_add (l : Launch) (D : va_G) (cI cZ cO : ClassId) (jhg : Nat) (jag : Nat → Nat) (jhw : Nat) (Sg : Bk) (x1 : Int32) (x2 : Int32) (sz : Nat) (res : Int32 × Bk) (hf : fX2_add Sg x1 x2 = some res) : Met l yX2_add (Cond.code yX2_add cX2_add 3 (some .boolean) :: wT) (rmF 0 0) (va_Pc [.ref jhg, .int x1, .int x2] (cW D (tyL cI cZ cO) (wX2_add cI cZ jhg jag jhw Sg) sz)) (va_Qi (S := Unit) (fun r _ => r = res.1) (fun _ => qW D (tyL cI cZ cO) (va_A (wX2_add cI cZ jhg jag jhw Sg) sz) (wX2_add cI cZ jhg jag jhw res.2)) (va_A (wX2_add cI cZ jhg jag jhw Sg) sz)) 0 0 (va_A (wX2_add cI cZ jhg jag jhw Sg) sz) := by
  refine met_w (by decide) (Nat.le_of_ble_eq_true rfl) ?_
  intro p e s m below meth c hx hb hr hml ht hown hlk ls hl hsz hP hK hD0 hZ
  subst hsz
  have hD := hD0.self (sz := s.heap.size)
  generalize hAe : va_A (wX2_add cI cZ jhg jag jhw Sg) s.heap.size = A at hD hZ ⊢
  have hA : ∀ q : Nat, s.heap.size ≤ q → A q := fun q h => by rw [← hAe]; exact Or.inr h
  have hS : va_S A s.heap s.heap [] := va_S.rf
  have hown : s.vm.findClass "EyeDrink$Sights" = some m.cls := hown
  have hl : lv_has ls 3 [(0, .ref jhg), (1, .int x1), (2, .int x2)] := hl
  unfold fX2_add at hf
  suffices hgo : ∀ (H : Heap) (locs : List Loc), va_P D vwCl (wX2_add cI cZ jhg jag jhw Sg) H → va_S A s.heap H locs → W p l e (rmF 0 0) s m ([.ref jhg, .int x1, .int x2] : List Value).toArray below meth c H locs 0 0 (MQ below (va_Qi (S := Unit) (fun r _ => r = res.1) (fun _ => qW D (tyL cI cZ cO) A (wX2_add cI cZ jhg jag jhw res.2)) A) ([.ref jhg, .int x1, .int x2] : List Value).toArray s 0 0 A) (F0 m 0 ls []) from hgo s.heap [] hP hS
  intro H locs hP hS
  refine lv_aload_n hx hb dX2_add_0 rfl (lv_at hl 0 rfl) ?_
  refine va_get (D := D) (ci := 1) (v := .int (Sg.1 0)) (C := RX2) (T := TX2) (N := 4) hx hb ht inX2 hown hK hP 0 rfl rfl 3 (by decide) (ht _ wd1_227) (fun _ h9 => h9) rfl dX2_add_1 ?_
  refine lv_bipush (v := (6 : Int32)) hx hb dX2_add_4 rfl ?_
  refine lv_icmp_lt (tgt := 11) hx hb dX2_add_6 (by decide) (fun c1 => ?_) (fun c1 => ?_)
  · have hf := itP c1 hf
    refine lv_aload_n hx hb dX2_add_11 rfl (lv_at hl 0 rfl) ?_
    refine va_get (D := D) (ci := 1) (v := .ref (jag 1)) (C := RX2) (T := TX2) (N := 4) hx hb ht inX2 hown hK hP 0 rfl rfl 1 (by decide) (ht _ wd1_225) (fun _ h9 => h9) rfl dX2_add_12 ?_
    refine lv_aload_n hx hb dX2_add_15 rfl (lv_at hl 0 rfl) ?_
    refine va_get (D := D) (ci := 1) (v := .int (Sg.1 0)) (C := RX2) (T := TX2) (N := 4) hx hb ht inX2 hown hK hP 0 rfl rfl 3 (by decide) (ht _ wd1_227) (fun _ h9 => h9) rfl dX2_add_16 ?_
    refine lv_iload_n hx hb dX2_add_19 rfl (lv_at hl 1 rfl) ?_
    obtain ⟨h2, hf⟩ := inB_s hf
    obtain ⟨j3, ej3, hf⟩ := nmV_s hf
    refine va_iast (f := (Sg.2.1 1)) (n := 6) hx hb hK hP hD hS 1 0 rfl rfl h2 dX2_add_20 (fun H locs hP hD hS => ?_)
    rw [← ej3] at hP hD
    have hP : va_P D vwCl (wX2_add cI cZ jhg jag jhw (bW Sg 1 j3 x1)) H := hP
    have hD : va_D A (wX2_add cI cZ jhg jag jhw (bW Sg 1 j3 x1)) := hD
    refine lv_aload_n hx hb dX2_add_21 rfl (lv_at hl 0 rfl) ?_
    refine va_get (D := D) (ci := 1) (v := .ref (jag 2)) (C := RX2) (T := TX2) (N := 4) hx hb ht inX2 hown hK hP 0 rfl rfl 2 (by decide) (ht _ wd1_226) (fun _ h9 => h9) rfl dX2_add_22 ?_
    refine lv_aload_n hx hb dX2_add_25 rfl (lv_at hl 0 rfl) ?_
    refine va_get (D := D) (ci := 1) (v := .int (Sg.1 0)) (C := RX2) (T := TX2) (N := 4) hx hb ht inX2 hown hK hP 0 rfl rfl 3 (by decide) (ht _ wd1_227) (fun _ h9 => h9) rfl dX2_add_26 ?_
    refine lv_iload_n hx hb dX2_add_29 rfl (lv_at hl 2 rfl) ?_
    obtain ⟨h4, hf⟩ := inB_s hf
    obtain ⟨j5, ej5, hf⟩ := nmV_s hf
    refine va_zast (f := (Sg.2.1 2)) (n := 6) hx hb hK hP hD hS 2 1 rfl rfl h4 dX2_add_30 (fun H locs hP hD hS => ?_)
    rw [← ej5] at hP hD
    have hP : va_P D vwCl (wX2_add cI cZ jhg jag jhw (bW (bW Sg 1 j3 x1) 2 j5 (vp_nar .boolean x2))) H := hP
    have hD : va_D A (wX2_add cI cZ jhg jag jhw (bW (bW Sg 1 j3 x1) 2 j5 (vp_nar .boolean x2))) := hD
    refine lv_aload_n hx hb dX2_add_31 rfl (lv_at hl 0 rfl) ?_
    refine lv_dup hx hb dX2_add_32 rfl ?_
    refine va_get (D := D) (ci := 1) (v := .int (Sg.1 0)) (C := RX2) (T := TX2) (N := 4) hx hb ht inX2 hown hK hP 0 rfl rfl 3 (by decide) (ht _ wd1_227) (fun _ h9 => h9) rfl dX2_add_33 ?_
    refine lv_iconst (v := (1 : Int32)) hx hb dX2_add_36 rfl ?_
    refine lv_iadd hx hb dX2_add_37 ?_
    obtain ⟨v6, ev6, hf⟩ := nmV_s hf
    rw [← ev6]
    refine va_put (D := D) (ci := 1) (v := .int v6) (ty := .int) (C := RX2) (T := TX2) (N := 4) hx hb ht inX2 tyX2 tyX2_ok nmX2 hown hK hP hD hS 0 rfl rfl 3 (by decide) (ht _ wd1_227) (fun _ h9 => h9) rfl (tyX2_ok 3 (by decide)) rfl rfl (Nat.le_of_ble_eq_true rfl) dX2_add_38 (fun H locs hP hD hS => ?_)
    have hP : va_P D vwCl (wX2_add cI cZ jhg jag jhw (bI (bW (bW Sg 1 j3 x1) 2 j5 (vp_nar .boolean x2)) 0 v6)) H := hP
    have hD : va_D A (wX2_add cI cZ jhg jag jhw (bI (bW (bW Sg 1 j3 x1) 2 j5 (vp_nar .boolean x2)) 0 v6)) := hD
    refine lv_iconst (v := (1 : Int32)) hx hb dX2_add_41 rfl ?_
    cases hf
    exact W.zret hx hb hr rfl (fun t ht9 hW => ⟨⟨_, (), rfl, rfl, by rw [ht9]; exact hP, va_K.moved hW.alike hK, hD⟩, hS.F ht9⟩) hS.2.2 dX2_add_42
  · have hf := itN c1 hf
    refine lv_iconst (v := (0 : Int32)) hx hb dX2_add_9 rfl ?_
    cases hf
    exact W.zret hx hb hr rfl (fun t ht9 hW => ⟨⟨_, (), rfl, rfl, by rw [ht9]; exact hP, va_K.moved hW.alike hK, hD⟩, hS.F ht9⟩) hS.2.2 dX2_add_10
abbrev wX2_agree (cI cZ : ClassId) (jhw : Nat) (jaw : Nat → Nat) (jhg : Nat) (jag : Nat → Nat) (Sw : Bk) (Sg : Bk) : va_W := [(jhw, .inr (5, [.int (Sw.1 0), .ref (jaw 0), .ref (jaw 1), .ref (jaw 2), .int (Sw.1 1), .ref (jaw 3), .ref (jaw 4), .ref (jaw 5), .int (Sw.1 2), .int (Sw.1 3), .ref (jaw 6), .ref (jaw 7), .ref (jaw 8), .ref (jaw 9), .ref (jaw 10)])), (jaw 6, .inl (cI, 4, .inl (Sw.2.1 6))), (jaw 7, .inl (cI, 4, .inl (Sw.2.1 7))), (jhg, .inr (1, [.ref jhw, .ref (jag 1), .ref (jag 2), .int (Sg.1 0)])), (jag 1, .inl (cI, 6, .inl (Sg.2.1 1))), (jag 2, .inl (cZ, 6, .inl (Sg.2.1 2)))]
def gX2_agree_73 (Sw : Bk) (Sg : Bk) (x1 : Int32) (k2 : Int32 → Option (Int32)) (x2 : Int32) : Option (Int32) := k2 (x2 + (1 : Int32))
def gX2_agree_58 (Sw : Bk) (Sg : Bk) (x1 : Int32) (k2 : Int32 → Option (Int32)) (x2 : Int32) (y0 : Int32) : Option (Int32) := inB 6 x2 ((if y0 = ((Sg.2.1 2) x2.toNatClampNeg) then gX2_agree_73 Sw Sg x1 k2 x2 else some (0 : Int32)))
def sX2_agree_2 (Sw : Bk) (Sg : Bk) (x1 : Int32) (k2 : Int32 → Option (Int32)) (x2 : Int32) : Option (Int32) := (if (Sg.1 0) ≤ x2 then some (1 : Int32) else inB 6 x2 ((if (Sw.1 3) ≤ ((Sg.2.1 1) x2.toNatClampNeg) then gX2_agree_73 Sw Sg x1 k2 x2 else inB 4 ((Sg.2.1 1) x2.toNatClampNeg) (inB 4 ((Sg.2.1 1) x2.toNatClampNeg) ((if ((x1 >>> (((Sw.2.1 6) ((Sg.2.1 1) x2.toNatClampNeg).toNatClampNeg) &&& 31)) &&& (1 : Int32)) = ((Sw.2.1 7) ((Sg.2.1 1) x2.toNatClampNeg).toNatClampNeg) then gX2_agree_58 Sw Sg x1 k2 x2 (1 : Int32) else gX2_agree_58 Sw Sg x1 k2 x2 (0 : Int32)))))))
def fX2_agree (Sw : Bk) (Sg : Bk) (x1 : Int32) : Option (Int32) := lk1 (sX2_agree_2 Sw Sg x1) 1000 (0 : Int32)
theorem miX2_agree : MI yX2_agree cX2_agree 5 (some .boolean) 1 := ⟨wd1_7, wd3_144, by decide +kernel⟩
theorem mjX2_agree : Cond.instanceMethod yX2_agree ∈ wT ∧ Cond.selects yX2_agree.cls yX2_agree yX2_agree ∈ wT := ⟨wd3_143, ws_12⟩
set_option maxHeartbeats 4000000 in
set_option maxRecDepth 100000 in
theorem qX2_agree (l : Launch) (D : va_G) (cI cZ cO : ClassId) (jhw : Nat) (jaw : Nat → Nat) (jhg : Nat) (jag : Nat → Nat) (Sw : Bk) (Sg : Bk) (x1 : Int32) (res : Int32) (hf : fX2_agree Sw Sg x1 = some res) : Met l yX2_agree (Cond.code yX2_agree cX2_agree 5 (some .boolean) :: wT) (rmF 0 0) (va_Pc [.ref jhg, .int x1] (cR D (tyL cI cZ cO) (wX2_agree cI cZ jhw jaw jhg jag Sw Sg))) (vp_Si (fun r => r = res)) 0 0 (fun _ => False) := by
  refine met_r (by decide) (Nat.le_of_ble_eq_true rfl) ?_
  intro p e s m below meth c hx hb hr hml ht hown hlk ls hl hP hK hZ
  have hS : va_S (fun _ => False) s.heap s.heap [] := va_S.rf
  have hown : s.vm.findClass "EyeDrink$Sights" = some m.cls := hown
  have hl : lv_has ls 5 [(0, .ref jhg), (1, .int x1)] := hl
  unfold fX2_agree at hf
  have hj2 : ∀ (x2 : Int32), lk1 (sX2_agree_2 Sw Sg x1) 1000 x2 = some res → ∀ (ls : Array Slot), lv_has ls 5 [(0, .ref jhg), (1, .int x1), (2, .int x2)] → W p l e (rmF 0 0) s m ([.ref jhg, .int x1] : List Value).toArray below meth c s.heap [] 0 0 (MQ below (vp_Si (fun r => r = res)) ([.ref jhg, .int x1] : List Value).toArray s 0 0 (fun _ => False)) (F0 m 2 ls []) := by
    refine lk1_w (fun (x2 : Int32) => ∀ (ls : Array Slot), lv_has ls 5 [(0, .ref jhg), (1, .int x1), (2, .int x2)] → W p l e (rmF 0 0) s m ([.ref jhg, .int x1] : List Value).toArray below meth c s.heap [] 0 0 (MQ below (vp_Si (fun r => r = res)) ([.ref jhg, .int x1] : List Value).toArray s 0 0 (fun _ => False)) (F0 m 2 ls [])) ?_ 1000
    intro k2 hk2 x2 hf ls hl
    unfold sX2_agree_2 at hf
    have hj73 : ∀ (x2 : Int32), gX2_agree_73 Sw Sg x1 k2 x2 = some res → ∀ (ls : Array Slot), lv_has ls 5 [(0, .ref jhg), (1, .int x1), (2, .int x2)] → W p l e (rmF 0 0) s m ([.ref jhg, .int x1] : List Value).toArray below meth c s.heap [] 0 0 (MQ below (vp_Si (fun r => r = res)) ([.ref jhg, .int x1] : List Value).toArray s 0 0 (fun _ => False)) (F0 m 73 ls []) := by
      intro x2 hf ls hl
      unfold gX2_agree_73 at hf
      refine lv_iinc (v := (x2 + (1 : Int32))) (lv' := [(2, .int (x2 + (1 : Int32))), (0, .ref jhg), (1, .int x1)]) hx hb dX2_agree_73 hl (k := 2) rfl rfl (by decide) rfl (fun ls hl => ?_)
      refine lv_goto (tgt := 2) hx hb dX2_agree_76 (by decide) ?_
      exact hk2 (x2 + (1 : Int32)) hf _ (lv_sub hl [1, 2, 0] rfl)
    have hj58 : ∀ (x2 : Int32) (y0 : Int32), gX2_agree_58 Sw Sg x1 k2 x2 y0 = some res → ∀ (ls : Array Slot), lv_has ls 5 [(0, .ref jhg), (1, .int x1), (2, .int x2)] → W p l e (rmF 0 0) s m ([.ref jhg, .int x1] : List Value).toArray below meth c s.heap [] 0 0 (MQ below (vp_Si (fun r => r = res)) ([.ref jhg, .int x1] : List Value).toArray s 0 0 (fun _ => False)) (F0 m 58 ls [.int y0]) := by
      intro x2 y0 hf ls hl
      unfold gX2_agree_58 at hf
      refine lv_istore (lv' := [(4, .int y0), (0, .ref jhg), (1, .int x1), (2, .int x2)]) hx hb dX2_agree_58 hl (by decide) rfl (fun ls hl => ?_)
      refine lv_iload hx hb dX2_agree_60 (lv_at hl 0 rfl) ?_
      refine lv_aload_n hx hb dX2_agree_62 rfl (lv_at hl 1 rfl) ?_
      refine va_get (D := D) (ci := 1) (v := .ref (jag 2)) (C := RX2) (T := TX2) (N := 4) hx hb ht inX2 hown hK hP 3 rfl rfl 2 (by decide) (ht _ wd1_226) (fun _ h9 => h9) rfl dX2_agree_63 ?_
      refine lv_iload_n hx hb dX2_agree_66 rfl (lv_at hl 3 rfl) ?_
      obtain ⟨h1, hf⟩ := inB_s hf
      refine va_zald (f := (Sg.2.1 2)) (n := 6) hx hb hK hP 5 1 rfl rfl h1 dX2_agree_67 ?_
      refine lv_icmp_eq (tgt := 73) hx hb dX2_agree_68 (by decide) (fun c2 => ?_) (fun c2 => ?_)
      · have hf := itP c2 hf
        exact hj73 x2 hf _ (lv_sub hl [1, 2, 3] rfl)
      · have hf := itN c2 hf
        refine lv_iconst (v := (0 : Int32)) hx hb dX2_agree_71 rfl ?_
        exact W.zret hx hb hr rfl (fun t ht9 _ => ⟨_, rfl, Option.some.inj hf, ht9⟩) (fun _ h9 => by cases h9) dX2_agree_72
    refine lv_iload_n hx hb dX2_agree_2 rfl (lv_at hl 2 rfl) ?_
    refine lv_aload_n hx hb dX2_agree_3 rfl (lv_at hl 0 rfl) ?_
    refine va_get (D := D) (ci := 1) (v := .int (Sg.1 0)) (C := RX2) (T := TX2) (N := 4) hx hb ht inX2 hown hK hP 3 rfl rfl 3 (by decide) (ht _ wd1_227) (fun _ h9 => h9) rfl dX2_agree_4 ?_
    refine lv_icmp_ge (tgt := 79) hx hb dX2_agree_7 (by decide) (fun c3 => ?_) (fun c3 => ?_)
    · have hf := itP c3 hf
      refine lv_iconst (v := (1 : Int32)) hx hb dX2_agree_79 rfl ?_
      exact W.zret hx hb hr rfl (fun t ht9 _ => ⟨_, rfl, Option.some.inj hf, ht9⟩) (fun _ h9 => by cases h9) dX2_agree_80
    · have hf := itN c3 hf
      refine lv_aload_n hx hb dX2_agree_10 rfl (lv_at hl 0 rfl) ?_
      refine va_get (D := D) (ci := 1) (v := .ref (jag 1)) (C := RX2) (T := TX2) (N := 4) hx hb ht inX2 hown hK hP 3 rfl rfl 1 (by decide) (ht _ wd1_225) (fun _ h9 => h9) rfl dX2_agree_11 ?_
      refine lv_iload_n hx hb dX2_agree_14 rfl (lv_at hl 2 rfl) ?_
      obtain ⟨h4, hf⟩ := inB_s hf
      refine va_iald (f := (Sg.2.1 1)) (n := 6) hx hb hK hP 4 0 rfl rfl h4 dX2_agree_15 ?_
      refine lv_istore_n (lv' := [(3, .int ((Sg.2.1 1) x2.toNatClampNeg)), (0, .ref jhg), (1, .int x1), (2, .int x2)]) hx hb dX2_agree_16 rfl hl (by decide) rfl (fun ls hl => ?_)
      refine lv_iload_n hx hb dX2_agree_17 rfl (lv_at hl 0 rfl) ?_
      refine lv_aload_n hx hb dX2_agree_18 rfl (lv_at hl 1 rfl) ?_
      refine va_get (D := D) (ci := 1) (v := .ref jhw) (C := RX2) (T := TX2) (N := 4) hx hb ht inX2 hown hK hP 3 rfl rfl 0 (by decide) (ht _ wd1_224) (fun _ h9 => h9) rfl dX2_agree_19 ?_
      refine va_get (D := D) (ci := 5) (v := .int (Sw.1 3)) (C := RX6) (T := TX6) (N := 15) hx hb ht inX6 hown hK hP 0 rfl rfl 9 (by decide) (ht _ wd1_77) (fun _ h9 => h9) rfl dX2_agree_22 ?_
      refine lv_icmp_ge (tgt := 73) hx hb dX2_agree_25 (by decide) (fun c5 => ?_) (fun c5 => ?_)
      · have hf := itP c5 hf
        exact hj73 x2 hf _ (lv_sub hl [1, 2, 3] rfl)
      · have hf := itN c5 hf
        refine lv_iload_n hx hb dX2_agree_28 rfl (lv_at hl 2 rfl) ?_
        refine lv_aload_n hx hb dX2_agree_29 rfl (lv_at hl 1 rfl) ?_
        refine va_get (D := D) (ci := 1) (v := .ref jhw) (C := RX2) (T := TX2) (N := 4) hx hb ht inX2 hown hK hP 3 rfl rfl 0 (by decide) (ht _ wd1_224) (fun _ h9 => h9) rfl dX2_agree_30 ?_
        refine va_get (D := D) (ci := 5) (v := .ref (jaw 6)) (C := RX6) (T := TX6) (N := 15) hx hb ht inX6 hown hK hP 0 rfl rfl 10 (by decide) (ht _ wd1_81) (fun _ h9 => h9) rfl dX2_agree_33 ?_
        refine lv_iload_n hx hb dX2_agree_36 rfl (lv_at hl 0 rfl) ?_
        obtain ⟨h6, hf⟩ := inB_s hf
        refine va_iald (f := (Sw.2.1 6)) (n := 4) hx hb hK hP 1 0 rfl rfl h6 dX2_agree_37 ?_
        refine lv_ishr hx hb dX2_agree_38 ?_
        refine lv_iconst (v := (1 : Int32)) hx hb dX2_agree_39 rfl ?_
        refine lv_iand hx hb dX2_agree_40 ?_
        refine lv_aload_n hx hb dX2_agree_41 rfl (lv_at hl 1 rfl) ?_
        refine va_get (D := D) (ci := 1) (v := .ref jhw) (C := RX2) (T := TX2) (N := 4) hx hb ht inX2 hown hK hP 3 rfl rfl 0 (by decide) (ht _ wd1_224) (fun _ h9 => h9) rfl dX2_agree_42 ?_
        refine va_get (D := D) (ci := 5) (v := .ref (jaw 7)) (C := RX6) (T := TX6) (N := 15) hx hb ht inX6 hown hK hP 0 rfl rfl 11 (by decide) (ht _ wd1_86) (fun _ h9 => h9) rfl dX2_agree_45 ?_
        refine lv_iload_n hx hb dX2_agree_48 rfl (lv_at hl 0 rfl) ?_
        obtain ⟨h7, hf⟩ := inB_s hf
        refine va_iald (f := (Sw.2.1 7)) (n := 4) hx hb hK hP 2 0 rfl rfl h7 dX2_agree_49 ?_
        refine lv_icmp_ne (tgt := 57) hx hb dX2_agree_50 (by decide) (fun c8 => ?_) (fun c8 => ?_)
        · have hf := itN c8 hf
          refine lv_iconst (v := (0 : Int32)) hx hb dX2_agree_57 rfl ?_
          exact hj58 x2 (0 : Int32) hf _ (lv_sub hl [1, 2, 3] rfl)
        · have hf := itP c8 hf
          refine lv_iconst (v := (1 : Int32)) hx hb dX2_agree_53 rfl ?_
          refine lv_goto (tgt := 58) hx hb dX2_agree_54 (by decide) ?_
          exact hj58 x2 (1 : Int32) hf _ (lv_sub hl [1, 2, 3] rfl)
  refine lv_iconst (v := (0 : Int32)) hx hb dX2_agree_0 rfl ?_
  refine lv_istore_n (lv' := [(2, .int (0 : Int32)), (0, .ref jhg), (1, .int x1)]) hx hb dX2_agree_1 rfl hl (by decide) rfl (fun ls hl => ?_)
  exact hj2 (0 : Int32) hf _ (lv_sub hl [1, 2, 0] rfl)
abbrev wX2_ways (cI cZ : ClassId) (jhw : Nat) (jaw : Nat → Nat) (jhg : Nat) (jag : Nat → Nat) (Sw : Bk) (Sg : Bk) : va_W := [(jhw, .inr (5, [.int (Sw.1 0), .ref (jaw 0), .ref (jaw 1), .ref (jaw 2), .int (Sw.1 1), .ref (jaw 3), .ref (jaw 4), .ref (jaw 5), .int (Sw.1 2), .int (Sw.1 3), .ref (jaw 6), .ref (jaw 7), .ref (jaw 8), .ref (jaw 9), .ref (jaw 10)])), (jaw 6, .inl (cI, 4, .inl (Sw.2.1 6))), (jaw 7, .inl (cI, 4, .inl (Sw.2.1 7))), (jhg, .inr (1, [.ref jhw, .ref (jag 1), .ref (jag 2), .int (Sg.1 0)])), (jag 1, .inl (cI, 6, .inl (Sg.2.1 1))), (jag 2, .inl (cZ, 6, .inl (Sg.2.1 2)))]
def gX2_ways_28 (Sw : Bk) (Sg : Bk) (k4 : Int32 → Int32 → Option (Int32)) (x1 : Int32) (x2 : Int32) : Option (Int32) := k4 x1 (x2 + (1 : Int32))
def sX2_ways_4 (Sw : Bk) (Sg : Bk) (k4 : Int32 → Int32 → Option (Int32)) (x1 : Int32) (x2 : Int32) : Option (Int32) := (if ((1 : Int32) <<< ((Sw.1 1) &&& 31)) ≤ x2 then some x1 else (fX2_agree Sw Sg x2).bind (fun u2 => (if u2 = 0 then gX2_ways_28 Sw Sg k4 x1 x2 else gX2_ways_28 Sw Sg k4 (x1 + (1 : Int32)) x2)))
def fX2_ways (Sw : Bk) (Sg : Bk) : Option (Int32) := lk2 (sX2_ways_4 Sw Sg) 1000 (0 : Int32) (0 : Int32)
theorem miX2_ways : MI yX2_ways cX2_ways 3 (some .int) 0 := ⟨wd1_7, wd3_140, by decide +kernel⟩
theorem mjX2_ways : Cond.instanceMethod yX2_ways ∈ wT ∧ Cond.selects yX2_ways.cls yX2_ways yX2_ways ∈ wT := ⟨wd3_138, wd3_139⟩
set_option maxHeartbeats 4000000 in
set_option maxRecDepth 100000 in
theorem qX2_ways (l : Launch) (D : va_G) (cI cZ cO : ClassId) (jhw : Nat) (jaw : Nat → Nat) (jhg : Nat) (jag : Nat → Nat) (Sw : Bk) (Sg : Bk) (res : Int32) (hf : fX2_ways Sw Sg = some res) : Met l yX2_ways (Cond.code yX2_ways cX2_ways 3 (some .int) :: wT) (rmF 1 24) (va_Pc [.ref jhg] (cR D (tyL cI cZ cO) (wX2_ways cI cZ jhw jaw jhg jag Sw Sg))) (vp_Si (fun r => r = res)) 0 0 (fun _ => False) := by
  refine met_r (by decide) (Nat.le_of_ble_eq_true rfl) ?_
  intro p e s m below meth c hx hb hr hml ht hown hlk ls hl hP hK hZ
  have hS : va_S (fun _ => False) s.heap s.heap [] := va_S.rf
  have hown : s.vm.findClass "EyeDrink$Sights" = some m.cls := hown
  have hl : lv_has ls 3 [(0, .ref jhg)] := hl
  have hC : CallFix p m c cX2_ways 3 s ([.ref jhg] : List Value).toArray wT "EyeDrink$Sights" := ⟨hx, hb, hml, hown, ht⟩
  unfold fX2_ways at hf
  have hj4 : ∀ (x1 : Int32) (x2 : Int32), lk2 (sX2_ways_4 Sw Sg) 1000 x1 x2 = some res → ∀ (ls : Array Slot), lv_has ls 3 [(0, .ref jhg), (1, .int x1), (2, .int x2)] → W p l e (rmF 1 24) s m ([.ref jhg] : List Value).toArray below meth c s.heap [] 0 0 (MQ below (vp_Si (fun r => r = res)) ([.ref jhg] : List Value).toArray s 0 0 (fun _ => False)) (F0 m 4 ls []) := by
    refine lk2_w (fun (x1 : Int32) (x2 : Int32) => ∀ (ls : Array Slot), lv_has ls 3 [(0, .ref jhg), (1, .int x1), (2, .int x2)] → W p l e (rmF 1 24) s m ([.ref jhg] : List Value).toArray below meth c s.heap [] 0 0 (MQ below (vp_Si (fun r => r = res)) ([.ref jhg] : List Value).toArray s 0 0 (fun _ => False)) (F0 m 4 ls [])) ?_ 1000
    intro k4 hk4 x1 x2 hf ls hl
    unfold sX2_ways_4 at hf
    have hj28 : ∀ (x1 : Int32) (x2 : Int32), gX2_ways_28 Sw Sg k4 x1 x2 = some res → ∀ (ls : Array Slot), lv_has ls 3 [(0, .ref jhg), (1, .int x1), (2, .int x2)] → W p l e (rmF 1 24) s m ([.ref jhg] : List Value).toArray below meth c s.heap [] 0 0 (MQ below (vp_Si (fun r => r = res)) ([.ref jhg] : List Value).toArray s 0 0 (fun _ => False)) (F0 m 28 ls []) := by
      intro x1 x2 hf ls hl
      unfold gX2_ways_28 at hf
      refine lv_iinc (v := (x2 + (1 : Int32))) (lv' := [(2, .int (x2 + (1 : Int32))), (0, .ref jhg), (1, .int x1)]) hx hb dX2_ways_28 hl (k := 2) rfl rfl (by decide) rfl (fun ls hl => ?_)
      refine lv_goto (tgt := 4) hx hb dX2_ways_31 (by decide) ?_
      exact hk4 x1 (x2 + (1 : Int32)) hf _ (lv_sub hl [1, 2, 0] rfl)
    refine lv_iload_n hx hb dX2_ways_4 rfl (lv_at hl 2 rfl) ?_
    refine lv_iconst (v := (1 : Int32)) hx hb dX2_ways_5 rfl ?_
    refine lv_aload_n hx hb dX2_ways_6 rfl (lv_at hl 0 rfl) ?_
    refine va_get (D := D) (ci := 1) (v := .ref jhw) (C := RX2) (T := TX2) (N := 4) hx hb ht inX2 hown hK hP 3 rfl rfl 0 (by decide) (ht _ wd1_224) (fun _ h9 => h9) rfl dX2_ways_7 ?_
    refine va_get (D := D) (ci := 5) (v := .int (Sw.1 1)) (C := RX6) (T := TX6) (N := 15) hx hb ht inX6 hown hK hP 0 rfl rfl 4 (by decide) (ht _ wd1_59) (fun _ h9 => h9) rfl dX2_ways_10 ?_
    refine lv_ishl hx hb dX2_ways_13 ?_
    refine lv_icmp_ge (tgt := 34) hx hb dX2_ways_14 (by decide) (fun c1 => ?_) (fun c1 => ?_)
    · have hf := itP c1 hf
      refine lv_iload_n hx hb dX2_ways_34 rfl (lv_at hl 1 rfl) ?_
      exact W.iret hx hb hr (fun t ht9 _ => ⟨_, rfl, Option.some.inj hf, ht9⟩) (fun _ h9 => by cases h9) dX2_ways_35
    · have hf := itN c1 hf
      refine lv_aload_n hx hb dX2_ways_17 rfl (lv_at hl 0 rfl) ?_
      refine lv_iload_n hx hb dX2_ways_18 rfl (lv_at hl 2 rfl) ?_
      obtain ⟨u2, e3, hf⟩ := bdS hf
      refine k_rV (As := [.int x2]) (rest := []) hC miX2_agree mjX2_agree.1 mjX2_agree.2 wd3_141 (qX2_agree l D cI cZ cO jhw jaw jhg jag Sw Sg x2 u2 e3) ⟨Nat.le_of_ble_eq_true rfl, Nat.le_of_ble_eq_true rfl⟩ (hP.sub [0, 1, 2, 3, 4, 5] rfl) hK hZ hS (va_recv hK hP (ci := 1) (q0 := 3) rfl rfl) hl.1 rfl rfl (Nat.le_of_ble_eq_true rfl) dX2_ways_19 ?_
      refine lv_if_eq (tgt := 28) hx hb dX2_ways_22 (by decide) (fun c4 => ?_) (fun c4 => ?_)
      · have hf := itP c4 hf
        exact hj28 x1 x2 hf _ (lv_sub hl [0, 1, 2] rfl)
      · have hf := itN c4 hf
        refine lv_iinc (v := (x1 + (1 : Int32))) (lv' := [(1, .int (x1 + (1 : Int32))), (0, .ref jhg), (2, .int x2)]) hx hb dX2_ways_25 hl (k := 1) rfl rfl (by decide) rfl (fun ls hl => ?_)
        exact hj28 (x1 + (1 : Int32)) x2 hf _ (lv_sub hl [1, 0, 2] rfl)
  refine lv_iconst (v := (0 : Int32)) hx hb dX2_ways_0 rfl ?_
  refine lv_istore_n (lv' := [(1, .int (0 : Int32)), (0, .ref jhg)]) hx hb dX2_ways_1 rfl hl (by decide) rfl (fun ls hl => ?_)
  refine lv_iconst (v := (0 : Int32)) hx hb dX2_ways_2 rfl ?_
  refine lv_istore_n (lv' := [(2, .int (0 : Int32)), (1, .int (0 : Int32)), (0, .ref jhg)]) hx hb dX2_ways_3 rfl hl (by decide) rfl (fun ls hl => ?_)
  exact hj4 (0 : Int32) (0 : Int32) hf _ (lv_sub hl [2, 1, 0] rfl)
abbrev wX2_leastWay (cI cZ : ClassId) (jhw : Nat) (jaw : Nat → Nat) (jhg : Nat) (jag : Nat → Nat) (Sw : Bk) (Sg : Bk) : va_W := [(jhw, .inr (5, [.int (Sw.1 0), .ref (jaw 0), .ref (jaw 1), .ref (jaw 2), .int (Sw.1 1), .ref (jaw 3), .ref (jaw 4), .ref (jaw 5), .int (Sw.1 2), .int (Sw.1 3), .ref (jaw 6), .ref (jaw 7), .ref (jaw 8), .ref (jaw 9), .ref (jaw 10)])), (jaw 6, .inl (cI, 4, .inl (Sw.2.1 6))), (jaw 7, .inl (cI, 4, .inl (Sw.2.1 7))), (jhg, .inr (1, [.ref jhw, .ref (jag 1), .ref (jag 2), .int (Sg.1 0)])), (jag 1, .inl (cI, 6, .inl (Sg.2.1 1))), (jag 2, .inl (cZ, 6, .inl (Sg.2.1 2)))]
def sX2_leastWay_2 (Sw : Bk) (Sg : Bk) (k2 : Int32 → Option (Int32)) (x1 : Int32) : Option (Int32) := (if ((1 : Int32) <<< ((Sw.1 1) &&& 31)) ≤ x1 then some (-9 : Int32) else (fX2_agree Sw Sg x1).bind (fun u2 => (if u2 = 0 then k2 (x1 + (1 : Int32)) else some x1)))
def fX2_leastWay (Sw : Bk) (Sg : Bk) : Option (Int32) := lk1 (sX2_leastWay_2 Sw Sg) 1000 (0 : Int32)
theorem miX2_leastWay : MI yX2_leastWay cX2_leastWay 2 (some .int) 0 := ⟨wd1_7, wd3_148, by decide +kernel⟩
theorem mjX2_leastWay : Cond.instanceMethod yX2_leastWay ∈ wT ∧ Cond.selects yX2_leastWay.cls yX2_leastWay yX2_leastWay ∈ wT := ⟨wd3_146, wd3_147⟩
set_option maxHeartbeats 4000000 in
set_option maxRecDepth 100000 in
theorem qX2_leastWay (l : Launch) (D : va_G) (cI cZ cO : ClassId) (jhw : Nat) (jaw : Nat → Nat) (jhg : Nat) (jag : Nat → Nat) (Sw : Bk) (Sg : Bk) (res : Int32) (hf : fX2_leastWay Sw Sg = some res) : Met l yX2_leastWay (Cond.code yX2_leastWay cX2_leastWay 2 (some .int) :: wT) (rmF 1 24) (va_Pc [.ref jhg] (cR D (tyL cI cZ cO) (wX2_leastWay cI cZ jhw jaw jhg jag Sw Sg))) (vp_Si (fun r => r = res)) 0 0 (fun _ => False) := by
  refine met_r (by decide) (Nat.le_of_ble_eq_true rfl) ?_
  intro p e s m below meth c hx hb hr hml ht hown hlk ls hl hP hK hZ
  have hS : va_S (fun _ => False) s.heap s.heap [] := va_S.rf
  have hown : s.vm.findClass "EyeDrink$Sights" = some m.cls := hown
  have hl : lv_has ls 2 [(0, .ref jhg)] := hl
  have hC : CallFix p m c cX2_leastWay 2 s ([.ref jhg] : List Value).toArray wT "EyeDrink$Sights" := ⟨hx, hb, hml, hown, ht⟩
  unfold fX2_leastWay at hf
  have hj2 : ∀ (x1 : Int32), lk1 (sX2_leastWay_2 Sw Sg) 1000 x1 = some res → ∀ (ls : Array Slot), lv_has ls 2 [(0, .ref jhg), (1, .int x1)] → W p l e (rmF 1 24) s m ([.ref jhg] : List Value).toArray below meth c s.heap [] 0 0 (MQ below (vp_Si (fun r => r = res)) ([.ref jhg] : List Value).toArray s 0 0 (fun _ => False)) (F0 m 2 ls []) := by
    refine lk1_w (fun (x1 : Int32) => ∀ (ls : Array Slot), lv_has ls 2 [(0, .ref jhg), (1, .int x1)] → W p l e (rmF 1 24) s m ([.ref jhg] : List Value).toArray below meth c s.heap [] 0 0 (MQ below (vp_Si (fun r => r = res)) ([.ref jhg] : List Value).toArray s 0 0 (fun _ => False)) (F0 m 2 ls [])) ?_ 1000
    intro k2 hk2 x1 hf ls hl
    unfold sX2_leastWay_2 at hf
    refine lv_iload_n hx hb dX2_leastWay_2 rfl (lv_at hl 1 rfl) ?_
    refine lv_iconst (v := (1 : Int32)) hx hb dX2_leastWay_3 rfl ?_
    refine lv_aload_n hx hb dX2_leastWay_4 rfl (lv_at hl 0 rfl) ?_
    refine va_get (D := D) (ci := 1) (v := .ref jhw) (C := RX2) (T := TX2) (N := 4) hx hb ht inX2 hown hK hP 3 rfl rfl 0 (by decide) (ht _ wd1_224) (fun _ h9 => h9) rfl dX2_leastWay_5 ?_
    refine va_get (D := D) (ci := 5) (v := .int (Sw.1 1)) (C := RX6) (T := TX6) (N := 15) hx hb ht inX6 hown hK hP 0 rfl rfl 4 (by decide) (ht _ wd1_59) (fun _ h9 => h9) rfl dX2_leastWay_8 ?_
    refine lv_ishl hx hb dX2_leastWay_11 ?_
    refine lv_icmp_ge (tgt := 31) hx hb dX2_leastWay_12 (by decide) (fun c1 => ?_) (fun c1 => ?_)
    · have hf := itP c1 hf
      refine lv_bipush (v := (-9 : Int32)) hx hb dX2_leastWay_31 rfl ?_
      exact W.iret hx hb hr (fun t ht9 _ => ⟨_, rfl, Option.some.inj hf, ht9⟩) (fun _ h9 => by cases h9) dX2_leastWay_33
    · have hf := itN c1 hf
      refine lv_aload_n hx hb dX2_leastWay_15 rfl (lv_at hl 0 rfl) ?_
      refine lv_iload_n hx hb dX2_leastWay_16 rfl (lv_at hl 1 rfl) ?_
      obtain ⟨u2, e3, hf⟩ := bdS hf
      refine k_rV (As := [.int x1]) (rest := []) hC miX2_agree mjX2_agree.1 mjX2_agree.2 wd3_141 (qX2_agree l D cI cZ cO jhw jaw jhg jag Sw Sg x1 u2 e3) ⟨Nat.le_of_ble_eq_true rfl, Nat.le_of_ble_eq_true rfl⟩ (hP.sub [0, 1, 2, 3, 4, 5] rfl) hK hZ hS (va_recv hK hP (ci := 1) (q0 := 3) rfl rfl) hl.1 rfl rfl (Nat.le_of_ble_eq_true rfl) dX2_leastWay_17 ?_
      refine lv_if_eq (tgt := 25) hx hb dX2_leastWay_20 (by decide) (fun c4 => ?_) (fun c4 => ?_)
      · have hf := itP c4 hf
        refine lv_iinc (v := (x1 + (1 : Int32))) (lv' := [(1, .int (x1 + (1 : Int32))), (0, .ref jhg)]) hx hb dX2_leastWay_25 hl (k := 1) rfl rfl (by decide) rfl (fun ls hl => ?_)
        refine lv_goto (tgt := 2) hx hb dX2_leastWay_28 (by decide) ?_
        exact hk2 (x1 + (1 : Int32)) hf _ (lv_sub hl [1, 0] rfl)
      · have hf := itN c4 hf
        refine lv_iload_n hx hb dX2_leastWay_23 rfl (lv_at hl 1 rfl) ?_
        exact W.iret hx hb hr (fun t ht9 _ => ⟨_, rfl, Option.some.inj hf, ht9⟩) (fun _ h9 => by cases h9) dX2_leastWay_24
  refine lv_iconst (v := (0 : Int32)) hx hb dX2_leastWay_0 rfl ?_
  refine lv_istore_n (lv' := [(1, .int (0 : Int32)), (0, .ref jhg)]) hx hb dX2_leastWay_1 rfl hl (by decide) rfl (fun ls hl => ?_)
  exact hj2 (0 : Int32) hf _ (lv_sub hl [1, 0] rfl)
abbrev wX2_onesInAllWays (cI cZ : ClassId) (jhw : Nat) (jaw : Nat → Nat) (jhg : Nat) (jag : Nat → Nat) (Sw : Bk) (Sg : Bk) : va_W := [(jhw, .inr (5, [.int (Sw.1 0), .ref (jaw 0), .ref (jaw 1), .ref (jaw 2), .int (Sw.1 1), .ref (jaw 3), .ref (jaw 4), .ref (jaw 5), .int (Sw.1 2), .int (Sw.1 3), .ref (jaw 6), .ref (jaw 7), .ref (jaw 8), .ref (jaw 9), .ref (jaw 10)])), (jaw 6, .inl (cI, 4, .inl (Sw.2.1 6))), (jaw 7, .inl (cI, 4, .inl (Sw.2.1 7))), (jhg, .inr (1, [.ref jhw, .ref (jag 1), .ref (jag 2), .int (Sg.1 0)])), (jag 1, .inl (cI, 6, .inl (Sg.2.1 1))), (jag 2, .inl (cZ, 6, .inl (Sg.2.1 2)))]
def gX2_onesInAllWays_43 (Sw : Bk) (Sg : Bk) (k18 : Int32 → Int32 → Option (Int32)) (x2 : Int32) (x3 : Int32) : Option (Int32) := k18 x2 (x3 + (1 : Int32))
def sX2_onesInAllWays_18 (Sw : Bk) (Sg : Bk) (k18 : Int32 → Int32 → Option (Int32)) (x2 : Int32) (x3 : Int32) : Option (Int32) := (if ((1 : Int32) <<< ((Sw.1 1) &&& 31)) ≤ x3 then some x2 else (fX2_agree Sw Sg x3).bind (fun u2 => (if u2 = 0 then gX2_onesInAllWays_43 Sw Sg k18 x2 x3 else gX2_onesInAllWays_43 Sw Sg k18 (x2 &&& x3) x3)))
def fX2_onesInAllWays (Sw : Bk) (Sg : Bk) : Option (Int32) := (fX2_leastWay Sw Sg).bind (fun u5 => (if u5 = (-9 : Int32) then some (-9 : Int32) else lk2 (sX2_onesInAllWays_18 Sw Sg) 1000 u5 u5))
theorem miX2_onesInAllWays : MI yX2_onesInAllWays cX2_onesInAllWays 4 (some .int) 0 := ⟨wd1_7, wd3_152, by decide +kernel⟩
theorem mjX2_onesInAllWays : Cond.instanceMethod yX2_onesInAllWays ∈ wT ∧ Cond.selects yX2_onesInAllWays.cls yX2_onesInAllWays yX2_onesInAllWays ∈ wT := ⟨wd3_150, wd3_151⟩
set_option maxHeartbeats 4000000 in
set_option maxRecDepth 100000 in
theorem qX2_onesInAllWays (l : Launch) (D : va_G) (cI cZ cO : ClassId) (jhw : Nat) (jaw : Nat → Nat) (jhg : Nat) (jag : Nat → Nat) (Sw : Bk) (Sg : Bk) (res : Int32) (hf : fX2_onesInAllWays Sw Sg = some res) : Met l yX2_onesInAllWays (Cond.code yX2_onesInAllWays cX2_onesInAllWays 4 (some .int) :: wT) (rmF 2 45) (va_Pc [.ref jhg] (cR D (tyL cI cZ cO) (wX2_onesInAllWays cI cZ jhw jaw jhg jag Sw Sg))) (vp_Si (fun r => r = res)) 0 0 (fun _ => False) := by
  refine met_r (by decide) (Nat.le_of_ble_eq_true rfl) ?_
  intro p e s m below meth c hx hb hr hml ht hown hlk ls hl hP hK hZ
  have hS : va_S (fun _ => False) s.heap s.heap [] := va_S.rf
  have hown : s.vm.findClass "EyeDrink$Sights" = some m.cls := hown
  have hl : lv_has ls 4 [(0, .ref jhg)] := hl
  have hC : CallFix p m c cX2_onesInAllWays 4 s ([.ref jhg] : List Value).toArray wT "EyeDrink$Sights" := ⟨hx, hb, hml, hown, ht⟩
  unfold fX2_onesInAllWays at hf
  have hj18 : ∀ (x2 : Int32) (x3 : Int32), lk2 (sX2_onesInAllWays_18 Sw Sg) 1000 x2 x3 = some res → ∀ (ls : Array Slot), lv_has ls 4 [(0, .ref jhg), (2, .int x2), (3, .int x3)] → W p l e (rmF 2 45) s m ([.ref jhg] : List Value).toArray below meth c s.heap [] 0 0 (MQ below (vp_Si (fun r => r = res)) ([.ref jhg] : List Value).toArray s 0 0 (fun _ => False)) (F0 m 18 ls []) := by
    refine lk2_w (fun (x2 : Int32) (x3 : Int32) => ∀ (ls : Array Slot), lv_has ls 4 [(0, .ref jhg), (2, .int x2), (3, .int x3)] → W p l e (rmF 2 45) s m ([.ref jhg] : List Value).toArray below meth c s.heap [] 0 0 (MQ below (vp_Si (fun r => r = res)) ([.ref jhg] : List Value).toArray s 0 0 (fun _ => False)) (F0 m 18 ls [])) ?_ 1000
    intro k18 hk18 x2 x3 hf ls hl
    unfold sX2_onesInAllWays_18 at hf
    have hj43 : ∀ (x2 : Int32) (x3 : Int32), gX2_onesInAllWays_43 Sw Sg k18 x2 x3 = some res → ∀ (ls : Array Slot), lv_has ls 4 [(0, .ref jhg), (2, .int x2), (3, .int x3)] → W p l e (rmF 2 45) s m ([.ref jhg] : List Value).toArray below meth c s.heap [] 0 0 (MQ below (vp_Si (fun r => r = res)) ([.ref jhg] : List Value).toArray s 0 0 (fun _ => False)) (F0 m 43 ls []) := by
      intro x2 x3 hf ls hl
      unfold gX2_onesInAllWays_43 at hf
      refine lv_iinc (v := (x3 + (1 : Int32))) (lv' := [(3, .int (x3 + (1 : Int32))), (0, .ref jhg), (2, .int x2)]) hx hb dX2_onesInAllWays_43 hl (k := 2) rfl rfl (by decide) rfl (fun ls hl => ?_)
      refine lv_goto (tgt := 18) hx hb dX2_onesInAllWays_46 (by decide) ?_
      exact hk18 x2 (x3 + (1 : Int32)) hf _ (lv_sub hl [1, 2, 0] rfl)
    refine lv_iload_n hx hb dX2_onesInAllWays_18 rfl (lv_at hl 2 rfl) ?_
    refine lv_iconst (v := (1 : Int32)) hx hb dX2_onesInAllWays_19 rfl ?_
    refine lv_aload_n hx hb dX2_onesInAllWays_20 rfl (lv_at hl 0 rfl) ?_
    refine va_get (D := D) (ci := 1) (v := .ref jhw) (C := RX2) (T := TX2) (N := 4) hx hb ht inX2 hown hK hP 3 rfl rfl 0 (by decide) (ht _ wd1_224) (fun _ h9 => h9) rfl dX2_onesInAllWays_21 ?_
    refine va_get (D := D) (ci := 5) (v := .int (Sw.1 1)) (C := RX6) (T := TX6) (N := 15) hx hb ht inX6 hown hK hP 0 rfl rfl 4 (by decide) (ht _ wd1_59) (fun _ h9 => h9) rfl dX2_onesInAllWays_24 ?_
    refine lv_ishl hx hb dX2_onesInAllWays_27 ?_
    refine lv_icmp_ge (tgt := 49) hx hb dX2_onesInAllWays_28 (by decide) (fun c1 => ?_) (fun c1 => ?_)
    · have hf := itP c1 hf
      refine lv_iload_n hx hb dX2_onesInAllWays_49 rfl (lv_at hl 1 rfl) ?_
      exact W.iret hx hb hr (fun t ht9 _ => ⟨_, rfl, Option.some.inj hf, ht9⟩) (fun _ h9 => by cases h9) dX2_onesInAllWays_50
    · have hf := itN c1 hf
      refine lv_aload_n hx hb dX2_onesInAllWays_31 rfl (lv_at hl 0 rfl) ?_
      refine lv_iload_n hx hb dX2_onesInAllWays_32 rfl (lv_at hl 2 rfl) ?_
      obtain ⟨u2, e3, hf⟩ := bdS hf
      refine k_rV (As := [.int x3]) (rest := []) hC miX2_agree mjX2_agree.1 mjX2_agree.2 wd3_141 (qX2_agree l D cI cZ cO jhw jaw jhg jag Sw Sg x3 u2 e3) ⟨Nat.le_of_ble_eq_true rfl, Nat.le_of_ble_eq_true rfl⟩ (hP.sub [0, 1, 2, 3, 4, 5] rfl) hK hZ hS (va_recv hK hP (ci := 1) (q0 := 3) rfl rfl) hl.1 rfl rfl (Nat.le_of_ble_eq_true rfl) dX2_onesInAllWays_33 ?_
      refine lv_if_eq (tgt := 43) hx hb dX2_onesInAllWays_36 (by decide) (fun c4 => ?_) (fun c4 => ?_)
      · have hf := itP c4 hf
        exact hj43 x2 x3 hf _ (lv_sub hl [0, 1, 2] rfl)
      · have hf := itN c4 hf
        refine lv_iload_n hx hb dX2_onesInAllWays_39 rfl (lv_at hl 1 rfl) ?_
        refine lv_iload_n hx hb dX2_onesInAllWays_40 rfl (lv_at hl 2 rfl) ?_
        refine lv_iand hx hb dX2_onesInAllWays_41 ?_
        refine lv_istore_n (lv' := [(2, .int (x2 &&& x3)), (0, .ref jhg), (3, .int x3)]) hx hb dX2_onesInAllWays_42 rfl hl (by decide) rfl (fun ls hl => ?_)
        exact hj43 (x2 &&& x3) x3 hf _ (lv_sub hl [1, 0, 2] rfl)
  refine lv_aload_n hx hb dX2_onesInAllWays_0 rfl (lv_at hl 0 rfl) ?_
  obtain ⟨u5, e6, hf⟩ := bdS hf
  refine k_rV (As := []) (rest := []) hC miX2_leastWay mjX2_leastWay.1 mjX2_leastWay.2 wd3_153 (qX2_leastWay l D cI cZ cO jhw jaw jhg jag Sw Sg u5 e6) ⟨Nat.le_of_ble_eq_true rfl, Nat.le_of_ble_eq_true rfl⟩ (hP.sub [0, 1, 2, 3, 4, 5] rfl) hK hZ hS (va_recv hK hP (ci := 1) (q0 := 3) rfl rfl) hl.1 rfl rfl (Nat.le_of_ble_eq_true rfl) dX2_onesInAllWays_1 ?_
  refine lv_istore_n (lv' := [(1, .int u5), (0, .ref jhg)]) hx hb dX2_onesInAllWays_4 rfl hl (by decide) rfl (fun ls hl => ?_)
  refine lv_iload_n hx hb dX2_onesInAllWays_5 rfl (lv_at hl 0 rfl) ?_
  refine lv_bipush (v := (-9 : Int32)) hx hb dX2_onesInAllWays_6 rfl ?_
  refine lv_icmp_ne (tgt := 14) hx hb dX2_onesInAllWays_8 (by decide) (fun c7 => ?_) (fun c7 => ?_)
  · have hf := itN c7 hf
    refine lv_iload_n hx hb dX2_onesInAllWays_14 rfl (lv_at hl 0 rfl) ?_
    refine lv_istore_n (lv' := [(2, .int u5), (1, .int u5), (0, .ref jhg)]) hx hb dX2_onesInAllWays_15 rfl hl (by decide) rfl (fun ls hl => ?_)
    refine lv_iload_n hx hb dX2_onesInAllWays_16 rfl (lv_at hl 1 rfl) ?_
    refine lv_istore_n (lv' := [(3, .int u5), (2, .int u5), (1, .int u5), (0, .ref jhg)]) hx hb dX2_onesInAllWays_17 rfl hl (by decide) rfl (fun ls hl => ?_)
    exact hj18 u5 u5 hf _ (lv_sub hl [3, 1, 0] rfl)
  · have hf := itP c7 hf
    refine lv_bipush (v := (-9 : Int32)) hx hb dX2_onesInAllWays_11 rfl ?_
    exact W.iret hx hb hr (fun t ht9 _ => ⟨_, rfl, Option.some.inj hf, ht9⟩) (fun _ h9 => by cases h9) dX2_onesInAllWays_13
abbrev wJ7_fill_53178 (cI cZ : ClassId) (jhp : Nat) (np : Nat) (P : (Nat → Int32)) : va_W := [(jhp, .inl (cI, np, .inl P))]
def sJ7_fill_53178_5 (np : Nat) (x1 : Int32) (k5 : Int32 → Int32 → (Nat → Int32) → Option ((Nat → Int32))) (x2 : Int32) (x3 : Int32) (P : (Nat → Int32)) : Option ((Nat → Int32)) := (if x3 ≤ x2 then some P else inB np x2 (nmV x2.toNatClampNeg (fun j3 => k5 (x2 + (1 : Int32)) x3 (upd P j3 x1))))
def fJ7_fill_53178 (P : (Nat → Int32)) (np : Nat) (x1 : Int32) : Option ((Nat → Int32)) := lk3 (sJ7_fill_53178_5 np x1) 1000 (0 : Int32) (Int32.ofNat np) P
theorem miJ7_fill_53178 : MI yJ7_fill_53178 cJ7_fill_53178 4 none 2 := ⟨wd1_10, wd2_102, by decide +kernel⟩
theorem mjJ7_fill_53178 : Cond.static yJ7_fill_53178 ∈ wT := wd2_101
set_option maxHeartbeats 4000000 in
set_option maxRecDepth 100000 in
theorem qJ7_fill_53178 (l : Launch) (D : va_G) (cI cZ cO : ClassId) (jhp : Nat) (np : Nat) (P : (Nat → Int32)) (x1 : Int32) (sz : Nat) (res : (Nat → Int32)) (hf : fJ7_fill_53178 P np x1 = some res) : Met l yJ7_fill_53178 (Cond.code yJ7_fill_53178 cJ7_fill_53178 4 none :: wT) (rmF 0 0) (va_Pc [.ref jhp, .int x1] (cW D (tyL cI cZ cO) (wJ7_fill_53178 cI cZ jhp np P) sz)) (va_Qv (S := Unit) (fun _ => True) (fun _ => qW D (tyL cI cZ cO) (va_A (wJ7_fill_53178 cI cZ jhp np P) sz) (wJ7_fill_53178 cI cZ jhp np res)) (va_A (wJ7_fill_53178 cI cZ jhp np P) sz)) 0 0 (va_A (wJ7_fill_53178 cI cZ jhp np P) sz) := by
  refine met_w (by decide) (Nat.le_of_ble_eq_true rfl) ?_
  intro p e s m below meth c hx hb hr hml ht hown hlk ls hl hsz hP hK hD0 hZ
  subst hsz
  have hD := hD0.self (sz := s.heap.size)
  generalize hAe : va_A (wJ7_fill_53178 cI cZ jhp np P) s.heap.size = A at hD hZ ⊢
  have hA : ∀ q : Nat, s.heap.size ≤ q → A q := fun q h => by rw [← hAe]; exact Or.inr h
  have hS : va_S A s.heap s.heap [] := va_S.rf
  have hown : s.vm.findClass "java/util/Arrays" = some m.cls := hown
  have hl : lv_has ls 4 [(0, .ref jhp), (1, .int x1)] := hl
  unfold fJ7_fill_53178 at hf
  suffices hgo : ∀ (H : Heap) (locs : List Loc), va_P D vwCl (wJ7_fill_53178 cI cZ jhp np P) H → va_S A s.heap H locs → W p l e (rmF 0 0) s m ([.ref jhp, .int x1] : List Value).toArray below meth c H locs 0 0 (MQ below (va_Qv (S := Unit) (fun _ => True) (fun _ => qW D (tyL cI cZ cO) A (wJ7_fill_53178 cI cZ jhp np res)) A) ([.ref jhp, .int x1] : List Value).toArray s 0 0 A) (F0 m 0 ls []) from hgo s.heap [] hP hS
  have hj5 : ∀ (x2 : Int32) (x3 : Int32) (P : (Nat → Int32)), lk3 (sJ7_fill_53178_5 np x1) 1000 x2 x3 P = some res → ∀ (H : Heap) (locs : List Loc) (ls : Array Slot), va_P D vwCl (wJ7_fill_53178 cI cZ jhp np P) H → va_D A (wJ7_fill_53178 cI cZ jhp np P) → va_S A s.heap H locs → lv_has ls 4 [(0, .ref jhp), (1, .int x1), (2, .int x2), (3, .int x3)] → W p l e (rmF 0 0) s m ([.ref jhp, .int x1] : List Value).toArray below meth c H locs 0 0 (MQ below (va_Qv (S := Unit) (fun _ => True) (fun _ => qW D (tyL cI cZ cO) A (wJ7_fill_53178 cI cZ jhp np res)) A) ([.ref jhp, .int x1] : List Value).toArray s 0 0 A) (F0 m 5 ls []) := by
    refine lk3_w (fun (x2 : Int32) (x3 : Int32) (P : (Nat → Int32)) => ∀ (H : Heap) (locs : List Loc) (ls : Array Slot), va_P D vwCl (wJ7_fill_53178 cI cZ jhp np P) H → va_D A (wJ7_fill_53178 cI cZ jhp np P) → va_S A s.heap H locs → lv_has ls 4 [(0, .ref jhp), (1, .int x1), (2, .int x2), (3, .int x3)] → W p l e (rmF 0 0) s m ([.ref jhp, .int x1] : List Value).toArray below meth c H locs 0 0 (MQ below (va_Qv (S := Unit) (fun _ => True) (fun _ => qW D (tyL cI cZ cO) A (wJ7_fill_53178 cI cZ jhp np res)) A) ([.ref jhp, .int x1] : List Value).toArray s 0 0 A) (F0 m 5 ls [])) ?_ 1000
    intro k5 hk5 x2 x3 P hf H locs ls hP hD hS hl
    unfold sJ7_fill_53178_5 at hf
    refine lv_iload_n hx hb dJ7_fill_53178_5 rfl (lv_at hl 2 rfl) ?_
    refine lv_iload_n hx hb dJ7_fill_53178_6 rfl (lv_at hl 3 rfl) ?_
    refine lv_icmp_ge (tgt := 20) hx hb dJ7_fill_53178_7 (by decide) (fun c1 => ?_) (fun c1 => ?_)
    · have hf := itP c1 hf
      cases hf
      exact W.vret hx hb hr (fun t ht9 hW => ⟨⟨(), rfl, trivial, by rw [ht9]; exact hP, va_K.moved hW.alike hK, hD⟩, hS.F ht9⟩) hS.2.2 dJ7_fill_53178_20
    · have hf := itN c1 hf
      refine lv_aload_n hx hb dJ7_fill_53178_10 rfl (lv_at hl 0 rfl) ?_
      refine lv_iload_n hx hb dJ7_fill_53178_11 rfl (lv_at hl 2 rfl) ?_
      refine lv_iload_n hx hb dJ7_fill_53178_12 rfl (lv_at hl 1 rfl) ?_
      obtain ⟨h2, hf⟩ := inB_s hf
      obtain ⟨j3, ej3, hf⟩ := nmV_s hf
      refine va_iast (f := P) (n := np) hx hb hK hP hD hS 0 0 rfl rfl h2 dJ7_fill_53178_13 (fun H locs hP hD hS => ?_)
      rw [← ej3] at hP hD
      have hP : va_P D vwCl (wJ7_fill_53178 cI cZ jhp np (upd P j3 x1)) H := hP
      have hD : va_D A (wJ7_fill_53178 cI cZ jhp np (upd P j3 x1)) := hD
      refine lv_iinc (v := (x2 + (1 : Int32))) (lv' := [(2, .int (x2 + (1 : Int32))), (0, .ref jhp), (1, .int x1), (3, .int x3)]) hx hb dJ7_fill_53178_14 hl (k := 2) rfl rfl (by decide) rfl (fun ls hl => ?_)
      refine lv_goto (tgt := 5) hx hb dJ7_fill_53178_17 (by decide) ?_
      exact hk5 (x2 + (1 : Int32)) x3 (upd P j3 x1) hf _ _ _ hP hD hS (lv_sub hl [1, 2, 0, 3] rfl)
  intro H locs hP hS
  refine lv_iconst (v := (0 : Int32)) hx hb dJ7_fill_53178_0 rfl ?_
  refine lv_istore_n (lv' := [(2, .int (0 : Int32)), (0, .ref jhp), (1, .int x1)]) hx hb dJ7_fill_53178_1 rfl hl (by decide) rfl (fun ls hl => ?_)
  refine lv_aload_n hx hb dJ7_fill_53178_2 rfl (lv_at hl 1 rfl) ?_
  refine va_alen (v := (Int32.ofNat np)) hx hb hK hP 0 0 rfl rfl rfl dJ7_fill_53178_3 ?_
  refine lv_istore_n (lv' := [(3, .int (Int32.ofNat np)), (2, .int (0 : Int32)), (0, .ref jhp), (1, .int x1)]) hx hb dJ7_fill_53178_4 rfl hl (by decide) rfl (fun ls hl => ?_)
  exact hj5 (0 : Int32) (Int32.ofNat np) P hf _ _ _ hP hD hS (lv_sub hl [2, 3, 1, 0] rfl)
abbrev wX3_begin (cI cZ : ClassId) (jhw : Nat) (jaw : Nat → Nat) (jhs : Nat) (jas : Nat → Nat) (Sw : Bk) (Ss : Bk) : va_W := [(jhw, .inr (5, [.int (Sw.1 0), .ref (jaw 0), .ref (jaw 1), .ref (jaw 2), .int (Sw.1 1), .ref (jaw 3), .ref (jaw 4), .ref (jaw 5), .int (Sw.1 2), .int (Sw.1 3), .ref (jaw 6), .ref (jaw 7), .ref (jaw 8), .ref (jaw 9), .ref (jaw 10)])), (jaw 0, .inl (cI, 4, .inl (Sw.2.1 0))), (jhs, .inr (2, [.ref jhw, .ref (jas 1), .ref (jas 2), .ref (jas 3), .int (Ss.1 0), .int (Ss.1 1), .int (Ss.1 2), .int (Ss.1 3)])), (jas 1, .inl (cI, 4, .inl (Ss.2.1 1))), (jas 2, .inl (cI, 4, .inl (Ss.2.1 2))), (jas 3, .inl (cI, 4, .inl (Ss.2.1 3)))]
def fX3_begin (Sw : Bk) (Ss : Bk) : Option (Bk) := (fJ7_fill_53178 (Ss.2.1 2) 4 (0 : Int32)).bind (fun u1 => (fJ7_fill_53178 (Ss.2.1 3) 4 (0 : Int32)).bind (fun u3 => some (bI (bI (bI (bI (bA (bA (bA Ss 1 (va_cpy (Sw.2.1 0) (Ss.2.1 1) (0 : Int32).toNatClampNeg (0 : Int32).toNatClampNeg (4 : Int32).toNatClampNeg)) 2 u1) 3 u3) 0 (0 : Int32)) 1 (0 : Int32)) 2 (0 : Int32)) 3 (0 : Int32))))
theorem miX3_begin : MI yX3_begin cX3_begin 1 none 0 := ⟨wd1_4, wd2_96, by decide +kernel⟩
theorem mjX3_begin : Cond.instanceMethod yX3_begin ∈ wT ∧ Cond.selects yX3_begin.cls yX3_begin yX3_begin ∈ wT := ⟨wd2_94, wd2_95⟩
set_option maxHeartbeats 4000000 in
set_option maxRecDepth 100000 in
theorem qX3_begin (l : Launch) (D : va_G) (cI cZ cO : ClassId) (jhw : Nat) (jaw : Nat → Nat) (jhs : Nat) (jas : Nat → Nat) (Sw : Bk) (Ss : Bk) (sz : Nat) (res : Bk) (hf : fX3_begin Sw Ss = some res) : Met l yX3_begin (Cond.code yX3_begin cX3_begin 1 none :: wT) (rmF 1 26) (va_Pc [.ref jhs] (cW D (tyL cI cZ cO) (wX3_begin cI cZ jhw jaw jhs jas Sw Ss) sz)) (va_Qv (S := Unit) (fun _ => True) (fun _ => qW D (tyL cI cZ cO) (va_A (wX3_begin cI cZ jhw jaw jhs jas Sw Ss) sz) (wX3_begin cI cZ jhw jaw jhs jas Sw res)) (va_A (wX3_begin cI cZ jhw jaw jhs jas Sw Ss) sz)) 0 0 (va_A (wX3_begin cI cZ jhw jaw jhs jas Sw Ss) sz) := by
  refine met_w (by decide) (Nat.le_of_ble_eq_true rfl) ?_
  intro p e s m below meth c hx hb hr hml ht hown hlk ls hl hsz hP hK hD0 hZ
  subst hsz
  have hD := hD0.self (sz := s.heap.size)
  generalize hAe : va_A (wX3_begin cI cZ jhw jaw jhs jas Sw Ss) s.heap.size = A at hD hZ ⊢
  have hA : ∀ q : Nat, s.heap.size ≤ q → A q := fun q h => by rw [← hAe]; exact Or.inr h
  have hS : va_S A s.heap s.heap [] := va_S.rf
  have hown : s.vm.findClass "EyeDrink$Stand" = some m.cls := hown
  have hl : lv_has ls 1 [(0, .ref jhs)] := hl
  have hC : CallFix p m c cX3_begin 1 s ([.ref jhs] : List Value).toArray wT "EyeDrink$Stand" := ⟨hx, hb, hml, hown, ht⟩
  unfold fX3_begin at hf
  suffices hgo : ∀ (H : Heap) (locs : List Loc), va_P D vwCl (wX3_begin cI cZ jhw jaw jhs jas Sw Ss) H → va_S A s.heap H locs → W p l e (rmF 1 26) s m ([.ref jhs] : List Value).toArray below meth c H locs 0 0 (MQ below (va_Qv (S := Unit) (fun _ => True) (fun _ => qW D (tyL cI cZ cO) A (wX3_begin cI cZ jhw jaw jhs jas Sw res)) A) ([.ref jhs] : List Value).toArray s 0 0 A) (F0 m 0 ls []) from hgo s.heap [] hP hS
  intro H locs hP hS
  refine lv_aload_n hx hb dX3_begin_0 rfl (lv_at hl 0 rfl) ?_
  refine va_get (D := D) (ci := 2) (v := .ref jhw) (C := RX3) (T := TX3) (N := 8) hx hb ht inX3 hown hK hP 2 rfl rfl 0 (by decide) (ht _ wd1_135) (fun _ h9 => h9) rfl dX3_begin_1 ?_
  refine va_get (D := D) (ci := 5) (v := .ref (jaw 0)) (C := RX6) (T := TX6) (N := 15) hx hb ht inX6 hown hK hP 0 rfl rfl 1 (by decide) (ht _ wd1_50) (fun _ h9 => h9) rfl dX3_begin_4 ?_
  refine lv_iconst (v := (0 : Int32)) hx hb dX3_begin_7 rfl ?_
  refine lv_aload_n hx hb dX3_begin_8 rfl (lv_at hl 0 rfl) ?_
  refine va_get (D := D) (ci := 2) (v := .ref (jas 1)) (C := RX3) (T := TX3) (N := 8) hx hb ht inX3 hown hK hP 2 rfl rfl 1 (by decide) (ht _ wd1_136) (fun _ h9 => h9) rfl dX3_begin_9 ?_
  refine lv_iconst (v := (0 : Int32)) hx hb dX3_begin_12 rfl ?_
  refine lv_iconst (v := (4 : Int32)) hx hb dX3_begin_13 rfl ?_
  refine va_copyi (f := (Sw.2.1 0)) (g := (Ss.2.1 1)) (ty := .int) hx hb (hml.trans hl.1.symm) hown (ht _ wd2_97) (ht _ wd2_99) (ht _ wd2_98) (ht _ wd1_9) hK hP hD hS 1 3 0 0 rfl rfl rfl rfl rfl (by decide) (by decide) (by decide) (by decide) (by decide) (fun _ _ => rfl) (Nat.le_of_ble_eq_true rfl) (Nat.le_of_ble_eq_true rfl) dX3_begin_14 (fun H locs hP hD hS => ?_)
  have hP : va_P D vwCl (wX3_begin cI cZ jhw jaw jhs jas Sw (bA Ss 1 (va_cpy (Sw.2.1 0) (Ss.2.1 1) (0 : Int32).toNatClampNeg (0 : Int32).toNatClampNeg (4 : Int32).toNatClampNeg))) H := hP
  have hD : va_D A (wX3_begin cI cZ jhw jaw jhs jas Sw (bA Ss 1 (va_cpy (Sw.2.1 0) (Ss.2.1 1) (0 : Int32).toNatClampNeg (0 : Int32).toNatClampNeg (4 : Int32).toNatClampNeg))) := hD
  refine lv_aload_n hx hb dX3_begin_17 rfl (lv_at hl 0 rfl) ?_
  refine va_get (D := D) (ci := 2) (v := .ref (jas 2)) (C := RX3) (T := TX3) (N := 8) hx hb ht inX3 hown hK hP 2 rfl rfl 2 (by decide) (ht _ wd1_139) (fun _ h9 => h9) rfl dX3_begin_18 ?_
  refine lv_iconst (v := (0 : Int32)) hx hb dX3_begin_21 rfl ?_
  obtain ⟨u1, e2, hf⟩ := bdS hf
  refine k_wSv (ws' := (wX3_begin cI cZ jhw jaw jhs jas Sw (bA (bA Ss 1 (va_cpy (Sw.2.1 0) (Ss.2.1 1) (0 : Int32).toNatClampNeg (0 : Int32).toNatClampNeg (4 : Int32).toNatClampNeg)) 2 u1))) (wr := [(jhw, .inr (5, [.int (Sw.1 0), .ref (jaw 0), .ref (jaw 1), .ref (jaw 2), .int (Sw.1 1), .ref (jaw 3), .ref (jaw 4), .ref (jaw 5), .int (Sw.1 2), .int (Sw.1 3), .ref (jaw 6), .ref (jaw 7), .ref (jaw 8), .ref (jaw 9), .ref (jaw 10)])), (jaw 0, .inl (cI, 4, .inl (Sw.2.1 0))), (jhs, .inr (2, [.ref jhw, .ref (jas 1), .ref (jas 2), .ref (jas 3), .int ((bA (bA Ss 1 (va_cpy (Sw.2.1 0) (Ss.2.1 1) (0 : Int32).toNatClampNeg (0 : Int32).toNatClampNeg (4 : Int32).toNatClampNeg)) 2 u1).1 0), .int ((bA (bA Ss 1 (va_cpy (Sw.2.1 0) (Ss.2.1 1) (0 : Int32).toNatClampNeg (0 : Int32).toNatClampNeg (4 : Int32).toNatClampNeg)) 2 u1).1 1), .int ((bA (bA Ss 1 (va_cpy (Sw.2.1 0) (Ss.2.1 1) (0 : Int32).toNatClampNeg (0 : Int32).toNatClampNeg (4 : Int32).toNatClampNeg)) 2 u1).1 2), .int ((bA (bA Ss 1 (va_cpy (Sw.2.1 0) (Ss.2.1 1) (0 : Int32).toNatClampNeg (0 : Int32).toNatClampNeg (4 : Int32).toNatClampNeg)) 2 u1).1 3)])), (jas 1, .inl (cI, 4, .inl ((bA (bA Ss 1 (va_cpy (Sw.2.1 0) (Ss.2.1 1) (0 : Int32).toNatClampNeg (0 : Int32).toNatClampNeg (4 : Int32).toNatClampNeg)) 2 u1).2.1 1))), (jas 3, .inl (cI, 4, .inl ((bA (bA Ss 1 (va_cpy (Sw.2.1 0) (Ss.2.1 1) (0 : Int32).toNatClampNeg (0 : Int32).toNatClampNeg (4 : Int32).toNatClampNeg)) 2 u1).2.1 3)))]) (As := [.ref (jas 2), .int (0 : Int32)]) (rest := []) hC miJ7_fill_53178 mjJ7_fill_53178 wd2_100 (qJ7_fill_53178 l D cI cZ cO (jas 2) (4) (Ss.2.1 2) (0 : Int32) H.size u1 e2) ⟨Nat.le_of_ble_eq_true rfl, Nat.le_of_ble_eq_true rfl⟩ hP hD hK hZ hS hA [4] [0, 1, 2, 3, 5] [0, 1, 2, 3, 5, 4] rfl (by decide) rfl (by decide) (by decide) (by decide) rfl hl.1 rfl rfl (Nat.le_of_ble_eq_true rfl) dX3_begin_22 (fun H locs hP hD hS => ?_)
  refine lv_aload_n hx hb dX3_begin_25 rfl (lv_at hl 0 rfl) ?_
  refine va_get (D := D) (ci := 2) (v := .ref (jas 3)) (C := RX3) (T := TX3) (N := 8) hx hb ht inX3 hown hK hP 2 rfl rfl 3 (by decide) (ht _ wd1_140) (fun _ h9 => h9) rfl dX3_begin_26 ?_
  refine lv_iconst (v := (0 : Int32)) hx hb dX3_begin_29 rfl ?_
  obtain ⟨u3, e4, hf⟩ := bdS hf
  refine k_wSv (ws' := (wX3_begin cI cZ jhw jaw jhs jas Sw (bA (bA (bA Ss 1 (va_cpy (Sw.2.1 0) (Ss.2.1 1) (0 : Int32).toNatClampNeg (0 : Int32).toNatClampNeg (4 : Int32).toNatClampNeg)) 2 u1) 3 u3))) (wr := [(jhw, .inr (5, [.int (Sw.1 0), .ref (jaw 0), .ref (jaw 1), .ref (jaw 2), .int (Sw.1 1), .ref (jaw 3), .ref (jaw 4), .ref (jaw 5), .int (Sw.1 2), .int (Sw.1 3), .ref (jaw 6), .ref (jaw 7), .ref (jaw 8), .ref (jaw 9), .ref (jaw 10)])), (jaw 0, .inl (cI, 4, .inl (Sw.2.1 0))), (jhs, .inr (2, [.ref jhw, .ref (jas 1), .ref (jas 2), .ref (jas 3), .int ((bA (bA (bA Ss 1 (va_cpy (Sw.2.1 0) (Ss.2.1 1) (0 : Int32).toNatClampNeg (0 : Int32).toNatClampNeg (4 : Int32).toNatClampNeg)) 2 u1) 3 u3).1 0), .int ((bA (bA (bA Ss 1 (va_cpy (Sw.2.1 0) (Ss.2.1 1) (0 : Int32).toNatClampNeg (0 : Int32).toNatClampNeg (4 : Int32).toNatClampNeg)) 2 u1) 3 u3).1 1), .int ((bA (bA (bA Ss 1 (va_cpy (Sw.2.1 0) (Ss.2.1 1) (0 : Int32).toNatClampNeg (0 : Int32).toNatClampNeg (4 : Int32).toNatClampNeg)) 2 u1) 3 u3).1 2), .int ((bA (bA (bA Ss 1 (va_cpy (Sw.2.1 0) (Ss.2.1 1) (0 : Int32).toNatClampNeg (0 : Int32).toNatClampNeg (4 : Int32).toNatClampNeg)) 2 u1) 3 u3).1 3)])), (jas 1, .inl (cI, 4, .inl ((bA (bA (bA Ss 1 (va_cpy (Sw.2.1 0) (Ss.2.1 1) (0 : Int32).toNatClampNeg (0 : Int32).toNatClampNeg (4 : Int32).toNatClampNeg)) 2 u1) 3 u3).2.1 1))), (jas 2, .inl (cI, 4, .inl ((bA (bA (bA Ss 1 (va_cpy (Sw.2.1 0) (Ss.2.1 1) (0 : Int32).toNatClampNeg (0 : Int32).toNatClampNeg (4 : Int32).toNatClampNeg)) 2 u1) 3 u3).2.1 2)))]) (As := [.ref (jas 3), .int (0 : Int32)]) (rest := []) hC miJ7_fill_53178 mjJ7_fill_53178 wd2_100 (qJ7_fill_53178 l D cI cZ cO (jas 3) (4) (Ss.2.1 3) (0 : Int32) H.size u3 e4) ⟨Nat.le_of_ble_eq_true rfl, Nat.le_of_ble_eq_true rfl⟩ hP hD hK hZ hS hA [5] [0, 1, 2, 3, 4] [0, 1, 2, 3, 4, 5] rfl (by decide) rfl (by decide) (by decide) (by decide) rfl hl.1 rfl rfl (Nat.le_of_ble_eq_true rfl) dX3_begin_30 (fun H locs hP hD hS => ?_)
  refine lv_aload_n hx hb dX3_begin_33 rfl (lv_at hl 0 rfl) ?_
  refine lv_iconst (v := (0 : Int32)) hx hb dX3_begin_34 rfl ?_
  refine va_put (D := D) (ci := 2) (v := .int (0 : Int32)) (ty := .int) (C := RX3) (T := TX3) (N := 8) hx hb ht inX3 tyX3 tyX3_ok nmX3 hown hK hP hD hS 2 rfl rfl 4 (by decide) (ht _ wd1_142) (fun _ h9 => h9) rfl (tyX3_ok 4 (by decide)) rfl rfl (Nat.le_of_ble_eq_true rfl) dX3_begin_35 (fun H locs hP hD hS => ?_)
  have hP : va_P D vwCl (wX3_begin cI cZ jhw jaw jhs jas Sw (bI (bA (bA (bA Ss 1 (va_cpy (Sw.2.1 0) (Ss.2.1 1) (0 : Int32).toNatClampNeg (0 : Int32).toNatClampNeg (4 : Int32).toNatClampNeg)) 2 u1) 3 u3) 0 (0 : Int32))) H := hP
  have hD : va_D A (wX3_begin cI cZ jhw jaw jhs jas Sw (bI (bA (bA (bA Ss 1 (va_cpy (Sw.2.1 0) (Ss.2.1 1) (0 : Int32).toNatClampNeg (0 : Int32).toNatClampNeg (4 : Int32).toNatClampNeg)) 2 u1) 3 u3) 0 (0 : Int32))) := hD
  refine lv_aload_n hx hb dX3_begin_38 rfl (lv_at hl 0 rfl) ?_
  refine lv_iconst (v := (0 : Int32)) hx hb dX3_begin_39 rfl ?_
  refine va_put (D := D) (ci := 2) (v := .int (0 : Int32)) (ty := .int) (C := RX3) (T := TX3) (N := 8) hx hb ht inX3 tyX3 tyX3_ok nmX3 hown hK hP hD hS 2 rfl rfl 5 (by decide) (ht _ wd1_144) (fun _ h9 => h9) rfl (tyX3_ok 5 (by decide)) rfl rfl (Nat.le_of_ble_eq_true rfl) dX3_begin_40 (fun H locs hP hD hS => ?_)
  have hP : va_P D vwCl (wX3_begin cI cZ jhw jaw jhs jas Sw (bI (bI (bA (bA (bA Ss 1 (va_cpy (Sw.2.1 0) (Ss.2.1 1) (0 : Int32).toNatClampNeg (0 : Int32).toNatClampNeg (4 : Int32).toNatClampNeg)) 2 u1) 3 u3) 0 (0 : Int32)) 1 (0 : Int32))) H := hP
  have hD : va_D A (wX3_begin cI cZ jhw jaw jhs jas Sw (bI (bI (bA (bA (bA Ss 1 (va_cpy (Sw.2.1 0) (Ss.2.1 1) (0 : Int32).toNatClampNeg (0 : Int32).toNatClampNeg (4 : Int32).toNatClampNeg)) 2 u1) 3 u3) 0 (0 : Int32)) 1 (0 : Int32))) := hD
  refine lv_aload_n hx hb dX3_begin_43 rfl (lv_at hl 0 rfl) ?_
  refine lv_iconst (v := (0 : Int32)) hx hb dX3_begin_44 rfl ?_
  refine va_put (D := D) (ci := 2) (v := .int (0 : Int32)) (ty := .int) (C := RX3) (T := TX3) (N := 8) hx hb ht inX3 tyX3 tyX3_ok nmX3 hown hK hP hD hS 2 rfl rfl 6 (by decide) (ht _ wd1_147) (fun _ h9 => h9) rfl (tyX3_ok 6 (by decide)) rfl rfl (Nat.le_of_ble_eq_true rfl) dX3_begin_45 (fun H locs hP hD hS => ?_)
  have hP : va_P D vwCl (wX3_begin cI cZ jhw jaw jhs jas Sw (bI (bI (bI (bA (bA (bA Ss 1 (va_cpy (Sw.2.1 0) (Ss.2.1 1) (0 : Int32).toNatClampNeg (0 : Int32).toNatClampNeg (4 : Int32).toNatClampNeg)) 2 u1) 3 u3) 0 (0 : Int32)) 1 (0 : Int32)) 2 (0 : Int32))) H := hP
  have hD : va_D A (wX3_begin cI cZ jhw jaw jhs jas Sw (bI (bI (bI (bA (bA (bA Ss 1 (va_cpy (Sw.2.1 0) (Ss.2.1 1) (0 : Int32).toNatClampNeg (0 : Int32).toNatClampNeg (4 : Int32).toNatClampNeg)) 2 u1) 3 u3) 0 (0 : Int32)) 1 (0 : Int32)) 2 (0 : Int32))) := hD
  refine lv_aload_n hx hb dX3_begin_48 rfl (lv_at hl 0 rfl) ?_
  refine lv_iconst (v := (0 : Int32)) hx hb dX3_begin_49 rfl ?_
  refine va_put (D := D) (ci := 2) (v := .int (0 : Int32)) (ty := .int) (C := RX3) (T := TX3) (N := 8) hx hb ht inX3 tyX3 tyX3_ok nmX3 hown hK hP hD hS 2 rfl rfl 7 (by decide) (ht _ wd1_149) (fun _ h9 => h9) rfl (tyX3_ok 7 (by decide)) rfl rfl (Nat.le_of_ble_eq_true rfl) dX3_begin_50 (fun H locs hP hD hS => ?_)
  have hP : va_P D vwCl (wX3_begin cI cZ jhw jaw jhs jas Sw (bI (bI (bI (bI (bA (bA (bA Ss 1 (va_cpy (Sw.2.1 0) (Ss.2.1 1) (0 : Int32).toNatClampNeg (0 : Int32).toNatClampNeg (4 : Int32).toNatClampNeg)) 2 u1) 3 u3) 0 (0 : Int32)) 1 (0 : Int32)) 2 (0 : Int32)) 3 (0 : Int32))) H := hP
  have hD : va_D A (wX3_begin cI cZ jhw jaw jhs jas Sw (bI (bI (bI (bI (bA (bA (bA Ss 1 (va_cpy (Sw.2.1 0) (Ss.2.1 1) (0 : Int32).toNatClampNeg (0 : Int32).toNatClampNeg (4 : Int32).toNatClampNeg)) 2 u1) 3 u3) 0 (0 : Int32)) 1 (0 : Int32)) 2 (0 : Int32)) 3 (0 : Int32))) := hD
  cases hf
  exact W.vret hx hb hr (fun t ht9 hW => ⟨⟨(), rfl, trivial, by rw [ht9]; exact hP, va_K.moved hW.alike hK, hD⟩, hS.F ht9⟩) hS.2.2 dX3_begin_53
abbrev wX3_copyFrom (cI cZ : ClassId) (jhs : Nat) (jas : Nat → Nat) (jhw : Nat) (jho : Nat) (jao : Nat → Nat) (Ss : Bk) (So : Bk) : va_W := [(jhs, .inr (2, [.ref jhw, .ref (jas 1), .ref (jas 2), .ref (jas 3), .int (Ss.1 0), .int (Ss.1 1), .int (Ss.1 2), .int (Ss.1 3)])), (jas 1, .inl (cI, 4, .inl (Ss.2.1 1))), (jas 2, .inl (cI, 4, .inl (Ss.2.1 2))), (jas 3, .inl (cI, 4, .inl (Ss.2.1 3))), (jho, .inr (2, [.ref jhw, .ref (jao 1), .ref (jao 2), .ref (jao 3), .int (So.1 0), .int (So.1 1), .int (So.1 2), .int (So.1 3)])), (jao 1, .inl (cI, 4, .inl (So.2.1 1))), (jao 2, .inl (cI, 4, .inl (So.2.1 2))), (jao 3, .inl (cI, 4, .inl (So.2.1 3)))]
def fX3_copyFrom (Ss : Bk) (So : Bk) : Option (Bk) := nmV (So.1 0) (fun v1 => nmV (So.1 1) (fun v2 => nmV (So.1 2) (fun v3 => nmV (So.1 3) (fun v4 => some (bI (bI (bI (bI (bA (bA (bA Ss 1 (va_cpy (So.2.1 1) (Ss.2.1 1) (0 : Int32).toNatClampNeg (0 : Int32).toNatClampNeg (4 : Int32).toNatClampNeg)) 2 (va_cpy (So.2.1 2) (Ss.2.1 2) (0 : Int32).toNatClampNeg (0 : Int32).toNatClampNeg (4 : Int32).toNatClampNeg)) 3 (va_cpy (So.2.1 3) (Ss.2.1 3) (0 : Int32).toNatClampNeg (0 : Int32).toNatClampNeg (4 : Int32).toNatClampNeg)) 0 v1) 1 v2) 2 v3) 3 v4)))))
theorem miX3_copyFrom : MI yX3_copyFrom cX3_copyFrom 2 none 1 := ⟨wd1_4, wd2_167, by decide +kernel⟩
theorem mjX3_copyFrom : Cond.instanceMethod yX3_copyFrom ∈ wT ∧ Cond.selects yX3_copyFrom.cls yX3_copyFrom yX3_copyFrom ∈ wT := ⟨wd2_165, wd2_166⟩
set_option maxHeartbeats 4000000 in
set_option maxRecDepth 100000 in
theorem qX3_copyFrom (l : Launch) (D : va_G) (cI cZ cO : ClassId) (jhs : Nat) (jas : Nat → Nat) (jhw : Nat) (jho : Nat) (jao : Nat → Nat) (Ss : Bk) (So : Bk) (sz : Nat) (res : Bk) (hf : fX3_copyFrom Ss So = some res) : Met l yX3_copyFrom (Cond.code yX3_copyFrom cX3_copyFrom 2 none :: wT) (rmF 1 26) (va_Pc [.ref jhs, .ref jho] (cW D (tyL cI cZ cO) (wX3_copyFrom cI cZ jhs jas jhw jho jao Ss So) sz)) (va_Qv (S := Unit) (fun _ => True) (fun _ => qW D (tyL cI cZ cO) (va_A (wX3_copyFrom cI cZ jhs jas jhw jho jao Ss So) sz) (wX3_copyFrom cI cZ jhs jas jhw jho jao res So)) (va_A (wX3_copyFrom cI cZ jhs jas jhw jho jao Ss So) sz)) 0 0 (va_A (wX3_copyFrom cI cZ jhs jas jhw jho jao Ss So) sz) := by
  refine met_w (by decide) (Nat.le_of_ble_eq_true rfl) ?_
  intro p e s m below meth c hx hb hr hml ht hown hlk ls hl hsz hP hK hD0 hZ
  subst hsz
  have hD := hD0.self (sz := s.heap.size)
  generalize hAe : va_A (wX3_copyFrom cI cZ jhs jas jhw jho jao Ss So) s.heap.size = A at hD hZ ⊢
  have hA : ∀ q : Nat, s.heap.size ≤ q → A q := fun q h => by rw [← hAe]; exact Or.inr h
  have hS : va_S A s.heap s.heap [] := va_S.rf
  have hown : s.vm.findClass "EyeDrink$Stand" = some m.cls := hown
  have hl : lv_has ls 2 [(0, .ref jhs), (1, .ref jho)] := hl
  unfold fX3_copyFrom at hf
  suffices hgo : ∀ (H : Heap) (locs : List Loc), va_P D vwCl (wX3_copyFrom cI cZ jhs jas jhw jho jao Ss So) H → va_S A s.heap H locs → W p l e (rmF 1 26) s m ([.ref jhs, .ref jho] : List Value).toArray below meth c H locs 0 0 (MQ below (va_Qv (S := Unit) (fun _ => True) (fun _ => qW D (tyL cI cZ cO) A (wX3_copyFrom cI cZ jhs jas jhw jho jao res So)) A) ([.ref jhs, .ref jho] : List Value).toArray s 0 0 A) (F0 m 0 ls []) from hgo s.heap [] hP hS
  intro H locs hP hS
  refine lv_aload_n hx hb dX3_copyFrom_0 rfl (lv_at hl 1 rfl) ?_
  refine va_get (D := D) (ci := 2) (v := .ref (jao 1)) (C := RX3) (T := TX3) (N := 8) hx hb ht inX3 hown hK hP 4 rfl rfl 1 (by decide) (ht _ wd1_136) (fun _ h9 => h9) rfl dX3_copyFrom_1 ?_
  refine lv_iconst (v := (0 : Int32)) hx hb dX3_copyFrom_4 rfl ?_
  refine lv_aload_n hx hb dX3_copyFrom_5 rfl (lv_at hl 0 rfl) ?_
  refine va_get (D := D) (ci := 2) (v := .ref (jas 1)) (C := RX3) (T := TX3) (N := 8) hx hb ht inX3 hown hK hP 0 rfl rfl 1 (by decide) (ht _ wd1_136) (fun _ h9 => h9) rfl dX3_copyFrom_6 ?_
  refine lv_iconst (v := (0 : Int32)) hx hb dX3_copyFrom_9 rfl ?_
  refine lv_iconst (v := (4 : Int32)) hx hb dX3_copyFrom_10 rfl ?_
  refine va_copyi (f := (So.2.1 1)) (g := (Ss.2.1 1)) (ty := .int) hx hb (hml.trans hl.1.symm) hown (ht _ wd2_97) (ht _ wd2_99) (ht _ wd2_98) (ht _ wd1_9) hK hP hD hS 5 1 0 0 rfl rfl rfl rfl rfl (by decide) (by decide) (by decide) (by decide) (by decide) (fun _ _ => rfl) (Nat.le_of_ble_eq_true rfl) (Nat.le_of_ble_eq_true rfl) dX3_copyFrom_11 (fun H locs hP hD hS => ?_)
  have hP : va_P D vwCl (wX3_copyFrom cI cZ jhs jas jhw jho jao (bA Ss 1 (va_cpy (So.2.1 1) (Ss.2.1 1) (0 : Int32).toNatClampNeg (0 : Int32).toNatClampNeg (4 : Int32).toNatClampNeg)) So) H := hP
  have hD : va_D A (wX3_copyFrom cI cZ jhs jas jhw jho jao (bA Ss 1 (va_cpy (So.2.1 1) (Ss.2.1 1) (0 : Int32).toNatClampNeg (0 : Int32).toNatClampNeg (4 : Int32).toNatClampNeg)) So) := hD
  refine lv_aload_n hx hb dX3_copyFrom_14 rfl (lv_at hl 1 rfl) ?_
  refine va_get (D := D) (ci := 2) (v := .ref (jao 2)) (C := RX3) (T := TX3) (N := 8) hx hb ht inX3 hown hK hP 4 rfl rfl 2 (by decide) (ht _ wd1_139) (fun _ h9 => h9) rfl dX3_copyFrom_15 ?_
  refine lv_iconst (v := (0 : Int32)) hx hb dX3_copyFrom_18 rfl ?_
  refine lv_aload_n hx hb dX3_copyFrom_19 rfl (lv_at hl 0 rfl) ?_
  refine va_get (D := D) (ci := 2) (v := .ref (jas 2)) (C := RX3) (T := TX3) (N := 8) hx hb ht inX3 hown hK hP 0 rfl rfl 2 (by decide) (ht _ wd1_139) (fun _ h9 => h9) rfl dX3_copyFrom_20 ?_
  refine lv_iconst (v := (0 : Int32)) hx hb dX3_copyFrom_23 rfl ?_
  refine lv_iconst (v := (4 : Int32)) hx hb dX3_copyFrom_24 rfl ?_
  refine va_copyi (f := (So.2.1 2)) (g := (Ss.2.1 2)) (ty := .int) hx hb (hml.trans hl.1.symm) hown (ht _ wd2_97) (ht _ wd2_99) (ht _ wd2_98) (ht _ wd1_9) hK hP hD hS 6 2 0 0 rfl rfl rfl rfl rfl (by decide) (by decide) (by decide) (by decide) (by decide) (fun _ _ => rfl) (Nat.le_of_ble_eq_true rfl) (Nat.le_of_ble_eq_true rfl) dX3_copyFrom_25 (fun H locs hP hD hS => ?_)
  have hP : va_P D vwCl (wX3_copyFrom cI cZ jhs jas jhw jho jao (bA (bA Ss 1 (va_cpy (So.2.1 1) (Ss.2.1 1) (0 : Int32).toNatClampNeg (0 : Int32).toNatClampNeg (4 : Int32).toNatClampNeg)) 2 (va_cpy (So.2.1 2) (Ss.2.1 2) (0 : Int32).toNatClampNeg (0 : Int32).toNatClampNeg (4 : Int32).toNatClampNeg)) So) H := hP
  have hD : va_D A (wX3_copyFrom cI cZ jhs jas jhw jho jao (bA (bA Ss 1 (va_cpy (So.2.1 1) (Ss.2.1 1) (0 : Int32).toNatClampNeg (0 : Int32).toNatClampNeg (4 : Int32).toNatClampNeg)) 2 (va_cpy (So.2.1 2) (Ss.2.1 2) (0 : Int32).toNatClampNeg (0 : Int32).toNatClampNeg (4 : Int32).toNatClampNeg)) So) := hD
  refine lv_aload_n hx hb dX3_copyFrom_28 rfl (lv_at hl 1 rfl) ?_
  refine va_get (D := D) (ci := 2) (v := .ref (jao 3)) (C := RX3) (T := TX3) (N := 8) hx hb ht inX3 hown hK hP 4 rfl rfl 3 (by decide) (ht _ wd1_140) (fun _ h9 => h9) rfl dX3_copyFrom_29 ?_
  refine lv_iconst (v := (0 : Int32)) hx hb dX3_copyFrom_32 rfl ?_
  refine lv_aload_n hx hb dX3_copyFrom_33 rfl (lv_at hl 0 rfl) ?_
  refine va_get (D := D) (ci := 2) (v := .ref (jas 3)) (C := RX3) (T := TX3) (N := 8) hx hb ht inX3 hown hK hP 0 rfl rfl 3 (by decide) (ht _ wd1_140) (fun _ h9 => h9) rfl dX3_copyFrom_34 ?_
  refine lv_iconst (v := (0 : Int32)) hx hb dX3_copyFrom_37 rfl ?_
  refine lv_iconst (v := (4 : Int32)) hx hb dX3_copyFrom_38 rfl ?_
  refine va_copyi (f := (So.2.1 3)) (g := (Ss.2.1 3)) (ty := .int) hx hb (hml.trans hl.1.symm) hown (ht _ wd2_97) (ht _ wd2_99) (ht _ wd2_98) (ht _ wd1_9) hK hP hD hS 7 3 0 0 rfl rfl rfl rfl rfl (by decide) (by decide) (by decide) (by decide) (by decide) (fun _ _ => rfl) (Nat.le_of_ble_eq_true rfl) (Nat.le_of_ble_eq_true rfl) dX3_copyFrom_39 (fun H locs hP hD hS => ?_)
  have hP : va_P D vwCl (wX3_copyFrom cI cZ jhs jas jhw jho jao (bA (bA (bA Ss 1 (va_cpy (So.2.1 1) (Ss.2.1 1) (0 : Int32).toNatClampNeg (0 : Int32).toNatClampNeg (4 : Int32).toNatClampNeg)) 2 (va_cpy (So.2.1 2) (Ss.2.1 2) (0 : Int32).toNatClampNeg (0 : Int32).toNatClampNeg (4 : Int32).toNatClampNeg)) 3 (va_cpy (So.2.1 3) (Ss.2.1 3) (0 : Int32).toNatClampNeg (0 : Int32).toNatClampNeg (4 : Int32).toNatClampNeg)) So) H := hP
  have hD : va_D A (wX3_copyFrom cI cZ jhs jas jhw jho jao (bA (bA (bA Ss 1 (va_cpy (So.2.1 1) (Ss.2.1 1) (0 : Int32).toNatClampNeg (0 : Int32).toNatClampNeg (4 : Int32).toNatClampNeg)) 2 (va_cpy (So.2.1 2) (Ss.2.1 2) (0 : Int32).toNatClampNeg (0 : Int32).toNatClampNeg (4 : Int32).toNatClampNeg)) 3 (va_cpy (So.2.1 3) (Ss.2.1 3) (0 : Int32).toNatClampNeg (0 : Int32).toNatClampNeg (4 : Int32).toNatClampNeg)) So) := hD
  refine lv_aload_n hx hb dX3_copyFrom_42 rfl (lv_at hl 0 rfl) ?_
  refine lv_aload_n hx hb dX3_copyFrom_43 rfl (lv_at hl 1 rfl) ?_
  refine va_get (D := D) (ci := 2) (v := .int (So.1 0)) (C := RX3) (T := TX3) (N := 8) hx hb ht inX3 hown hK hP 4 rfl rfl 4 (by decide) (ht _ wd1_142) (fun _ h9 => h9) rfl dX3_copyFrom_44 ?_
  obtain ⟨v1, ev1, hf⟩ := nmV_s hf
  rw [← ev1]
  refine va_put (D := D) (ci := 2) (v := .int v1) (ty := .int) (C := RX3) (T := TX3) (N := 8) hx hb ht inX3 tyX3 tyX3_ok nmX3 hown hK hP hD hS 0 rfl rfl 4 (by decide) (ht _ wd1_142) (fun _ h9 => h9) rfl (tyX3_ok 4 (by decide)) rfl rfl (Nat.le_of_ble_eq_true rfl) dX3_copyFrom_47 (fun H locs hP hD hS => ?_)
  have hP : va_P D vwCl (wX3_copyFrom cI cZ jhs jas jhw jho jao (bI (bA (bA (bA Ss 1 (va_cpy (So.2.1 1) (Ss.2.1 1) (0 : Int32).toNatClampNeg (0 : Int32).toNatClampNeg (4 : Int32).toNatClampNeg)) 2 (va_cpy (So.2.1 2) (Ss.2.1 2) (0 : Int32).toNatClampNeg (0 : Int32).toNatClampNeg (4 : Int32).toNatClampNeg)) 3 (va_cpy (So.2.1 3) (Ss.2.1 3) (0 : Int32).toNatClampNeg (0 : Int32).toNatClampNeg (4 : Int32).toNatClampNeg)) 0 v1) So) H := hP
  have hD : va_D A (wX3_copyFrom cI cZ jhs jas jhw jho jao (bI (bA (bA (bA Ss 1 (va_cpy (So.2.1 1) (Ss.2.1 1) (0 : Int32).toNatClampNeg (0 : Int32).toNatClampNeg (4 : Int32).toNatClampNeg)) 2 (va_cpy (So.2.1 2) (Ss.2.1 2) (0 : Int32).toNatClampNeg (0 : Int32).toNatClampNeg (4 : Int32).toNatClampNeg)) 3 (va_cpy (So.2.1 3) (Ss.2.1 3) (0 : Int32).toNatClampNeg (0 : Int32).toNatClampNeg (4 : Int32).toNatClampNeg)) 0 v1) So) := hD
  refine lv_aload_n hx hb dX3_copyFrom_50 rfl (lv_at hl 0 rfl) ?_
  refine lv_aload_n hx hb dX3_copyFrom_51 rfl (lv_at hl 1 rfl) ?_
  refine va_get (D := D) (ci := 2) (v := .int (So.1 1)) (C := RX3) (T := TX3) (N := 8) hx hb ht inX3 hown hK hP 4 rfl rfl 5 (by decide) (ht _ wd1_144) (fun _ h9 => h9) rfl dX3_copyFrom_52 ?_
  obtain ⟨v2, ev2, hf⟩ := nmV_s hf
  rw [← ev2]
  refine va_put (D := D) (ci := 2) (v := .int v2) (ty := .int) (C := RX3) (T := TX3) (N := 8) hx hb ht inX3 tyX3 tyX3_ok nmX3 hown hK hP hD hS 0 rfl rfl 5 (by decide) (ht _ wd1_144) (fun _ h9 => h9) rfl (tyX3_ok 5 (by decide)) rfl rfl (Nat.le_of_ble_eq_true rfl) dX3_copyFrom_55 (fun H locs hP hD hS => ?_)
  have hP : va_P D vwCl (wX3_copyFrom cI cZ jhs jas jhw jho jao (bI (bI (bA (bA (bA Ss 1 (va_cpy (So.2.1 1) (Ss.2.1 1) (0 : Int32).toNatClampNeg (0 : Int32).toNatClampNeg (4 : Int32).toNatClampNeg)) 2 (va_cpy (So.2.1 2) (Ss.2.1 2) (0 : Int32).toNatClampNeg (0 : Int32).toNatClampNeg (4 : Int32).toNatClampNeg)) 3 (va_cpy (So.2.1 3) (Ss.2.1 3) (0 : Int32).toNatClampNeg (0 : Int32).toNatClampNeg (4 : Int32).toNatClampNeg)) 0 v1) 1 v2) So) H := hP
  have hD : va_D A (wX3_copyFrom cI cZ jhs jas jhw jho jao (bI (bI (bA (bA (bA Ss 1 (va_cpy (So.2.1 1) (Ss.2.1 1) (0 : Int32).toNatClampNeg (0 : Int32).toNatClampNeg (4 : Int32).toNatClampNeg)) 2 (va_cpy (So.2.1 2) (Ss.2.1 2) (0 : Int32).toNatClampNeg (0 : Int32).toNatClampNeg (4 : Int32).toNatClampNeg)) 3 (va_cpy (So.2.1 3) (Ss.2.1 3) (0 : Int32).toNatClampNeg (0 : Int32).toNatClampNeg (4 : Int32).toNatClampNeg)) 0 v1) 1 v2) So) := hD
  refine lv_aload_n hx hb dX3_copyFrom_58 rfl (lv_at hl 0 rfl) ?_
  refine lv_aload_n hx hb dX3_copyFrom_59 rfl (lv_at hl 1 rfl) ?_
  refine va_get (D := D) (ci := 2) (v := .int (So.1 2)) (C := RX3) (T := TX3) (N := 8) hx hb ht inX3 hown hK hP 4 rfl rfl 6 (by decide) (ht _ wd1_147) (fun _ h9 => h9) rfl dX3_copyFrom_60 ?_
  obtain ⟨v3, ev3, hf⟩ := nmV_s hf
  rw [← ev3]
  refine va_put (D := D) (ci := 2) (v := .int v3) (ty := .int) (C := RX3) (T := TX3) (N := 8) hx hb ht inX3 tyX3 tyX3_ok nmX3 hown hK hP hD hS 0 rfl rfl 6 (by decide) (ht _ wd1_147) (fun _ h9 => h9) rfl (tyX3_ok 6 (by decide)) rfl rfl (Nat.le_of_ble_eq_true rfl) dX3_copyFrom_63 (fun H locs hP hD hS => ?_)
  have hP : va_P D vwCl (wX3_copyFrom cI cZ jhs jas jhw jho jao (bI (bI (bI (bA (bA (bA Ss 1 (va_cpy (So.2.1 1) (Ss.2.1 1) (0 : Int32).toNatClampNeg (0 : Int32).toNatClampNeg (4 : Int32).toNatClampNeg)) 2 (va_cpy (So.2.1 2) (Ss.2.1 2) (0 : Int32).toNatClampNeg (0 : Int32).toNatClampNeg (4 : Int32).toNatClampNeg)) 3 (va_cpy (So.2.1 3) (Ss.2.1 3) (0 : Int32).toNatClampNeg (0 : Int32).toNatClampNeg (4 : Int32).toNatClampNeg)) 0 v1) 1 v2) 2 v3) So) H := hP
  have hD : va_D A (wX3_copyFrom cI cZ jhs jas jhw jho jao (bI (bI (bI (bA (bA (bA Ss 1 (va_cpy (So.2.1 1) (Ss.2.1 1) (0 : Int32).toNatClampNeg (0 : Int32).toNatClampNeg (4 : Int32).toNatClampNeg)) 2 (va_cpy (So.2.1 2) (Ss.2.1 2) (0 : Int32).toNatClampNeg (0 : Int32).toNatClampNeg (4 : Int32).toNatClampNeg)) 3 (va_cpy (So.2.1 3) (Ss.2.1 3) (0 : Int32).toNatClampNeg (0 : Int32).toNatClampNeg (4 : Int32).toNatClampNeg)) 0 v1) 1 v2) 2 v3) So) := hD
  refine lv_aload_n hx hb dX3_copyFrom_66 rfl (lv_at hl 0 rfl) ?_
  refine lv_aload_n hx hb dX3_copyFrom_67 rfl (lv_at hl 1 rfl) ?_
  refine va_get (D := D) (ci := 2) (v := .int (So.1 3)) (C := RX3) (T := TX3) (N := 8) hx hb ht inX3 hown hK hP 4 rfl rfl 7 (by decide) (ht _ wd1_149) (fun _ h9 => h9) rfl dX3_copyFrom_68 ?_
  obtain ⟨v4, ev4, hf⟩ := nmV_s hf
  rw [← ev4]
  refine va_put (D := D) (ci := 2) (v := .int v4) (ty := .int) (C := RX3) (T := TX3) (N := 8) hx hb ht inX3 tyX3 tyX3_ok nmX3 hown hK hP hD hS 0 rfl rfl 7 (by decide) (ht _ wd1_149) (fun _ h9 => h9) rfl (tyX3_ok 7 (by decide)) rfl rfl (Nat.le_of_ble_eq_true rfl) dX3_copyFrom_71 (fun H locs hP hD hS => ?_)
  have hP : va_P D vwCl (wX3_copyFrom cI cZ jhs jas jhw jho jao (bI (bI (bI (bI (bA (bA (bA Ss 1 (va_cpy (So.2.1 1) (Ss.2.1 1) (0 : Int32).toNatClampNeg (0 : Int32).toNatClampNeg (4 : Int32).toNatClampNeg)) 2 (va_cpy (So.2.1 2) (Ss.2.1 2) (0 : Int32).toNatClampNeg (0 : Int32).toNatClampNeg (4 : Int32).toNatClampNeg)) 3 (va_cpy (So.2.1 3) (Ss.2.1 3) (0 : Int32).toNatClampNeg (0 : Int32).toNatClampNeg (4 : Int32).toNatClampNeg)) 0 v1) 1 v2) 2 v3) 3 v4) So) H := hP
  have hD : va_D A (wX3_copyFrom cI cZ jhs jas jhw jho jao (bI (bI (bI (bI (bA (bA (bA Ss 1 (va_cpy (So.2.1 1) (Ss.2.1 1) (0 : Int32).toNatClampNeg (0 : Int32).toNatClampNeg (4 : Int32).toNatClampNeg)) 2 (va_cpy (So.2.1 2) (Ss.2.1 2) (0 : Int32).toNatClampNeg (0 : Int32).toNatClampNeg (4 : Int32).toNatClampNeg)) 3 (va_cpy (So.2.1 3) (Ss.2.1 3) (0 : Int32).toNatClampNeg (0 : Int32).toNatClampNeg (4 : Int32).toNatClampNeg)) 0 v1) 1 v2) 2 v3) 3 v4) So) := hD
  cases hf
  exact W.vret hx hb hr (fun t ht9 hW => ⟨⟨(), rfl, trivial, by rw [ht9]; exact hP, va_K.moved hW.alike hK, hD⟩, hS.F ht9⟩) hS.2.2 dX3_copyFrom_74
abbrev wX3_knows (cI cZ : ClassId) (jhs : Nat) (jas : Nat → Nat) (jhw : Nat) (Ss : Bk) : va_W := [(jhs, .inr (2, [.ref jhw, .ref (jas 1), .ref (jas 2), .ref (jas 3), .int (Ss.1 0), .int (Ss.1 1), .int (Ss.1 2), .int (Ss.1 3)]))]
def fX3_knows (Ss : Bk) (x1 : Int32) : Option (Int32) := (if (((Ss.1 0) >>> (x1 &&& 31)) &&& (1 : Int32)) = (1 : Int32) then some (1 : Int32) else some (0 : Int32))
theorem miX3_knows : MI yX3_knows cX3_knows 2 (some .boolean) 1 := ⟨wd1_4, wd2_134, by decide +kernel⟩
theorem mjX3_knows : Cond.instanceMethod yX3_knows ∈ wT ∧ Cond.selects yX3_knows.cls yX3_knows yX3_knows ∈ wT := ⟨wd2_132, wd2_133⟩
set_option maxHeartbeats 4000000 in
set_option maxRecDepth 100000 in
theorem qX3_knows (l : Launch) (D : va_G) (cI cZ cO : ClassId) (jhs : Nat) (jas : Nat → Nat) (jhw : Nat) (Ss : Bk) (x1 : Int32) (res : Int32) (hf : fX3_knows Ss x1 = some res) : Met l yX3_knows (Cond.code yX3_knows cX3_knows 2 (some .boolean) :: wT) (rmF 0 0) (va_Pc [.ref jhs, .int x1] (cR D (tyL cI cZ cO) (wX3_knows cI cZ jhs jas jhw Ss))) (vp_Si (fun r => r = res)) 0 0 (fun _ => False) := by
  refine met_r (by decide) (Nat.le_of_ble_eq_true rfl) ?_
  intro p e s m below meth c hx hb hr hml ht hown hlk ls hl hP hK hZ
  have hS : va_S (fun _ => False) s.heap s.heap [] := va_S.rf
  have hown : s.vm.findClass "EyeDrink$Stand" = some m.cls := hown
  have hl : lv_has ls 2 [(0, .ref jhs), (1, .int x1)] := hl
  unfold fX3_knows at hf
  refine lv_aload_n hx hb dX3_knows_0 rfl (lv_at hl 0 rfl) ?_
  refine va_get (D := D) (ci := 2) (v := .int (Ss.1 0)) (C := RX3) (T := TX3) (N := 8) hx hb ht inX3 hown hK hP 0 rfl rfl 4 (by decide) (ht _ wd1_142) (fun _ h9 => h9) rfl dX3_knows_1 ?_
  refine lv_iload_n hx hb dX3_knows_4 rfl (lv_at hl 1 rfl) ?_
  refine lv_ishr hx hb dX3_knows_5 ?_
  refine lv_iconst (v := (1 : Int32)) hx hb dX3_knows_6 rfl ?_
  refine lv_iand hx hb dX3_knows_7 ?_
  refine lv_iconst (v := (1 : Int32)) hx hb dX3_knows_8 rfl ?_
  refine lv_icmp_ne (tgt := 16) hx hb dX3_knows_9 (by decide) (fun c1 => ?_) (fun c1 => ?_)
  · have hf := itN c1 hf
    refine lv_iconst (v := (0 : Int32)) hx hb dX3_knows_16 rfl ?_
    exact W.zret hx hb hr rfl (fun t ht9 _ => ⟨_, rfl, Option.some.inj hf, ht9⟩) (fun _ h9 => by cases h9) dX3_knows_17
  · have hf := itP c1 hf
    refine lv_iconst (v := (1 : Int32)) hx hb dX3_knows_12 rfl ?_
    refine lv_goto (tgt := 17) hx hb dX3_knows_13 (by decide) ?_
    exact W.zret hx hb hr rfl (fun t ht9 _ => ⟨_, rfl, Option.some.inj hf, ht9⟩) (fun _ h9 => by cases h9) dX3_knows_17
abbrev wX3_hasDone (cI cZ : ClassId) (jhs : Nat) (jas : Nat → Nat) (jhw : Nat) (Ss : Bk) : va_W := [(jhs, .inr (2, [.ref jhw, .ref (jas 1), .ref (jas 2), .ref (jas 3), .int (Ss.1 0), .int (Ss.1 1), .int (Ss.1 2), .int (Ss.1 3)]))]
def fX3_hasDone (Ss : Bk) (x1 : Int32) : Option (Int32) := (if (((Ss.1 1) >>> (x1 &&& 31)) &&& (1 : Int32)) = (1 : Int32) then some (1 : Int32) else some (0 : Int32))
theorem miX3_hasDone : MI yX3_hasDone cX3_hasDone 2 (some .boolean) 1 := ⟨wd1_4, wd2_146, by decide +kernel⟩
theorem mjX3_hasDone : Cond.instanceMethod yX3_hasDone ∈ wT ∧ Cond.selects yX3_hasDone.cls yX3_hasDone yX3_hasDone ∈ wT := ⟨wd2_144, wd2_145⟩
set_option maxHeartbeats 4000000 in
set_option maxRecDepth 100000 in
theorem qX3_hasDone (l : Launch) (D : va_G) (cI cZ cO : ClassId) (jhs : Nat) (jas : Nat → Nat) (jhw : Nat) (Ss : Bk) (x1 : Int32) (res : Int32) (hf : fX3_hasDone Ss x1 = some res) : Met l yX3_hasDone (Cond.code yX3_hasDone cX3_hasDone 2 (some .boolean) :: wT) (rmF 0 0) (va_Pc [.ref jhs, .int x1] (cR D (tyL cI cZ cO) (wX3_hasDone cI cZ jhs jas jhw Ss))) (vp_Si (fun r => r = res)) 0 0 (fun _ => False) := by
  refine met_r (by decide) (Nat.le_of_ble_eq_true rfl) ?_
  intro p e s m below meth c hx hb hr hml ht hown hlk ls hl hP hK hZ
  have hS : va_S (fun _ => False) s.heap s.heap [] := va_S.rf
  have hown : s.vm.findClass "EyeDrink$Stand" = some m.cls := hown
  have hl : lv_has ls 2 [(0, .ref jhs), (1, .int x1)] := hl
  unfold fX3_hasDone at hf
  refine lv_aload_n hx hb dX3_hasDone_0 rfl (lv_at hl 0 rfl) ?_
  refine va_get (D := D) (ci := 2) (v := .int (Ss.1 1)) (C := RX3) (T := TX3) (N := 8) hx hb ht inX3 hown hK hP 0 rfl rfl 5 (by decide) (ht _ wd1_144) (fun _ h9 => h9) rfl dX3_hasDone_1 ?_
  refine lv_iload_n hx hb dX3_hasDone_4 rfl (lv_at hl 1 rfl) ?_
  refine lv_ishr hx hb dX3_hasDone_5 ?_
  refine lv_iconst (v := (1 : Int32)) hx hb dX3_hasDone_6 rfl ?_
  refine lv_iand hx hb dX3_hasDone_7 ?_
  refine lv_iconst (v := (1 : Int32)) hx hb dX3_hasDone_8 rfl ?_
  refine lv_icmp_ne (tgt := 16) hx hb dX3_hasDone_9 (by decide) (fun c1 => ?_) (fun c1 => ?_)
  · have hf := itN c1 hf
    refine lv_iconst (v := (0 : Int32)) hx hb dX3_hasDone_16 rfl ?_
    exact W.zret hx hb hr rfl (fun t ht9 _ => ⟨_, rfl, Option.some.inj hf, ht9⟩) (fun _ h9 => by cases h9) dX3_hasDone_17
  · have hf := itP c1 hf
    refine lv_iconst (v := (1 : Int32)) hx hb dX3_hasDone_12 rfl ?_
    refine lv_goto (tgt := 17) hx hb dX3_hasDone_13 (by decide) ?_
    exact W.zret hx hb hr rfl (fun t ht9 _ => ⟨_, rfl, Option.some.inj hf, ht9⟩) (fun _ h9 => by cases h9) dX3_hasDone_17
abbrev wX3_away (cI cZ : ClassId) (jhs : Nat) (jas : Nat → Nat) (jhw : Nat) (Ss : Bk) : va_W := [(jhs, .inr (2, [.ref jhw, .ref (jas 1), .ref (jas 2), .ref (jas 3), .int (Ss.1 0), .int (Ss.1 1), .int (Ss.1 2), .int (Ss.1 3)])), (jas 2, .inl (cI, 4, .inl (Ss.2.1 2))), (jas 3, .inl (cI, 4, .inl (Ss.2.1 3)))]
def fX3_away (Ss : Bk) (x1 : Int32) : Option (Int32) := inB 4 x1 (inB 4 x1 (some (((Ss.2.1 2) x1.toNatClampNeg) + ((Ss.2.1 3) x1.toNatClampNeg))))
theorem miX3_away : MI yX3_away cX3_away 2 (some .int) 1 := ⟨wd1_4, wd2_126, by decide +kernel⟩
theorem mjX3_away : Cond.instanceMethod yX3_away ∈ wT ∧ Cond.selects yX3_away.cls yX3_away yX3_away ∈ wT := ⟨wd2_124, wd2_125⟩
set_option maxHeartbeats 4000000 in
set_option maxRecDepth 100000 in
theorem qX3_away (l : Launch) (D : va_G) (cI cZ cO : ClassId) (jhs : Nat) (jas : Nat → Nat) (jhw : Nat) (Ss : Bk) (x1 : Int32) (res : Int32) (hf : fX3_away Ss x1 = some res) : Met l yX3_away (Cond.code yX3_away cX3_away 2 (some .int) :: wT) (rmF 0 0) (va_Pc [.ref jhs, .int x1] (cR D (tyL cI cZ cO) (wX3_away cI cZ jhs jas jhw Ss))) (vp_Si (fun r => r = res)) 0 0 (fun _ => False) := by
  refine met_r (by decide) (Nat.le_of_ble_eq_true rfl) ?_
  intro p e s m below meth c hx hb hr hml ht hown hlk ls hl hP hK hZ
  have hS : va_S (fun _ => False) s.heap s.heap [] := va_S.rf
  have hown : s.vm.findClass "EyeDrink$Stand" = some m.cls := hown
  have hl : lv_has ls 2 [(0, .ref jhs), (1, .int x1)] := hl
  unfold fX3_away at hf
  refine lv_aload_n hx hb dX3_away_0 rfl (lv_at hl 0 rfl) ?_
  refine va_get (D := D) (ci := 2) (v := .ref (jas 2)) (C := RX3) (T := TX3) (N := 8) hx hb ht inX3 hown hK hP 0 rfl rfl 2 (by decide) (ht _ wd1_139) (fun _ h9 => h9) rfl dX3_away_1 ?_
  refine lv_iload_n hx hb dX3_away_4 rfl (lv_at hl 1 rfl) ?_
  obtain ⟨h1, hf⟩ := inB_s hf
  refine va_iald (f := (Ss.2.1 2)) (n := 4) hx hb hK hP 1 0 rfl rfl h1 dX3_away_5 ?_
  refine lv_aload_n hx hb dX3_away_6 rfl (lv_at hl 0 rfl) ?_
  refine va_get (D := D) (ci := 2) (v := .ref (jas 3)) (C := RX3) (T := TX3) (N := 8) hx hb ht inX3 hown hK hP 0 rfl rfl 3 (by decide) (ht _ wd1_140) (fun _ h9 => h9) rfl dX3_away_7 ?_
  refine lv_iload_n hx hb dX3_away_10 rfl (lv_at hl 1 rfl) ?_
  obtain ⟨h2, hf⟩ := inB_s hf
  refine va_iald (f := (Ss.2.1 3)) (n := 4) hx hb hK hP 2 0 rfl rfl h2 dX3_away_11 ?_
  refine lv_iadd hx hb dX3_away_12 ?_
  exact W.iret hx hb hr (fun t ht9 _ => ⟨_, rfl, Option.some.inj hf, ht9⟩) (fun _ h9 => by cases h9) dX3_away_13
abbrev wX3_base (cI cZ : ClassId) (jhs : Nat) (jas : Nat → Nat) (jhw : Nat) (Ss : Bk) : va_W := [(jhs, .inr (2, [.ref jhw, .ref (jas 1), .ref (jas 2), .ref (jas 3), .int (Ss.1 0), .int (Ss.1 1), .int (Ss.1 2), .int (Ss.1 3)]))]
def fX3_base (Ss : Bk) : Option (Int32) := some ((1000 : Int32) + (Ss.1 3))
theorem miX3_base : MI yX3_base cX3_base 1 (some .int) 0 := ⟨wd1_4, wd2_114, by decide +kernel⟩
theorem mjX3_base : Cond.instanceMethod yX3_base ∈ wT ∧ Cond.selects yX3_base.cls yX3_base yX3_base ∈ wT := ⟨wd2_112, wd2_113⟩
set_option maxHeartbeats 4000000 in
set_option maxRecDepth 100000 in
theorem qX3_base (l : Launch) (D : va_G) (cI cZ cO : ClassId) (jhs : Nat) (jas : Nat → Nat) (jhw : Nat) (Ss : Bk) (res : Int32) (hf : fX3_base Ss = some res) : Met l yX3_base (Cond.code yX3_base cX3_base 1 (some .int) :: wT) (rmF 0 0) (va_Pc [.ref jhs] (cR D (tyL cI cZ cO) (wX3_base cI cZ jhs jas jhw Ss))) (vp_Si (fun r => r = res)) 0 0 (fun _ => False) := by
  refine met_r (by decide) (Nat.le_of_ble_eq_true rfl) ?_
  intro p e s m below meth c hx hb hr hml ht hown hlk ls hl hP hK hZ
  have hS : va_S (fun _ => False) s.heap s.heap [] := va_S.rf
  have hown : s.vm.findClass "EyeDrink$Stand" = some m.cls := hown
  have hl : lv_has ls 1 [(0, .ref jhs)] := hl
  unfold fX3_base at hf
  refine lv_sipush (v := (1000 : Int32)) hx hb dX3_base_0 rfl ?_
  refine lv_aload_n hx hb dX3_base_3 rfl (lv_at hl 0 rfl) ?_
  refine va_get (D := D) (ci := 2) (v := .int (Ss.1 3)) (C := RX3) (T := TX3) (N := 8) hx hb ht inX3 hown hK hP 0 rfl rfl 7 (by decide) (ht _ wd1_149) (fun _ h9 => h9) rfl dX3_base_4 ?_
  refine lv_iadd hx hb dX3_base_7 ?_
  exact W.iret hx hb hr (fun t ht9 _ => ⟨_, rfl, Option.some.inj hf, ht9⟩) (fun _ h9 => by cases h9) dX3_base_8
abbrev wX6_worthOf (cI cZ : ClassId) (jhw : Nat) (jaw : Nat → Nat) (jhp : Nat) (np : Nat) (Sw : Bk) (P : (Nat → Int32)) : va_W := [(jhw, .inr (5, [.int (Sw.1 0), .ref (jaw 0), .ref (jaw 1), .ref (jaw 2), .int (Sw.1 1), .ref (jaw 3), .ref (jaw 4), .ref (jaw 5), .int (Sw.1 2), .int (Sw.1 3), .ref (jaw 6), .ref (jaw 7), .ref (jaw 8), .ref (jaw 9), .ref (jaw 10)])), (jaw 0, .inl (cI, 4, .inl (Sw.2.1 0))), (jaw 1, .inl (cI, 4, .inl (Sw.2.1 1))), (jaw 2, .inl (cI, 4, .inl (Sw.2.1 2))), (jhp, .inl (cI, np, .inl P))]
def gX6_worthOf_47 (Sw : Bk) (P : (Nat → Int32)) (np : Nat) (k4 : Int32 → Int32 → Option (Int32)) (x2 : Int32) (x3 : Int32) : Option (Int32) := k4 x2 (x3 + (1 : Int32))
def gX6_worthOf_34 (Sw : Bk) (P : (Nat → Int32)) (np : Nat) (k4 : Int32 → Int32 → Option (Int32)) (x2 : Int32) (x3 : Int32) : Option (Int32) := inB 4 x3 (inB np x3 (gX6_worthOf_47 Sw P np k4 (x2 + (((Sw.2.1 1) x3.toNatClampNeg) * (P x3.toNatClampNeg))) x3))
def sX6_worthOf_4 (Sw : Bk) (P : (Nat → Int32)) (np : Nat) (k4 : Int32 → Int32 → Option (Int32)) (x2 : Int32) (x3 : Int32) : Option (Int32) := (if (Sw.1 0) ≤ x3 then some x2 else inB 4 x3 ((if ((Sw.2.1 2) x3.toNatClampNeg) = (3 : Int32) then inB np x3 (inB 4 x3 ((if (P x3.toNatClampNeg) < ((Sw.2.1 0) x3.toNatClampNeg) then gX6_worthOf_47 Sw P np k4 x2 x3 else gX6_worthOf_34 Sw P np k4 x2 x3))) else gX6_worthOf_34 Sw P np k4 x2 x3)))
def fX6_worthOf (Sw : Bk) (P : (Nat → Int32)) (np : Nat) : Option (Int32) := lk2 (sX6_worthOf_4 Sw P np) 1000 (0 : Int32) (0 : Int32)
theorem miX6_worthOf : MI yX6_worthOf cX6_worthOf 4 (some .int) 1 := ⟨wd1_3, wd2_118, by decide +kernel⟩
theorem mjX6_worthOf : Cond.instanceMethod yX6_worthOf ∈ wT ∧ Cond.selects yX6_worthOf.cls yX6_worthOf yX6_worthOf ∈ wT := ⟨wd2_116, wd2_117⟩
set_option maxHeartbeats 4000000 in
set_option maxRecDepth 100000 in
theorem qX6_worthOf (l : Launch) (D : va_G) (cI cZ cO : ClassId) (jhw : Nat) (jaw : Nat → Nat) (jhp : Nat) (np : Nat) (Sw : Bk) (P : (Nat → Int32)) (res : Int32) (hf : fX6_worthOf Sw P np = some res) : Met l yX6_worthOf (Cond.code yX6_worthOf cX6_worthOf 4 (some .int) :: wT) (rmF 0 0) (va_Pc [.ref jhw, .ref jhp] (cR D (tyL cI cZ cO) (wX6_worthOf cI cZ jhw jaw jhp np Sw P))) (vp_Si (fun r => r = res)) 0 0 (fun _ => False) := by
  refine met_r (by decide) (Nat.le_of_ble_eq_true rfl) ?_
  intro p e s m below meth c hx hb hr hml ht hown hlk ls hl hP hK hZ
  have hS : va_S (fun _ => False) s.heap s.heap [] := va_S.rf
  have hown : s.vm.findClass "EyeDrink$Well" = some m.cls := hown
  have hl : lv_has ls 4 [(0, .ref jhw), (1, .ref jhp)] := hl
  unfold fX6_worthOf at hf
  have hj4 : ∀ (x2 : Int32) (x3 : Int32), lk2 (sX6_worthOf_4 Sw P np) 1000 x2 x3 = some res → ∀ (ls : Array Slot), lv_has ls 4 [(0, .ref jhw), (1, .ref jhp), (2, .int x2), (3, .int x3)] → W p l e (rmF 0 0) s m ([.ref jhw, .ref jhp] : List Value).toArray below meth c s.heap [] 0 0 (MQ below (vp_Si (fun r => r = res)) ([.ref jhw, .ref jhp] : List Value).toArray s 0 0 (fun _ => False)) (F0 m 4 ls []) := by
    refine lk2_w (fun (x2 : Int32) (x3 : Int32) => ∀ (ls : Array Slot), lv_has ls 4 [(0, .ref jhw), (1, .ref jhp), (2, .int x2), (3, .int x3)] → W p l e (rmF 0 0) s m ([.ref jhw, .ref jhp] : List Value).toArray below meth c s.heap [] 0 0 (MQ below (vp_Si (fun r => r = res)) ([.ref jhw, .ref jhp] : List Value).toArray s 0 0 (fun _ => False)) (F0 m 4 ls [])) ?_ 1000
    intro k4 hk4 x2 x3 hf ls hl
    unfold sX6_worthOf_4 at hf
    have hj47 : ∀ (x2 : Int32) (x3 : Int32), gX6_worthOf_47 Sw P np k4 x2 x3 = some res → ∀ (ls : Array Slot), lv_has ls 4 [(0, .ref jhw), (1, .ref jhp), (2, .int x2), (3, .int x3)] → W p l e (rmF 0 0) s m ([.ref jhw, .ref jhp] : List Value).toArray below meth c s.heap [] 0 0 (MQ below (vp_Si (fun r => r = res)) ([.ref jhw, .ref jhp] : List Value).toArray s 0 0 (fun _ => False)) (F0 m 47 ls []) := by
      intro x2 x3 hf ls hl
      unfold gX6_worthOf_47 at hf
      refine lv_iinc (v := (x3 + (1 : Int32))) (lv' := [(3, .int (x3 + (1 : Int32))), (0, .ref jhw), (1, .ref jhp), (2, .int x2)]) hx hb dX6_worthOf_47 hl (k := 3) rfl rfl (by decide) rfl (fun ls hl => ?_)
      refine lv_goto (tgt := 4) hx hb dX6_worthOf_50 (by decide) ?_
      exact hk4 x2 (x3 + (1 : Int32)) hf _ (lv_sub hl [1, 2, 3, 0] rfl)
    have hj34 : ∀ (x2 : Int32) (x3 : Int32), gX6_worthOf_34 Sw P np k4 x2 x3 = some res → ∀ (ls : Array Slot), lv_has ls 4 [(0, .ref jhw), (1, .ref jhp), (2, .int x2), (3, .int x3)] → W p l e (rmF 0 0) s m ([.ref jhw, .ref jhp] : List Value).toArray below meth c s.heap [] 0 0 (MQ below (vp_Si (fun r => r = res)) ([.ref jhw, .ref jhp] : List Value).toArray s 0 0 (fun _ => False)) (F0 m 34 ls []) := by
      intro x2 x3 hf ls hl
      unfold gX6_worthOf_34 at hf
      refine lv_iload_n hx hb dX6_worthOf_34 rfl (lv_at hl 2 rfl) ?_
      refine lv_aload_n hx hb dX6_worthOf_35 rfl (lv_at hl 0 rfl) ?_
      refine va_get (D := D) (ci := 5) (v := .ref (jaw 1)) (C := RX6) (T := TX6) (N := 15) hx hb ht inX6 hown hK hP 0 rfl rfl 2 (by decide) (ht _ wd1_52) (fun _ h9 => h9) rfl dX6_worthOf_36 ?_
      refine lv_iload_n hx hb dX6_worthOf_39 rfl (lv_at hl 3 rfl) ?_
      obtain ⟨h1, hf⟩ := inB_s hf
      refine va_iald (f := (Sw.2.1 1)) (n := 4) hx hb hK hP 2 0 rfl rfl h1 dX6_worthOf_40 ?_
      refine lv_aload_n hx hb dX6_worthOf_41 rfl (lv_at hl 1 rfl) ?_
      refine lv_iload_n hx hb dX6_worthOf_42 rfl (lv_at hl 3 rfl) ?_
      obtain ⟨h2, hf⟩ := inB_s hf
      refine va_iald (f := P) (n := np) hx hb hK hP 4 0 rfl rfl h2 dX6_worthOf_43 ?_
      refine lv_imul hx hb dX6_worthOf_44 ?_
      refine lv_iadd hx hb dX6_worthOf_45 ?_
      refine lv_istore_n (lv' := [(2, .int (x2 + (((Sw.2.1 1) x3.toNatClampNeg) * (P x3.toNatClampNeg)))), (0, .ref jhw), (1, .ref jhp), (3, .int x3)]) hx hb dX6_worthOf_46 rfl hl (by decide) rfl (fun ls hl => ?_)
      exact hj47 (x2 + (((Sw.2.1 1) x3.toNatClampNeg) * (P x3.toNatClampNeg))) x3 hf _ (lv_sub hl [1, 2, 0, 3] rfl)
    refine lv_iload_n hx hb dX6_worthOf_4 rfl (lv_at hl 3 rfl) ?_
    refine lv_aload_n hx hb dX6_worthOf_5 rfl (lv_at hl 0 rfl) ?_
    refine va_get (D := D) (ci := 5) (v := .int (Sw.1 0)) (C := RX6) (T := TX6) (N := 15) hx hb ht inX6 hown hK hP 0 rfl rfl 0 (by decide) (ht _ wd1_45) (fun _ h9 => h9) rfl dX6_worthOf_6 ?_
    refine lv_icmp_ge (tgt := 53) hx hb dX6_worthOf_9 (by decide) (fun c3 => ?_) (fun c3 => ?_)
    · have hf := itP c3 hf
      refine lv_iload_n hx hb dX6_worthOf_53 rfl (lv_at hl 2 rfl) ?_
      exact W.iret hx hb hr (fun t ht9 _ => ⟨_, rfl, Option.some.inj hf, ht9⟩) (fun _ h9 => by cases h9) dX6_worthOf_54
    · have hf := itN c3 hf
      refine lv_aload_n hx hb dX6_worthOf_12 rfl (lv_at hl 0 rfl) ?_
      refine va_get (D := D) (ci := 5) (v := .ref (jaw 2)) (C := RX6) (T := TX6) (N := 15) hx hb ht inX6 hown hK hP 0 rfl rfl 3 (by decide) (ht _ wd1_54) (fun _ h9 => h9) rfl dX6_worthOf_13 ?_
      refine lv_iload_n hx hb dX6_worthOf_16 rfl (lv_at hl 3 rfl) ?_
      obtain ⟨h4, hf⟩ := inB_s hf
      refine va_iald (f := (Sw.2.1 2)) (n := 4) hx hb hK hP 3 0 rfl rfl h4 dX6_worthOf_17 ?_
      refine lv_iconst (v := (3 : Int32)) hx hb dX6_worthOf_18 rfl ?_
      refine lv_icmp_ne (tgt := 34) hx hb dX6_worthOf_19 (by decide) (fun c5 => ?_) (fun c5 => ?_)
      · have hf := itN c5 hf
        exact hj34 x2 x3 hf _ (lv_sub hl [0, 1, 2, 3] rfl)
      · have hf := itP c5 hf
        refine lv_aload_n hx hb dX6_worthOf_22 rfl (lv_at hl 1 rfl) ?_
        refine lv_iload_n hx hb dX6_worthOf_23 rfl (lv_at hl 3 rfl) ?_
        obtain ⟨h6, hf⟩ := inB_s hf
        refine va_iald (f := P) (n := np) hx hb hK hP 4 0 rfl rfl h6 dX6_worthOf_24 ?_
        refine lv_aload_n hx hb dX6_worthOf_25 rfl (lv_at hl 0 rfl) ?_
        refine va_get (D := D) (ci := 5) (v := .ref (jaw 0)) (C := RX6) (T := TX6) (N := 15) hx hb ht inX6 hown hK hP 0 rfl rfl 1 (by decide) (ht _ wd1_49) (fun _ h9 => h9) rfl dX6_worthOf_26 ?_
        refine lv_iload_n hx hb dX6_worthOf_29 rfl (lv_at hl 3 rfl) ?_
        obtain ⟨h7, hf⟩ := inB_s hf
        refine va_iald (f := (Sw.2.1 0)) (n := 4) hx hb hK hP 1 0 rfl rfl h7 dX6_worthOf_30 ?_
        refine lv_icmp_lt (tgt := 47) hx hb dX6_worthOf_31 (by decide) (fun c8 => ?_) (fun c8 => ?_)
        · have hf := itP c8 hf
          exact hj47 x2 x3 hf _ (lv_sub hl [0, 1, 2, 3] rfl)
        · have hf := itN c8 hf
          exact hj34 x2 x3 hf _ (lv_sub hl [0, 1, 2, 3] rfl)
  refine lv_iconst (v := (0 : Int32)) hx hb dX6_worthOf_0 rfl ?_
  refine lv_istore_n (lv' := [(2, .int (0 : Int32)), (0, .ref jhw), (1, .ref jhp)]) hx hb dX6_worthOf_1 rfl hl (by decide) rfl (fun ls hl => ?_)
  refine lv_iconst (v := (0 : Int32)) hx hb dX6_worthOf_2 rfl ?_
  refine lv_istore_n (lv' := [(3, .int (0 : Int32)), (2, .int (0 : Int32)), (0, .ref jhw), (1, .ref jhp)]) hx hb dX6_worthOf_3 rfl hl (by decide) rfl (fun ls hl => ?_)
  exact hj4 (0 : Int32) (0 : Int32) hf _ (lv_sub hl [2, 3, 1, 0] rfl)
abbrev wX3_estate (cI cZ : ClassId) (jhw : Nat) (jaw : Nat → Nat) (jhs : Nat) (jas : Nat → Nat) (Sw : Bk) (Ss : Bk) : va_W := [(jhw, .inr (5, [.int (Sw.1 0), .ref (jaw 0), .ref (jaw 1), .ref (jaw 2), .int (Sw.1 1), .ref (jaw 3), .ref (jaw 4), .ref (jaw 5), .int (Sw.1 2), .int (Sw.1 3), .ref (jaw 6), .ref (jaw 7), .ref (jaw 8), .ref (jaw 9), .ref (jaw 10)])), (jaw 0, .inl (cI, 4, .inl (Sw.2.1 0))), (jaw 1, .inl (cI, 4, .inl (Sw.2.1 1))), (jaw 2, .inl (cI, 4, .inl (Sw.2.1 2))), (jhs, .inr (2, [.ref jhw, .ref (jas 1), .ref (jas 2), .ref (jas 3), .int (Ss.1 0), .int (Ss.1 1), .int (Ss.1 2), .int (Ss.1 3)])), (jas 1, .inl (cI, 4, .inl (Ss.2.1 1)))]
def fX3_estate (Sw : Bk) (Ss : Bk) : Option (Int32) := (fX3_base Ss).bind (fun u1 => (fX6_worthOf Sw (Ss.2.1 1) 4).bind (fun u3 => some (u1 + u3)))
theorem miX3_estate : MI yX3_estate cX3_estate 1 (some .int) 0 := ⟨wd1_4, wd2_110, by decide +kernel⟩
theorem mjX3_estate : Cond.instanceMethod yX3_estate ∈ wT ∧ Cond.selects yX3_estate.cls yX3_estate yX3_estate ∈ wT := ⟨wd2_108, wd2_109⟩
set_option maxHeartbeats 4000000 in
set_option maxRecDepth 100000 in
theorem qX3_estate (l : Launch) (D : va_G) (cI cZ cO : ClassId) (jhw : Nat) (jaw : Nat → Nat) (jhs : Nat) (jas : Nat → Nat) (Sw : Bk) (Ss : Bk) (res : Int32) (hf : fX3_estate Sw Ss = some res) : Met l yX3_estate (Cond.code yX3_estate cX3_estate 1 (some .int) :: wT) (rmF 1 23) (va_Pc [.ref jhs] (cR D (tyL cI cZ cO) (wX3_estate cI cZ jhw jaw jhs jas Sw Ss))) (vp_Si (fun r => r = res)) 0 0 (fun _ => False) := by
  refine met_r (by decide) (Nat.le_of_ble_eq_true rfl) ?_
  intro p e s m below meth c hx hb hr hml ht hown hlk ls hl hP hK hZ
  have hS : va_S (fun _ => False) s.heap s.heap [] := va_S.rf
  have hown : s.vm.findClass "EyeDrink$Stand" = some m.cls := hown
  have hl : lv_has ls 1 [(0, .ref jhs)] := hl
  have hC : CallFix p m c cX3_estate 1 s ([.ref jhs] : List Value).toArray wT "EyeDrink$Stand" := ⟨hx, hb, hml, hown, ht⟩
  unfold fX3_estate at hf
  refine lv_aload_n hx hb dX3_estate_0 rfl (lv_at hl 0 rfl) ?_
  obtain ⟨u1, e2, hf⟩ := bdS hf
  refine k_rV (As := []) (rest := []) hC miX3_base mjX3_base.1 mjX3_base.2 wd2_111 (qX3_base l D cI cZ cO jhs jas jhw Ss u1 e2) ⟨Nat.le_of_ble_eq_true rfl, Nat.le_of_ble_eq_true rfl⟩ (hP.sub [4] rfl) hK hZ hS (va_recv hK hP (ci := 2) (q0 := 4) rfl rfl) hl.1 rfl rfl (Nat.le_of_ble_eq_true rfl) dX3_estate_1 ?_
  refine lv_aload_n hx hb dX3_estate_4 rfl (lv_at hl 0 rfl) ?_
  refine va_get (D := D) (ci := 2) (v := .ref jhw) (C := RX3) (T := TX3) (N := 8) hx hb ht inX3 hown hK hP 4 rfl rfl 0 (by decide) (ht _ wd1_135) (fun _ h9 => h9) rfl dX3_estate_5 ?_
  refine lv_aload_n hx hb dX3_estate_8 rfl (lv_at hl 0 rfl) ?_
  refine va_get (D := D) (ci := 2) (v := .ref (jas 1)) (C := RX3) (T := TX3) (N := 8) hx hb ht inX3 hown hK hP 4 rfl rfl 1 (by decide) (ht _ wd1_136) (fun _ h9 => h9) rfl dX3_estate_9 ?_
  obtain ⟨u3, e4, hf⟩ := bdS hf
  refine k_rV (As := [.ref (jas 1)]) (rest := [.int u1]) hC miX6_worthOf mjX6_worthOf.1 mjX6_worthOf.2 wd2_115 (qX6_worthOf l D cI cZ cO jhw jaw (jas 1) (4) Sw (Ss.2.1 1) u3 e4) ⟨Nat.le_of_ble_eq_true rfl, Nat.le_of_ble_eq_true rfl⟩ (hP.sub [0, 1, 2, 3, 5] rfl) hK hZ hS (va_recv hK hP (ci := 5) (q0 := 0) rfl rfl) hl.1 rfl rfl (Nat.le_of_ble_eq_true rfl) dX3_estate_12 ?_
  refine lv_iadd hx hb dX3_estate_15 ?_
  exact W.iret hx hb hr (fun t ht9 _ => ⟨_, rfl, Option.some.inj hf, ht9⟩) (fun _ h9 => by cases h9) dX3_estate_16
abbrev wX3_refusalToDrink (cI cZ : ClassId) (jhw : Nat) (jaw : Nat → Nat) (jhs : Nat) (jas : Nat → Nat) (Sw : Bk) (Ss : Bk) : va_W := [(jhw, .inr (5, [.int (Sw.1 0), .ref (jaw 0), .ref (jaw 1), .ref (jaw 2), .int (Sw.1 1), .ref (jaw 3), .ref (jaw 4), .ref (jaw 5), .int (Sw.1 2), .int (Sw.1 3), .ref (jaw 6), .ref (jaw 7), .ref (jaw 8), .ref (jaw 9), .ref (jaw 10)])), (jaw 3, .inl (cI, 4, .inl (Sw.2.1 3))), (jaw 4, .inl (cI, 4, .inl (Sw.2.1 4))), (jhs, .inr (2, [.ref jhw, .ref (jas 1), .ref (jas 2), .ref (jas 3), .int (Ss.1 0), .int (Ss.1 1), .int (Ss.1 2), .int (Ss.1 3)])), (jas 1, .inl (cI, 4, .inl (Ss.2.1 1)))]
def fX3_refusalToDrink (Sw : Bk) (Ss : Bk) (x1 : Int32) : Option (Int32) := (if x1 < 0 then some (-1 : Int32) else (if x1 < (Sw.1 1) then (fX3_knows Ss x1).bind (fun u3 => (if u3 = 0 then inB 4 x1 (inB 4 ((Sw.2.1 3) x1.toNatClampNeg) (inB 4 x1 ((if ((Sw.2.1 4) x1.toNatClampNeg) ≤ ((Ss.2.1 1) ((Sw.2.1 3) x1.toNatClampNeg).toNatClampNeg) then some (0 : Int32) else some (-4 : Int32))))) else some (-3 : Int32))) else some (-1 : Int32)))
theorem miX3_refusalToDrink : MI yX3_refusalToDrink cX3_refusalToDrink 2 (some .int) 1 := ⟨wd1_4, wd2_154, by decide +kernel⟩
theorem mjX3_refusalToDrink : Cond.instanceMethod yX3_refusalToDrink ∈ wT ∧ Cond.selects yX3_refusalToDrink.cls yX3_refusalToDrink yX3_refusalToDrink ∈ wT := ⟨wd2_152, wd2_153⟩
set_option maxHeartbeats 4000000 in
set_option maxRecDepth 100000 in
theorem qX3_refusalToDrink (l : Launch) (D : va_G) (cI cZ cO : ClassId) (jhw : Nat) (jaw : Nat → Nat) (jhs : Nat) (jas : Nat → Nat) (Sw : Bk) (Ss : Bk) (x1 : Int32) (res : Int32) (hf : fX3_refusalToDrink Sw Ss x1 = some res) : Met l yX3_refusalToDrink (Cond.code yX3_refusalToDrink cX3_refusalToDrink 2 (some .int) :: wT) (rmF 1 21) (va_Pc [.ref jhs, .int x1] (cR D (tyL cI cZ cO) (wX3_refusalToDrink cI cZ jhw jaw jhs jas Sw Ss))) (vp_Si (fun r => r = res)) 0 0 (fun _ => False) := by
  refine met_r (by decide) (Nat.le_of_ble_eq_true rfl) ?_
  intro p e s m below meth c hx hb hr hml ht hown hlk ls hl hP hK hZ
  have hS : va_S (fun _ => False) s.heap s.heap [] := va_S.rf
  have hown : s.vm.findClass "EyeDrink$Stand" = some m.cls := hown
  have hl : lv_has ls 2 [(0, .ref jhs), (1, .int x1)] := hl
  have hC : CallFix p m c cX3_refusalToDrink 2 s ([.ref jhs, .int x1] : List Value).toArray wT "EyeDrink$Stand" := ⟨hx, hb, hml, hown, ht⟩
  unfold fX3_refusalToDrink at hf
  refine lv_iload_n hx hb dX3_refusalToDrink_0 rfl (lv_at hl 1 rfl) ?_
  refine lv_if_lt (tgt := 15) hx hb dX3_refusalToDrink_1 (by decide) (fun c1 => ?_) (fun c1 => ?_)
  · have hf := itP c1 hf
    refine lv_iconst (v := (-1 : Int32)) hx hb dX3_refusalToDrink_15 rfl ?_
    exact W.iret hx hb hr (fun t ht9 _ => ⟨_, rfl, Option.some.inj hf, ht9⟩) (fun _ h9 => by cases h9) dX3_refusalToDrink_16
  · have hf := itN c1 hf
    refine lv_iload_n hx hb dX3_refusalToDrink_4 rfl (lv_at hl 1 rfl) ?_
    refine lv_aload_n hx hb dX3_refusalToDrink_5 rfl (lv_at hl 0 rfl) ?_
    refine va_get (D := D) (ci := 2) (v := .ref jhw) (C := RX3) (T := TX3) (N := 8) hx hb ht inX3 hown hK hP 3 rfl rfl 0 (by decide) (ht _ wd1_135) (fun _ h9 => h9) rfl dX3_refusalToDrink_6 ?_
    refine va_get (D := D) (ci := 5) (v := .int (Sw.1 1)) (C := RX6) (T := TX6) (N := 15) hx hb ht inX6 hown hK hP 0 rfl rfl 4 (by decide) (ht _ wd1_61) (fun _ h9 => h9) rfl dX3_refusalToDrink_9 ?_
    refine lv_icmp_lt (tgt := 17) hx hb dX3_refusalToDrink_12 (by decide) (fun c2 => ?_) (fun c2 => ?_)
    · have hf := itP c2 hf
      refine lv_aload_n hx hb dX3_refusalToDrink_17 rfl (lv_at hl 0 rfl) ?_
      refine lv_iload_n hx hb dX3_refusalToDrink_18 rfl (lv_at hl 1 rfl) ?_
      obtain ⟨u3, e4, hf⟩ := bdS hf
      refine k_rV (As := [.int x1]) (rest := []) hC miX3_knows mjX3_knows.1 mjX3_knows.2 wd2_155 (qX3_knows l D cI cZ cO jhs jas jhw Ss x1 u3 e4) ⟨Nat.le_of_ble_eq_true rfl, Nat.le_of_ble_eq_true rfl⟩ (hP.sub [3] rfl) hK hZ hS (va_recv hK hP (ci := 2) (q0 := 3) rfl rfl) hl.1 rfl rfl (Nat.le_of_ble_eq_true rfl) dX3_refusalToDrink_19 ?_
      refine lv_if_eq (tgt := 28) hx hb dX3_refusalToDrink_22 (by decide) (fun c5 => ?_) (fun c5 => ?_)
      · have hf := itP c5 hf
        refine lv_aload_n hx hb dX3_refusalToDrink_28 rfl (lv_at hl 0 rfl) ?_
        refine va_get (D := D) (ci := 2) (v := .ref (jas 1)) (C := RX3) (T := TX3) (N := 8) hx hb ht inX3 hown hK hP 3 rfl rfl 1 (by decide) (ht _ wd1_136) (fun _ h9 => h9) rfl dX3_refusalToDrink_29 ?_
        refine lv_aload_n hx hb dX3_refusalToDrink_32 rfl (lv_at hl 0 rfl) ?_
        refine va_get (D := D) (ci := 2) (v := .ref jhw) (C := RX3) (T := TX3) (N := 8) hx hb ht inX3 hown hK hP 3 rfl rfl 0 (by decide) (ht _ wd1_135) (fun _ h9 => h9) rfl dX3_refusalToDrink_33 ?_
        refine va_get (D := D) (ci := 5) (v := .ref (jaw 3)) (C := RX6) (T := TX6) (N := 15) hx hb ht inX6 hown hK hP 0 rfl rfl 5 (by decide) (ht _ wd1_65) (fun _ h9 => h9) rfl dX3_refusalToDrink_36 ?_
        refine lv_iload_n hx hb dX3_refusalToDrink_39 rfl (lv_at hl 1 rfl) ?_
        obtain ⟨h6, hf⟩ := inB_s hf
        refine va_iald (f := (Sw.2.1 3)) (n := 4) hx hb hK hP 1 0 rfl rfl h6 dX3_refusalToDrink_40 ?_
        obtain ⟨h7, hf⟩ := inB_s hf
        refine va_iald (f := (Ss.2.1 1)) (n := 4) hx hb hK hP 4 0 rfl rfl h7 dX3_refusalToDrink_41 ?_
        refine lv_aload_n hx hb dX3_refusalToDrink_42 rfl (lv_at hl 0 rfl) ?_
        refine va_get (D := D) (ci := 2) (v := .ref jhw) (C := RX3) (T := TX3) (N := 8) hx hb ht inX3 hown hK hP 3 rfl rfl 0 (by decide) (ht _ wd1_135) (fun _ h9 => h9) rfl dX3_refusalToDrink_43 ?_
        refine va_get (D := D) (ci := 5) (v := .ref (jaw 4)) (C := RX6) (T := TX6) (N := 15) hx hb ht inX6 hown hK hP 0 rfl rfl 6 (by decide) (ht _ wd1_69) (fun _ h9 => h9) rfl dX3_refusalToDrink_46 ?_
        refine lv_iload_n hx hb dX3_refusalToDrink_49 rfl (lv_at hl 1 rfl) ?_
        obtain ⟨h8, hf⟩ := inB_s hf
        refine va_iald (f := (Sw.2.1 4)) (n := 4) hx hb hK hP 2 0 rfl rfl h8 dX3_refusalToDrink_50 ?_
        refine lv_icmp_ge (tgt := 59) hx hb dX3_refusalToDrink_51 (by decide) (fun c9 => ?_) (fun c9 => ?_)
        · have hf := itP c9 hf
          refine lv_iconst (v := (0 : Int32)) hx hb dX3_refusalToDrink_59 rfl ?_
          exact W.iret hx hb hr (fun t ht9 _ => ⟨_, rfl, Option.some.inj hf, ht9⟩) (fun _ h9 => by cases h9) dX3_refusalToDrink_60
        · have hf := itN c9 hf
          refine lv_bipush (v := (-4 : Int32)) hx hb dX3_refusalToDrink_54 rfl ?_
          refine lv_goto (tgt := 60) hx hb dX3_refusalToDrink_56 (by decide) ?_
          exact W.iret hx hb hr (fun t ht9 _ => ⟨_, rfl, Option.some.inj hf, ht9⟩) (fun _ h9 => by cases h9) dX3_refusalToDrink_60
      · have hf := itN c5 hf
        refine lv_bipush (v := (-3 : Int32)) hx hb dX3_refusalToDrink_25 rfl ?_
        exact W.iret hx hb hr (fun t ht9 _ => ⟨_, rfl, Option.some.inj hf, ht9⟩) (fun _ h9 => by cases h9) dX3_refusalToDrink_27
    · have hf := itN c2 hf
      refine lv_iconst (v := (-1 : Int32)) hx hb dX3_refusalToDrink_15 rfl ?_
      exact W.iret hx hb hr (fun t ht9 _ => ⟨_, rfl, Option.some.inj hf, ht9⟩) (fun _ h9 => by cases h9) dX3_refusalToDrink_16
abbrev wX3_refusalToDo (cI cZ : ClassId) (jhw : Nat) (jaw : Nat → Nat) (jhs : Nat) (jas : Nat → Nat) (Sw : Bk) (Ss : Bk) : va_W := [(jhw, .inr (5, [.int (Sw.1 0), .ref (jaw 0), .ref (jaw 1), .ref (jaw 2), .int (Sw.1 1), .ref (jaw 3), .ref (jaw 4), .ref (jaw 5), .int (Sw.1 2), .int (Sw.1 3), .ref (jaw 6), .ref (jaw 7), .ref (jaw 8), .ref (jaw 9), .ref (jaw 10)])), (jaw 9, .inl (cI, 4, .inl (Sw.2.1 9))), (jaw 10, .inl (cI, 4, .inl (Sw.2.1 10))), (jhs, .inr (2, [.ref jhw, .ref (jas 1), .ref (jas 2), .ref (jas 3), .int (Ss.1 0), .int (Ss.1 1), .int (Ss.1 2), .int (Ss.1 3)])), (jas 1, .inl (cI, 4, .inl (Ss.2.1 1)))]
def fX3_refusalToDo (Sw : Bk) (Ss : Bk) (x1 : Int32) : Option (Int32) := (if x1 < 0 then some (-1 : Int32) else (if x1 < (Sw.1 3) then (fX3_hasDone Ss x1).bind (fun u3 => (if u3 = 0 then inB 4 x1 (inB 4 ((Sw.2.1 9) x1.toNatClampNeg) (inB 4 x1 ((if ((Sw.2.1 10) x1.toNatClampNeg) ≤ ((Ss.2.1 1) ((Sw.2.1 9) x1.toNatClampNeg).toNatClampNeg) then some (0 : Int32) else some (-4 : Int32))))) else some (-3 : Int32))) else some (-1 : Int32)))
theorem miX3_refusalToDo : MI yX3_refusalToDo cX3_refusalToDo 2 (some .int) 1 := ⟨wd1_4, wd2_183, by decide +kernel⟩
theorem mjX3_refusalToDo : Cond.instanceMethod yX3_refusalToDo ∈ wT ∧ Cond.selects yX3_refusalToDo.cls yX3_refusalToDo yX3_refusalToDo ∈ wT := ⟨wd2_181, wd2_182⟩
set_option maxHeartbeats 4000000 in
set_option maxRecDepth 100000 in
theorem qX3_refusalToDo (l : Launch) (D : va_G) (cI cZ cO : ClassId) (jhw : Nat) (jaw : Nat → Nat) (jhs : Nat) (jas : Nat → Nat) (Sw : Bk) (Ss : Bk) (x1 : Int32) (res : Int32) (hf : fX3_refusalToDo Sw Ss x1 = some res) : Met l yX3_refusalToDo (Cond.code yX3_refusalToDo cX3_refusalToDo 2 (some .int) :: wT) (rmF 1 21) (va_Pc [.ref jhs, .int x1] (cR D (tyL cI cZ cO) (wX3_refusalToDo cI cZ jhw jaw jhs jas Sw Ss))) (vp_Si (fun r => r = res)) 0 0 (fun _ => False) := by
  refine met_r (by decide) (Nat.le_of_ble_eq_true rfl) ?_
  intro p e s m below meth c hx hb hr hml ht hown hlk ls hl hP hK hZ
  have hS : va_S (fun _ => False) s.heap s.heap [] := va_S.rf
  have hown : s.vm.findClass "EyeDrink$Stand" = some m.cls := hown
  have hl : lv_has ls 2 [(0, .ref jhs), (1, .int x1)] := hl
  have hC : CallFix p m c cX3_refusalToDo 2 s ([.ref jhs, .int x1] : List Value).toArray wT "EyeDrink$Stand" := ⟨hx, hb, hml, hown, ht⟩
  unfold fX3_refusalToDo at hf
  refine lv_iload_n hx hb dX3_refusalToDo_0 rfl (lv_at hl 1 rfl) ?_
  refine lv_if_lt (tgt := 15) hx hb dX3_refusalToDo_1 (by decide) (fun c1 => ?_) (fun c1 => ?_)
  · have hf := itP c1 hf
    refine lv_iconst (v := (-1 : Int32)) hx hb dX3_refusalToDo_15 rfl ?_
    exact W.iret hx hb hr (fun t ht9 _ => ⟨_, rfl, Option.some.inj hf, ht9⟩) (fun _ h9 => by cases h9) dX3_refusalToDo_16
  · have hf := itN c1 hf
    refine lv_iload_n hx hb dX3_refusalToDo_4 rfl (lv_at hl 1 rfl) ?_
    refine lv_aload_n hx hb dX3_refusalToDo_5 rfl (lv_at hl 0 rfl) ?_
    refine va_get (D := D) (ci := 2) (v := .ref jhw) (C := RX3) (T := TX3) (N := 8) hx hb ht inX3 hown hK hP 3 rfl rfl 0 (by decide) (ht _ wd1_135) (fun _ h9 => h9) rfl dX3_refusalToDo_6 ?_
    refine va_get (D := D) (ci := 5) (v := .int (Sw.1 3)) (C := RX6) (T := TX6) (N := 15) hx hb ht inX6 hown hK hP 0 rfl rfl 9 (by decide) (ht _ wd1_79) (fun _ h9 => h9) rfl dX3_refusalToDo_9 ?_
    refine lv_icmp_lt (tgt := 17) hx hb dX3_refusalToDo_12 (by decide) (fun c2 => ?_) (fun c2 => ?_)
    · have hf := itP c2 hf
      refine lv_aload_n hx hb dX3_refusalToDo_17 rfl (lv_at hl 0 rfl) ?_
      refine lv_iload_n hx hb dX3_refusalToDo_18 rfl (lv_at hl 1 rfl) ?_
      obtain ⟨u3, e4, hf⟩ := bdS hf
      refine k_rV (As := [.int x1]) (rest := []) hC miX3_hasDone mjX3_hasDone.1 mjX3_hasDone.2 wd2_184 (qX3_hasDone l D cI cZ cO jhs jas jhw Ss x1 u3 e4) ⟨Nat.le_of_ble_eq_true rfl, Nat.le_of_ble_eq_true rfl⟩ (hP.sub [3] rfl) hK hZ hS (va_recv hK hP (ci := 2) (q0 := 3) rfl rfl) hl.1 rfl rfl (Nat.le_of_ble_eq_true rfl) dX3_refusalToDo_19 ?_
      refine lv_if_eq (tgt := 28) hx hb dX3_refusalToDo_22 (by decide) (fun c5 => ?_) (fun c5 => ?_)
      · have hf := itP c5 hf
        refine lv_aload_n hx hb dX3_refusalToDo_28 rfl (lv_at hl 0 rfl) ?_
        refine va_get (D := D) (ci := 2) (v := .ref (jas 1)) (C := RX3) (T := TX3) (N := 8) hx hb ht inX3 hown hK hP 3 rfl rfl 1 (by decide) (ht _ wd1_136) (fun _ h9 => h9) rfl dX3_refusalToDo_29 ?_
        refine lv_aload_n hx hb dX3_refusalToDo_32 rfl (lv_at hl 0 rfl) ?_
        refine va_get (D := D) (ci := 2) (v := .ref jhw) (C := RX3) (T := TX3) (N := 8) hx hb ht inX3 hown hK hP 3 rfl rfl 0 (by decide) (ht _ wd1_135) (fun _ h9 => h9) rfl dX3_refusalToDo_33 ?_
        refine va_get (D := D) (ci := 5) (v := .ref (jaw 9)) (C := RX6) (T := TX6) (N := 15) hx hb ht inX6 hown hK hP 0 rfl rfl 13 (by decide) (ht _ wd1_93) (fun _ h9 => h9) rfl dX3_refusalToDo_36 ?_
        refine lv_iload_n hx hb dX3_refusalToDo_39 rfl (lv_at hl 1 rfl) ?_
        obtain ⟨h6, hf⟩ := inB_s hf
        refine va_iald (f := (Sw.2.1 9)) (n := 4) hx hb hK hP 1 0 rfl rfl h6 dX3_refusalToDo_40 ?_
        obtain ⟨h7, hf⟩ := inB_s hf
        refine va_iald (f := (Ss.2.1 1)) (n := 4) hx hb hK hP 4 0 rfl rfl h7 dX3_refusalToDo_41 ?_
        refine lv_aload_n hx hb dX3_refusalToDo_42 rfl (lv_at hl 0 rfl) ?_
        refine va_get (D := D) (ci := 2) (v := .ref jhw) (C := RX3) (T := TX3) (N := 8) hx hb ht inX3 hown hK hP 3 rfl rfl 0 (by decide) (ht _ wd1_135) (fun _ h9 => h9) rfl dX3_refusalToDo_43 ?_
        refine va_get (D := D) (ci := 5) (v := .ref (jaw 10)) (C := RX6) (T := TX6) (N := 15) hx hb ht inX6 hown hK hP 0 rfl rfl 14 (by decide) (ht _ wd1_97) (fun _ h9 => h9) rfl dX3_refusalToDo_46 ?_
        refine lv_iload_n hx hb dX3_refusalToDo_49 rfl (lv_at hl 1 rfl) ?_
        obtain ⟨h8, hf⟩ := inB_s hf
        refine va_iald (f := (Sw.2.1 10)) (n := 4) hx hb hK hP 2 0 rfl rfl h8 dX3_refusalToDo_50 ?_
        refine lv_icmp_ge (tgt := 59) hx hb dX3_refusalToDo_51 (by decide) (fun c9 => ?_) (fun c9 => ?_)
        · have hf := itP c9 hf
          refine lv_iconst (v := (0 : Int32)) hx hb dX3_refusalToDo_59 rfl ?_
          exact W.iret hx hb hr (fun t ht9 _ => ⟨_, rfl, Option.some.inj hf, ht9⟩) (fun _ h9 => by cases h9) dX3_refusalToDo_60
        · have hf := itN c9 hf
          refine lv_bipush (v := (-4 : Int32)) hx hb dX3_refusalToDo_54 rfl ?_
          refine lv_goto (tgt := 60) hx hb dX3_refusalToDo_56 (by decide) ?_
          exact W.iret hx hb hr (fun t ht9 _ => ⟨_, rfl, Option.some.inj hf, ht9⟩) (fun _ h9 => by cases h9) dX3_refusalToDo_60
      · have hf := itN c5 hf
        refine lv_bipush (v := (-3 : Int32)) hx hb dX3_refusalToDo_25 rfl ?_
        exact W.iret hx hb hr (fun t ht9 _ => ⟨_, rfl, Option.some.inj hf, ht9⟩) (fun _ h9 => by cases h9) dX3_refusalToDo_27
    · have hf := itN c2 hf
      refine lv_iconst (v := (-1 : Int32)) hx hb dX3_refusalToDo_15 rfl ?_
      exact W.iret hx hb hr (fun t ht9 _ => ⟨_, rfl, Option.some.inj hf, ht9⟩) (fun _ h9 => by cases h9) dX3_refusalToDo_16
abbrev wX3_drinkable (cI cZ : ClassId) (jhw : Nat) (jaw : Nat → Nat) (jhs : Nat) (jas : Nat → Nat) (Sw : Bk) (Ss : Bk) : va_W := [(jhw, .inr (5, [.int (Sw.1 0), .ref (jaw 0), .ref (jaw 1), .ref (jaw 2), .int (Sw.1 1), .ref (jaw 3), .ref (jaw 4), .ref (jaw 5), .int (Sw.1 2), .int (Sw.1 3), .ref (jaw 6), .ref (jaw 7), .ref (jaw 8), .ref (jaw 9), .ref (jaw 10)])), (jaw 3, .inl (cI, 4, .inl (Sw.2.1 3))), (jaw 4, .inl (cI, 4, .inl (Sw.2.1 4))), (jhs, .inr (2, [.ref jhw, .ref (jas 1), .ref (jas 2), .ref (jas 3), .int (Ss.1 0), .int (Ss.1 1), .int (Ss.1 2), .int (Ss.1 3)])), (jas 1, .inl (cI, 4, .inl (Ss.2.1 1)))]
def gX3_drinkable_29 (Sw : Bk) (Ss : Bk) (k4 : Int32 → Int32 → Option (Int32)) (x1 : Int32) (x2 : Int32) : Option (Int32) := k4 x1 (x2 + (1 : Int32))
def sX3_drinkable_4 (Sw : Bk) (Ss : Bk) (k4 : Int32 → Int32 → Option (Int32)) (x1 : Int32) (x2 : Int32) : Option (Int32) := (if (Sw.1 1) ≤ x2 then some x1 else (fX3_refusalToDrink Sw Ss x2).bind (fun u2 => (if u2 = 0 then gX3_drinkable_29 Sw Ss k4 (x1 ||| ((1 : Int32) <<< (x2 &&& 31))) x2 else gX3_drinkable_29 Sw Ss k4 x1 x2)))
def fX3_drinkable (Sw : Bk) (Ss : Bk) : Option (Int32) := lk2 (sX3_drinkable_4 Sw Ss) 1000 (0 : Int32) (0 : Int32)
theorem miX3_drinkable : MI yX3_drinkable cX3_drinkable 3 (some .int) 0 := ⟨wd1_4, wd2_220, by decide +kernel⟩
theorem mjX3_drinkable : Cond.instanceMethod yX3_drinkable ∈ wT ∧ Cond.selects yX3_drinkable.cls yX3_drinkable yX3_drinkable ∈ wT := ⟨wd2_218, wd2_219⟩
set_option maxHeartbeats 4000000 in
set_option maxRecDepth 100000 in
theorem qX3_drinkable (l : Launch) (D : va_G) (cI cZ cO : ClassId) (jhw : Nat) (jaw : Nat → Nat) (jhs : Nat) (jas : Nat → Nat) (Sw : Bk) (Ss : Bk) (res : Int32) (hf : fX3_drinkable Sw Ss = some res) : Met l yX3_drinkable (Cond.code yX3_drinkable cX3_drinkable 3 (some .int) :: wT) (rmF 2 42) (va_Pc [.ref jhs] (cR D (tyL cI cZ cO) (wX3_drinkable cI cZ jhw jaw jhs jas Sw Ss))) (vp_Si (fun r => r = res)) 0 0 (fun _ => False) := by
  refine met_r (by decide) (Nat.le_of_ble_eq_true rfl) ?_
  intro p e s m below meth c hx hb hr hml ht hown hlk ls hl hP hK hZ
  have hS : va_S (fun _ => False) s.heap s.heap [] := va_S.rf
  have hown : s.vm.findClass "EyeDrink$Stand" = some m.cls := hown
  have hl : lv_has ls 3 [(0, .ref jhs)] := hl
  have hC : CallFix p m c cX3_drinkable 3 s ([.ref jhs] : List Value).toArray wT "EyeDrink$Stand" := ⟨hx, hb, hml, hown, ht⟩
  unfold fX3_drinkable at hf
  have hj4 : ∀ (x1 : Int32) (x2 : Int32), lk2 (sX3_drinkable_4 Sw Ss) 1000 x1 x2 = some res → ∀ (ls : Array Slot), lv_has ls 3 [(0, .ref jhs), (1, .int x1), (2, .int x2)] → W p l e (rmF 2 42) s m ([.ref jhs] : List Value).toArray below meth c s.heap [] 0 0 (MQ below (vp_Si (fun r => r = res)) ([.ref jhs] : List Value).toArray s 0 0 (fun _ => False)) (F0 m 4 ls []) := by
    refine lk2_w (fun (x1 : Int32) (x2 : Int32) => ∀ (ls : Array Slot), lv_has ls 3 [(0, .ref jhs), (1, .int x1), (2, .int x2)] → W p l e (rmF 2 42) s m ([.ref jhs] : List Value).toArray below meth c s.heap [] 0 0 (MQ below (vp_Si (fun r => r = res)) ([.ref jhs] : List Value).toArray s 0 0 (fun _ => False)) (F0 m 4 ls [])) ?_ 1000
    intro k4 hk4 x1 x2 hf ls hl
    unfold sX3_drinkable_4 at hf
    have hj29 : ∀ (x1 : Int32) (x2 : Int32), gX3_drinkable_29 Sw Ss k4 x1 x2 = some res → ∀ (ls : Array Slot), lv_has ls 3 [(0, .ref jhs), (1, .int x1), (2, .int x2)] → W p l e (rmF 2 42) s m ([.ref jhs] : List Value).toArray below meth c s.heap [] 0 0 (MQ below (vp_Si (fun r => r = res)) ([.ref jhs] : List Value).toArray s 0 0 (fun _ => False)) (F0 m 29 ls []) := by
      intro x1 x2 hf ls hl
      unfold gX3_drinkable_29 at hf
      refine lv_iinc (v := (x2 + (1 : Int32))) (lv' := [(2, .int (x2 + (1 : Int32))), (0, .ref jhs), (1, .int x1)]) hx hb dX3_drinkable_29 hl (k := 2) rfl rfl (by decide) rfl (fun ls hl => ?_)
      refine lv_goto (tgt := 4) hx hb dX3_drinkable_32 (by decide) ?_
      exact hk4 x1 (x2 + (1 : Int32)) hf _ (lv_sub hl [1, 2, 0] rfl)
    refine lv_iload_n hx hb dX3_drinkable_4 rfl (lv_at hl 2 rfl) ?_
    refine lv_aload_n hx hb dX3_drinkable_5 rfl (lv_at hl 0 rfl) ?_
    refine va_get (D := D) (ci := 2) (v := .ref jhw) (C := RX3) (T := TX3) (N := 8) hx hb ht inX3 hown hK hP 3 rfl rfl 0 (by decide) (ht _ wd1_135) (fun _ h9 => h9) rfl dX3_drinkable_6 ?_
    refine va_get (D := D) (ci := 5) (v := .int (Sw.1 1)) (C := RX6) (T := TX6) (N := 15) hx hb ht inX6 hown hK hP 0 rfl rfl 4 (by decide) (ht _ wd1_61) (fun _ h9 => h9) rfl dX3_drinkable_9 ?_
    refine lv_icmp_ge (tgt := 35) hx hb dX3_drinkable_12 (by decide) (fun c1 => ?_) (fun c1 => ?_)
    · have hf := itP c1 hf
      refine lv_iload_n hx hb dX3_drinkable_35 rfl (lv_at hl 1 rfl) ?_
      exact W.iret hx hb hr (fun t ht9 _ => ⟨_, rfl, Option.some.inj hf, ht9⟩) (fun _ h9 => by cases h9) dX3_drinkable_36
    · have hf := itN c1 hf
      refine lv_aload_n hx hb dX3_drinkable_15 rfl (lv_at hl 0 rfl) ?_
      refine lv_iload_n hx hb dX3_drinkable_16 rfl (lv_at hl 2 rfl) ?_
      obtain ⟨u2, e3, hf⟩ := bdS hf
      refine k_rV (As := [.int x2]) (rest := []) hC miX3_refusalToDrink mjX3_refusalToDrink.1 mjX3_refusalToDrink.2 wd2_221 (qX3_refusalToDrink l D cI cZ cO jhw jaw jhs jas Sw Ss x2 u2 e3) ⟨Nat.le_of_ble_eq_true rfl, Nat.le_of_ble_eq_true rfl⟩ (hP.sub [0, 1, 2, 3, 4] rfl) hK hZ hS (va_recv hK hP (ci := 2) (q0 := 3) rfl rfl) hl.1 rfl rfl (Nat.le_of_ble_eq_true rfl) dX3_drinkable_17 ?_
      refine lv_if_ne (tgt := 29) hx hb dX3_drinkable_20 (by decide) (fun c4 => ?_) (fun c4 => ?_)
      · have hf := itN c4 hf
        exact hj29 x1 x2 hf _ (lv_sub hl [0, 1, 2] rfl)
      · have hf := itP c4 hf
        refine lv_iload_n hx hb dX3_drinkable_23 rfl (lv_at hl 1 rfl) ?_
        refine lv_iconst (v := (1 : Int32)) hx hb dX3_drinkable_24 rfl ?_
        refine lv_iload_n hx hb dX3_drinkable_25 rfl (lv_at hl 2 rfl) ?_
        refine lv_ishl hx hb dX3_drinkable_26 ?_
        refine lv_ior hx hb dX3_drinkable_27 ?_
        refine lv_istore_n (lv' := [(1, .int (x1 ||| ((1 : Int32) <<< (x2 &&& 31)))), (0, .ref jhs), (2, .int x2)]) hx hb dX3_drinkable_28 rfl hl (by decide) rfl (fun ls hl => ?_)
        exact hj29 (x1 ||| ((1 : Int32) <<< (x2 &&& 31))) x2 hf _ (lv_sub hl [1, 0, 2] rfl)
  refine lv_iconst (v := (0 : Int32)) hx hb dX3_drinkable_0 rfl ?_
  refine lv_istore_n (lv' := [(1, .int (0 : Int32)), (0, .ref jhs)]) hx hb dX3_drinkable_1 rfl hl (by decide) rfl (fun ls hl => ?_)
  refine lv_iconst (v := (0 : Int32)) hx hb dX3_drinkable_2 rfl ?_
  refine lv_istore_n (lv' := [(2, .int (0 : Int32)), (1, .int (0 : Int32)), (0, .ref jhs)]) hx hb dX3_drinkable_3 rfl hl (by decide) rfl (fun ls hl => ?_)
  exact hj4 (0 : Int32) (0 : Int32) hf _ (lv_sub hl [2, 1, 0] rfl)
abbrev wX3_doable (cI cZ : ClassId) (jhw : Nat) (jaw : Nat → Nat) (jhs : Nat) (jas : Nat → Nat) (Sw : Bk) (Ss : Bk) : va_W := [(jhw, .inr (5, [.int (Sw.1 0), .ref (jaw 0), .ref (jaw 1), .ref (jaw 2), .int (Sw.1 1), .ref (jaw 3), .ref (jaw 4), .ref (jaw 5), .int (Sw.1 2), .int (Sw.1 3), .ref (jaw 6), .ref (jaw 7), .ref (jaw 8), .ref (jaw 9), .ref (jaw 10)])), (jaw 9, .inl (cI, 4, .inl (Sw.2.1 9))), (jaw 10, .inl (cI, 4, .inl (Sw.2.1 10))), (jhs, .inr (2, [.ref jhw, .ref (jas 1), .ref (jas 2), .ref (jas 3), .int (Ss.1 0), .int (Ss.1 1), .int (Ss.1 2), .int (Ss.1 3)])), (jas 1, .inl (cI, 4, .inl (Ss.2.1 1)))]
def gX3_doable_29 (Sw : Bk) (Ss : Bk) (k4 : Int32 → Int32 → Option (Int32)) (x1 : Int32) (x2 : Int32) : Option (Int32) := k4 x1 (x2 + (1 : Int32))
def sX3_doable_4 (Sw : Bk) (Ss : Bk) (k4 : Int32 → Int32 → Option (Int32)) (x1 : Int32) (x2 : Int32) : Option (Int32) := (if (Sw.1 3) ≤ x2 then some x1 else (fX3_refusalToDo Sw Ss x2).bind (fun u2 => (if u2 = 0 then gX3_doable_29 Sw Ss k4 (x1 ||| ((1 : Int32) <<< (x2 &&& 31))) x2 else gX3_doable_29 Sw Ss k4 x1 x2)))
def fX3_doable (Sw : Bk) (Ss : Bk) : Option (Int32) := lk2 (sX3_doable_4 Sw Ss) 1000 (0 : Int32) (0 : Int32)
theorem miX3_doable : MI yX3_doable cX3_doable 3 (some .int) 0 := ⟨wd1_4, wd2_225, by decide +kernel⟩
theorem mjX3_doable : Cond.instanceMethod yX3_doable ∈ wT ∧ Cond.selects yX3_doable.cls yX3_doable yX3_doable ∈ wT := ⟨wd2_223, wd2_224⟩
set_option maxHeartbeats 4000000 in
set_option maxRecDepth 100000 in
theorem qX3_doable (l : Launch) (D : va_G) (cI cZ cO : ClassId) (jhw : Nat) (jaw : Nat → Nat) (jhs : Nat) (jas : Nat → Nat) (Sw : Bk) (Ss : Bk) (res : Int32) (hf : fX3_doable Sw Ss = some res) : Met l yX3_doable (Cond.code yX3_doable cX3_doable 3 (some .int) :: wT) (rmF 2 42) (va_Pc [.ref jhs] (cR D (tyL cI cZ cO) (wX3_doable cI cZ jhw jaw jhs jas Sw Ss))) (vp_Si (fun r => r = res)) 0 0 (fun _ => False) := by
  refine met_r (by decide) (Nat.le_of_ble_eq_true rfl) ?_
  intro p e s m below meth c hx hb hr hml ht hown hlk ls hl hP hK hZ
  have hS : va_S (fun _ => False) s.heap s.heap [] := va_S.rf
  have hown : s.vm.findClass "EyeDrink$Stand" = some m.cls := hown
  have hl : lv_has ls 3 [(0, .ref jhs)] := hl
  have hC : CallFix p m c cX3_doable 3 s ([.ref jhs] : List Value).toArray wT "EyeDrink$Stand" := ⟨hx, hb, hml, hown, ht⟩
  unfold fX3_doable at hf
  have hj4 : ∀ (x1 : Int32) (x2 : Int32), lk2 (sX3_doable_4 Sw Ss) 1000 x1 x2 = some res → ∀ (ls : Array Slot), lv_has ls 3 [(0, .ref jhs), (1, .int x1), (2, .int x2)] → W p l e (rmF 2 42) s m ([.ref jhs] : List Value).toArray below meth c s.heap [] 0 0 (MQ below (vp_Si (fun r => r = res)) ([.ref jhs] : List Value).toArray s 0 0 (fun _ => False)) (F0 m 4 ls []) := by
    refine lk2_w (fun (x1 : Int32) (x2 : Int32) => ∀ (ls : Array Slot), lv_has ls 3 [(0, .ref jhs), (1, .int x1), (2, .int x2)] → W p l e (rmF 2 42) s m ([.ref jhs] : List Value).toArray below meth c s.heap [] 0 0 (MQ below (vp_Si (fun r => r = res)) ([.ref jhs] : List Value).toArray s 0 0 (fun _ => False)) (F0 m 4 ls [])) ?_ 1000
    intro k4 hk4 x1 x2 hf ls hl
    unfold sX3_doable_4 at hf
    have hj29 : ∀ (x1 : Int32) (x2 : Int32), gX3_doable_29 Sw Ss k4 x1 x2 = some res → ∀ (ls : Array Slot), lv_has ls 3 [(0, .ref jhs), (1, .int x1), (2, .int x2)] → W p l e (rmF 2 42) s m ([.ref jhs] : List Value).toArray below meth c s.heap [] 0 0 (MQ below (vp_Si (fun r => r = res)) ([.ref jhs] : List Value).toArray s 0 0 (fun _ => False)) (F0 m 29 ls []) := by
      intro x1 x2 hf ls hl
      unfold gX3_doable_29 at hf
      refine lv_iinc (v := (x2 + (1 : Int32))) (lv' := [(2, .int (x2 + (1 : Int32))), (0, .ref jhs), (1, .int x1)]) hx hb dX3_doable_29 hl (k := 2) rfl rfl (by decide) rfl (fun ls hl => ?_)
      refine lv_goto (tgt := 4) hx hb dX3_doable_32 (by decide) ?_
      exact hk4 x1 (x2 + (1 : Int32)) hf _ (lv_sub hl [1, 2, 0] rfl)
    refine lv_iload_n hx hb dX3_doable_4 rfl (lv_at hl 2 rfl) ?_
    refine lv_aload_n hx hb dX3_doable_5 rfl (lv_at hl 0 rfl) ?_
    refine va_get (D := D) (ci := 2) (v := .ref jhw) (C := RX3) (T := TX3) (N := 8) hx hb ht inX3 hown hK hP 3 rfl rfl 0 (by decide) (ht _ wd1_135) (fun _ h9 => h9) rfl dX3_doable_6 ?_
    refine va_get (D := D) (ci := 5) (v := .int (Sw.1 3)) (C := RX6) (T := TX6) (N := 15) hx hb ht inX6 hown hK hP 0 rfl rfl 9 (by decide) (ht _ wd1_79) (fun _ h9 => h9) rfl dX3_doable_9 ?_
    refine lv_icmp_ge (tgt := 35) hx hb dX3_doable_12 (by decide) (fun c1 => ?_) (fun c1 => ?_)
    · have hf := itP c1 hf
      refine lv_iload_n hx hb dX3_doable_35 rfl (lv_at hl 1 rfl) ?_
      exact W.iret hx hb hr (fun t ht9 _ => ⟨_, rfl, Option.some.inj hf, ht9⟩) (fun _ h9 => by cases h9) dX3_doable_36
    · have hf := itN c1 hf
      refine lv_aload_n hx hb dX3_doable_15 rfl (lv_at hl 0 rfl) ?_
      refine lv_iload_n hx hb dX3_doable_16 rfl (lv_at hl 2 rfl) ?_
      obtain ⟨u2, e3, hf⟩ := bdS hf
      refine k_rV (As := [.int x2]) (rest := []) hC miX3_refusalToDo mjX3_refusalToDo.1 mjX3_refusalToDo.2 wd2_226 (qX3_refusalToDo l D cI cZ cO jhw jaw jhs jas Sw Ss x2 u2 e3) ⟨Nat.le_of_ble_eq_true rfl, Nat.le_of_ble_eq_true rfl⟩ (hP.sub [0, 1, 2, 3, 4] rfl) hK hZ hS (va_recv hK hP (ci := 2) (q0 := 3) rfl rfl) hl.1 rfl rfl (Nat.le_of_ble_eq_true rfl) dX3_doable_17 ?_
      refine lv_if_ne (tgt := 29) hx hb dX3_doable_20 (by decide) (fun c4 => ?_) (fun c4 => ?_)
      · have hf := itN c4 hf
        exact hj29 x1 x2 hf _ (lv_sub hl [0, 1, 2] rfl)
      · have hf := itP c4 hf
        refine lv_iload_n hx hb dX3_doable_23 rfl (lv_at hl 1 rfl) ?_
        refine lv_iconst (v := (1 : Int32)) hx hb dX3_doable_24 rfl ?_
        refine lv_iload_n hx hb dX3_doable_25 rfl (lv_at hl 2 rfl) ?_
        refine lv_ishl hx hb dX3_doable_26 ?_
        refine lv_ior hx hb dX3_doable_27 ?_
        refine lv_istore_n (lv' := [(1, .int (x1 ||| ((1 : Int32) <<< (x2 &&& 31)))), (0, .ref jhs), (2, .int x2)]) hx hb dX3_doable_28 rfl hl (by decide) rfl (fun ls hl => ?_)
        exact hj29 (x1 ||| ((1 : Int32) <<< (x2 &&& 31))) x2 hf _ (lv_sub hl [1, 0, 2] rfl)
  refine lv_iconst (v := (0 : Int32)) hx hb dX3_doable_0 rfl ?_
  refine lv_istore_n (lv' := [(1, .int (0 : Int32)), (0, .ref jhs)]) hx hb dX3_doable_1 rfl hl (by decide) rfl (fun ls hl => ?_)
  refine lv_iconst (v := (0 : Int32)) hx hb dX3_doable_2 rfl ?_
  refine lv_istore_n (lv' := [(2, .int (0 : Int32)), (1, .int (0 : Int32)), (0, .ref jhs)]) hx hb dX3_doable_3 rfl hl (by decide) rfl (fun ls hl => ?_)
  exact hj4 (0 : Int32) (0 : Int32) hf _ (lv_sub hl [2, 1, 0] rfl)
abbrev wX3_give (cI cZ : ClassId) (jhw : Nat) (jaw : Nat → Nat) (jhs : Nat) (jas : Nat → Nat) (Sw : Bk) (Ss : Bk) : va_W := [(jhw, .inr (5, [.int (Sw.1 0), .ref (jaw 0), .ref (jaw 1), .ref (jaw 2), .int (Sw.1 1), .ref (jaw 3), .ref (jaw 4), .ref (jaw 5), .int (Sw.1 2), .int (Sw.1 3), .ref (jaw 6), .ref (jaw 7), .ref (jaw 8), .ref (jaw 9), .ref (jaw 10)])), (jaw 2, .inl (cI, 4, .inl (Sw.2.1 2))), (jhs, .inr (2, [.ref jhw, .ref (jas 1), .ref (jas 2), .ref (jas 3), .int (Ss.1 0), .int (Ss.1 1), .int (Ss.1 2), .int (Ss.1 3)])), (jas 1, .inl (cI, 4, .inl (Ss.2.1 1))), (jas 2, .inl (cI, 4, .inl (Ss.2.1 2)))]
def fX3_give (Sw : Bk) (Ss : Bk) (x1 : Int32) (x2 : Int32) : Option (Bk) := inB 4 x1 (nmV (((Ss.2.1 1) x1.toNatClampNeg) - x2) (fun v2 => inB 4 x1 (nmV x1.toNatClampNeg (fun j4 => inB 4 x1 ((if ((Sw.2.1 2) x1.toNatClampNeg) = (1 : Int32) then inB 4 x1 (nmV (((Ss.2.1 2) x1.toNatClampNeg) + x2) (fun v8 => inB 4 x1 (nmV x1.toNatClampNeg (fun j10 => some (bW (bW Ss 1 j4 v2) 2 j10 v8))))) else some (bW Ss 1 j4 v2)))))))
theorem miX3_give : MI yX3_give cX3_give 3 none 2 := ⟨wd1_4, wd2_175, by decide +kernel⟩
theorem mjX3_give : Cond.instanceMethod yX3_give ∈ wT ∧ Cond.selects yX3_give.cls yX3_give yX3_give ∈ wT := ⟨wd2_174, ws_4⟩
set_option maxHeartbeats 4000000 in
set_option maxRecDepth 100000 in
theorem qX3_give (l : Launch) (D : va_G) (cI cZ cO : ClassId) (jhw : Nat) (jaw : Nat → Nat) (jhs : Nat) (jas : Nat → Nat) (Sw : Bk) (Ss : Bk) (x1 : Int32) (x2 : Int32) (sz : Nat) (res : Bk) (hf : fX3_give Sw Ss x1 x2 = some res) : Met l yX3_give (Cond.code yX3_give cX3_give 3 none :: wT) (rmF 0 0) (va_Pc [.ref jhs, .int x1, .int x2] (cW D (tyL cI cZ cO) (wX3_give cI cZ jhw jaw jhs jas Sw Ss) sz)) (va_Qv (S := Unit) (fun _ => True) (fun _ => qW D (tyL cI cZ cO) (va_A (wX3_give cI cZ jhw jaw jhs jas Sw Ss) sz) (wX3_give cI cZ jhw jaw jhs jas Sw res)) (va_A (wX3_give cI cZ jhw jaw jhs jas Sw Ss) sz)) 0 0 (va_A (wX3_give cI cZ jhw jaw jhs jas Sw Ss) sz) := by
  refine met_w (by decide) (Nat.le_of_ble_eq_true rfl) ?_
  intro p e s m below meth c hx hb hr hml ht hown hlk ls hl hsz hP hK hD0 hZ
  subst hsz
  have hD := hD0.self (sz := s.heap.size)
  generalize hAe : va_A (wX3_give cI cZ jhw jaw jhs jas Sw Ss) s.heap.size = A at hD hZ ⊢
  have hA : ∀ q : Nat, s.heap.size ≤ q → A q := fun q h => by rw [← hAe]; exact Or.inr h
  have hS : va_S A s.heap s.heap [] := va_S.rf
  have hown : s.vm.findClass "EyeDrink$Stand" = some m.cls := hown
  have hl : lv_has ls 3 [(0, .ref jhs), (1, .int x1), (2, .int x2)] := hl
  unfold fX3_give at hf
  suffices hgo : ∀ (H : Heap) (locs : List Loc), va_P D vwCl (wX3_give cI cZ jhw jaw jhs jas Sw Ss) H → va_S A s.heap H locs → W p l e (rmF 0 0) s m ([.ref jhs, .int x1, .int x2] : List Value).toArray below meth c H locs 0 0 (MQ below (va_Qv (S := Unit) (fun _ => True) (fun _ => qW D (tyL cI cZ cO) A (wX3_give cI cZ jhw jaw jhs jas Sw res)) A) ([.ref jhs, .int x1, .int x2] : List Value).toArray s 0 0 A) (F0 m 0 ls []) from hgo s.heap [] hP hS
  intro H locs hP hS
  refine lv_aload_n hx hb dX3_give_0 rfl (lv_at hl 0 rfl) ?_
  refine va_get (D := D) (ci := 2) (v := .ref (jas 1)) (C := RX3) (T := TX3) (N := 8) hx hb ht inX3 hown hK hP 2 rfl rfl 1 (by decide) (ht _ wd1_136) (fun _ h9 => h9) rfl dX3_give_1 ?_
  refine lv_iload_n hx hb dX3_give_4 rfl (lv_at hl 1 rfl) ?_
  refine lv_dup2_11 hx hb dX3_give_5 rfl rfl ?_
  obtain ⟨h1, hf⟩ := inB_s hf
  refine va_iald (f := (Ss.2.1 1)) (n := 4) hx hb hK hP 3 0 rfl rfl h1 dX3_give_6 ?_
  refine lv_iload_n hx hb dX3_give_7 rfl (lv_at hl 2 rfl) ?_
  refine lv_isub hx hb dX3_give_8 ?_
  obtain ⟨v2, ev2, hf⟩ := nmV_s hf
  rw [← ev2]
  obtain ⟨h3, hf⟩ := inB_s hf
  obtain ⟨j4, ej4, hf⟩ := nmV_s hf
  refine va_iast (f := (Ss.2.1 1)) (n := 4) hx hb hK hP hD hS 3 0 rfl rfl h3 dX3_give_9 (fun H locs hP hD hS => ?_)
  rw [← ej4] at hP hD
  have hP : va_P D vwCl (wX3_give cI cZ jhw jaw jhs jas Sw (bW Ss 1 j4 v2)) H := hP
  have hD : va_D A (wX3_give cI cZ jhw jaw jhs jas Sw (bW Ss 1 j4 v2)) := hD
  refine lv_aload_n hx hb dX3_give_10 rfl (lv_at hl 0 rfl) ?_
  refine va_get (D := D) (ci := 2) (v := .ref jhw) (C := RX3) (T := TX3) (N := 8) hx hb ht inX3 hown hK hP 2 rfl rfl 0 (by decide) (ht _ wd1_135) (fun _ h9 => h9) rfl dX3_give_11 ?_
  refine va_get (D := D) (ci := 5) (v := .ref (jaw 2)) (C := RX6) (T := TX6) (N := 15) hx hb ht inX6 hown hK hP 0 rfl rfl 3 (by decide) (ht _ wd1_56) (fun _ h9 => h9) rfl dX3_give_14 ?_
  refine lv_iload_n hx hb dX3_give_17 rfl (lv_at hl 1 rfl) ?_
  obtain ⟨h5, hf⟩ := inB_s hf
  refine va_iald (f := (Sw.2.1 2)) (n := 4) hx hb hK hP 1 0 rfl rfl h5 dX3_give_18 ?_
  refine lv_iconst (v := (1 : Int32)) hx hb dX3_give_19 rfl ?_
  refine lv_icmp_ne (tgt := 33) hx hb dX3_give_20 (by decide) (fun c6 => ?_) (fun c6 => ?_)
  · have hf := itN c6 hf
    cases hf
    exact W.vret hx hb hr (fun t ht9 hW => ⟨⟨(), rfl, trivial, by rw [ht9]; exact hP, va_K.moved hW.alike hK, hD⟩, hS.F ht9⟩) hS.2.2 dX3_give_33
  · have hf := itP c6 hf
    refine lv_aload_n hx hb dX3_give_23 rfl (lv_at hl 0 rfl) ?_
    refine va_get (D := D) (ci := 2) (v := .ref (jas 2)) (C := RX3) (T := TX3) (N := 8) hx hb ht inX3 hown hK hP 2 rfl rfl 2 (by decide) (ht _ wd1_139) (fun _ h9 => h9) rfl dX3_give_24 ?_
    refine lv_iload_n hx hb dX3_give_27 rfl (lv_at hl 1 rfl) ?_
    refine lv_dup2_11 hx hb dX3_give_28 rfl rfl ?_
    obtain ⟨h7, hf⟩ := inB_s hf
    refine va_iald (f := (Ss.2.1 2)) (n := 4) hx hb hK hP 4 0 rfl rfl h7 dX3_give_29 ?_
    refine lv_iload_n hx hb dX3_give_30 rfl (lv_at hl 2 rfl) ?_
    refine lv_iadd hx hb dX3_give_31 ?_
    obtain ⟨v8, ev8, hf⟩ := nmV_s hf
    rw [← ev8]
    obtain ⟨h9, hf⟩ := inB_s hf
    obtain ⟨j10, ej10, hf⟩ := nmV_s hf
    refine va_iast (f := (Ss.2.1 2)) (n := 4) hx hb hK hP hD hS 4 0 rfl rfl h9 dX3_give_32 (fun H locs hP hD hS => ?_)
    rw [← ej10] at hP hD
    have hP : va_P D vwCl (wX3_give cI cZ jhw jaw jhs jas Sw (bW (bW Ss 1 j4 v2) 2 j10 v8)) H := hP
    have hD : va_D A (wX3_give cI cZ jhw jaw jhs jas Sw (bW (bW Ss 1 j4 v2) 2 j10 v8)) := hD
    cases hf
    exact W.vret hx hb hr (fun t ht9 hW => ⟨⟨(), rfl, trivial, by rw [ht9]; exact hP, va_K.moved hW.alike hK, hD⟩, hS.F ht9⟩) hS.2.2 dX3_give_33
abbrev wX3_drinkUp (cI cZ : ClassId) (jhw : Nat) (jaw : Nat → Nat) (jhs : Nat) (jas : Nat → Nat) (Sw : Bk) (Ss : Bk) : va_W := [(jhw, .inr (5, [.int (Sw.1 0), .ref (jaw 0), .ref (jaw 1), .ref (jaw 2), .int (Sw.1 1), .ref (jaw 3), .ref (jaw 4), .ref (jaw 5), .int (Sw.1 2), .int (Sw.1 3), .ref (jaw 6), .ref (jaw 7), .ref (jaw 8), .ref (jaw 9), .ref (jaw 10)])), (jaw 2, .inl (cI, 4, .inl (Sw.2.1 2))), (jaw 3, .inl (cI, 4, .inl (Sw.2.1 3))), (jaw 4, .inl (cI, 4, .inl (Sw.2.1 4))), (jhs, .inr (2, [.ref jhw, .ref (jas 1), .ref (jas 2), .ref (jas 3), .int (Ss.1 0), .int (Ss.1 1), .int (Ss.1 2), .int (Ss.1 3)])), (jas 1, .inl (cI, 4, .inl (Ss.2.1 1))), (jas 2, .inl (cI, 4, .inl (Ss.2.1 2)))]
def fX3_drinkUp (Sw : Bk) (Ss : Bk) (x1 : Int32) : Option (Bk) := inB 4 x1 (inB 4 x1 ((fX3_give Sw Ss ((Sw.2.1 3) x1.toNatClampNeg) ((Sw.2.1 4) x1.toNatClampNeg)).bind (fun u3 => nmV ((u3.1 0) ||| ((1 : Int32) <<< (x1 &&& 31))) (fun v5 => some (bI u3 0 v5)))))
theorem miX3_drinkUp : MI yX3_drinkUp cX3_drinkUp 2 none 1 := ⟨wd1_4, wd2_171, by decide +kernel⟩
theorem mjX3_drinkUp : Cond.instanceMethod yX3_drinkUp ∈ wT ∧ Cond.selects yX3_drinkUp.cls yX3_drinkUp yX3_drinkUp ∈ wT := ⟨wd2_169, wd2_170⟩
set_option maxHeartbeats 4000000 in
set_option maxRecDepth 100000 in
theorem qX3_drinkUp (l : Launch) (D : va_G) (cI cZ cO : ClassId) (jhw : Nat) (jaw : Nat → Nat) (jhs : Nat) (jas : Nat → Nat) (Sw : Bk) (Ss : Bk) (x1 : Int32) (sz : Nat) (res : Bk) (hf : fX3_drinkUp Sw Ss x1 = some res) : Met l yX3_drinkUp (Cond.code yX3_drinkUp cX3_drinkUp 2 none :: wT) (rmF 1 22) (va_Pc [.ref jhs, .int x1] (cW D (tyL cI cZ cO) (wX3_drinkUp cI cZ jhw jaw jhs jas Sw Ss) sz)) (va_Qv (S := Unit) (fun _ => True) (fun _ => qW D (tyL cI cZ cO) (va_A (wX3_drinkUp cI cZ jhw jaw jhs jas Sw Ss) sz) (wX3_drinkUp cI cZ jhw jaw jhs jas Sw res)) (va_A (wX3_drinkUp cI cZ jhw jaw jhs jas Sw Ss) sz)) 0 0 (va_A (wX3_drinkUp cI cZ jhw jaw jhs jas Sw Ss) sz) := by
  refine met_w (by decide) (Nat.le_of_ble_eq_true rfl) ?_
  intro p e s m below meth c hx hb hr hml ht hown hlk ls hl hsz hP hK hD0 hZ
  subst hsz
  have hD := hD0.self (sz := s.heap.size)
  generalize hAe : va_A (wX3_drinkUp cI cZ jhw jaw jhs jas Sw Ss) s.heap.size = A at hD hZ ⊢
  have hA : ∀ q : Nat, s.heap.size ≤ q → A q := fun q h => by rw [← hAe]; exact Or.inr h
  have hS : va_S A s.heap s.heap [] := va_S.rf
  have hown : s.vm.findClass "EyeDrink$Stand" = some m.cls := hown
  have hl : lv_has ls 2 [(0, .ref jhs), (1, .int x1)] := hl
  have hC : CallFix p m c cX3_drinkUp 2 s ([.ref jhs, .int x1] : List Value).toArray wT "EyeDrink$Stand" := ⟨hx, hb, hml, hown, ht⟩
  unfold fX3_drinkUp at hf
  suffices hgo : ∀ (H : Heap) (locs : List Loc), va_P D vwCl (wX3_drinkUp cI cZ jhw jaw jhs jas Sw Ss) H → va_S A s.heap H locs → W p l e (rmF 1 22) s m ([.ref jhs, .int x1] : List Value).toArray below meth c H locs 0 0 (MQ below (va_Qv (S := Unit) (fun _ => True) (fun _ => qW D (tyL cI cZ cO) A (wX3_drinkUp cI cZ jhw jaw jhs jas Sw res)) A) ([.ref jhs, .int x1] : List Value).toArray s 0 0 A) (F0 m 0 ls []) from hgo s.heap [] hP hS
  intro H locs hP hS
  refine lv_aload_n hx hb dX3_drinkUp_0 rfl (lv_at hl 0 rfl) ?_
  refine lv_aload_n hx hb dX3_drinkUp_1 rfl (lv_at hl 0 rfl) ?_
  refine va_get (D := D) (ci := 2) (v := .ref jhw) (C := RX3) (T := TX3) (N := 8) hx hb ht inX3 hown hK hP 4 rfl rfl 0 (by decide) (ht _ wd1_135) (fun _ h9 => h9) rfl dX3_drinkUp_2 ?_
  refine va_get (D := D) (ci := 5) (v := .ref (jaw 3)) (C := RX6) (T := TX6) (N := 15) hx hb ht inX6 hown hK hP 0 rfl rfl 5 (by decide) (ht _ wd1_65) (fun _ h9 => h9) rfl dX3_drinkUp_5 ?_
  refine lv_iload_n hx hb dX3_drinkUp_8 rfl (lv_at hl 1 rfl) ?_
  obtain ⟨h1, hf⟩ := inB_s hf
  refine va_iald (f := (Sw.2.1 3)) (n := 4) hx hb hK hP 2 0 rfl rfl h1 dX3_drinkUp_9 ?_
  refine lv_aload_n hx hb dX3_drinkUp_10 rfl (lv_at hl 0 rfl) ?_
  refine va_get (D := D) (ci := 2) (v := .ref jhw) (C := RX3) (T := TX3) (N := 8) hx hb ht inX3 hown hK hP 4 rfl rfl 0 (by decide) (ht _ wd1_135) (fun _ h9 => h9) rfl dX3_drinkUp_11 ?_
  refine va_get (D := D) (ci := 5) (v := .ref (jaw 4)) (C := RX6) (T := TX6) (N := 15) hx hb ht inX6 hown hK hP 0 rfl rfl 6 (by decide) (ht _ wd1_69) (fun _ h9 => h9) rfl dX3_drinkUp_14 ?_
  refine lv_iload_n hx hb dX3_drinkUp_17 rfl (lv_at hl 1 rfl) ?_
  obtain ⟨h2, hf⟩ := inB_s hf
  refine va_iald (f := (Sw.2.1 4)) (n := 4) hx hb hK hP 3 0 rfl rfl h2 dX3_drinkUp_18 ?_
  obtain ⟨u3, e4, hf⟩ := bdS hf
  refine k_wVv (ws' := (wX3_drinkUp cI cZ jhw jaw jhs jas Sw u3)) (wr := [(jaw 3, .inl (cI, 4, .inl (Sw.2.1 3))), (jaw 4, .inl (cI, 4, .inl (Sw.2.1 4)))]) (As := [.int ((Sw.2.1 3) x1.toNatClampNeg), .int ((Sw.2.1 4) x1.toNatClampNeg)]) (rest := []) hC miX3_give mjX3_give.1 mjX3_give.2 wd2_172 (qX3_give l D cI cZ cO jhw jaw jhs jas Sw Ss ((Sw.2.1 3) x1.toNatClampNeg) ((Sw.2.1 4) x1.toNatClampNeg) H.size u3 e4) ⟨Nat.le_of_ble_eq_true rfl, Nat.le_of_ble_eq_true rfl⟩ hP hD hK hZ hS hA [0, 1, 4, 5, 6] [2, 3] [2, 3, 0, 1, 4, 5, 6] rfl (by decide) rfl (by decide) (by decide) (by decide) rfl (va_recv hK hP (ci := 2) (q0 := 4) rfl rfl) hl.1 rfl rfl (Nat.le_of_ble_eq_true rfl) dX3_drinkUp_19 (fun H locs hP hD hS => ?_)
  refine lv_aload_n hx hb dX3_drinkUp_22 rfl (lv_at hl 0 rfl) ?_
  refine lv_dup hx hb dX3_drinkUp_23 rfl ?_
  refine va_get (D := D) (ci := 2) (v := .int (u3.1 0)) (C := RX3) (T := TX3) (N := 8) hx hb ht inX3 hown hK hP 4 rfl rfl 4 (by decide) (ht _ wd1_142) (fun _ h9 => h9) rfl dX3_drinkUp_24 ?_
  refine lv_iconst (v := (1 : Int32)) hx hb dX3_drinkUp_27 rfl ?_
  refine lv_iload_n hx hb dX3_drinkUp_28 rfl (lv_at hl 1 rfl) ?_
  refine lv_ishl hx hb dX3_drinkUp_29 ?_
  refine lv_ior hx hb dX3_drinkUp_30 ?_
  obtain ⟨v5, ev5, hf⟩ := nmV_s hf
  rw [← ev5]
  refine va_put (D := D) (ci := 2) (v := .int v5) (ty := .int) (C := RX3) (T := TX3) (N := 8) hx hb ht inX3 tyX3 tyX3_ok nmX3 hown hK hP hD hS 4 rfl rfl 4 (by decide) (ht _ wd1_142) (fun _ h9 => h9) rfl (tyX3_ok 4 (by decide)) rfl rfl (Nat.le_of_ble_eq_true rfl) dX3_drinkUp_31 (fun H locs hP hD hS => ?_)
  have hP : va_P D vwCl (wX3_drinkUp cI cZ jhw jaw jhs jas Sw (bI u3 0 v5)) H := hP
  have hD : va_D A (wX3_drinkUp cI cZ jhw jaw jhs jas Sw (bI u3 0 v5)) := hD
  cases hf
  exact W.vret hx hb hr (fun t ht9 hW => ⟨⟨(), rfl, trivial, by rw [ht9]; exact hP, va_K.moved hW.alike hK, hD⟩, hS.F ht9⟩) hS.2.2 dX3_drinkUp_34
abbrev wX6_answer (cI cZ : ClassId) (jhw : Nat) (jaw : Nat → Nat) (Sw : Bk) : va_W := [(jhw, .inr (5, [.int (Sw.1 0), .ref (jaw 0), .ref (jaw 1), .ref (jaw 2), .int (Sw.1 1), .ref (jaw 3), .ref (jaw 4), .ref (jaw 5), .int (Sw.1 2), .int (Sw.1 3), .ref (jaw 6), .ref (jaw 7), .ref (jaw 8), .ref (jaw 9), .ref (jaw 10)]))]
def fX6_answer (Sw : Bk) (x1 : Int32) : Option (Int32) := some (((Sw.1 2) >>> (x1 &&& 31)) &&& (1 : Int32))
theorem miX6_answer : MI yX6_answer cX6_answer 2 (some .int) 1 := ⟨wd1_3, wd2_138, by decide +kernel⟩
theorem mjX6_answer : Cond.instanceMethod yX6_answer ∈ wT ∧ Cond.selects yX6_answer.cls yX6_answer yX6_answer ∈ wT := ⟨wd2_136, wd2_137⟩
set_option maxHeartbeats 4000000 in
set_option maxRecDepth 100000 in
theorem qX6_answer (l : Launch) (D : va_G) (cI cZ cO : ClassId) (jhw : Nat) (jaw : Nat → Nat) (Sw : Bk) (x1 : Int32) (res : Int32) (hf : fX6_answer Sw x1 = some res) : Met l yX6_answer (Cond.code yX6_answer cX6_answer 2 (some .int) :: wT) (rmF 0 0) (va_Pc [.ref jhw, .int x1] (cR D (tyL cI cZ cO) (wX6_answer cI cZ jhw jaw Sw))) (vp_Si (fun r => r = res)) 0 0 (fun _ => False) := by
  refine met_r (by decide) (Nat.le_of_ble_eq_true rfl) ?_
  intro p e s m below meth c hx hb hr hml ht hown hlk ls hl hP hK hZ
  have hS : va_S (fun _ => False) s.heap s.heap [] := va_S.rf
  have hown : s.vm.findClass "EyeDrink$Well" = some m.cls := hown
  have hl : lv_has ls 2 [(0, .ref jhw), (1, .int x1)] := hl
  unfold fX6_answer at hf
  refine lv_aload_n hx hb dX6_answer_0 rfl (lv_at hl 0 rfl) ?_
  refine va_get (D := D) (ci := 5) (v := .int (Sw.1 2)) (C := RX6) (T := TX6) (N := 15) hx hb ht inX6 hown hK hP 0 rfl rfl 8 (by decide) (ht _ wd1_73) (fun _ h9 => h9) rfl dX6_answer_1 ?_
  refine lv_iload_n hx hb dX6_answer_4 rfl (lv_at hl 1 rfl) ?_
  refine lv_ishr hx hb dX6_answer_5 ?_
  refine lv_iconst (v := (1 : Int32)) hx hb dX6_answer_6 rfl ?_
  refine lv_iand hx hb dX6_answer_7 ?_
  exact W.iret hx hb hr (fun t ht9 _ => ⟨_, rfl, Option.some.inj hf, ht9⟩) (fun _ h9 => by cases h9) dX6_answer_8
abbrev wX6_swing (cI cZ : ClassId) (jhw : Nat) (jaw : Nat → Nat) (Sw : Bk) : va_W := [(jhw, .inr (5, [.int (Sw.1 0), .ref (jaw 0), .ref (jaw 1), .ref (jaw 2), .int (Sw.1 1), .ref (jaw 3), .ref (jaw 4), .ref (jaw 5), .int (Sw.1 2), .int (Sw.1 3), .ref (jaw 6), .ref (jaw 7), .ref (jaw 8), .ref (jaw 9), .ref (jaw 10)])), (jaw 7, .inl (cI, 4, .inl (Sw.2.1 7))), (jaw 8, .inl (cI, 4, .inl (Sw.2.1 8)))]
def fX6_swing (Sw : Bk) (x1 : Int32) : Option (Int32) := inB 4 x1 ((if ((Sw.2.1 7) x1.toNatClampNeg) = (1 : Int32) then inB 4 x1 (some ((Sw.2.1 8) x1.toNatClampNeg)) else inB 4 x1 (some (-((Sw.2.1 8) x1.toNatClampNeg)))))
theorem miX6_swing : MI yX6_swing cX6_swing 2 (some .int) 1 := ⟨wd1_3, wd2_192, by decide +kernel⟩
theorem mjX6_swing : Cond.instanceMethod yX6_swing ∈ wT ∧ Cond.selects yX6_swing.cls yX6_swing yX6_swing ∈ wT := ⟨wd2_190, wd2_191⟩
set_option maxHeartbeats 4000000 in
set_option maxRecDepth 100000 in
theorem qX6_swing (l : Launch) (D : va_G) (cI cZ cO : ClassId) (jhw : Nat) (jaw : Nat → Nat) (Sw : Bk) (x1 : Int32) (res : Int32) (hf : fX6_swing Sw x1 = some res) : Met l yX6_swing (Cond.code yX6_swing cX6_swing 2 (some .int) :: wT) (rmF 0 0) (va_Pc [.ref jhw, .int x1] (cR D (tyL cI cZ cO) (wX6_swing cI cZ jhw jaw Sw))) (vp_Si (fun r => r = res)) 0 0 (fun _ => False) := by
  refine met_r (by decide) (Nat.le_of_ble_eq_true rfl) ?_
  intro p e s m below meth c hx hb hr hml ht hown hlk ls hl hP hK hZ
  have hS : va_S (fun _ => False) s.heap s.heap [] := va_S.rf
  have hown : s.vm.findClass "EyeDrink$Well" = some m.cls := hown
  have hl : lv_has ls 2 [(0, .ref jhw), (1, .int x1)] := hl
  unfold fX6_swing at hf
  refine lv_aload_n hx hb dX6_swing_0 rfl (lv_at hl 0 rfl) ?_
  refine va_get (D := D) (ci := 5) (v := .ref (jaw 7)) (C := RX6) (T := TX6) (N := 15) hx hb ht inX6 hown hK hP 0 rfl rfl 11 (by decide) (ht _ wd1_85) (fun _ h9 => h9) rfl dX6_swing_1 ?_
  refine lv_iload_n hx hb dX6_swing_4 rfl (lv_at hl 1 rfl) ?_
  obtain ⟨h1, hf⟩ := inB_s hf
  refine va_iald (f := (Sw.2.1 7)) (n := 4) hx hb hK hP 1 0 rfl rfl h1 dX6_swing_5 ?_
  refine lv_iconst (v := (1 : Int32)) hx hb dX6_swing_6 rfl ?_
  refine lv_icmp_ne (tgt := 19) hx hb dX6_swing_7 (by decide) (fun c2 => ?_) (fun c2 => ?_)
  · have hf := itN c2 hf
    refine lv_aload_n hx hb dX6_swing_19 rfl (lv_at hl 0 rfl) ?_
    refine va_get (D := D) (ci := 5) (v := .ref (jaw 8)) (C := RX6) (T := TX6) (N := 15) hx hb ht inX6 hown hK hP 0 rfl rfl 12 (by decide) (ht _ wd1_88) (fun _ h9 => h9) rfl dX6_swing_20 ?_
    refine lv_iload_n hx hb dX6_swing_23 rfl (lv_at hl 1 rfl) ?_
    obtain ⟨h3, hf⟩ := inB_s hf
    refine va_iald (f := (Sw.2.1 8)) (n := 4) hx hb hK hP 2 0 rfl rfl h3 dX6_swing_24 ?_
    refine lv_ineg hx hb dX6_swing_25 ?_
    exact W.iret hx hb hr (fun t ht9 _ => ⟨_, rfl, Option.some.inj hf, ht9⟩) (fun _ h9 => by cases h9) dX6_swing_26
  · have hf := itP c2 hf
    refine lv_aload_n hx hb dX6_swing_10 rfl (lv_at hl 0 rfl) ?_
    refine va_get (D := D) (ci := 5) (v := .ref (jaw 8)) (C := RX6) (T := TX6) (N := 15) hx hb ht inX6 hown hK hP 0 rfl rfl 12 (by decide) (ht _ wd1_88) (fun _ h9 => h9) rfl dX6_swing_11 ?_
    refine lv_iload_n hx hb dX6_swing_14 rfl (lv_at hl 1 rfl) ?_
    obtain ⟨h4, hf⟩ := inB_s hf
    refine va_iald (f := (Sw.2.1 8)) (n := 4) hx hb hK hP 2 0 rfl rfl h4 dX6_swing_15 ?_
    refine lv_goto (tgt := 26) hx hb dX6_swing_16 (by decide) ?_
    exact W.iret hx hb hr (fun t ht9 _ => ⟨_, rfl, Option.some.inj hf, ht9⟩) (fun _ h9 => by cases h9) dX6_swing_26
abbrev wX3_carryOut (cI cZ : ClassId) (jhw : Nat) (jaw : Nat → Nat) (jhs : Nat) (jas : Nat → Nat) (Sw : Bk) (Ss : Bk) : va_W := [(jhw, .inr (5, [.int (Sw.1 0), .ref (jaw 0), .ref (jaw 1), .ref (jaw 2), .int (Sw.1 1), .ref (jaw 3), .ref (jaw 4), .ref (jaw 5), .int (Sw.1 2), .int (Sw.1 3), .ref (jaw 6), .ref (jaw 7), .ref (jaw 8), .ref (jaw 9), .ref (jaw 10)])), (jaw 2, .inl (cI, 4, .inl (Sw.2.1 2))), (jaw 6, .inl (cI, 4, .inl (Sw.2.1 6))), (jaw 7, .inl (cI, 4, .inl (Sw.2.1 7))), (jaw 8, .inl (cI, 4, .inl (Sw.2.1 8))), (jaw 9, .inl (cI, 4, .inl (Sw.2.1 9))), (jaw 10, .inl (cI, 4, .inl (Sw.2.1 10))), (jhs, .inr (2, [.ref jhw, .ref (jas 1), .ref (jas 2), .ref (jas 3), .int (Ss.1 0), .int (Ss.1 1), .int (Ss.1 2), .int (Ss.1 3)])), (jas 1, .inl (cI, 4, .inl (Ss.2.1 1))), (jas 2, .inl (cI, 4, .inl (Ss.2.1 2)))]
def gX3_carryOut_74 (Sw : Bk) (x1 : Int32) (Ss : Bk) (y1 : Int32) (y2 : Int32) : Option (Bk) := nmV (y1 + y2) (fun v1 => some (bI Ss 3 v1))
def fX3_carryOut (Sw : Bk) (Ss : Bk) (x1 : Int32) : Option (Bk) := inB 4 x1 (inB 4 x1 ((fX3_give Sw Ss ((Sw.2.1 9) x1.toNatClampNeg) ((Sw.2.1 10) x1.toNatClampNeg)).bind (fun u4 => nmV ((u4.1 1) ||| ((1 : Int32) <<< (x1 &&& 31))) (fun v6 => (fX6_swing Sw x1).bind (fun u7 => inB 4 x1 ((fX6_answer Sw ((Sw.2.1 6) x1.toNatClampNeg)).bind (fun u10 => (if u10 = (1 : Int32) then gX3_carryOut_74 Sw x1 (bI u4 1 v6) (u4.1 3) u7 else gX3_carryOut_74 Sw x1 (bI u4 1 v6) (u4.1 3) (-u7)))))))))
theorem miX3_carryOut : MI yX3_carryOut cX3_carryOut 3 none 1 := ⟨wd1_4, wd2_188, by decide +kernel⟩
theorem mjX3_carryOut : Cond.instanceMethod yX3_carryOut ∈ wT ∧ Cond.selects yX3_carryOut.cls yX3_carryOut yX3_carryOut ∈ wT := ⟨wd2_186, wd2_187⟩
set_option maxHeartbeats 4000000 in
set_option maxRecDepth 100000 in
theorem qX3_carryOut (l : Launch) (D : va_G) (cI cZ cO : ClassId) (jhw : Nat) (jaw : Nat → Nat) (jhs : Nat) (jas : Nat → Nat) (Sw : Bk) (Ss : Bk) (x1 : Int32) (sz : Nat) (res : Bk) (hf : fX3_carryOut Sw Ss x1 = some res) : Met l yX3_carryOut (Cond.code yX3_carryOut cX3_carryOut 3 none :: wT) (rmF 1 22) (va_Pc [.ref jhs, .int x1] (cW D (tyL cI cZ cO) (wX3_carryOut cI cZ jhw jaw jhs jas Sw Ss) sz)) (va_Qv (S := Unit) (fun _ => True) (fun _ => qW D (tyL cI cZ cO) (va_A (wX3_carryOut cI cZ jhw jaw jhs jas Sw Ss) sz) (wX3_carryOut cI cZ jhw jaw jhs jas Sw res)) (va_A (wX3_carryOut cI cZ jhw jaw jhs jas Sw Ss) sz)) 0 0 (va_A (wX3_carryOut cI cZ jhw jaw jhs jas Sw Ss) sz) := by
  refine met_w (by decide) (Nat.le_of_ble_eq_true rfl) ?_
  intro p e s m below meth c hx hb hr hml ht hown hlk ls hl hsz hP hK hD0 hZ
  subst hsz
  have hD := hD0.self (sz := s.heap.size)
  generalize hAe : va_A (wX3_carryOut cI cZ jhw jaw jhs jas Sw Ss) s.heap.size = A at hD hZ ⊢
  have hA : ∀ q : Nat, s.heap.size ≤ q → A q := fun q h => by rw [← hAe]; exact Or.inr h
  have hS : va_S A s.heap s.heap [] := va_S.rf
  have hown : s.vm.findClass "EyeDrink$Stand" = some m.cls := hown
  have hl : lv_has ls 3 [(0, .ref jhs), (1, .int x1)] := hl
  have hC : CallFix p m c cX3_carryOut 3 s ([.ref jhs, .int x1] : List Value).toArray wT "EyeDrink$Stand" := ⟨hx, hb, hml, hown, ht⟩
  unfold fX3_carryOut at hf
  suffices hgo : ∀ (H : Heap) (locs : List Loc), va_P D vwCl (wX3_carryOut cI cZ jhw jaw jhs jas Sw Ss) H → va_S A s.heap H locs → W p l e (rmF 1 22) s m ([.ref jhs, .int x1] : List Value).toArray below meth c H locs 0 0 (MQ below (va_Qv (S := Unit) (fun _ => True) (fun _ => qW D (tyL cI cZ cO) A (wX3_carryOut cI cZ jhw jaw jhs jas Sw res)) A) ([.ref jhs, .int x1] : List Value).toArray s 0 0 A) (F0 m 0 ls []) from hgo s.heap [] hP hS
  have hj74 : ∀ (Ss : Bk) (y1 : Int32) (y2 : Int32), gX3_carryOut_74 Sw x1 Ss y1 y2 = some res → ∀ (H : Heap) (locs : List Loc) (ls : Array Slot), va_P D vwCl (wX3_carryOut cI cZ jhw jaw jhs jas Sw Ss) H → va_D A (wX3_carryOut cI cZ jhw jaw jhs jas Sw Ss) → va_S A s.heap H locs → lv_has ls 3 [] → W p l e (rmF 1 22) s m ([.ref jhs, .int x1] : List Value).toArray below meth c H locs 0 0 (MQ below (va_Qv (S := Unit) (fun _ => True) (fun _ => qW D (tyL cI cZ cO) A (wX3_carryOut cI cZ jhw jaw jhs jas Sw res)) A) ([.ref jhs, .int x1] : List Value).toArray s 0 0 A) (F0 m 74 ls [.int y2, .int y1, .ref jhs]) := by
    intro Ss y1 y2 hf H locs ls hP hD hS hl
    unfold gX3_carryOut_74 at hf
    refine lv_iadd hx hb dX3_carryOut_74 ?_
    obtain ⟨v1, ev1, hf⟩ := nmV_s hf
    rw [← ev1]
    refine va_put (D := D) (ci := 2) (v := .int v1) (ty := .int) (C := RX3) (T := TX3) (N := 8) hx hb ht inX3 tyX3 tyX3_ok nmX3 hown hK hP hD hS 7 rfl rfl 7 (by decide) (ht _ wd1_149) (fun _ h9 => h9) rfl (tyX3_ok 7 (by decide)) rfl rfl (Nat.le_of_ble_eq_true rfl) dX3_carryOut_75 (fun H locs hP hD hS => ?_)
    have hP : va_P D vwCl (wX3_carryOut cI cZ jhw jaw jhs jas Sw (bI Ss 3 v1)) H := hP
    have hD : va_D A (wX3_carryOut cI cZ jhw jaw jhs jas Sw (bI Ss 3 v1)) := hD
    cases hf
    exact W.vret hx hb hr (fun t ht9 hW => ⟨⟨(), rfl, trivial, by rw [ht9]; exact hP, va_K.moved hW.alike hK, hD⟩, hS.F ht9⟩) hS.2.2 dX3_carryOut_78
  intro H locs hP hS
  refine lv_aload_n hx hb dX3_carryOut_0 rfl (lv_at hl 0 rfl) ?_
  refine lv_aload_n hx hb dX3_carryOut_1 rfl (lv_at hl 0 rfl) ?_
  refine va_get (D := D) (ci := 2) (v := .ref jhw) (C := RX3) (T := TX3) (N := 8) hx hb ht inX3 hown hK hP 7 rfl rfl 0 (by decide) (ht _ wd1_135) (fun _ h9 => h9) rfl dX3_carryOut_2 ?_
  refine va_get (D := D) (ci := 5) (v := .ref (jaw 9)) (C := RX6) (T := TX6) (N := 15) hx hb ht inX6 hown hK hP 0 rfl rfl 13 (by decide) (ht _ wd1_93) (fun _ h9 => h9) rfl dX3_carryOut_5 ?_
  refine lv_iload_n hx hb dX3_carryOut_8 rfl (lv_at hl 1 rfl) ?_
  obtain ⟨h2, hf⟩ := inB_s hf
  refine va_iald (f := (Sw.2.1 9)) (n := 4) hx hb hK hP 5 0 rfl rfl h2 dX3_carryOut_9 ?_
  refine lv_aload_n hx hb dX3_carryOut_10 rfl (lv_at hl 0 rfl) ?_
  refine va_get (D := D) (ci := 2) (v := .ref jhw) (C := RX3) (T := TX3) (N := 8) hx hb ht inX3 hown hK hP 7 rfl rfl 0 (by decide) (ht _ wd1_135) (fun _ h9 => h9) rfl dX3_carryOut_11 ?_
  refine va_get (D := D) (ci := 5) (v := .ref (jaw 10)) (C := RX6) (T := TX6) (N := 15) hx hb ht inX6 hown hK hP 0 rfl rfl 14 (by decide) (ht _ wd1_97) (fun _ h9 => h9) rfl dX3_carryOut_14 ?_
  refine lv_iload_n hx hb dX3_carryOut_17 rfl (lv_at hl 1 rfl) ?_
  obtain ⟨h3, hf⟩ := inB_s hf
  refine va_iald (f := (Sw.2.1 10)) (n := 4) hx hb hK hP 6 0 rfl rfl h3 dX3_carryOut_18 ?_
  obtain ⟨u4, e5, hf⟩ := bdS hf
  refine k_wVv (ws' := (wX3_carryOut cI cZ jhw jaw jhs jas Sw u4)) (wr := [(jaw 6, .inl (cI, 4, .inl (Sw.2.1 6))), (jaw 7, .inl (cI, 4, .inl (Sw.2.1 7))), (jaw 8, .inl (cI, 4, .inl (Sw.2.1 8))), (jaw 9, .inl (cI, 4, .inl (Sw.2.1 9))), (jaw 10, .inl (cI, 4, .inl (Sw.2.1 10)))]) (As := [.int ((Sw.2.1 9) x1.toNatClampNeg), .int ((Sw.2.1 10) x1.toNatClampNeg)]) (rest := []) hC miX3_give mjX3_give.1 mjX3_give.2 wd2_172 (qX3_give l D cI cZ cO jhw jaw jhs jas Sw Ss ((Sw.2.1 9) x1.toNatClampNeg) ((Sw.2.1 10) x1.toNatClampNeg) H.size u4 e5) ⟨Nat.le_of_ble_eq_true rfl, Nat.le_of_ble_eq_true rfl⟩ hP hD hK hZ hS hA [0, 1, 7, 8, 9] [2, 3, 4, 5, 6] [5, 6, 0, 1, 2, 3, 4, 7, 8, 9] rfl (by decide) rfl (by decide) (by decide) (by decide) rfl (va_recv hK hP (ci := 2) (q0 := 7) rfl rfl) hl.1 rfl rfl (Nat.le_of_ble_eq_true rfl) dX3_carryOut_19 (fun H locs hP hD hS => ?_)
  refine lv_aload_n hx hb dX3_carryOut_22 rfl (lv_at hl 0 rfl) ?_
  refine lv_dup hx hb dX3_carryOut_23 rfl ?_
  refine va_get (D := D) (ci := 2) (v := .int (u4.1 1)) (C := RX3) (T := TX3) (N := 8) hx hb ht inX3 hown hK hP 7 rfl rfl 5 (by decide) (ht _ wd1_144) (fun _ h9 => h9) rfl dX3_carryOut_24 ?_
  refine lv_iconst (v := (1 : Int32)) hx hb dX3_carryOut_27 rfl ?_
  refine lv_iload_n hx hb dX3_carryOut_28 rfl (lv_at hl 1 rfl) ?_
  refine lv_ishl hx hb dX3_carryOut_29 ?_
  refine lv_ior hx hb dX3_carryOut_30 ?_
  obtain ⟨v6, ev6, hf⟩ := nmV_s hf
  rw [← ev6]
  refine va_put (D := D) (ci := 2) (v := .int v6) (ty := .int) (C := RX3) (T := TX3) (N := 8) hx hb ht inX3 tyX3 tyX3_ok nmX3 hown hK hP hD hS 7 rfl rfl 5 (by decide) (ht _ wd1_144) (fun _ h9 => h9) rfl (tyX3_ok 5 (by decide)) rfl rfl (Nat.le_of_ble_eq_true rfl) dX3_carryOut_31 (fun H locs hP hD hS => ?_)
  have hP : va_P D vwCl (wX3_carryOut cI cZ jhw jaw jhs jas Sw (bI u4 1 v6)) H := hP
  have hD : va_D A (wX3_carryOut cI cZ jhw jaw jhs jas Sw (bI u4 1 v6)) := hD
  refine lv_aload_n hx hb dX3_carryOut_34 rfl (lv_at hl 0 rfl) ?_
  refine va_get (D := D) (ci := 2) (v := .ref jhw) (C := RX3) (T := TX3) (N := 8) hx hb ht inX3 hown hK hP 7 rfl rfl 0 (by decide) (ht _ wd1_135) (fun _ h9 => h9) rfl dX3_carryOut_35 ?_
  refine lv_iload_n hx hb dX3_carryOut_38 rfl (lv_at hl 1 rfl) ?_
  obtain ⟨u7, e8, hf⟩ := bdS hf
  refine k_rV (As := [.int x1]) (rest := []) hC miX6_swing mjX6_swing.1 mjX6_swing.2 wd2_189 (qX6_swing l D cI cZ cO jhw jaw Sw x1 u7 e8) ⟨Nat.le_of_ble_eq_true rfl, Nat.le_of_ble_eq_true rfl⟩ (hP.sub [0, 3, 4] rfl) hK hZ hS (va_recv hK hP (ci := 5) (q0 := 0) rfl rfl) hl.1 rfl rfl (Nat.le_of_ble_eq_true rfl) dX3_carryOut_39 ?_
  refine lv_istore_n (lv' := [(2, .int u7), (0, .ref jhs), (1, .int x1)]) hx hb dX3_carryOut_42 rfl hl (by decide) rfl (fun ls hl => ?_)
  refine lv_aload_n hx hb dX3_carryOut_43 rfl (lv_at hl 1 rfl) ?_
  refine lv_dup hx hb dX3_carryOut_44 rfl ?_
  refine va_get (D := D) (ci := 2) (v := .int (u4.1 3)) (C := RX3) (T := TX3) (N := 8) hx hb ht inX3 hown hK hP 7 rfl rfl 7 (by decide) (ht _ wd1_149) (fun _ h9 => h9) rfl dX3_carryOut_45 ?_
  refine lv_aload_n hx hb dX3_carryOut_48 rfl (lv_at hl 1 rfl) ?_
  refine va_get (D := D) (ci := 2) (v := .ref jhw) (C := RX3) (T := TX3) (N := 8) hx hb ht inX3 hown hK hP 7 rfl rfl 0 (by decide) (ht _ wd1_135) (fun _ h9 => h9) rfl dX3_carryOut_49 ?_
  refine lv_aload_n hx hb dX3_carryOut_52 rfl (lv_at hl 1 rfl) ?_
  refine va_get (D := D) (ci := 2) (v := .ref jhw) (C := RX3) (T := TX3) (N := 8) hx hb ht inX3 hown hK hP 7 rfl rfl 0 (by decide) (ht _ wd1_135) (fun _ h9 => h9) rfl dX3_carryOut_53 ?_
  refine va_get (D := D) (ci := 5) (v := .ref (jaw 6)) (C := RX6) (T := TX6) (N := 15) hx hb ht inX6 hown hK hP 0 rfl rfl 10 (by decide) (ht _ wd1_84) (fun _ h9 => h9) rfl dX3_carryOut_56 ?_
  refine lv_iload_n hx hb dX3_carryOut_59 rfl (lv_at hl 2 rfl) ?_
  obtain ⟨h9, hf⟩ := inB_s hf
  refine va_iald (f := (Sw.2.1 6)) (n := 4) hx hb hK hP 2 0 rfl rfl h9 dX3_carryOut_60 ?_
  obtain ⟨u10, e11, hf⟩ := bdS hf
  refine k_rV (As := [.int ((Sw.2.1 6) x1.toNatClampNeg)]) (rest := [.int (u4.1 3), .ref jhs]) hC miX6_answer mjX6_answer.1 mjX6_answer.2 wd2_193 (qX6_answer l D cI cZ cO jhw jaw Sw ((Sw.2.1 6) x1.toNatClampNeg) u10 e11) ⟨Nat.le_of_ble_eq_true rfl, Nat.le_of_ble_eq_true rfl⟩ (hP.sub [0] rfl) hK hZ hS (va_recv hK hP (ci := 5) (q0 := 0) rfl rfl) hl.1 rfl rfl (Nat.le_of_ble_eq_true rfl) dX3_carryOut_61 ?_
  refine lv_iconst (v := (1 : Int32)) hx hb dX3_carryOut_64 rfl ?_
  refine lv_icmp_ne (tgt := 72) hx hb dX3_carryOut_65 (by decide) (fun c12 => ?_) (fun c12 => ?_)
  · have hf := itN c12 hf
    refine lv_iload_n hx hb dX3_carryOut_72 rfl (lv_at hl 0 rfl) ?_
    refine lv_ineg hx hb dX3_carryOut_73 ?_
    exact hj74 (bI u4 1 v6) (u4.1 3) (-u7) hf _ _ _ hP hD hS (lv_sub hl [] rfl)
  · have hf := itP c12 hf
    refine lv_iload_n hx hb dX3_carryOut_68 rfl (lv_at hl 0 rfl) ?_
    refine lv_goto (tgt := 74) hx hb dX3_carryOut_69 (by decide) ?_
    exact hj74 (bI u4 1 v6) (u4.1 3) u7 hf _ _ _ hP hD hS (lv_sub hl [] rfl)
abbrev wX3_tryChoice (cI cZ : ClassId) (jhw : Nat) (jaw : Nat → Nat) (jhs : Nat) (jas : Nat → Nat) (Sw : Bk) (Ss : Bk) : va_W := [(jhw, .inr (5, [.int (Sw.1 0), .ref (jaw 0), .ref (jaw 1), .ref (jaw 2), .int (Sw.1 1), .ref (jaw 3), .ref (jaw 4), .ref (jaw 5), .int (Sw.1 2), .int (Sw.1 3), .ref (jaw 6), .ref (jaw 7), .ref (jaw 8), .ref (jaw 9), .ref (jaw 10)])), (jaw 2, .inl (cI, 4, .inl (Sw.2.1 2))), (jaw 3, .inl (cI, 4, .inl (Sw.2.1 3))), (jaw 4, .inl (cI, 4, .inl (Sw.2.1 4))), (jaw 6, .inl (cI, 4, .inl (Sw.2.1 6))), (jaw 7, .inl (cI, 4, .inl (Sw.2.1 7))), (jaw 8, .inl (cI, 4, .inl (Sw.2.1 8))), (jaw 9, .inl (cI, 4, .inl (Sw.2.1 9))), (jaw 10, .inl (cI, 4, .inl (Sw.2.1 10))), (jhs, .inr (2, [.ref jhw, .ref (jas 1), .ref (jas 2), .ref (jas 3), .int (Ss.1 0), .int (Ss.1 1), .int (Ss.1 2), .int (Ss.1 3)])), (jas 1, .inl (cI, 4, .inl (Ss.2.1 1))), (jas 2, .inl (cI, 4, .inl (Ss.2.1 2)))]
def fX3_tryChoice (Sw : Bk) (Ss : Bk) (x1 : Int32) : Option (Bk) := (if (4 : Int32) ≤ x1 then (fX3_refusalToDo Sw Ss (x1 - (4 : Int32))).bind (fun u2 => (if u2 = 0 then (fX3_carryOut Sw Ss (x1 - (4 : Int32))).bind (fun u5 => some u5) else some Ss)) else (fX3_refusalToDrink Sw Ss x1).bind (fun u7 => (if u7 = 0 then (fX3_drinkUp Sw Ss x1).bind (fun u10 => some u10) else some Ss)))
theorem miX3_tryChoice : MI yX3_tryChoice cX3_tryChoice 2 none 1 := ⟨wd1_4, wd3_168, by decide +kernel⟩
theorem mjX3_tryChoice : Cond.instanceMethod yX3_tryChoice ∈ wT ∧ Cond.selects yX3_tryChoice.cls yX3_tryChoice yX3_tryChoice ∈ wT := ⟨wd3_166, wd3_167⟩
set_option maxHeartbeats 4000000 in
set_option maxRecDepth 100000 in
theorem qX3_tryChoice (l : Launch) (D : va_G) (cI cZ cO : ClassId) (jhw : Nat) (jaw : Nat → Nat) (jhs : Nat) (jas : Nat → Nat) (Sw : Bk) (Ss : Bk) (x1 : Int32) (sz : Nat) (res : Bk) (hf : fX3_tryChoice Sw Ss x1 = some res) : Met l yX3_tryChoice (Cond.code yX3_tryChoice cX3_tryChoice 2 none :: wT) (rmF 2 44) (va_Pc [.ref jhs, .int x1] (cW D (tyL cI cZ cO) (wX3_tryChoice cI cZ jhw jaw jhs jas Sw Ss) sz)) (va_Qv (S := Unit) (fun _ => True) (fun _ => qW D (tyL cI cZ cO) (va_A (wX3_tryChoice cI cZ jhw jaw jhs jas Sw Ss) sz) (wX3_tryChoice cI cZ jhw jaw jhs jas Sw res)) (va_A (wX3_tryChoice cI cZ jhw jaw jhs jas Sw Ss) sz)) 0 0 (va_A (wX3_tryChoice cI cZ jhw jaw jhs jas Sw Ss) sz) := by
  refine met_w (by decide) (Nat.le_of_ble_eq_true rfl) ?_
  intro p e s m below meth c hx hb hr hml ht hown hlk ls hl hsz hP hK hD0 hZ
  subst hsz
  have hD := hD0.self (sz := s.heap.size)
  generalize hAe : va_A (wX3_tryChoice cI cZ jhw jaw jhs jas Sw Ss) s.heap.size = A at hD hZ ⊢
  have hA : ∀ q : Nat, s.heap.size ≤ q → A q := fun q h => by rw [← hAe]; exact Or.inr h
  have hS : va_S A s.heap s.heap [] := va_S.rf
  have hown : s.vm.findClass "EyeDrink$Stand" = some m.cls := hown
  have hl : lv_has ls 2 [(0, .ref jhs), (1, .int x1)] := hl
  have hC : CallFix p m c cX3_tryChoice 2 s ([.ref jhs, .int x1] : List Value).toArray wT "EyeDrink$Stand" := ⟨hx, hb, hml, hown, ht⟩
  unfold fX3_tryChoice at hf
  suffices hgo : ∀ (H : Heap) (locs : List Loc), va_P D vwCl (wX3_tryChoice cI cZ jhw jaw jhs jas Sw Ss) H → va_S A s.heap H locs → W p l e (rmF 2 44) s m ([.ref jhs, .int x1] : List Value).toArray below meth c H locs 0 0 (MQ below (va_Qv (S := Unit) (fun _ => True) (fun _ => qW D (tyL cI cZ cO) A (wX3_tryChoice cI cZ jhw jaw jhs jas Sw res)) A) ([.ref jhs, .int x1] : List Value).toArray s 0 0 A) (F0 m 0 ls []) from hgo s.heap [] hP hS
  intro H locs hP hS
  refine lv_iload_n hx hb dX3_tryChoice_0 rfl (lv_at hl 1 rfl) ?_
  refine lv_iconst (v := (4 : Int32)) hx hb dX3_tryChoice_1 rfl ?_
  refine lv_icmp_ge (tgt := 21) hx hb dX3_tryChoice_2 (by decide) (fun c1 => ?_) (fun c1 => ?_)
  · have hf := itP c1 hf
    refine lv_aload_n hx hb dX3_tryChoice_21 rfl (lv_at hl 0 rfl) ?_
    refine lv_iload_n hx hb dX3_tryChoice_22 rfl (lv_at hl 1 rfl) ?_
    refine lv_iconst (v := (4 : Int32)) hx hb dX3_tryChoice_23 rfl ?_
    refine lv_isub hx hb dX3_tryChoice_24 ?_
    obtain ⟨u2, e3, hf⟩ := bdS hf
    refine k_rV (As := [.int (x1 - (4 : Int32))]) (rest := []) hC miX3_refusalToDo mjX3_refusalToDo.1 mjX3_refusalToDo.2 wd2_226 (qX3_refusalToDo l D cI cZ cO jhw jaw jhs jas Sw Ss (x1 - (4 : Int32)) u2 e3) ⟨Nat.le_of_ble_eq_true rfl, Nat.le_of_ble_eq_true rfl⟩ (hP.sub [0, 7, 8, 9, 10] rfl) hK hZ hS (va_recv hK hP (ci := 2) (q0 := 9) rfl rfl) hl.1 rfl rfl (Nat.le_of_ble_eq_true rfl) dX3_tryChoice_25 ?_
    refine lv_if_ne (tgt := 38) hx hb dX3_tryChoice_28 (by decide) (fun c4 => ?_) (fun c4 => ?_)
    · have hf := itN c4 hf
      cases hf
      exact W.vret hx hb hr (fun t ht9 hW => ⟨⟨(), rfl, trivial, by rw [ht9]; exact hP, va_K.moved hW.alike hK, hD⟩, hS.F ht9⟩) hS.2.2 dX3_tryChoice_38
    · have hf := itP c4 hf
      refine lv_aload_n hx hb dX3_tryChoice_31 rfl (lv_at hl 0 rfl) ?_
      refine lv_iload_n hx hb dX3_tryChoice_32 rfl (lv_at hl 1 rfl) ?_
      refine lv_iconst (v := (4 : Int32)) hx hb dX3_tryChoice_33 rfl ?_
      refine lv_isub hx hb dX3_tryChoice_34 ?_
      obtain ⟨u5, e6, hf⟩ := bdS hf
      refine k_wVv (ws' := (wX3_tryChoice cI cZ jhw jaw jhs jas Sw u5)) (wr := [(jaw 3, .inl (cI, 4, .inl (Sw.2.1 3))), (jaw 4, .inl (cI, 4, .inl (Sw.2.1 4)))]) (As := [.int (x1 - (4 : Int32))]) (rest := []) hC miX3_carryOut mjX3_carryOut.1 mjX3_carryOut.2 wd3_170 (qX3_carryOut l D cI cZ cO jhw jaw jhs jas Sw Ss (x1 - (4 : Int32)) H.size u5 e6) ⟨Nat.le_of_ble_eq_true rfl, Nat.le_of_ble_eq_true rfl⟩ hP hD hK hZ hS hA [0, 1, 4, 5, 6, 7, 8, 9, 10, 11] [2, 3] [2, 3, 0, 1, 4, 5, 6, 7, 8, 9, 10, 11] rfl (by decide) rfl (by decide) (by decide) (by decide) rfl (va_recv hK hP (ci := 2) (q0 := 9) rfl rfl) hl.1 rfl rfl (Nat.le_of_ble_eq_true rfl) dX3_tryChoice_35 (fun H locs hP hD hS => ?_)
      cases hf
      exact W.vret hx hb hr (fun t ht9 hW => ⟨⟨(), rfl, trivial, by rw [ht9]; exact hP, va_K.moved hW.alike hK, hD⟩, hS.F ht9⟩) hS.2.2 dX3_tryChoice_38
  · have hf := itN c1 hf
    refine lv_aload_n hx hb dX3_tryChoice_5 rfl (lv_at hl 0 rfl) ?_
    refine lv_iload_n hx hb dX3_tryChoice_6 rfl (lv_at hl 1 rfl) ?_
    obtain ⟨u7, e8, hf⟩ := bdS hf
    refine k_rV (As := [.int x1]) (rest := []) hC miX3_refusalToDrink mjX3_refusalToDrink.1 mjX3_refusalToDrink.2 wd2_221 (qX3_refusalToDrink l D cI cZ cO jhw jaw jhs jas Sw Ss x1 u7 e8) ⟨Nat.le_of_ble_eq_true rfl, Nat.le_of_ble_eq_true rfl⟩ (hP.sub [0, 2, 3, 9, 10] rfl) hK hZ hS (va_recv hK hP (ci := 2) (q0 := 9) rfl rfl) hl.1 rfl rfl (Nat.le_of_ble_eq_true rfl) dX3_tryChoice_7 ?_
    refine lv_if_ne (tgt := 38) hx hb dX3_tryChoice_10 (by decide) (fun c9 => ?_) (fun c9 => ?_)
    · have hf := itN c9 hf
      cases hf
      exact W.vret hx hb hr (fun t ht9 hW => ⟨⟨(), rfl, trivial, by rw [ht9]; exact hP, va_K.moved hW.alike hK, hD⟩, hS.F ht9⟩) hS.2.2 dX3_tryChoice_38
    · have hf := itP c9 hf
      refine lv_aload_n hx hb dX3_tryChoice_13 rfl (lv_at hl 0 rfl) ?_
      refine lv_iload_n hx hb dX3_tryChoice_14 rfl (lv_at hl 1 rfl) ?_
      obtain ⟨u10, e11, hf⟩ := bdS hf
      refine k_wVv (ws' := (wX3_tryChoice cI cZ jhw jaw jhs jas Sw u10)) (wr := [(jaw 6, .inl (cI, 4, .inl (Sw.2.1 6))), (jaw 7, .inl (cI, 4, .inl (Sw.2.1 7))), (jaw 8, .inl (cI, 4, .inl (Sw.2.1 8))), (jaw 9, .inl (cI, 4, .inl (Sw.2.1 9))), (jaw 10, .inl (cI, 4, .inl (Sw.2.1 10)))]) (As := [.int x1]) (rest := []) hC miX3_drinkUp mjX3_drinkUp.1 mjX3_drinkUp.2 wd3_169 (qX3_drinkUp l D cI cZ cO jhw jaw jhs jas Sw Ss x1 H.size u10 e11) ⟨Nat.le_of_ble_eq_true rfl, Nat.le_of_ble_eq_true rfl⟩ hP hD hK hZ hS hA [0, 1, 2, 3, 9, 10, 11] [4, 5, 6, 7, 8] [5, 6, 7, 8, 0, 1, 2, 3, 4, 9, 10, 11] rfl (by decide) rfl (by decide) (by decide) (by decide) rfl (va_recv hK hP (ci := 2) (q0 := 9) rfl rfl) hl.1 rfl rfl (Nat.le_of_ble_eq_true rfl) dX3_tryChoice_15 (fun H locs hP hD hS => ?_)
      refine lv_goto (tgt := 38) hx hb dX3_tryChoice_18 (by decide) ?_
      cases hf
      exact W.vret hx hb hr (fun t ht9 hW => ⟨⟨(), rfl, trivial, by rw [ht9]; exact hP, va_K.moved hW.alike hK, hD⟩, hS.F ht9⟩) hS.2.2 dX3_tryChoice_38
abbrev wX3_passDay (cI cZ : ClassId) (jhw : Nat) (jaw : Nat → Nat) (jhs : Nat) (jas : Nat → Nat) (Sw : Bk) (Ss : Bk) : va_W := [(jhw, .inr (5, [.int (Sw.1 0), .ref (jaw 0), .ref (jaw 1), .ref (jaw 2), .int (Sw.1 1), .ref (jaw 3), .ref (jaw 4), .ref (jaw 5), .int (Sw.1 2), .int (Sw.1 3), .ref (jaw 6), .ref (jaw 7), .ref (jaw 8), .ref (jaw 9), .ref (jaw 10)])), (jaw 2, .inl (cI, 4, .inl (Sw.2.1 2))), (jhs, .inr (2, [.ref jhw, .ref (jas 1), .ref (jas 2), .ref (jas 3), .int (Ss.1 0), .int (Ss.1 1), .int (Ss.1 2), .int (Ss.1 3)])), (jas 1, .inl (cI, 4, .inl (Ss.2.1 1))), (jas 2, .inl (cI, 4, .inl (Ss.2.1 2))), (jas 3, .inl (cI, 4, .inl (Ss.2.1 3)))]
def gX3_passDay_38 (Sw : Bk) (k4 : Int32 → Int32 → Bk → Option (Int32 × Bk)) (x1 : Int32) (x2 : Int32) (Ss : Bk) (y0 : Int32) : Option (Int32 × Bk) := inB 4 x2 (inB 4 x2 (nmV (((Ss.2.1 1) x2.toNatClampNeg) + (if ((9 : Int32) - ((Ss.2.1 1) x2.toNatClampNeg)) < y0 then ((9 : Int32) - ((Ss.2.1 1) x2.toNatClampNeg)) else y0)) (fun v3 => inB 4 x2 (nmV x2.toNatClampNeg (fun j5 => inB 4 x2 (nmV ((Ss.2.1 2) x2.toNatClampNeg) (fun v7 => inB 4 x2 (nmV x2.toNatClampNeg (fun j9 => inB 4 x2 (nmV x2.toNatClampNeg (fun j11 => k4 (x1 + (if ((9 : Int32) - ((Ss.2.1 1) x2.toNatClampNeg)) < y0 then ((9 : Int32) - ((Ss.2.1 1) x2.toNatClampNeg)) else y0)) (x2 + (1 : Int32)) (bW (bW (bW Ss 1 j5 v3) 3 j9 v7) 2 j11 (0 : Int32)))))))))))))
def sX3_passDay_4 (Sw : Bk) (k4 : Int32 → Int32 → Bk → Option (Int32 × Bk)) (x1 : Int32) (x2 : Int32) (Ss : Bk) : Option (Int32 × Bk) := (if (Sw.1 0) ≤ x2 then nmV ((Ss.1 2) + (1 : Int32)) (fun v13 => some (x1, (bI Ss 2 v13))) else inB 4 x2 ((if ((Sw.2.1 2) x2.toNatClampNeg) = (2 : Int32) then gX3_passDay_38 Sw k4 x1 x2 Ss (1 : Int32) else inB 4 x2 (gX3_passDay_38 Sw k4 x1 x2 Ss ((Ss.2.1 3) x2.toNatClampNeg)))))
def fX3_passDay (Sw : Bk) (Ss : Bk) : Option (Int32 × Bk) := lk3 (sX3_passDay_4 Sw) 1000 (0 : Int32) (0 : Int32) Ss
theorem miX3_passDay : MI yX3_passDay cX3_passDay 4 (some .int) 0 := ⟨wd1_4, wd2_201, by decide +kernel⟩
theorem mjX3_passDay : Cond.instanceMethod yX3_passDay ∈ wT ∧ Cond.selects yX3_passDay.cls yX3_passDay yX3_passDay ∈ wT := ⟨wd2_199, wd2_200⟩
set_option maxHeartbeats 4000000 in
set_option maxRecDepth 100000 in
theorem qX3_passDay (l : Launch) (D : va_G) (cI cZ cO : ClassId) (jhw : Nat) (jaw : Nat → Nat) (jhs : Nat) (jas : Nat → Nat) (Sw : Bk) (Ss : Bk) (sz : Nat) (res : Int32 × Bk) (hf : fX3_passDay Sw Ss = some res) : Met l yX3_passDay (Cond.code yX3_passDay cX3_passDay 4 (some .int) :: wT) (rmF 1 21) (va_Pc [.ref jhs] (cW D (tyL cI cZ cO) (wX3_passDay cI cZ jhw jaw jhs jas Sw Ss) sz)) (va_Qi (S := Unit) (fun r _ => r = res.1) (fun _ => qW D (tyL cI cZ cO) (va_A (wX3_passDay cI cZ jhw jaw jhs jas Sw Ss) sz) (wX3_passDay cI cZ jhw jaw jhs jas Sw res.2)) (va_A (wX3_passDay cI cZ jhw jaw jhs jas Sw Ss) sz)) 0 0 (va_A (wX3_passDay cI cZ jhw jaw jhs jas Sw Ss) sz) := by
  refine met_w (by decide) (Nat.le_of_ble_eq_true rfl) ?_
  intro p e s m below meth c hx hb hr hml ht hown hlk ls hl hsz hP hK hD0 hZ
  subst hsz
  have hD := hD0.self (sz := s.heap.size)
  generalize hAe : va_A (wX3_passDay cI cZ jhw jaw jhs jas Sw Ss) s.heap.size = A at hD hZ ⊢
  have hA : ∀ q : Nat, s.heap.size ≤ q → A q := fun q h => by rw [← hAe]; exact Or.inr h
  have hS : va_S A s.heap s.heap [] := va_S.rf
  have hown : s.vm.findClass "EyeDrink$Stand" = some m.cls := hown
  have hl : lv_has ls 4 [(0, .ref jhs)] := hl
  unfold fX3_passDay at hf
  suffices hgo : ∀ (H : Heap) (locs : List Loc), va_P D vwCl (wX3_passDay cI cZ jhw jaw jhs jas Sw Ss) H → va_S A s.heap H locs → W p l e (rmF 1 21) s m ([.ref jhs] : List Value).toArray below meth c H locs 0 0 (MQ below (va_Qi (S := Unit) (fun r _ => r = res.1) (fun _ => qW D (tyL cI cZ cO) A (wX3_passDay cI cZ jhw jaw jhs jas Sw res.2)) A) ([.ref jhs] : List Value).toArray s 0 0 A) (F0 m 0 ls []) from hgo s.heap [] hP hS
  have hj4 : ∀ (x1 : Int32) (x2 : Int32) (Ss : Bk), lk3 (sX3_passDay_4 Sw) 1000 x1 x2 Ss = some res → ∀ (H : Heap) (locs : List Loc) (ls : Array Slot), va_P D vwCl (wX3_passDay cI cZ jhw jaw jhs jas Sw Ss) H → va_D A (wX3_passDay cI cZ jhw jaw jhs jas Sw Ss) → va_S A s.heap H locs → lv_has ls 4 [(0, .ref jhs), (1, .int x1), (2, .int x2)] → W p l e (rmF 1 21) s m ([.ref jhs] : List Value).toArray below meth c H locs 0 0 (MQ below (va_Qi (S := Unit) (fun r _ => r = res.1) (fun _ => qW D (tyL cI cZ cO) A (wX3_passDay cI cZ jhw jaw jhs jas Sw res.2)) A) ([.ref jhs] : List Value).toArray s 0 0 A) (F0 m 4 ls []) := by
    refine lk3_w (fun (x1 : Int32) (x2 : Int32) (Ss : Bk) => ∀ (H : Heap) (locs : List Loc) (ls : Array Slot), va_P D vwCl (wX3_passDay cI cZ jhw jaw jhs jas Sw Ss) H → va_D A (wX3_passDay cI cZ jhw jaw jhs jas Sw Ss) → va_S A s.heap H locs → lv_has ls 4 [(0, .ref jhs), (1, .int x1), (2, .int x2)] → W p l e (rmF 1 21) s m ([.ref jhs] : List Value).toArray below meth c H locs 0 0 (MQ below (va_Qi (S := Unit) (fun r _ => r = res.1) (fun _ => qW D (tyL cI cZ cO) A (wX3_passDay cI cZ jhw jaw jhs jas Sw res.2)) A) ([.ref jhs] : List Value).toArray s 0 0 A) (F0 m 4 ls [])) ?_ 1000
    intro k4 hk4 x1 x2 Ss hf H locs ls hP hD hS hl
    unfold sX3_passDay_4 at hf
    have hj38 : ∀ (x1 : Int32) (x2 : Int32) (Ss : Bk) (y0 : Int32), gX3_passDay_38 Sw k4 x1 x2 Ss y0 = some res → ∀ (H : Heap) (locs : List Loc) (ls : Array Slot), va_P D vwCl (wX3_passDay cI cZ jhw jaw jhs jas Sw Ss) H → va_D A (wX3_passDay cI cZ jhw jaw jhs jas Sw Ss) → va_S A s.heap H locs → lv_has ls 4 [(0, .ref jhs), (1, .int x1), (2, .int x2)] → W p l e (rmF 1 21) s m ([.ref jhs] : List Value).toArray below meth c H locs 0 0 (MQ below (va_Qi (S := Unit) (fun r _ => r = res.1) (fun _ => qW D (tyL cI cZ cO) A (wX3_passDay cI cZ jhw jaw jhs jas Sw res.2)) A) ([.ref jhs] : List Value).toArray s 0 0 A) (F0 m 38 ls [.int y0]) := by
      intro x1 x2 Ss y0 hf H locs ls hP hD hS hl
      unfold gX3_passDay_38 at hf
      refine lv_istore_n (lv' := [(3, .int y0), (0, .ref jhs), (1, .int x1), (2, .int x2)]) hx hb dX3_passDay_38 rfl hl (by decide) rfl (fun ls hl => ?_)
      refine lv_iload_n hx hb dX3_passDay_39 rfl (lv_at hl 0 rfl) ?_
      refine lv_bipush (v := (9 : Int32)) hx hb dX3_passDay_40 rfl ?_
      refine lv_aload_n hx hb dX3_passDay_42 rfl (lv_at hl 1 rfl) ?_
      refine va_get (D := D) (ci := 2) (v := .ref (jas 1)) (C := RX3) (T := TX3) (N := 8) hx hb ht inX3 hown hK hP 2 rfl rfl 1 (by decide) (ht _ wd1_136) (fun _ h9 => h9) rfl dX3_passDay_43 ?_
      refine lv_iload_n hx hb dX3_passDay_46 rfl (lv_at hl 3 rfl) ?_
      obtain ⟨h1, hf⟩ := inB_s hf
      refine va_iald (f := (Ss.2.1 1)) (n := 4) hx hb hK hP 3 0 rfl rfl h1 dX3_passDay_47 ?_
      refine lv_isub hx hb dX3_passDay_48 ?_
      refine va_mmin hx hb (hml.trans hl.1.symm) hown (ht _ wd2_202) (ht _ wd2_203) (ht _ wd1_11) (ht _ wd2_204) (Nat.le_of_ble_eq_true rfl) (Nat.le_of_ble_eq_true rfl) (Nat.zero_le _) (Nat.zero_le _) dX3_passDay_49 ?_
      refine lv_istore_n (lv' := [(3, .int (if ((9 : Int32) - ((Ss.2.1 1) x2.toNatClampNeg)) < y0 then ((9 : Int32) - ((Ss.2.1 1) x2.toNatClampNeg)) else y0)), (0, .ref jhs), (1, .int x1), (2, .int x2)]) hx hb dX3_passDay_52 rfl hl (by decide) rfl (fun ls hl => ?_)
      refine lv_aload_n hx hb dX3_passDay_53 rfl (lv_at hl 1 rfl) ?_
      refine va_get (D := D) (ci := 2) (v := .ref (jas 1)) (C := RX3) (T := TX3) (N := 8) hx hb ht inX3 hown hK hP 2 rfl rfl 1 (by decide) (ht _ wd1_136) (fun _ h9 => h9) rfl dX3_passDay_54 ?_
      refine lv_iload_n hx hb dX3_passDay_57 rfl (lv_at hl 3 rfl) ?_
      refine lv_dup2_11 hx hb dX3_passDay_58 rfl rfl ?_
      obtain ⟨h2, hf⟩ := inB_s hf
      refine va_iald (f := (Ss.2.1 1)) (n := 4) hx hb hK hP 3 0 rfl rfl h2 dX3_passDay_59 ?_
      refine lv_iload_n hx hb dX3_passDay_60 rfl (lv_at hl 0 rfl) ?_
      refine lv_iadd hx hb dX3_passDay_61 ?_
      obtain ⟨v3, ev3, hf⟩ := nmV_s hf
      rw [← ev3]
      obtain ⟨h4, hf⟩ := inB_s hf
      obtain ⟨j5, ej5, hf⟩ := nmV_s hf
      refine va_iast (f := (Ss.2.1 1)) (n := 4) hx hb hK hP hD hS 3 0 rfl rfl h4 dX3_passDay_62 (fun H locs hP hD hS => ?_)
      rw [← ej5] at hP hD
      have hP : va_P D vwCl (wX3_passDay cI cZ jhw jaw jhs jas Sw (bW Ss 1 j5 v3)) H := hP
      have hD : va_D A (wX3_passDay cI cZ jhw jaw jhs jas Sw (bW Ss 1 j5 v3)) := hD
      refine lv_iload_n hx hb dX3_passDay_63 rfl (lv_at hl 2 rfl) ?_
      refine lv_iload_n hx hb dX3_passDay_64 rfl (lv_at hl 0 rfl) ?_
      refine lv_iadd hx hb dX3_passDay_65 ?_
      refine lv_istore_n (lv' := [(1, .int (x1 + (if ((9 : Int32) - ((Ss.2.1 1) x2.toNatClampNeg)) < y0 then ((9 : Int32) - ((Ss.2.1 1) x2.toNatClampNeg)) else y0))), (3, .int (if ((9 : Int32) - ((Ss.2.1 1) x2.toNatClampNeg)) < y0 then ((9 : Int32) - ((Ss.2.1 1) x2.toNatClampNeg)) else y0)), (0, .ref jhs), (2, .int x2)]) hx hb dX3_passDay_66 rfl hl (by decide) rfl (fun ls hl => ?_)
      refine lv_aload_n hx hb dX3_passDay_67 rfl (lv_at hl 2 rfl) ?_
      refine va_get (D := D) (ci := 2) (v := .ref (jas 3)) (C := RX3) (T := TX3) (N := 8) hx hb ht inX3 hown hK hP 2 rfl rfl 3 (by decide) (ht _ wd1_140) (fun _ h9 => h9) rfl dX3_passDay_68 ?_
      refine lv_iload_n hx hb dX3_passDay_71 rfl (lv_at hl 3 rfl) ?_
      refine lv_aload_n hx hb dX3_passDay_72 rfl (lv_at hl 2 rfl) ?_
      refine va_get (D := D) (ci := 2) (v := .ref (jas 2)) (C := RX3) (T := TX3) (N := 8) hx hb ht inX3 hown hK hP 2 rfl rfl 2 (by decide) (ht _ wd1_139) (fun _ h9 => h9) rfl dX3_passDay_73 ?_
      refine lv_iload_n hx hb dX3_passDay_76 rfl (lv_at hl 3 rfl) ?_
      obtain ⟨h6, hf⟩ := inB_s hf
      refine va_iald (f := (Ss.2.1 2)) (n := 4) hx hb hK hP 4 0 rfl rfl h6 dX3_passDay_77 ?_
      obtain ⟨v7, ev7, hf⟩ := nmV_s hf
      rw [← ev7]
      obtain ⟨h8, hf⟩ := inB_s hf
      obtain ⟨j9, ej9, hf⟩ := nmV_s hf
      refine va_iast (f := (Ss.2.1 3)) (n := 4) hx hb hK hP hD hS 5 0 rfl rfl h8 dX3_passDay_78 (fun H locs hP hD hS => ?_)
      rw [← ej9] at hP hD
      have hP : va_P D vwCl (wX3_passDay cI cZ jhw jaw jhs jas Sw (bW (bW Ss 1 j5 v3) 3 j9 v7)) H := hP
      have hD : va_D A (wX3_passDay cI cZ jhw jaw jhs jas Sw (bW (bW Ss 1 j5 v3) 3 j9 v7)) := hD
      refine lv_aload_n hx hb dX3_passDay_79 rfl (lv_at hl 2 rfl) ?_
      refine va_get (D := D) (ci := 2) (v := .ref (jas 2)) (C := RX3) (T := TX3) (N := 8) hx hb ht inX3 hown hK hP 2 rfl rfl 2 (by decide) (ht _ wd1_139) (fun _ h9 => h9) rfl dX3_passDay_80 ?_
      refine lv_iload_n hx hb dX3_passDay_83 rfl (lv_at hl 3 rfl) ?_
      refine lv_iconst (v := (0 : Int32)) hx hb dX3_passDay_84 rfl ?_
      obtain ⟨h10, hf⟩ := inB_s hf
      obtain ⟨j11, ej11, hf⟩ := nmV_s hf
      refine va_iast (f := (Ss.2.1 2)) (n := 4) hx hb hK hP hD hS 4 0 rfl rfl h10 dX3_passDay_85 (fun H locs hP hD hS => ?_)
      rw [← ej11] at hP hD
      have hP : va_P D vwCl (wX3_passDay cI cZ jhw jaw jhs jas Sw (bW (bW (bW Ss 1 j5 v3) 3 j9 v7) 2 j11 (0 : Int32))) H := hP
      have hD : va_D A (wX3_passDay cI cZ jhw jaw jhs jas Sw (bW (bW (bW Ss 1 j5 v3) 3 j9 v7) 2 j11 (0 : Int32))) := hD
      refine lv_iinc (v := (x2 + (1 : Int32))) (lv' := [(2, .int (x2 + (1 : Int32))), (1, .int (x1 + (if ((9 : Int32) - ((Ss.2.1 1) x2.toNatClampNeg)) < y0 then ((9 : Int32) - ((Ss.2.1 1) x2.toNatClampNeg)) else y0))), (3, .int (if ((9 : Int32) - ((Ss.2.1 1) x2.toNatClampNeg)) < y0 then ((9 : Int32) - ((Ss.2.1 1) x2.toNatClampNeg)) else y0)), (0, .ref jhs)]) hx hb dX3_passDay_86 hl (k := 3) rfl rfl (by decide) rfl (fun ls hl => ?_)
      refine lv_goto (tgt := 4) hx hb dX3_passDay_89 (by decide) ?_
      exact hk4 (x1 + (if ((9 : Int32) - ((Ss.2.1 1) x2.toNatClampNeg)) < y0 then ((9 : Int32) - ((Ss.2.1 1) x2.toNatClampNeg)) else y0)) (x2 + (1 : Int32)) (bW (bW (bW Ss 1 j5 v3) 3 j9 v7) 2 j11 (0 : Int32)) hf _ _ _ hP hD hS (lv_sub hl [3, 1, 0] rfl)
    refine lv_iload_n hx hb dX3_passDay_4 rfl (lv_at hl 2 rfl) ?_
    refine lv_aload_n hx hb dX3_passDay_5 rfl (lv_at hl 0 rfl) ?_
    refine va_get (D := D) (ci := 2) (v := .ref jhw) (C := RX3) (T := TX3) (N := 8) hx hb ht inX3 hown hK hP 2 rfl rfl 0 (by decide) (ht _ wd1_135) (fun _ h9 => h9) rfl dX3_passDay_6 ?_
    refine va_get (D := D) (ci := 5) (v := .int (Sw.1 0)) (C := RX6) (T := TX6) (N := 15) hx hb ht inX6 hown hK hP 0 rfl rfl 0 (by decide) (ht _ wd1_48) (fun _ h9 => h9) rfl dX3_passDay_9 ?_
    refine lv_icmp_ge (tgt := 92) hx hb dX3_passDay_12 (by decide) (fun c12 => ?_) (fun c12 => ?_)
    · have hf := itP c12 hf
      refine lv_aload_n hx hb dX3_passDay_92 rfl (lv_at hl 0 rfl) ?_
      refine lv_dup hx hb dX3_passDay_93 rfl ?_
      refine va_get (D := D) (ci := 2) (v := .int (Ss.1 2)) (C := RX3) (T := TX3) (N := 8) hx hb ht inX3 hown hK hP 2 rfl rfl 6 (by decide) (ht _ wd1_147) (fun _ h9 => h9) rfl dX3_passDay_94 ?_
      refine lv_iconst (v := (1 : Int32)) hx hb dX3_passDay_97 rfl ?_
      refine lv_iadd hx hb dX3_passDay_98 ?_
      obtain ⟨v13, ev13, hf⟩ := nmV_s hf
      rw [← ev13]
      refine va_put (D := D) (ci := 2) (v := .int v13) (ty := .int) (C := RX3) (T := TX3) (N := 8) hx hb ht inX3 tyX3 tyX3_ok nmX3 hown hK hP hD hS 2 rfl rfl 6 (by decide) (ht _ wd1_147) (fun _ h9 => h9) rfl (tyX3_ok 6 (by decide)) rfl rfl (Nat.le_of_ble_eq_true rfl) dX3_passDay_99 (fun H locs hP hD hS => ?_)
      have hP : va_P D vwCl (wX3_passDay cI cZ jhw jaw jhs jas Sw (bI Ss 2 v13)) H := hP
      have hD : va_D A (wX3_passDay cI cZ jhw jaw jhs jas Sw (bI Ss 2 v13)) := hD
      refine lv_iload_n hx hb dX3_passDay_102 rfl (lv_at hl 1 rfl) ?_
      cases hf
      exact W.iret hx hb hr (fun t ht9 hW => ⟨⟨_, (), rfl, rfl, by rw [ht9]; exact hP, va_K.moved hW.alike hK, hD⟩, hS.F ht9⟩) hS.2.2 dX3_passDay_103
    · have hf := itN c12 hf
      refine lv_aload_n hx hb dX3_passDay_15 rfl (lv_at hl 0 rfl) ?_
      refine va_get (D := D) (ci := 2) (v := .ref jhw) (C := RX3) (T := TX3) (N := 8) hx hb ht inX3 hown hK hP 2 rfl rfl 0 (by decide) (ht _ wd1_135) (fun _ h9 => h9) rfl dX3_passDay_16 ?_
      refine va_get (D := D) (ci := 5) (v := .ref (jaw 2)) (C := RX6) (T := TX6) (N := 15) hx hb ht inX6 hown hK hP 0 rfl rfl 3 (by decide) (ht _ wd1_56) (fun _ h9 => h9) rfl dX3_passDay_19 ?_
      refine lv_iload_n hx hb dX3_passDay_22 rfl (lv_at hl 2 rfl) ?_
      obtain ⟨h14, hf⟩ := inB_s hf
      refine va_iald (f := (Sw.2.1 2)) (n := 4) hx hb hK hP 1 0 rfl rfl h14 dX3_passDay_23 ?_
      refine lv_iconst (v := (2 : Int32)) hx hb dX3_passDay_24 rfl ?_
      refine lv_icmp_ne (tgt := 32) hx hb dX3_passDay_25 (by decide) (fun c15 => ?_) (fun c15 => ?_)
      · have hf := itN c15 hf
        refine lv_aload_n hx hb dX3_passDay_32 rfl (lv_at hl 0 rfl) ?_
        refine va_get (D := D) (ci := 2) (v := .ref (jas 3)) (C := RX3) (T := TX3) (N := 8) hx hb ht inX3 hown hK hP 2 rfl rfl 3 (by decide) (ht _ wd1_140) (fun _ h9 => h9) rfl dX3_passDay_33 ?_
        refine lv_iload_n hx hb dX3_passDay_36 rfl (lv_at hl 2 rfl) ?_
        obtain ⟨h16, hf⟩ := inB_s hf
        refine va_iald (f := (Ss.2.1 3)) (n := 4) hx hb hK hP 5 0 rfl rfl h16 dX3_passDay_37 ?_
        exact hj38 x1 x2 Ss ((Ss.2.1 3) x2.toNatClampNeg) hf _ _ _ hP hD hS (lv_sub hl [0, 1, 2] rfl)
      · have hf := itP c15 hf
        refine lv_iconst (v := (1 : Int32)) hx hb dX3_passDay_28 rfl ?_
        refine lv_goto (tgt := 38) hx hb dX3_passDay_29 (by decide) ?_
        exact hj38 x1 x2 Ss (1 : Int32) hf _ _ _ hP hD hS (lv_sub hl [0, 1, 2] rfl)
  intro H locs hP hS
  refine lv_iconst (v := (0 : Int32)) hx hb dX3_passDay_0 rfl ?_
  refine lv_istore_n (lv' := [(1, .int (0 : Int32)), (0, .ref jhs)]) hx hb dX3_passDay_1 rfl hl (by decide) rfl (fun ls hl => ?_)
  refine lv_iconst (v := (0 : Int32)) hx hb dX3_passDay_2 rfl ?_
  refine lv_istore_n (lv' := [(2, .int (0 : Int32)), (1, .int (0 : Int32)), (0, .ref jhs)]) hx hb dX3_passDay_3 rfl hl (by decide) rfl (fun ls hl => ?_)
  exact hj4 (0 : Int32) (0 : Int32) Ss hf _ _ _ hP hD hS (lv_sub hl [2, 1, 0] rfl)
abbrev wX3_lacking (cI cZ : ClassId) (jhw : Nat) (jaw : Nat → Nat) (jhs : Nat) (jas : Nat → Nat) (Sw : Bk) (Ss : Bk) : va_W := [(jhw, .inr (5, [.int (Sw.1 0), .ref (jaw 0), .ref (jaw 1), .ref (jaw 2), .int (Sw.1 1), .ref (jaw 3), .ref (jaw 4), .ref (jaw 5), .int (Sw.1 2), .int (Sw.1 3), .ref (jaw 6), .ref (jaw 7), .ref (jaw 8), .ref (jaw 9), .ref (jaw 10)])), (jaw 9, .inl (cI, 4, .inl (Sw.2.1 9))), (jaw 10, .inl (cI, 4, .inl (Sw.2.1 10))), (jhs, .inr (2, [.ref jhw, .ref (jas 1), .ref (jas 2), .ref (jas 3), .int (Ss.1 0), .int (Ss.1 1), .int (Ss.1 2), .int (Ss.1 3)])), (jas 1, .inl (cI, 4, .inl (Ss.2.1 1)))]
def gX3_lacking_104 (Sw : Bk) (Ss : Bk) (x1 : Int32) (k4 : Int32 → Int32 → Option (Int32)) (x2 : Int32) (x3 : Int32) : Option (Int32) := k4 x2 (x3 + (1 : Int32))
def gX3_lacking_81 (Sw : Bk) (Ss : Bk) (x1 : Int32) (k4 : Int32 → Int32 → Option (Int32)) (k21 : Int32 → Int32 → Int32 → Int32 → Option (Int32)) (x2 : Int32) (x3 : Int32) (x4 : Int32) (x5 : Int32) : Option (Int32) := k21 x2 x3 x4 (x5 + (1 : Int32))
def sX3_lacking_21 (Sw : Bk) (Ss : Bk) (x1 : Int32) (k4 : Int32 → Int32 → Option (Int32)) (k21 : Int32 → Int32 → Int32 → Int32 → Option (Int32)) (x2 : Int32) (x3 : Int32) (x4 : Int32) (x5 : Int32) : Option (Int32) := (if (Sw.1 3) ≤ x5 then inB 4 x3 ((if x4 ≤ ((Ss.2.1 1) x3.toNatClampNeg) then gX3_lacking_104 Sw Ss x1 k4 x2 x3 else gX3_lacking_104 Sw Ss x1 k4 (x2 ||| ((1 : Int32) <<< (x3 &&& 31))) x3)) else (if ((x1 >>> (x5 &&& 31)) &&& (1 : Int32)) = (1 : Int32) then (fX3_hasDone Ss x5).bind (fun u5 => (if u5 = 0 then inB 4 x5 ((if ((Sw.2.1 9) x5.toNatClampNeg) = x3 then inB 4 x5 (gX3_lacking_81 Sw Ss x1 k4 k21 x2 x3 (x4 + ((Sw.2.1 10) x5.toNatClampNeg)) x5) else gX3_lacking_81 Sw Ss x1 k4 k21 x2 x3 x4 x5)) else gX3_lacking_81 Sw Ss x1 k4 k21 x2 x3 x4 x5)) else gX3_lacking_81 Sw Ss x1 k4 k21 x2 x3 x4 x5))
def sX3_lacking_4 (Sw : Bk) (Ss : Bk) (x1 : Int32) (k4 : Int32 → Int32 → Option (Int32)) (x2 : Int32) (x3 : Int32) : Option (Int32) := (if (Sw.1 0) ≤ x3 then some x2 else lk4 (sX3_lacking_21 Sw Ss x1 k4) 1000 x2 x3 (0 : Int32) (0 : Int32))
def fX3_lacking (Sw : Bk) (Ss : Bk) (x1 : Int32) : Option (Int32) := lk2 (sX3_lacking_4 Sw Ss x1) 1000 (0 : Int32) (0 : Int32)
theorem miX3_lacking : MI yX3_lacking cX3_lacking 6 (some .int) 1 := ⟨wd1_4, wd3_77, by decide +kernel⟩
theorem mjX3_lacking : Cond.instanceMethod yX3_lacking ∈ wT ∧ Cond.selects yX3_lacking.cls yX3_lacking yX3_lacking ∈ wT := ⟨wd3_75, wd3_76⟩
set_option maxHeartbeats 4000000 in
set_option maxRecDepth 100000 in
theorem qX3_lacking (l : Launch) (D : va_G) (cI cZ cO : ClassId) (jhw : Nat) (jaw : Nat → Nat) (jhs : Nat) (jas : Nat → Nat) (Sw : Bk) (Ss : Bk) (x1 : Int32) (res : Int32) (hf : fX3_lacking Sw Ss x1 = some res) : Met l yX3_lacking (Cond.code yX3_lacking cX3_lacking 6 (some .int) :: wT) (rmF 1 21) (va_Pc [.ref jhs, .int x1] (cR D (tyL cI cZ cO) (wX3_lacking cI cZ jhw jaw jhs jas Sw Ss))) (vp_Si (fun r => r = res)) 0 0 (fun _ => False) := by
  refine met_r (by decide) (Nat.le_of_ble_eq_true rfl) ?_
  intro p e s m below meth c hx hb hr hml ht hown hlk ls hl hP hK hZ
  have hS : va_S (fun _ => False) s.heap s.heap [] := va_S.rf
  have hown : s.vm.findClass "EyeDrink$Stand" = some m.cls := hown
  have hl : lv_has ls 6 [(0, .ref jhs), (1, .int x1)] := hl
  have hC : CallFix p m c cX3_lacking 6 s ([.ref jhs, .int x1] : List Value).toArray wT "EyeDrink$Stand" := ⟨hx, hb, hml, hown, ht⟩
  unfold fX3_lacking at hf
  have hj4 : ∀ (x2 : Int32) (x3 : Int32), lk2 (sX3_lacking_4 Sw Ss x1) 1000 x2 x3 = some res → ∀ (ls : Array Slot), lv_has ls 6 [(0, .ref jhs), (1, .int x1), (2, .int x2), (3, .int x3)] → W p l e (rmF 1 21) s m ([.ref jhs, .int x1] : List Value).toArray below meth c s.heap [] 0 0 (MQ below (vp_Si (fun r => r = res)) ([.ref jhs, .int x1] : List Value).toArray s 0 0 (fun _ => False)) (F0 m 4 ls []) := by
    refine lk2_w (fun (x2 : Int32) (x3 : Int32) => ∀ (ls : Array Slot), lv_has ls 6 [(0, .ref jhs), (1, .int x1), (2, .int x2), (3, .int x3)] → W p l e (rmF 1 21) s m ([.ref jhs, .int x1] : List Value).toArray below meth c s.heap [] 0 0 (MQ below (vp_Si (fun r => r = res)) ([.ref jhs, .int x1] : List Value).toArray s 0 0 (fun _ => False)) (F0 m 4 ls [])) ?_ 1000
    intro k4 hk4 x2 x3 hf ls hl
    unfold sX3_lacking_4 at hf
    have hj104 : ∀ (x2 : Int32) (x3 : Int32), gX3_lacking_104 Sw Ss x1 k4 x2 x3 = some res → ∀ (ls : Array Slot), lv_has ls 6 [(0, .ref jhs), (1, .int x1), (2, .int x2), (3, .int x3)] → W p l e (rmF 1 21) s m ([.ref jhs, .int x1] : List Value).toArray below meth c s.heap [] 0 0 (MQ below (vp_Si (fun r => r = res)) ([.ref jhs, .int x1] : List Value).toArray s 0 0 (fun _ => False)) (F0 m 104 ls []) := by
      intro x2 x3 hf ls hl
      unfold gX3_lacking_104 at hf
      refine lv_iinc (v := (x3 + (1 : Int32))) (lv' := [(3, .int (x3 + (1 : Int32))), (0, .ref jhs), (1, .int x1), (2, .int x2)]) hx hb dX3_lacking_104 hl (k := 3) rfl rfl (by decide) rfl (fun ls hl => ?_)
      refine lv_goto (tgt := 4) hx hb dX3_lacking_107 (by decide) ?_
      exact hk4 x2 (x3 + (1 : Int32)) hf _ (lv_sub hl [1, 2, 3, 0] rfl)
    have hj21 : ∀ (x2 : Int32) (x3 : Int32) (x4 : Int32) (x5 : Int32), lk4 (sX3_lacking_21 Sw Ss x1 k4) 1000 x2 x3 x4 x5 = some res → ∀ (ls : Array Slot), lv_has ls 6 [(0, .ref jhs), (1, .int x1), (2, .int x2), (3, .int x3), (4, .int x4), (5, .int x5)] → W p l e (rmF 1 21) s m ([.ref jhs, .int x1] : List Value).toArray below meth c s.heap [] 0 0 (MQ below (vp_Si (fun r => r = res)) ([.ref jhs, .int x1] : List Value).toArray s 0 0 (fun _ => False)) (F0 m 21 ls []) := by
      refine lk4_w (fun (x2 : Int32) (x3 : Int32) (x4 : Int32) (x5 : Int32) => ∀ (ls : Array Slot), lv_has ls 6 [(0, .ref jhs), (1, .int x1), (2, .int x2), (3, .int x3), (4, .int x4), (5, .int x5)] → W p l e (rmF 1 21) s m ([.ref jhs, .int x1] : List Value).toArray below meth c s.heap [] 0 0 (MQ below (vp_Si (fun r => r = res)) ([.ref jhs, .int x1] : List Value).toArray s 0 0 (fun _ => False)) (F0 m 21 ls [])) ?_ 1000
      intro k21 hk21 x2 x3 x4 x5 hf ls hl
      unfold sX3_lacking_21 at hf
      have hj81 : ∀ (x2 : Int32) (x3 : Int32) (x4 : Int32) (x5 : Int32), gX3_lacking_81 Sw Ss x1 k4 k21 x2 x3 x4 x5 = some res → ∀ (ls : Array Slot), lv_has ls 6 [(0, .ref jhs), (1, .int x1), (2, .int x2), (3, .int x3), (4, .int x4), (5, .int x5)] → W p l e (rmF 1 21) s m ([.ref jhs, .int x1] : List Value).toArray below meth c s.heap [] 0 0 (MQ below (vp_Si (fun r => r = res)) ([.ref jhs, .int x1] : List Value).toArray s 0 0 (fun _ => False)) (F0 m 81 ls []) := by
        intro x2 x3 x4 x5 hf ls hl
        unfold gX3_lacking_81 at hf
        refine lv_iinc (v := (x5 + (1 : Int32))) (lv' := [(5, .int (x5 + (1 : Int32))), (0, .ref jhs), (1, .int x1), (2, .int x2), (3, .int x3), (4, .int x4)]) hx hb dX3_lacking_81 hl (k := 5) rfl rfl (by decide) rfl (fun ls hl => ?_)
        refine lv_goto (tgt := 21) hx hb dX3_lacking_84 (by decide) ?_
        exact hk21 x2 x3 x4 (x5 + (1 : Int32)) hf _ (lv_sub hl [1, 2, 3, 4, 5, 0] rfl)
      refine lv_iload hx hb dX3_lacking_21 (lv_at hl 5 rfl) ?_
      refine lv_aload_n hx hb dX3_lacking_23 rfl (lv_at hl 0 rfl) ?_
      refine va_get (D := D) (ci := 2) (v := .ref jhw) (C := RX3) (T := TX3) (N := 8) hx hb ht inX3 hown hK hP 3 rfl rfl 0 (by decide) (ht _ wd1_135) (fun _ h9 => h9) rfl dX3_lacking_24 ?_
      refine va_get (D := D) (ci := 5) (v := .int (Sw.1 3)) (C := RX6) (T := TX6) (N := 15) hx hb ht inX6 hown hK hP 0 rfl rfl 9 (by decide) (ht _ wd1_79) (fun _ h9 => h9) rfl dX3_lacking_27 ?_
      refine lv_icmp_ge (tgt := 87) hx hb dX3_lacking_30 (by decide) (fun c1 => ?_) (fun c1 => ?_)
      · have hf := itP c1 hf
        refine lv_iload hx hb dX3_lacking_87 (lv_at hl 4 rfl) ?_
        refine lv_aload_n hx hb dX3_lacking_89 rfl (lv_at hl 0 rfl) ?_
        refine va_get (D := D) (ci := 2) (v := .ref (jas 1)) (C := RX3) (T := TX3) (N := 8) hx hb ht inX3 hown hK hP 3 rfl rfl 1 (by decide) (ht _ wd1_136) (fun _ h9 => h9) rfl dX3_lacking_90 ?_
        refine lv_iload_n hx hb dX3_lacking_93 rfl (lv_at hl 3 rfl) ?_
        obtain ⟨h2, hf⟩ := inB_s hf
        refine va_iald (f := (Ss.2.1 1)) (n := 4) hx hb hK hP 4 0 rfl rfl h2 dX3_lacking_94 ?_
        refine lv_icmp_le (tgt := 104) hx hb dX3_lacking_95 (by decide) (fun c3 => ?_) (fun c3 => ?_)
        · have hf := itP c3 hf
          exact hj104 x2 x3 hf _ (lv_sub hl [0, 1, 2, 3] rfl)
        · have hf := itN c3 hf
          refine lv_iload_n hx hb dX3_lacking_98 rfl (lv_at hl 2 rfl) ?_
          refine lv_iconst (v := (1 : Int32)) hx hb dX3_lacking_99 rfl ?_
          refine lv_iload_n hx hb dX3_lacking_100 rfl (lv_at hl 3 rfl) ?_
          refine lv_ishl hx hb dX3_lacking_101 ?_
          refine lv_ior hx hb dX3_lacking_102 ?_
          refine lv_istore_n (lv' := [(2, .int (x2 ||| ((1 : Int32) <<< (x3 &&& 31)))), (0, .ref jhs), (1, .int x1), (3, .int x3), (4, .int x4), (5, .int x5)]) hx hb dX3_lacking_103 rfl hl (by decide) rfl (fun ls hl => ?_)
          exact hj104 (x2 ||| ((1 : Int32) <<< (x3 &&& 31))) x3 hf _ (lv_sub hl [1, 2, 0, 3] rfl)
      · have hf := itN c1 hf
        refine lv_iload_n hx hb dX3_lacking_33 rfl (lv_at hl 1 rfl) ?_
        refine lv_iload hx hb dX3_lacking_34 (lv_at hl 5 rfl) ?_
        refine lv_ishr hx hb dX3_lacking_36 ?_
        refine lv_iconst (v := (1 : Int32)) hx hb dX3_lacking_37 rfl ?_
        refine lv_iand hx hb dX3_lacking_38 ?_
        refine lv_iconst (v := (1 : Int32)) hx hb dX3_lacking_39 rfl ?_
        refine lv_icmp_ne (tgt := 81) hx hb dX3_lacking_40 (by decide) (fun c4 => ?_) (fun c4 => ?_)
        · have hf := itN c4 hf
          exact hj81 x2 x3 x4 x5 hf _ (lv_sub hl [0, 1, 2, 3, 4, 5] rfl)
        · have hf := itP c4 hf
          refine lv_aload_n hx hb dX3_lacking_43 rfl (lv_at hl 0 rfl) ?_
          refine lv_iload hx hb dX3_lacking_44 (lv_at hl 5 rfl) ?_
          obtain ⟨u5, e6, hf⟩ := bdS hf
          refine k_rV (As := [.int x5]) (rest := []) hC miX3_hasDone mjX3_hasDone.1 mjX3_hasDone.2 wd2_184 (qX3_hasDone l D cI cZ cO jhs jas jhw Ss x5 u5 e6) ⟨Nat.le_of_ble_eq_true rfl, Nat.le_of_ble_eq_true rfl⟩ (hP.sub [3] rfl) hK hZ hS (va_recv hK hP (ci := 2) (q0 := 3) rfl rfl) hl.1 rfl rfl (Nat.le_of_ble_eq_true rfl) dX3_lacking_46 ?_
          refine lv_if_ne (tgt := 81) hx hb dX3_lacking_49 (by decide) (fun c7 => ?_) (fun c7 => ?_)
          · have hf := itN c7 hf
            exact hj81 x2 x3 x4 x5 hf _ (lv_sub hl [0, 1, 2, 3, 4, 5] rfl)
          · have hf := itP c7 hf
            refine lv_aload_n hx hb dX3_lacking_52 rfl (lv_at hl 0 rfl) ?_
            refine va_get (D := D) (ci := 2) (v := .ref jhw) (C := RX3) (T := TX3) (N := 8) hx hb ht inX3 hown hK hP 3 rfl rfl 0 (by decide) (ht _ wd1_135) (fun _ h9 => h9) rfl dX3_lacking_53 ?_
            refine va_get (D := D) (ci := 5) (v := .ref (jaw 9)) (C := RX6) (T := TX6) (N := 15) hx hb ht inX6 hown hK hP 0 rfl rfl 13 (by decide) (ht _ wd1_93) (fun _ h9 => h9) rfl dX3_lacking_56 ?_
            refine lv_iload hx hb dX3_lacking_59 (lv_at hl 5 rfl) ?_
            obtain ⟨h8, hf⟩ := inB_s hf
            refine va_iald (f := (Sw.2.1 9)) (n := 4) hx hb hK hP 1 0 rfl rfl h8 dX3_lacking_61 ?_
            refine lv_iload_n hx hb dX3_lacking_62 rfl (lv_at hl 3 rfl) ?_
            refine lv_icmp_ne (tgt := 81) hx hb dX3_lacking_63 (by decide) (fun c9 => ?_) (fun c9 => ?_)
            · have hf := itN c9 hf
              exact hj81 x2 x3 x4 x5 hf _ (lv_sub hl [0, 1, 2, 3, 4, 5] rfl)
            · have hf := itP c9 hf
              refine lv_iload hx hb dX3_lacking_66 (lv_at hl 4 rfl) ?_
              refine lv_aload_n hx hb dX3_lacking_68 rfl (lv_at hl 0 rfl) ?_
              refine va_get (D := D) (ci := 2) (v := .ref jhw) (C := RX3) (T := TX3) (N := 8) hx hb ht inX3 hown hK hP 3 rfl rfl 0 (by decide) (ht _ wd1_135) (fun _ h9 => h9) rfl dX3_lacking_69 ?_
              refine va_get (D := D) (ci := 5) (v := .ref (jaw 10)) (C := RX6) (T := TX6) (N := 15) hx hb ht inX6 hown hK hP 0 rfl rfl 14 (by decide) (ht _ wd1_97) (fun _ h9 => h9) rfl dX3_lacking_72 ?_
              refine lv_iload hx hb dX3_lacking_75 (lv_at hl 5 rfl) ?_
              obtain ⟨h10, hf⟩ := inB_s hf
              refine va_iald (f := (Sw.2.1 10)) (n := 4) hx hb hK hP 2 0 rfl rfl h10 dX3_lacking_77 ?_
              refine lv_iadd hx hb dX3_lacking_78 ?_
              refine lv_istore (lv' := [(4, .int (x4 + ((Sw.2.1 10) x5.toNatClampNeg))), (0, .ref jhs), (1, .int x1), (2, .int x2), (3, .int x3), (5, .int x5)]) hx hb dX3_lacking_79 hl (by decide) rfl (fun ls hl => ?_)
              exact hj81 x2 x3 (x4 + ((Sw.2.1 10) x5.toNatClampNeg)) x5 hf _ (lv_sub hl [1, 2, 3, 4, 0, 5] rfl)
    refine lv_iload_n hx hb dX3_lacking_4 rfl (lv_at hl 3 rfl) ?_
    refine lv_aload_n hx hb dX3_lacking_5 rfl (lv_at hl 0 rfl) ?_
    refine va_get (D := D) (ci := 2) (v := .ref jhw) (C := RX3) (T := TX3) (N := 8) hx hb ht inX3 hown hK hP 3 rfl rfl 0 (by decide) (ht _ wd1_135) (fun _ h9 => h9) rfl dX3_lacking_6 ?_
    refine va_get (D := D) (ci := 5) (v := .int (Sw.1 0)) (C := RX6) (T := TX6) (N := 15) hx hb ht inX6 hown hK hP 0 rfl rfl 0 (by decide) (ht _ wd1_48) (fun _ h9 => h9) rfl dX3_lacking_9 ?_
    refine lv_icmp_ge (tgt := 110) hx hb dX3_lacking_12 (by decide) (fun c11 => ?_) (fun c11 => ?_)
    · have hf := itP c11 hf
      refine lv_iload_n hx hb dX3_lacking_110 rfl (lv_at hl 2 rfl) ?_
      exact W.iret hx hb hr (fun t ht9 _ => ⟨_, rfl, Option.some.inj hf, ht9⟩) (fun _ h9 => by cases h9) dX3_lacking_111
    · have hf := itN c11 hf
      refine lv_iconst (v := (0 : Int32)) hx hb dX3_lacking_15 rfl ?_
      refine lv_istore (lv' := [(4, .int (0 : Int32)), (0, .ref jhs), (1, .int x1), (2, .int x2), (3, .int x3)]) hx hb dX3_lacking_16 hl (by decide) rfl (fun ls hl => ?_)
      refine lv_iconst (v := (0 : Int32)) hx hb dX3_lacking_18 rfl ?_
      refine lv_istore (lv' := [(5, .int (0 : Int32)), (4, .int (0 : Int32)), (0, .ref jhs), (1, .int x1), (2, .int x2), (3, .int x3)]) hx hb dX3_lacking_19 hl (by decide) rfl (fun ls hl => ?_)
      exact hj21 x2 x3 (0 : Int32) (0 : Int32) hf _ (lv_sub hl [2, 3, 4, 5, 1, 0] rfl)
  refine lv_iconst (v := (0 : Int32)) hx hb dX3_lacking_0 rfl ?_
  refine lv_istore_n (lv' := [(2, .int (0 : Int32)), (0, .ref jhs), (1, .int x1)]) hx hb dX3_lacking_1 rfl hl (by decide) rfl (fun ls hl => ?_)
  refine lv_iconst (v := (0 : Int32)) hx hb dX3_lacking_2 rfl ?_
  refine lv_istore_n (lv' := [(3, .int (0 : Int32)), (2, .int (0 : Int32)), (0, .ref jhs), (1, .int x1)]) hx hb dX3_lacking_3 rfl hl (by decide) rfl (fun ls hl => ?_)
  exact hj4 (0 : Int32) (0 : Int32) hf _ (lv_sub hl [2, 3, 1, 0] rfl)
abbrev wX4_append (cI cZ : ClassId) (jhx : Nat) (jax : Nat → Nat) (Sx : Bk) : va_W := [(jhx, .inr (3, [.ref (jax 0), .ref (jax 1), .int (Sx.1 0)])), (jax 0, .inl (cI, 64, .inl (Sx.2.1 0)))]
def fX4_append (Sx : Bk) (x1 : Int32) : Option (Int32 × Bk) := (if (Sx.1 0) < (64 : Int32) then inB 64 (Sx.1 0) (nmV (Sx.1 0).toNatClampNeg (fun j3 => nmV ((Sx.1 0) + (1 : Int32)) (fun v4 => some ((1 : Int32), (bI (bW Sx 0 j3 x1) 0 v4))))) else some ((0 : Int32), Sx))
theorem miX4_append : MI yX4_append cX4_append 2 (some .boolean) 1 := ⟨wd1_2, wd2_40, by decide +kernel⟩
theorem mjX4_append : Cond.instanceMethod yX4_append ∈ wT ∧ Cond.selects yX4_append.cls yX4_append yX4_append ∈ wT := ⟨wd2_38, wd2_39⟩
set_option maxHeartbeats 4000000 in
set_option maxRecDepth 100000 in
theorem qX4_append (l : Launch) (D : va_G) (cI cZ cO : ClassId) (jhx : Nat) (jax : Nat → Nat) (Sx : Bk) (x1 : Int32) (sz : Nat) (res : Int32 × Bk) (hf : fX4_append Sx x1 = some res) : Met l yX4_append (Cond.code yX4_append cX4_append 2 (some .boolean) :: wT) (rmF 0 0) (va_Pc [.ref jhx, .int x1] (cW D (tyL cI cZ cO) (wX4_append cI cZ jhx jax Sx) sz)) (va_Qi (S := Unit) (fun r _ => r = res.1) (fun _ => qW D (tyL cI cZ cO) (va_A (wX4_append cI cZ jhx jax Sx) sz) (wX4_append cI cZ jhx jax res.2)) (va_A (wX4_append cI cZ jhx jax Sx) sz)) 0 0 (va_A (wX4_append cI cZ jhx jax Sx) sz) := by
  refine met_w (by decide) (Nat.le_of_ble_eq_true rfl) ?_
  intro p e s m below meth c hx hb hr hml ht hown hlk ls hl hsz hP hK hD0 hZ
  subst hsz
  have hD := hD0.self (sz := s.heap.size)
  generalize hAe : va_A (wX4_append cI cZ jhx jax Sx) s.heap.size = A at hD hZ ⊢
  have hA : ∀ q : Nat, s.heap.size ≤ q → A q := fun q h => by rw [← hAe]; exact Or.inr h
  have hS : va_S A s.heap s.heap [] := va_S.rf
  have hown : s.vm.findClass "EyeDrink$Text" = some m.cls := hown
  have hl : lv_has ls 2 [(0, .ref jhx), (1, .int x1)] := hl
  unfold fX4_append at hf
  suffices hgo : ∀ (H : Heap) (locs : List Loc), va_P D vwCl (wX4_append cI cZ jhx jax Sx) H → va_S A s.heap H locs → W p l e (rmF 0 0) s m ([.ref jhx, .int x1] : List Value).toArray below meth c H locs 0 0 (MQ below (va_Qi (S := Unit) (fun r _ => r = res.1) (fun _ => qW D (tyL cI cZ cO) A (wX4_append cI cZ jhx jax res.2)) A) ([.ref jhx, .int x1] : List Value).toArray s 0 0 A) (F0 m 0 ls []) from hgo s.heap [] hP hS
  intro H locs hP hS
  refine lv_aload_n hx hb dX4_append_0 rfl (lv_at hl 0 rfl) ?_
  refine va_get (D := D) (ci := 3) (v := .int (Sx.1 0)) (C := RX4) (T := TX4) (N := 3) hx hb ht inX4 hown hK hP 0 rfl rfl 2 (by decide) (ht _ wd1_29) (fun _ h9 => h9) rfl dX4_append_1 ?_
  refine lv_bipush (v := (64 : Int32)) hx hb dX4_append_4 rfl ?_
  refine lv_icmp_lt (tgt := 11) hx hb dX4_append_6 (by decide) (fun c1 => ?_) (fun c1 => ?_)
  · have hf := itP c1 hf
    refine lv_aload_n hx hb dX4_append_11 rfl (lv_at hl 0 rfl) ?_
    refine va_get (D := D) (ci := 3) (v := .ref (jax 0)) (C := RX4) (T := TX4) (N := 3) hx hb ht inX4 hown hK hP 0 rfl rfl 0 (by decide) (ht _ wd1_27) (fun _ h9 => h9) rfl dX4_append_12 ?_
    refine lv_aload_n hx hb dX4_append_15 rfl (lv_at hl 0 rfl) ?_
    refine va_get (D := D) (ci := 3) (v := .int (Sx.1 0)) (C := RX4) (T := TX4) (N := 3) hx hb ht inX4 hown hK hP 0 rfl rfl 2 (by decide) (ht _ wd1_29) (fun _ h9 => h9) rfl dX4_append_16 ?_
    refine lv_iload_n hx hb dX4_append_19 rfl (lv_at hl 1 rfl) ?_
    obtain ⟨h2, hf⟩ := inB_s hf
    obtain ⟨j3, ej3, hf⟩ := nmV_s hf
    refine va_iast (f := (Sx.2.1 0)) (n := 64) hx hb hK hP hD hS 1 0 rfl rfl h2 dX4_append_20 (fun H locs hP hD hS => ?_)
    rw [← ej3] at hP hD
    have hP : va_P D vwCl (wX4_append cI cZ jhx jax (bW Sx 0 j3 x1)) H := hP
    have hD : va_D A (wX4_append cI cZ jhx jax (bW Sx 0 j3 x1)) := hD
    refine lv_aload_n hx hb dX4_append_21 rfl (lv_at hl 0 rfl) ?_
    refine lv_dup hx hb dX4_append_22 rfl ?_
    refine va_get (D := D) (ci := 3) (v := .int (Sx.1 0)) (C := RX4) (T := TX4) (N := 3) hx hb ht inX4 hown hK hP 0 rfl rfl 2 (by decide) (ht _ wd1_29) (fun _ h9 => h9) rfl dX4_append_23 ?_
    refine lv_iconst (v := (1 : Int32)) hx hb dX4_append_26 rfl ?_
    refine lv_iadd hx hb dX4_append_27 ?_
    obtain ⟨v4, ev4, hf⟩ := nmV_s hf
    rw [← ev4]
    refine va_put (D := D) (ci := 3) (v := .int v4) (ty := .int) (C := RX4) (T := TX4) (N := 3) hx hb ht inX4 tyX4 tyX4_ok nmX4 hown hK hP hD hS 0 rfl rfl 2 (by decide) (ht _ wd1_29) (fun _ h9 => h9) rfl (tyX4_ok 2 (by decide)) rfl rfl (Nat.le_of_ble_eq_true rfl) dX4_append_28 (fun H locs hP hD hS => ?_)
    have hP : va_P D vwCl (wX4_append cI cZ jhx jax (bI (bW Sx 0 j3 x1) 0 v4)) H := hP
    have hD : va_D A (wX4_append cI cZ jhx jax (bI (bW Sx 0 j3 x1) 0 v4)) := hD
    refine lv_iconst (v := (1 : Int32)) hx hb dX4_append_31 rfl ?_
    cases hf
    exact W.zret hx hb hr rfl (fun t ht9 hW => ⟨⟨_, (), rfl, rfl, by rw [ht9]; exact hP, va_K.moved hW.alike hK, hD⟩, hS.F ht9⟩) hS.2.2 dX4_append_32
  · have hf := itN c1 hf
    refine lv_iconst (v := (0 : Int32)) hx hb dX4_append_9 rfl ?_
    cases hf
    exact W.zret hx hb hr rfl (fun t ht9 hW => ⟨⟨_, (), rfl, rfl, by rw [ht9]; exact hP, va_K.moved hW.alike hK, hD⟩, hS.F ht9⟩) hS.2.2 dX4_append_10
abbrev wX6_addDeed (cI cZ : ClassId) (jhw : Nat) (jaw : Nat → Nat) (jhp : Nat) (np : Nat) (Sw : Bk) (P : (Nat → Int32)) : va_W := [(jhw, .inr (5, [.int (Sw.1 0), .ref (jaw 0), .ref (jaw 1), .ref (jaw 2), .int (Sw.1 1), .ref (jaw 3), .ref (jaw 4), .ref (jaw 5), .int (Sw.1 2), .int (Sw.1 3), .ref (jaw 6), .ref (jaw 7), .ref (jaw 8), .ref (jaw 9), .ref (jaw 10)])), (jaw 6, .inl (cI, 4, .inl (Sw.2.1 6))), (jaw 7, .inl (cI, 4, .inl (Sw.2.1 7))), (jaw 8, .inl (cI, 4, .inl (Sw.2.1 8))), (jaw 9, .inl (cI, 4, .inl (Sw.2.1 9))), (jaw 10, .inl (cI, 4, .inl (Sw.2.1 10))), (jhp, .inl (cI, np, .inl P))]
def fX6_addDeed (Sw : Bk) (P : (Nat → Int32)) (np : Nat) : Option (Bk) := inB np (0 : Int32) (nmV (P (0 : Int32).toNatClampNeg) (fun v2 => inB 4 (Sw.1 3) (nmV (Sw.1 3).toNatClampNeg (fun j4 => inB np (1 : Int32) (nmV (P (1 : Int32).toNatClampNeg) (fun v6 => inB 4 (Sw.1 3) (nmV (Sw.1 3).toNatClampNeg (fun j8 => inB np (2 : Int32) (nmV (P (2 : Int32).toNatClampNeg) (fun v10 => inB 4 (Sw.1 3) (nmV (Sw.1 3).toNatClampNeg (fun j12 => inB np (3 : Int32) (nmV (P (3 : Int32).toNatClampNeg) (fun v14 => inB 4 (Sw.1 3) (nmV (Sw.1 3).toNatClampNeg (fun j16 => inB np (4 : Int32) (nmV (P (4 : Int32).toNatClampNeg) (fun v18 => inB 4 (Sw.1 3) (nmV (Sw.1 3).toNatClampNeg (fun j20 => nmV ((Sw.1 3) + (1 : Int32)) (fun v21 => some (bI (bW (bW (bW (bW (bW Sw 6 j4 v2) 7 j8 v6) 8 j12 v10) 9 j16 v14) 10 j20 v18) 3 v21))))))))))))))))))))))
theorem miX6_addDeed : MI yX6_addDeed cX6_addDeed 2 none 1 := ⟨wd1_3, wd2_88, by decide +kernel⟩
theorem mjX6_addDeed : Cond.instanceMethod yX6_addDeed ∈ wT ∧ Cond.selects yX6_addDeed.cls yX6_addDeed yX6_addDeed ∈ wT := ⟨wd2_87, ws_2⟩
set_option maxHeartbeats 4000000 in
set_option maxRecDepth 100000 in
theorem qX6_addDeed (l : Launch) (D : va_G) (cI cZ cO : ClassId) (jhw : Nat) (jaw : Nat → Nat) (jhp : Nat) (np : Nat) (Sw : Bk) (P : (Nat → Int32)) (sz : Nat) (res : Bk) (hf : fX6_addDeed Sw P np = some res) : Met l yX6_addDeed (Cond.code yX6_addDeed cX6_addDeed 2 none :: wT) (rmF 0 0) (va_Pc [.ref jhw, .ref jhp] (cW D (tyL cI cZ cO) (wX6_addDeed cI cZ jhw jaw jhp np Sw P) sz)) (va_Qv (S := Unit) (fun _ => True) (fun _ => qW D (tyL cI cZ cO) (va_A (wX6_addDeed cI cZ jhw jaw jhp np Sw P) sz) (wX6_addDeed cI cZ jhw jaw jhp np res P)) (va_A (wX6_addDeed cI cZ jhw jaw jhp np Sw P) sz)) 0 0 (va_A (wX6_addDeed cI cZ jhw jaw jhp np Sw P) sz) := by
  refine met_w (by decide) (Nat.le_of_ble_eq_true rfl) ?_
  intro p e s m below meth c hx hb hr hml ht hown hlk ls hl hsz hP hK hD0 hZ
  subst hsz
  have hD := hD0.self (sz := s.heap.size)
  generalize hAe : va_A (wX6_addDeed cI cZ jhw jaw jhp np Sw P) s.heap.size = A at hD hZ ⊢
  have hA : ∀ q : Nat, s.heap.size ≤ q → A q := fun q h => by rw [← hAe]; exact Or.inr h
  have hS : va_S A s.heap s.heap [] := va_S.rf
  have hown : s.vm.findClass "EyeDrink$Well" = some m.cls := hown
  have hl : lv_has ls 2 [(0, .ref jhw), (1, .ref jhp)] := hl
  unfold fX6_addDeed at hf
  suffices hgo : ∀ (H : Heap) (locs : List Loc), va_P D vwCl (wX6_addDeed cI cZ jhw jaw jhp np Sw P) H → va_S A s.heap H locs → W p l e (rmF 0 0) s m ([.ref jhw, .ref jhp] : List Value).toArray below meth c H locs 0 0 (MQ below (va_Qv (S := Unit) (fun _ => True) (fun _ => qW D (tyL cI cZ cO) A (wX6_addDeed cI cZ jhw jaw jhp np res P)) A) ([.ref jhw, .ref jhp] : List Value).toArray s 0 0 A) (F0 m 0 ls []) from hgo s.heap [] hP hS
  intro H locs hP hS
  refine lv_aload_n hx hb dX6_addDeed_0 rfl (lv_at hl 0 rfl) ?_
  refine va_get (D := D) (ci := 5) (v := .ref (jaw 6)) (C := RX6) (T := TX6) (N := 15) hx hb ht inX6 hown hK hP 0 rfl rfl 10 (by decide) (ht _ wd1_80) (fun _ h9 => h9) rfl dX6_addDeed_1 ?_
  refine lv_aload_n hx hb dX6_addDeed_4 rfl (lv_at hl 0 rfl) ?_
  refine va_get (D := D) (ci := 5) (v := .int (Sw.1 3)) (C := RX6) (T := TX6) (N := 15) hx hb ht inX6 hown hK hP 0 rfl rfl 9 (by decide) (ht _ wd1_75) (fun _ h9 => h9) rfl dX6_addDeed_5 ?_
  refine lv_aload_n hx hb dX6_addDeed_8 rfl (lv_at hl 1 rfl) ?_
  refine lv_iconst (v := (0 : Int32)) hx hb dX6_addDeed_9 rfl ?_
  obtain ⟨h1, hf⟩ := inB_s hf
  refine va_iald (f := P) (n := np) hx hb hK hP 6 0 rfl rfl h1 dX6_addDeed_10 ?_
  obtain ⟨v2, ev2, hf⟩ := nmV_s hf
  rw [← ev2]
  obtain ⟨h3, hf⟩ := inB_s hf
  obtain ⟨j4, ej4, hf⟩ := nmV_s hf
  refine va_iast (f := (Sw.2.1 6)) (n := 4) hx hb hK hP hD hS 1 0 rfl rfl h3 dX6_addDeed_11 (fun H locs hP hD hS => ?_)
  rw [← ej4] at hP hD
  have hP : va_P D vwCl (wX6_addDeed cI cZ jhw jaw jhp np (bW Sw 6 j4 v2) P) H := hP
  have hD : va_D A (wX6_addDeed cI cZ jhw jaw jhp np (bW Sw 6 j4 v2) P) := hD
  refine lv_aload_n hx hb dX6_addDeed_12 rfl (lv_at hl 0 rfl) ?_
  refine va_get (D := D) (ci := 5) (v := .ref (jaw 7)) (C := RX6) (T := TX6) (N := 15) hx hb ht inX6 hown hK hP 0 rfl rfl 11 (by decide) (ht _ wd1_85) (fun _ h9 => h9) rfl dX6_addDeed_13 ?_
  refine lv_aload_n hx hb dX6_addDeed_16 rfl (lv_at hl 0 rfl) ?_
  refine va_get (D := D) (ci := 5) (v := .int (Sw.1 3)) (C := RX6) (T := TX6) (N := 15) hx hb ht inX6 hown hK hP 0 rfl rfl 9 (by decide) (ht _ wd1_75) (fun _ h9 => h9) rfl dX6_addDeed_17 ?_
  refine lv_aload_n hx hb dX6_addDeed_20 rfl (lv_at hl 1 rfl) ?_
  refine lv_iconst (v := (1 : Int32)) hx hb dX6_addDeed_21 rfl ?_
  obtain ⟨h5, hf⟩ := inB_s hf
  refine va_iald (f := P) (n := np) hx hb hK hP 6 0 rfl rfl h5 dX6_addDeed_22 ?_
  obtain ⟨v6, ev6, hf⟩ := nmV_s hf
  rw [← ev6]
  obtain ⟨h7, hf⟩ := inB_s hf
  obtain ⟨j8, ej8, hf⟩ := nmV_s hf
  refine va_iast (f := (Sw.2.1 7)) (n := 4) hx hb hK hP hD hS 2 0 rfl rfl h7 dX6_addDeed_23 (fun H locs hP hD hS => ?_)
  rw [← ej8] at hP hD
  have hP : va_P D vwCl (wX6_addDeed cI cZ jhw jaw jhp np (bW (bW Sw 6 j4 v2) 7 j8 v6) P) H := hP
  have hD : va_D A (wX6_addDeed cI cZ jhw jaw jhp np (bW (bW Sw 6 j4 v2) 7 j8 v6) P) := hD
  refine lv_aload_n hx hb dX6_addDeed_24 rfl (lv_at hl 0 rfl) ?_
  refine va_get (D := D) (ci := 5) (v := .ref (jaw 8)) (C := RX6) (T := TX6) (N := 15) hx hb ht inX6 hown hK hP 0 rfl rfl 12 (by decide) (ht _ wd1_88) (fun _ h9 => h9) rfl dX6_addDeed_25 ?_
  refine lv_aload_n hx hb dX6_addDeed_28 rfl (lv_at hl 0 rfl) ?_
  refine va_get (D := D) (ci := 5) (v := .int (Sw.1 3)) (C := RX6) (T := TX6) (N := 15) hx hb ht inX6 hown hK hP 0 rfl rfl 9 (by decide) (ht _ wd1_75) (fun _ h9 => h9) rfl dX6_addDeed_29 ?_
  refine lv_aload_n hx hb dX6_addDeed_32 rfl (lv_at hl 1 rfl) ?_
  refine lv_iconst (v := (2 : Int32)) hx hb dX6_addDeed_33 rfl ?_
  obtain ⟨h9, hf⟩ := inB_s hf
  refine va_iald (f := P) (n := np) hx hb hK hP 6 0 rfl rfl h9 dX6_addDeed_34 ?_
  obtain ⟨v10, ev10, hf⟩ := nmV_s hf
  rw [← ev10]
  obtain ⟨h11, hf⟩ := inB_s hf
  obtain ⟨j12, ej12, hf⟩ := nmV_s hf
  refine va_iast (f := (Sw.2.1 8)) (n := 4) hx hb hK hP hD hS 3 0 rfl rfl h11 dX6_addDeed_35 (fun H locs hP hD hS => ?_)
  rw [← ej12] at hP hD
  have hP : va_P D vwCl (wX6_addDeed cI cZ jhw jaw jhp np (bW (bW (bW Sw 6 j4 v2) 7 j8 v6) 8 j12 v10) P) H := hP
  have hD : va_D A (wX6_addDeed cI cZ jhw jaw jhp np (bW (bW (bW Sw 6 j4 v2) 7 j8 v6) 8 j12 v10) P) := hD
  refine lv_aload_n hx hb dX6_addDeed_36 rfl (lv_at hl 0 rfl) ?_
  refine va_get (D := D) (ci := 5) (v := .ref (jaw 9)) (C := RX6) (T := TX6) (N := 15) hx hb ht inX6 hown hK hP 0 rfl rfl 13 (by decide) (ht _ wd1_90) (fun _ h9 => h9) rfl dX6_addDeed_37 ?_
  refine lv_aload_n hx hb dX6_addDeed_40 rfl (lv_at hl 0 rfl) ?_
  refine va_get (D := D) (ci := 5) (v := .int (Sw.1 3)) (C := RX6) (T := TX6) (N := 15) hx hb ht inX6 hown hK hP 0 rfl rfl 9 (by decide) (ht _ wd1_75) (fun _ h9 => h9) rfl dX6_addDeed_41 ?_
  refine lv_aload_n hx hb dX6_addDeed_44 rfl (lv_at hl 1 rfl) ?_
  refine lv_iconst (v := (3 : Int32)) hx hb dX6_addDeed_45 rfl ?_
  obtain ⟨h13, hf⟩ := inB_s hf
  refine va_iald (f := P) (n := np) hx hb hK hP 6 0 rfl rfl h13 dX6_addDeed_46 ?_
  obtain ⟨v14, ev14, hf⟩ := nmV_s hf
  rw [← ev14]
  obtain ⟨h15, hf⟩ := inB_s hf
  obtain ⟨j16, ej16, hf⟩ := nmV_s hf
  refine va_iast (f := (Sw.2.1 9)) (n := 4) hx hb hK hP hD hS 4 0 rfl rfl h15 dX6_addDeed_47 (fun H locs hP hD hS => ?_)
  rw [← ej16] at hP hD
  have hP : va_P D vwCl (wX6_addDeed cI cZ jhw jaw jhp np (bW (bW (bW (bW Sw 6 j4 v2) 7 j8 v6) 8 j12 v10) 9 j16 v14) P) H := hP
  have hD : va_D A (wX6_addDeed cI cZ jhw jaw jhp np (bW (bW (bW (bW Sw 6 j4 v2) 7 j8 v6) 8 j12 v10) 9 j16 v14) P) := hD
  refine lv_aload_n hx hb dX6_addDeed_48 rfl (lv_at hl 0 rfl) ?_
  refine va_get (D := D) (ci := 5) (v := .ref (jaw 10)) (C := RX6) (T := TX6) (N := 15) hx hb ht inX6 hown hK hP 0 rfl rfl 14 (by decide) (ht _ wd1_94) (fun _ h9 => h9) rfl dX6_addDeed_49 ?_
  refine lv_aload_n hx hb dX6_addDeed_52 rfl (lv_at hl 0 rfl) ?_
  refine va_get (D := D) (ci := 5) (v := .int (Sw.1 3)) (C := RX6) (T := TX6) (N := 15) hx hb ht inX6 hown hK hP 0 rfl rfl 9 (by decide) (ht _ wd1_75) (fun _ h9 => h9) rfl dX6_addDeed_53 ?_
  refine lv_aload_n hx hb dX6_addDeed_56 rfl (lv_at hl 1 rfl) ?_
  refine lv_iconst (v := (4 : Int32)) hx hb dX6_addDeed_57 rfl ?_
  obtain ⟨h17, hf⟩ := inB_s hf
  refine va_iald (f := P) (n := np) hx hb hK hP 6 0 rfl rfl h17 dX6_addDeed_58 ?_
  obtain ⟨v18, ev18, hf⟩ := nmV_s hf
  rw [← ev18]
  obtain ⟨h19, hf⟩ := inB_s hf
  obtain ⟨j20, ej20, hf⟩ := nmV_s hf
  refine va_iast (f := (Sw.2.1 10)) (n := 4) hx hb hK hP hD hS 5 0 rfl rfl h19 dX6_addDeed_59 (fun H locs hP hD hS => ?_)
  rw [← ej20] at hP hD
  have hP : va_P D vwCl (wX6_addDeed cI cZ jhw jaw jhp np (bW (bW (bW (bW (bW Sw 6 j4 v2) 7 j8 v6) 8 j12 v10) 9 j16 v14) 10 j20 v18) P) H := hP
  have hD : va_D A (wX6_addDeed cI cZ jhw jaw jhp np (bW (bW (bW (bW (bW Sw 6 j4 v2) 7 j8 v6) 8 j12 v10) 9 j16 v14) 10 j20 v18) P) := hD
  refine lv_aload_n hx hb dX6_addDeed_60 rfl (lv_at hl 0 rfl) ?_
  refine lv_dup hx hb dX6_addDeed_61 rfl ?_
  refine va_get (D := D) (ci := 5) (v := .int (Sw.1 3)) (C := RX6) (T := TX6) (N := 15) hx hb ht inX6 hown hK hP 0 rfl rfl 9 (by decide) (ht _ wd1_75) (fun _ h9 => h9) rfl dX6_addDeed_62 ?_
  refine lv_iconst (v := (1 : Int32)) hx hb dX6_addDeed_65 rfl ?_
  refine lv_iadd hx hb dX6_addDeed_66 ?_
  obtain ⟨v21, ev21, hf⟩ := nmV_s hf
  rw [← ev21]
  refine va_put (D := D) (ci := 5) (v := .int v21) (ty := .int) (C := RX6) (T := TX6) (N := 15) hx hb ht inX6 tyX6 tyX6_ok nmX6 hown hK hP hD hS 0 rfl rfl 9 (by decide) (ht _ wd1_75) (fun _ h9 => h9) rfl (tyX6_ok 9 (by decide)) rfl rfl (Nat.le_of_ble_eq_true rfl) dX6_addDeed_67 (fun H locs hP hD hS => ?_)
  have hP : va_P D vwCl (wX6_addDeed cI cZ jhw jaw jhp np (bI (bW (bW (bW (bW (bW Sw 6 j4 v2) 7 j8 v6) 8 j12 v10) 9 j16 v14) 10 j20 v18) 3 v21) P) H := hP
  have hD : va_D A (wX6_addDeed cI cZ jhw jaw jhp np (bI (bW (bW (bW (bW (bW Sw 6 j4 v2) 7 j8 v6) 8 j12 v10) 9 j16 v14) 10 j20 v18) 3 v21) P) := hD
  cases hf
  exact W.vret hx hb hr (fun t ht9 hW => ⟨⟨(), rfl, trivial, by rw [ht9]; exact hP, va_K.moved hW.alike hK, hD⟩, hS.F ht9⟩) hS.2.2 dX6_addDeed_70
abbrev wX6_addQuestion (cI cZ : ClassId) (jhw : Nat) (jaw : Nat → Nat) (jhp : Nat) (np : Nat) (Sw : Bk) (P : (Nat → Int32)) : va_W := [(jhw, .inr (5, [.int (Sw.1 0), .ref (jaw 0), .ref (jaw 1), .ref (jaw 2), .int (Sw.1 1), .ref (jaw 3), .ref (jaw 4), .ref (jaw 5), .int (Sw.1 2), .int (Sw.1 3), .ref (jaw 6), .ref (jaw 7), .ref (jaw 8), .ref (jaw 9), .ref (jaw 10)])), (jaw 3, .inl (cI, 4, .inl (Sw.2.1 3))), (jaw 4, .inl (cI, 4, .inl (Sw.2.1 4))), (jaw 5, .inl (cI, 4, .inl (Sw.2.1 5))), (jhp, .inl (cI, np, .inl P))]
def fX6_addQuestion (Sw : Bk) (P : (Nat → Int32)) (np : Nat) : Option (Bk) := inB np (0 : Int32) (nmV (P (0 : Int32).toNatClampNeg) (fun v2 => inB 4 (Sw.1 1) (nmV (Sw.1 1).toNatClampNeg (fun j4 => inB np (1 : Int32) (nmV (P (1 : Int32).toNatClampNeg) (fun v6 => inB 4 (Sw.1 1) (nmV (Sw.1 1).toNatClampNeg (fun j8 => inB np (2 : Int32) (nmV ((Sw.1 2) ||| ((P (2 : Int32).toNatClampNeg) <<< ((Sw.1 1) &&& 31))) (fun v10 => inB np (3 : Int32) (nmV (P (3 : Int32).toNatClampNeg) (fun v12 => inB 4 (Sw.1 1) (nmV (Sw.1 1).toNatClampNeg (fun j14 => nmV ((Sw.1 1) + (1 : Int32)) (fun v15 => some (bI (bW (bI (bW (bW Sw 3 j4 v2) 4 j8 v6) 2 v10) 5 j14 v12) 1 v15))))))))))))))))
theorem miX6_addQuestion : MI yX6_addQuestion cX6_addQuestion 2 none 1 := ⟨wd1_3, wd2_84, by decide +kernel⟩
theorem mjX6_addQuestion : Cond.instanceMethod yX6_addQuestion ∈ wT ∧ Cond.selects yX6_addQuestion.cls yX6_addQuestion yX6_addQuestion ∈ wT := ⟨wd2_83, ws_1⟩
set_option maxHeartbeats 4000000 in
set_option maxRecDepth 100000 in
theorem qX6_addQuestion (l : Launch) (D : va_G) (cI cZ cO : ClassId) (jhw : Nat) (jaw : Nat → Nat) (jhp : Nat) (np : Nat) (Sw : Bk) (P : (Nat → Int32)) (sz : Nat) (res : Bk) (hf : fX6_addQuestion Sw P np = some res) : Met l yX6_addQuestion (Cond.code yX6_addQuestion cX6_addQuestion 2 none :: wT) (rmF 0 0) (va_Pc [.ref jhw, .ref jhp] (cW D (tyL cI cZ cO) (wX6_addQuestion cI cZ jhw jaw jhp np Sw P) sz)) (va_Qv (S := Unit) (fun _ => True) (fun _ => qW D (tyL cI cZ cO) (va_A (wX6_addQuestion cI cZ jhw jaw jhp np Sw P) sz) (wX6_addQuestion cI cZ jhw jaw jhp np res P)) (va_A (wX6_addQuestion cI cZ jhw jaw jhp np Sw P) sz)) 0 0 (va_A (wX6_addQuestion cI cZ jhw jaw jhp np Sw P) sz) := by
  refine met_w (by decide) (Nat.le_of_ble_eq_true rfl) ?_
  intro p e s m below meth c hx hb hr hml ht hown hlk ls hl hsz hP hK hD0 hZ
  subst hsz
  have hD := hD0.self (sz := s.heap.size)
  generalize hAe : va_A (wX6_addQuestion cI cZ jhw jaw jhp np Sw P) s.heap.size = A at hD hZ ⊢
  have hA : ∀ q : Nat, s.heap.size ≤ q → A q := fun q h => by rw [← hAe]; exact Or.inr h
  have hS : va_S A s.heap s.heap [] := va_S.rf
  have hown : s.vm.findClass "EyeDrink$Well" = some m.cls := hown
  have hl : lv_has ls 2 [(0, .ref jhw), (1, .ref jhp)] := hl
  unfold fX6_addQuestion at hf
  suffices hgo : ∀ (H : Heap) (locs : List Loc), va_P D vwCl (wX6_addQuestion cI cZ jhw jaw jhp np Sw P) H → va_S A s.heap H locs → W p l e (rmF 0 0) s m ([.ref jhw, .ref jhp] : List Value).toArray below meth c H locs 0 0 (MQ below (va_Qv (S := Unit) (fun _ => True) (fun _ => qW D (tyL cI cZ cO) A (wX6_addQuestion cI cZ jhw jaw jhp np res P)) A) ([.ref jhw, .ref jhp] : List Value).toArray s 0 0 A) (F0 m 0 ls []) from hgo s.heap [] hP hS
  intro H locs hP hS
  refine lv_aload_n hx hb dX6_addQuestion_0 rfl (lv_at hl 0 rfl) ?_
  refine va_get (D := D) (ci := 5) (v := .ref (jaw 3)) (C := RX6) (T := TX6) (N := 15) hx hb ht inX6 hown hK hP 0 rfl rfl 5 (by decide) (ht _ wd1_62) (fun _ h9 => h9) rfl dX6_addQuestion_1 ?_
  refine lv_aload_n hx hb dX6_addQuestion_4 rfl (lv_at hl 0 rfl) ?_
  refine va_get (D := D) (ci := 5) (v := .int (Sw.1 1)) (C := RX6) (T := TX6) (N := 15) hx hb ht inX6 hown hK hP 0 rfl rfl 4 (by decide) (ht _ wd1_57) (fun _ h9 => h9) rfl dX6_addQuestion_5 ?_
  refine lv_aload_n hx hb dX6_addQuestion_8 rfl (lv_at hl 1 rfl) ?_
  refine lv_iconst (v := (0 : Int32)) hx hb dX6_addQuestion_9 rfl ?_
  obtain ⟨h1, hf⟩ := inB_s hf
  refine va_iald (f := P) (n := np) hx hb hK hP 4 0 rfl rfl h1 dX6_addQuestion_10 ?_
  obtain ⟨v2, ev2, hf⟩ := nmV_s hf
  rw [← ev2]
  obtain ⟨h3, hf⟩ := inB_s hf
  obtain ⟨j4, ej4, hf⟩ := nmV_s hf
  refine va_iast (f := (Sw.2.1 3)) (n := 4) hx hb hK hP hD hS 1 0 rfl rfl h3 dX6_addQuestion_11 (fun H locs hP hD hS => ?_)
  rw [← ej4] at hP hD
  have hP : va_P D vwCl (wX6_addQuestion cI cZ jhw jaw jhp np (bW Sw 3 j4 v2) P) H := hP
  have hD : va_D A (wX6_addQuestion cI cZ jhw jaw jhp np (bW Sw 3 j4 v2) P) := hD
  refine lv_aload_n hx hb dX6_addQuestion_12 rfl (lv_at hl 0 rfl) ?_
  refine va_get (D := D) (ci := 5) (v := .ref (jaw 4)) (C := RX6) (T := TX6) (N := 15) hx hb ht inX6 hown hK hP 0 rfl rfl 6 (by decide) (ht _ wd1_66) (fun _ h9 => h9) rfl dX6_addQuestion_13 ?_
  refine lv_aload_n hx hb dX6_addQuestion_16 rfl (lv_at hl 0 rfl) ?_
  refine va_get (D := D) (ci := 5) (v := .int (Sw.1 1)) (C := RX6) (T := TX6) (N := 15) hx hb ht inX6 hown hK hP 0 rfl rfl 4 (by decide) (ht _ wd1_57) (fun _ h9 => h9) rfl dX6_addQuestion_17 ?_
  refine lv_aload_n hx hb dX6_addQuestion_20 rfl (lv_at hl 1 rfl) ?_
  refine lv_iconst (v := (1 : Int32)) hx hb dX6_addQuestion_21 rfl ?_
  obtain ⟨h5, hf⟩ := inB_s hf
  refine va_iald (f := P) (n := np) hx hb hK hP 4 0 rfl rfl h5 dX6_addQuestion_22 ?_
  obtain ⟨v6, ev6, hf⟩ := nmV_s hf
  rw [← ev6]
  obtain ⟨h7, hf⟩ := inB_s hf
  obtain ⟨j8, ej8, hf⟩ := nmV_s hf
  refine va_iast (f := (Sw.2.1 4)) (n := 4) hx hb hK hP hD hS 2 0 rfl rfl h7 dX6_addQuestion_23 (fun H locs hP hD hS => ?_)
  rw [← ej8] at hP hD
  have hP : va_P D vwCl (wX6_addQuestion cI cZ jhw jaw jhp np (bW (bW Sw 3 j4 v2) 4 j8 v6) P) H := hP
  have hD : va_D A (wX6_addQuestion cI cZ jhw jaw jhp np (bW (bW Sw 3 j4 v2) 4 j8 v6) P) := hD
  refine lv_aload_n hx hb dX6_addQuestion_24 rfl (lv_at hl 0 rfl) ?_
  refine lv_dup hx hb dX6_addQuestion_25 rfl ?_
  refine va_get (D := D) (ci := 5) (v := .int (Sw.1 2)) (C := RX6) (T := TX6) (N := 15) hx hb ht inX6 hown hK hP 0 rfl rfl 8 (by decide) (ht _ wd1_73) (fun _ h9 => h9) rfl dX6_addQuestion_26 ?_
  refine lv_aload_n hx hb dX6_addQuestion_29 rfl (lv_at hl 1 rfl) ?_
  refine lv_iconst (v := (2 : Int32)) hx hb dX6_addQuestion_30 rfl ?_
  obtain ⟨h9, hf⟩ := inB_s hf
  refine va_iald (f := P) (n := np) hx hb hK hP 4 0 rfl rfl h9 dX6_addQuestion_31 ?_
  refine lv_aload_n hx hb dX6_addQuestion_32 rfl (lv_at hl 0 rfl) ?_
  refine va_get (D := D) (ci := 5) (v := .int (Sw.1 1)) (C := RX6) (T := TX6) (N := 15) hx hb ht inX6 hown hK hP 0 rfl rfl 4 (by decide) (ht _ wd1_57) (fun _ h9 => h9) rfl dX6_addQuestion_33 ?_
  refine lv_ishl hx hb dX6_addQuestion_36 ?_
  refine lv_ior hx hb dX6_addQuestion_37 ?_
  obtain ⟨v10, ev10, hf⟩ := nmV_s hf
  rw [← ev10]
  refine va_put (D := D) (ci := 5) (v := .int v10) (ty := .int) (C := RX6) (T := TX6) (N := 15) hx hb ht inX6 tyX6 tyX6_ok nmX6 hown hK hP hD hS 0 rfl rfl 8 (by decide) (ht _ wd1_73) (fun _ h9 => h9) rfl (tyX6_ok 8 (by decide)) rfl rfl (Nat.le_of_ble_eq_true rfl) dX6_addQuestion_38 (fun H locs hP hD hS => ?_)
  have hP : va_P D vwCl (wX6_addQuestion cI cZ jhw jaw jhp np (bI (bW (bW Sw 3 j4 v2) 4 j8 v6) 2 v10) P) H := hP
  have hD : va_D A (wX6_addQuestion cI cZ jhw jaw jhp np (bI (bW (bW Sw 3 j4 v2) 4 j8 v6) 2 v10) P) := hD
  refine lv_aload_n hx hb dX6_addQuestion_41 rfl (lv_at hl 0 rfl) ?_
  refine va_get (D := D) (ci := 5) (v := .ref (jaw 5)) (C := RX6) (T := TX6) (N := 15) hx hb ht inX6 hown hK hP 0 rfl rfl 7 (by decide) (ht _ wd1_70) (fun _ h9 => h9) rfl dX6_addQuestion_42 ?_
  refine lv_aload_n hx hb dX6_addQuestion_45 rfl (lv_at hl 0 rfl) ?_
  refine va_get (D := D) (ci := 5) (v := .int (Sw.1 1)) (C := RX6) (T := TX6) (N := 15) hx hb ht inX6 hown hK hP 0 rfl rfl 4 (by decide) (ht _ wd1_57) (fun _ h9 => h9) rfl dX6_addQuestion_46 ?_
  refine lv_aload_n hx hb dX6_addQuestion_49 rfl (lv_at hl 1 rfl) ?_
  refine lv_iconst (v := (3 : Int32)) hx hb dX6_addQuestion_50 rfl ?_
  obtain ⟨h11, hf⟩ := inB_s hf
  refine va_iald (f := P) (n := np) hx hb hK hP 4 0 rfl rfl h11 dX6_addQuestion_51 ?_
  obtain ⟨v12, ev12, hf⟩ := nmV_s hf
  rw [← ev12]
  obtain ⟨h13, hf⟩ := inB_s hf
  obtain ⟨j14, ej14, hf⟩ := nmV_s hf
  refine va_iast (f := (Sw.2.1 5)) (n := 4) hx hb hK hP hD hS 3 0 rfl rfl h13 dX6_addQuestion_52 (fun H locs hP hD hS => ?_)
  rw [← ej14] at hP hD
  have hP : va_P D vwCl (wX6_addQuestion cI cZ jhw jaw jhp np (bW (bI (bW (bW Sw 3 j4 v2) 4 j8 v6) 2 v10) 5 j14 v12) P) H := hP
  have hD : va_D A (wX6_addQuestion cI cZ jhw jaw jhp np (bW (bI (bW (bW Sw 3 j4 v2) 4 j8 v6) 2 v10) 5 j14 v12) P) := hD
  refine lv_aload_n hx hb dX6_addQuestion_53 rfl (lv_at hl 0 rfl) ?_
  refine lv_dup hx hb dX6_addQuestion_54 rfl ?_
  refine va_get (D := D) (ci := 5) (v := .int (Sw.1 1)) (C := RX6) (T := TX6) (N := 15) hx hb ht inX6 hown hK hP 0 rfl rfl 4 (by decide) (ht _ wd1_57) (fun _ h9 => h9) rfl dX6_addQuestion_55 ?_
  refine lv_iconst (v := (1 : Int32)) hx hb dX6_addQuestion_58 rfl ?_
  refine lv_iadd hx hb dX6_addQuestion_59 ?_
  obtain ⟨v15, ev15, hf⟩ := nmV_s hf
  rw [← ev15]
  refine va_put (D := D) (ci := 5) (v := .int v15) (ty := .int) (C := RX6) (T := TX6) (N := 15) hx hb ht inX6 tyX6 tyX6_ok nmX6 hown hK hP hD hS 0 rfl rfl 4 (by decide) (ht _ wd1_57) (fun _ h9 => h9) rfl (tyX6_ok 4 (by decide)) rfl rfl (Nat.le_of_ble_eq_true rfl) dX6_addQuestion_60 (fun H locs hP hD hS => ?_)
  have hP : va_P D vwCl (wX6_addQuestion cI cZ jhw jaw jhp np (bI (bW (bI (bW (bW Sw 3 j4 v2) 4 j8 v6) 2 v10) 5 j14 v12) 1 v15) P) H := hP
  have hD : va_D A (wX6_addQuestion cI cZ jhw jaw jhp np (bI (bW (bI (bW (bW Sw 3 j4 v2) 4 j8 v6) 2 v10) 5 j14 v12) 1 v15) P) := hD
  cases hf
  exact W.vret hx hb hr (fun t ht9 hW => ⟨⟨(), rfl, trivial, by rw [ht9]; exact hP, va_K.moved hW.alike hK, hD⟩, hS.F ht9⟩) hS.2.2 dX6_addQuestion_63
