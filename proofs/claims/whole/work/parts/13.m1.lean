abbrev wX8_mean (cI cZ : ClassId) (jhm : Nat) (jam : Nat → Nat) (Sm : Bk) : va_W := [(jhm, .inr (7, [.int (Sm.1 0), .ref (jam 0), .int (Sm.1 1), .int (Sm.1 2), .int (Sm.1 3), .int (Sm.1 4), .int (Sm.1 5), .ref (jam 1), .ref (jam 2), .ref (jam 3), .int (Sm.1 6), .int (Sm.1 7), .int (Sm.1 8), .ref (jam 4), .ref (jam 5), .ref (jam 6), .ref (jam 7), .ref (jam 8), .ref (jam 9), .int (Sm.1 9), .ref (jam 10), .ref (jam 11), .int (Sm.1 10), .ref (jam 12), .ref (jam 13), .long Sm.2.2, .ref (jam 14), .ref (jam 15), .int (Sm.1 11), .int (Sm.1 12), .int (Sm.1 13)])), (jam 1, .inl (cI, 12, .inl (Sm.2.1 1))), (jam 2, .inl (cI, 16, .inl (Sm.2.1 2))), (jam 3, .inl (cI, 20, .inl (Sm.2.1 3))), (jam 7, .inl (cI, 16, .inl (Sm.2.1 7))), (jam 14, .inl (cI, 1296, .inl (Sm.2.1 14))), (jam 15, .inl (cI, 4, .inl (Sm.2.1 15)))]
def fX8_mean (Sm : Bk) (x1 : Int32) : Option (Int32 × Bk) := (fX8_in x1.toInt64 (0 : Int64) (1 : Int64)).bind (fun u1 => (if u1 = 0 then some ((-2 : Int32), (bI Sm 0 (0 : Int32))) else (fX8_layBest (bI Sm 0 (0 : Int32)) (0 : Int32) (-9 : Int32)).bind (fun u4 => (if x1 = 0 then (fX8_bestNow u4).bind (fun u9 => some (((10 : Int32) * u9), u4)) else (fX8_firstOf u4 (0 : Int32)).bind (fun u7 => some (u7.1, u7.2))))))
theorem miX8_mean : MI yX8_mean cX8_mean 2 (some .int) 1 := ⟨wd1_8, wd4_175, by decide +kernel⟩
theorem mjX8_mean : Cond.instanceMethod yX8_mean ∈ wT ∧ Cond.selects yX8_mean.cls yX8_mean yX8_mean ∈ wT := ⟨wd4_173, wd4_174⟩
set_option maxHeartbeats 4000000 in
set_option maxRecDepth 100000 in
theorem qX8_mean (l : Launch) (D : va_G) (cI cZ cO : ClassId) (jhm : Nat) (jam : Nat → Nat) (Sm : Bk) (x1 : Int32) (sz : Nat) (res : Int32 × Bk) (hf : fX8_mean Sm x1 = some res) : Met l yX8_mean (Cond.code yX8_mean cX8_mean 2 (some .int) :: wT) (rmF 6 151) (va_Pc [.ref jhm, .int x1] (cW D (tyL cI cZ cO) (wX8_mean cI cZ jhm jam Sm) sz)) (va_Qi (S := Unit) (fun r _ => r = res.1) (fun _ => qW D (tyL cI cZ cO) (va_A (wX8_mean cI cZ jhm jam Sm) sz) (wX8_mean cI cZ jhm jam res.2)) (va_A (wX8_mean cI cZ jhm jam Sm) sz)) 0 0 (va_A (wX8_mean cI cZ jhm jam Sm) sz) := by
  refine met_w (by decide) (Nat.le_of_ble_eq_true rfl) ?_
  intro p e s m below meth c hx hb hr hml ht hown hlk ls hl hsz hP hK hD0 hZ
  subst hsz
  have hD := hD0.self (sz := s.heap.size)
  generalize hAe : va_A (wX8_mean cI cZ jhm jam Sm) s.heap.size = A at hD hZ ⊢
  have hA : ∀ q : Nat, s.heap.size ≤ q → A q := fun q h => by rw [← hAe]; exact Or.inr h
  have hS : va_S A s.heap s.heap [] := va_S.rf
  have hown : s.vm.findClass "EyeDrinkModel" = some m.cls := hown
  have hl : lv_has ls 2 [(0, .ref jhm), (1, .int x1)] := hl
  have hC : CallFix p m c cX8_mean 2 s ([.ref jhm, .int x1] : List Value).toArray wT "EyeDrinkModel" := ⟨hx, hb, hml, hown, ht⟩
  unfold fX8_mean at hf
  suffices hgo : ∀ (H : Heap) (locs : List Loc), va_P D vwCl (wX8_mean cI cZ jhm jam Sm) H → va_S A s.heap H locs → W p l e (rmF 6 151) s m ([.ref jhm, .int x1] : List Value).toArray below meth c H locs 0 0 (MQ below (va_Qi (S := Unit) (fun r _ => r = res.1) (fun _ => qW D (tyL cI cZ cO) A (wX8_mean cI cZ jhm jam res.2)) A) ([.ref jhm, .int x1] : List Value).toArray s 0 0 A) (F0 m 0 ls []) from hgo s.heap [] hP hS
  intro H locs hP hS
  refine lv_aload_n hx hb dX8_mean_0 rfl (lv_at hl 0 rfl) ?_
  refine lv_iconst (v := (0 : Int32)) hx hb dX8_mean_1 rfl ?_
  refine va_put (D := D) (ci := 7) (v := .int (0 : Int32)) (ty := .int) (C := RX8) (T := TX8) (N := 31) hx hb ht inX8 tyX8 tyX8_ok nmX8 hown hK hP hD hS 0 rfl rfl 0 (by decide) (ht _ wd3_185) (fun _ h9 => h9) rfl (tyX8_ok 0 (by decide)) rfl rfl (Nat.le_of_ble_eq_true rfl) dX8_mean_2 (fun H locs hP hD hS => ?_)
  have hP : va_P D vwCl (wX8_mean cI cZ jhm jam (bI Sm 0 (0 : Int32))) H := hP
  have hD : va_D A (wX8_mean cI cZ jhm jam (bI Sm 0 (0 : Int32))) := hD
  refine lv_iload_n hx hb dX8_mean_5 rfl (lv_at hl 1 rfl) ?_
  refine lv_i2l hx hb dX8_mean_6 rfl ?_
  refine lv_lconst (v := 0) hx hb dX8_mean_7 rfl ?_
  refine lv_lconst (v := 1) hx hb dX8_mean_8 rfl ?_
  obtain ⟨u1, e2, hf⟩ := bdS hf
  refine k_pS (As := [.long x1.toInt64, .long (0 : Int64), .long (1 : Int64)]) (rest := []) hC miX8_in mjX8_in wd4_44 (qX8_in l x1.toInt64 (0 : Int64) (1 : Int64) u1 e2) ⟨Nat.le_of_ble_eq_true rfl, Nat.le_of_ble_eq_true rfl⟩ hl.1 rfl rfl (Nat.le_of_ble_eq_true rfl) dX8_mean_9 ?_
  refine lv_if_ne (tgt := 18) hx hb dX8_mean_12 (by decide) (fun c3 => ?_) (fun c3 => ?_)
  · have hf := itN c3 hf
    refine lv_aload_n hx hb dX8_mean_18 rfl (lv_at hl 0 rfl) ?_
    refine lv_iconst (v := (0 : Int32)) hx hb dX8_mean_19 rfl ?_
    refine lv_bipush (v := (-9 : Int32)) hx hb dX8_mean_20 rfl ?_
    obtain ⟨u4, e5, hf⟩ := bdS hf
    refine k_wVv (ws' := (wX8_mean cI cZ jhm jam u4)) (wr := []) (As := [.int (0 : Int32), .int (-9 : Int32)]) (rest := []) hC miX8_layBest mjX8_layBest.1 mjX8_layBest.2 wd4_176 (qX8_layBest l D cI cZ cO jhm jam (bI Sm 0 (0 : Int32)) (0 : Int32) (-9 : Int32) H.size u4 e5) ⟨Nat.le_of_ble_eq_true rfl, Nat.le_of_ble_eq_true rfl⟩ hP hD hK hZ hS hA [0, 1, 2, 3, 4, 5, 6] [] [0, 1, 2, 3, 4, 5, 6] rfl (by decide) rfl (by decide) (by decide) (by decide) rfl (va_recv hK hP (ci := 7) (q0 := 0) rfl rfl) hl.1 rfl rfl (Nat.le_of_ble_eq_true rfl) dX8_mean_22 (fun H locs hP hD hS => ?_)
    refine lv_iload_n hx hb dX8_mean_25 rfl (lv_at hl 1 rfl) ?_
    refine lv_if_ne (tgt := 39) hx hb dX8_mean_26 (by decide) (fun c6 => ?_) (fun c6 => ?_)
    · have hf := itN c6 hf
      refine lv_aload_n hx hb dX8_mean_39 rfl (lv_at hl 0 rfl) ?_
      refine lv_iconst (v := (0 : Int32)) hx hb dX8_mean_40 rfl ?_
      obtain ⟨u7, e8, hf⟩ := bdS hf
      refine k_wVi (ws' := (wX8_mean cI cZ jhm jam u7.2)) (wr := []) (As := [.int (0 : Int32)]) (rest := []) hC miX8_firstOf mjX8_firstOf.1 mjX8_firstOf.2 wd4_228 (qX8_firstOf l D cI cZ cO jhm jam u4 (0 : Int32) H.size u7 e8) ⟨Nat.le_of_ble_eq_true rfl, Nat.le_of_ble_eq_true rfl⟩ hP hD hK hZ hS hA [0, 1, 2, 3, 4, 5, 6] [] [0, 1, 2, 3, 4, 5, 6] rfl (by decide) rfl (by decide) (by decide) (by decide) rfl (va_recv hK hP (ci := 7) (q0 := 0) rfl rfl) hl.1 rfl rfl (Nat.le_of_ble_eq_true rfl) dX8_mean_41 (fun H locs hP hD hS => ?_)
      cases hf
      exact W.iret hx hb hr (fun t ht9 hW => ⟨⟨_, (), rfl, rfl, by rw [ht9]; exact hP, va_K.moved hW.alike hK, hD⟩, hS.F ht9⟩) hS.2.2 dX8_mean_44
    · have hf := itP c6 hf
      refine lv_bipush (v := (10 : Int32)) hx hb dX8_mean_29 rfl ?_
      refine lv_aload_n hx hb dX8_mean_31 rfl (lv_at hl 0 rfl) ?_
      obtain ⟨u9, e10, hf⟩ := bdS hf
      refine k_rV (As := []) (rest := [.int (10 : Int32)]) hC miX8_bestNow mjX8_bestNow.1 mjX8_bestNow.2 wd4_224 (qX8_bestNow l D cI cZ cO jhm jam u4 u9 e10) ⟨Nat.le_of_ble_eq_true rfl, Nat.le_of_ble_eq_true rfl⟩ (hP.sub [0, 2, 4, 5] rfl) hK hZ hS (va_recv hK hP (ci := 7) (q0 := 0) rfl rfl) hl.1 rfl rfl (Nat.le_of_ble_eq_true rfl) dX8_mean_32 ?_
      refine lv_imul hx hb dX8_mean_35 ?_
      refine lv_goto (tgt := 44) hx hb dX8_mean_36 (by decide) ?_
      cases hf
      exact W.iret hx hb hr (fun t ht9 hW => ⟨⟨_, (), rfl, rfl, by rw [ht9]; exact hP, va_K.moved hW.alike hK, hD⟩, hS.F ht9⟩) hS.2.2 dX8_mean_44
  · have hf := itP c3 hf
    refine lv_bipush (v := (-2 : Int32)) hx hb dX8_mean_15 rfl ?_
    cases hf
    exact W.iret hx hb hr (fun t ht9 hW => ⟨⟨_, (), rfl, rfl, by rw [ht9]; exact hP, va_K.moved hW.alike hK, hD⟩, hS.F ht9⟩) hS.2.2 dX8_mean_17
abbrev wX8_worst (cI cZ : ClassId) (jhm : Nat) (jam : Nat → Nat) (Sm : Bk) : va_W := [(jhm, .inr (7, [.int (Sm.1 0), .ref (jam 0), .int (Sm.1 1), .int (Sm.1 2), .int (Sm.1 3), .int (Sm.1 4), .int (Sm.1 5), .ref (jam 1), .ref (jam 2), .ref (jam 3), .int (Sm.1 6), .int (Sm.1 7), .int (Sm.1 8), .ref (jam 4), .ref (jam 5), .ref (jam 6), .ref (jam 7), .ref (jam 8), .ref (jam 9), .int (Sm.1 9), .ref (jam 10), .ref (jam 11), .int (Sm.1 10), .ref (jam 12), .ref (jam 13), .long Sm.2.2, .ref (jam 14), .ref (jam 15), .int (Sm.1 11), .int (Sm.1 12), .int (Sm.1 13)])), (jam 1, .inl (cI, 12, .inl (Sm.2.1 1))), (jam 2, .inl (cI, 16, .inl (Sm.2.1 2))), (jam 3, .inl (cI, 20, .inl (Sm.2.1 3))), (jam 7, .inl (cI, 16, .inl (Sm.2.1 7))), (jam 14, .inl (cI, 1296, .inl (Sm.2.1 14))), (jam 15, .inl (cI, 4, .inl (Sm.2.1 15)))]
def fX8_worst (Sm : Bk) (x1 : Int32) : Option (Int32 × Bk) := (fX8_in x1.toInt64 (0 : Int64) (1 : Int64)).bind (fun u1 => (if u1 = 0 then some ((-2 : Int32), (bI Sm 0 (0 : Int32))) else (fX8_layBest (bI Sm 0 (0 : Int32)) (1 : Int32) (-9 : Int32)).bind (fun u4 => (if x1 = 0 then (fX8_bestNow u4).bind (fun u9 => some (u9, u4)) else (fX8_firstOf u4 (1 : Int32)).bind (fun u7 => some (u7.1, u7.2))))))
theorem miX8_worst : MI yX8_worst cX8_worst 2 (some .int) 1 := ⟨wd1_8, wd4_235, by decide +kernel⟩
theorem mjX8_worst : Cond.instanceMethod yX8_worst ∈ wT ∧ Cond.selects yX8_worst.cls yX8_worst yX8_worst ∈ wT := ⟨wd4_233, wd4_234⟩
set_option maxHeartbeats 4000000 in
set_option maxRecDepth 100000 in
theorem qX8_worst (l : Launch) (D : va_G) (cI cZ cO : ClassId) (jhm : Nat) (jam : Nat → Nat) (Sm : Bk) (x1 : Int32) (sz : Nat) (res : Int32 × Bk) (hf : fX8_worst Sm x1 = some res) : Met l yX8_worst (Cond.code yX8_worst cX8_worst 2 (some .int) :: wT) (rmF 6 151) (va_Pc [.ref jhm, .int x1] (cW D (tyL cI cZ cO) (wX8_worst cI cZ jhm jam Sm) sz)) (va_Qi (S := Unit) (fun r _ => r = res.1) (fun _ => qW D (tyL cI cZ cO) (va_A (wX8_worst cI cZ jhm jam Sm) sz) (wX8_worst cI cZ jhm jam res.2)) (va_A (wX8_worst cI cZ jhm jam Sm) sz)) 0 0 (va_A (wX8_worst cI cZ jhm jam Sm) sz) := by
  refine met_w (by decide) (Nat.le_of_ble_eq_true rfl) ?_
  intro p e s m below meth c hx hb hr hml ht hown hlk ls hl hsz hP hK hD0 hZ
  subst hsz
  have hD := hD0.self (sz := s.heap.size)
  generalize hAe : va_A (wX8_worst cI cZ jhm jam Sm) s.heap.size = A at hD hZ ⊢
  have hA : ∀ q : Nat, s.heap.size ≤ q → A q := fun q h => by rw [← hAe]; exact Or.inr h
  have hS : va_S A s.heap s.heap [] := va_S.rf
  have hown : s.vm.findClass "EyeDrinkModel" = some m.cls := hown
  have hl : lv_has ls 2 [(0, .ref jhm), (1, .int x1)] := hl
  have hC : CallFix p m c cX8_worst 2 s ([.ref jhm, .int x1] : List Value).toArray wT "EyeDrinkModel" := ⟨hx, hb, hml, hown, ht⟩
  unfold fX8_worst at hf
  suffices hgo : ∀ (H : Heap) (locs : List Loc), va_P D vwCl (wX8_worst cI cZ jhm jam Sm) H → va_S A s.heap H locs → W p l e (rmF 6 151) s m ([.ref jhm, .int x1] : List Value).toArray below meth c H locs 0 0 (MQ below (va_Qi (S := Unit) (fun r _ => r = res.1) (fun _ => qW D (tyL cI cZ cO) A (wX8_worst cI cZ jhm jam res.2)) A) ([.ref jhm, .int x1] : List Value).toArray s 0 0 A) (F0 m 0 ls []) from hgo s.heap [] hP hS
  intro H locs hP hS
  refine lv_aload_n hx hb dX8_worst_0 rfl (lv_at hl 0 rfl) ?_
  refine lv_iconst (v := (0 : Int32)) hx hb dX8_worst_1 rfl ?_
  refine va_put (D := D) (ci := 7) (v := .int (0 : Int32)) (ty := .int) (C := RX8) (T := TX8) (N := 31) hx hb ht inX8 tyX8 tyX8_ok nmX8 hown hK hP hD hS 0 rfl rfl 0 (by decide) (ht _ wd3_185) (fun _ h9 => h9) rfl (tyX8_ok 0 (by decide)) rfl rfl (Nat.le_of_ble_eq_true rfl) dX8_worst_2 (fun H locs hP hD hS => ?_)
  have hP : va_P D vwCl (wX8_worst cI cZ jhm jam (bI Sm 0 (0 : Int32))) H := hP
  have hD : va_D A (wX8_worst cI cZ jhm jam (bI Sm 0 (0 : Int32))) := hD
  refine lv_iload_n hx hb dX8_worst_5 rfl (lv_at hl 1 rfl) ?_
  refine lv_i2l hx hb dX8_worst_6 rfl ?_
  refine lv_lconst (v := 0) hx hb dX8_worst_7 rfl ?_
  refine lv_lconst (v := 1) hx hb dX8_worst_8 rfl ?_
  obtain ⟨u1, e2, hf⟩ := bdS hf
  refine k_pS (As := [.long x1.toInt64, .long (0 : Int64), .long (1 : Int64)]) (rest := []) hC miX8_in mjX8_in wd4_44 (qX8_in l x1.toInt64 (0 : Int64) (1 : Int64) u1 e2) ⟨Nat.le_of_ble_eq_true rfl, Nat.le_of_ble_eq_true rfl⟩ hl.1 rfl rfl (Nat.le_of_ble_eq_true rfl) dX8_worst_9 ?_
  refine lv_if_ne (tgt := 18) hx hb dX8_worst_12 (by decide) (fun c3 => ?_) (fun c3 => ?_)
  · have hf := itN c3 hf
    refine lv_aload_n hx hb dX8_worst_18 rfl (lv_at hl 0 rfl) ?_
    refine lv_iconst (v := (1 : Int32)) hx hb dX8_worst_19 rfl ?_
    refine lv_bipush (v := (-9 : Int32)) hx hb dX8_worst_20 rfl ?_
    obtain ⟨u4, e5, hf⟩ := bdS hf
    refine k_wVv (ws' := (wX8_worst cI cZ jhm jam u4)) (wr := []) (As := [.int (1 : Int32), .int (-9 : Int32)]) (rest := []) hC miX8_layBest mjX8_layBest.1 mjX8_layBest.2 wd4_176 (qX8_layBest l D cI cZ cO jhm jam (bI Sm 0 (0 : Int32)) (1 : Int32) (-9 : Int32) H.size u4 e5) ⟨Nat.le_of_ble_eq_true rfl, Nat.le_of_ble_eq_true rfl⟩ hP hD hK hZ hS hA [0, 1, 2, 3, 4, 5, 6] [] [0, 1, 2, 3, 4, 5, 6] rfl (by decide) rfl (by decide) (by decide) (by decide) rfl (va_recv hK hP (ci := 7) (q0 := 0) rfl rfl) hl.1 rfl rfl (Nat.le_of_ble_eq_true rfl) dX8_worst_22 (fun H locs hP hD hS => ?_)
    refine lv_iload_n hx hb dX8_worst_25 rfl (lv_at hl 1 rfl) ?_
    refine lv_if_ne (tgt := 36) hx hb dX8_worst_26 (by decide) (fun c6 => ?_) (fun c6 => ?_)
    · have hf := itN c6 hf
      refine lv_aload_n hx hb dX8_worst_36 rfl (lv_at hl 0 rfl) ?_
      refine lv_iconst (v := (1 : Int32)) hx hb dX8_worst_37 rfl ?_
      obtain ⟨u7, e8, hf⟩ := bdS hf
      refine k_wVi (ws' := (wX8_worst cI cZ jhm jam u7.2)) (wr := []) (As := [.int (1 : Int32)]) (rest := []) hC miX8_firstOf mjX8_firstOf.1 mjX8_firstOf.2 wd4_228 (qX8_firstOf l D cI cZ cO jhm jam u4 (1 : Int32) H.size u7 e8) ⟨Nat.le_of_ble_eq_true rfl, Nat.le_of_ble_eq_true rfl⟩ hP hD hK hZ hS hA [0, 1, 2, 3, 4, 5, 6] [] [0, 1, 2, 3, 4, 5, 6] rfl (by decide) rfl (by decide) (by decide) (by decide) rfl (va_recv hK hP (ci := 7) (q0 := 0) rfl rfl) hl.1 rfl rfl (Nat.le_of_ble_eq_true rfl) dX8_worst_38 (fun H locs hP hD hS => ?_)
      cases hf
      exact W.iret hx hb hr (fun t ht9 hW => ⟨⟨_, (), rfl, rfl, by rw [ht9]; exact hP, va_K.moved hW.alike hK, hD⟩, hS.F ht9⟩) hS.2.2 dX8_worst_41
    · have hf := itP c6 hf
      refine lv_aload_n hx hb dX8_worst_29 rfl (lv_at hl 0 rfl) ?_
      obtain ⟨u9, e10, hf⟩ := bdS hf
      refine k_rV (As := []) (rest := []) hC miX8_bestNow mjX8_bestNow.1 mjX8_bestNow.2 wd4_224 (qX8_bestNow l D cI cZ cO jhm jam u4 u9 e10) ⟨Nat.le_of_ble_eq_true rfl, Nat.le_of_ble_eq_true rfl⟩ (hP.sub [0, 2, 4, 5] rfl) hK hZ hS (va_recv hK hP (ci := 7) (q0 := 0) rfl rfl) hl.1 rfl rfl (Nat.le_of_ble_eq_true rfl) dX8_worst_30 ?_
      refine lv_goto (tgt := 41) hx hb dX8_worst_33 (by decide) ?_
      cases hf
      exact W.iret hx hb hr (fun t ht9 hW => ⟨⟨_, (), rfl, rfl, by rw [ht9]; exact hP, va_K.moved hW.alike hK, hD⟩, hS.F ht9⟩) hS.2.2 dX8_worst_41
  · have hf := itP c3 hf
    refine lv_bipush (v := (-2 : Int32)) hx hb dX8_worst_15 rfl ?_
    cases hf
    exact W.iret hx hb hr (fun t ht9 hW => ⟨⟨_, (), rfl, rfl, by rw [ht9]; exact hP, va_K.moved hW.alike hK, hD⟩, hS.F ht9⟩) hS.2.2 dX8_worst_17
abbrev wX8_regretOf (cI cZ : ClassId) (jhm : Nat) (jam : Nat → Nat) (Sm : Bk) : va_W := [(jhm, .inr (7, [.int (Sm.1 0), .ref (jam 0), .int (Sm.1 1), .int (Sm.1 2), .int (Sm.1 3), .int (Sm.1 4), .int (Sm.1 5), .ref (jam 1), .ref (jam 2), .ref (jam 3), .int (Sm.1 6), .int (Sm.1 7), .int (Sm.1 8), .ref (jam 4), .ref (jam 5), .ref (jam 6), .ref (jam 7), .ref (jam 8), .ref (jam 9), .int (Sm.1 9), .ref (jam 10), .ref (jam 11), .int (Sm.1 10), .ref (jam 12), .ref (jam 13), .long Sm.2.2, .ref (jam 14), .ref (jam 15), .int (Sm.1 11), .int (Sm.1 12), .int (Sm.1 13)])), (jam 1, .inl (cI, 12, .inl (Sm.2.1 1))), (jam 2, .inl (cI, 16, .inl (Sm.2.1 2))), (jam 3, .inl (cI, 20, .inl (Sm.2.1 3))), (jam 7, .inl (cI, 16, .inl (Sm.2.1 7))), (jam 14, .inl (cI, 1296, .inl (Sm.2.1 14))), (jam 15, .inl (cI, 4, .inl (Sm.2.1 15)))]
def fX8_regretOf (Sm : Bk) (x1 : Int32) : Option (Int32 × Bk) := (fX8_layBest Sm (1 : Int32) x1).bind (fun u1 => (fX8_bestNow u1).bind (fun u3 => (fX8_layBest u1 (1 : Int32) (-9 : Int32)).bind (fun u5 => (fX8_codeNow u5).bind (fun u7 => inB 16 (13 : Int32) ((fX8_behind u5 u7 ((u5.2.1 7) (13 : Int32).toNatClampNeg) x1 (1 : Int32)).bind (fun u10 => (if u3 ≤ u10 then some ((0 : Int32), u5) else some ((u3 - u10), u5))))))))
theorem miX8_regretOf : MI yX8_regretOf cX8_regretOf 4 (some .int) 1 := ⟨wd1_8, wd5_3, by decide +kernel⟩
theorem mjX8_regretOf : Cond.instanceMethod yX8_regretOf ∈ wT ∧ Cond.selects yX8_regretOf.cls yX8_regretOf yX8_regretOf ∈ wT := ⟨wd5_2, ws_42⟩
set_option maxHeartbeats 4000000 in
set_option maxRecDepth 100000 in
theorem qX8_regretOf (l : Launch) (D : va_G) (cI cZ cO : ClassId) (jhm : Nat) (jam : Nat → Nat) (Sm : Bk) (x1 : Int32) (sz : Nat) (res : Int32 × Bk) (hf : fX8_regretOf Sm x1 = some res) : Met l yX8_regretOf (Cond.code yX8_regretOf cX8_regretOf 4 (some .int) :: wT) (rmF 6 151) (va_Pc [.ref jhm, .int x1] (cW D (tyL cI cZ cO) (wX8_regretOf cI cZ jhm jam Sm) sz)) (va_Qi (S := Unit) (fun r _ => r = res.1) (fun _ => qW D (tyL cI cZ cO) (va_A (wX8_regretOf cI cZ jhm jam Sm) sz) (wX8_regretOf cI cZ jhm jam res.2)) (va_A (wX8_regretOf cI cZ jhm jam Sm) sz)) 0 0 (va_A (wX8_regretOf cI cZ jhm jam Sm) sz) := by
  refine met_w (by decide) (Nat.le_of_ble_eq_true rfl) ?_
  intro p e s m below meth c hx hb hr hml ht hown hlk ls hl hsz hP hK hD0 hZ
  subst hsz
  have hD := hD0.self (sz := s.heap.size)
  generalize hAe : va_A (wX8_regretOf cI cZ jhm jam Sm) s.heap.size = A at hD hZ ⊢
  have hA : ∀ q : Nat, s.heap.size ≤ q → A q := fun q h => by rw [← hAe]; exact Or.inr h
  have hS : va_S A s.heap s.heap [] := va_S.rf
  have hown : s.vm.findClass "EyeDrinkModel" = some m.cls := hown
  have hl : lv_has ls 4 [(0, .ref jhm), (1, .int x1)] := hl
  have hC : CallFix p m c cX8_regretOf 4 s ([.ref jhm, .int x1] : List Value).toArray wT "EyeDrinkModel" := ⟨hx, hb, hml, hown, ht⟩
  unfold fX8_regretOf at hf
  suffices hgo : ∀ (H : Heap) (locs : List Loc), va_P D vwCl (wX8_regretOf cI cZ jhm jam Sm) H → va_S A s.heap H locs → W p l e (rmF 6 151) s m ([.ref jhm, .int x1] : List Value).toArray below meth c H locs 0 0 (MQ below (va_Qi (S := Unit) (fun r _ => r = res.1) (fun _ => qW D (tyL cI cZ cO) A (wX8_regretOf cI cZ jhm jam res.2)) A) ([.ref jhm, .int x1] : List Value).toArray s 0 0 A) (F0 m 0 ls []) from hgo s.heap [] hP hS
  intro H locs hP hS
  refine lv_aload_n hx hb dX8_regretOf_0 rfl (lv_at hl 0 rfl) ?_
  refine lv_iconst (v := (1 : Int32)) hx hb dX8_regretOf_1 rfl ?_
  refine lv_iload_n hx hb dX8_regretOf_2 rfl (lv_at hl 1 rfl) ?_
  obtain ⟨u1, e2, hf⟩ := bdS hf
  refine k_wVv (ws' := (wX8_regretOf cI cZ jhm jam u1)) (wr := []) (As := [.int (1 : Int32), .int x1]) (rest := []) hC miX8_layBest mjX8_layBest.1 mjX8_layBest.2 wd4_176 (qX8_layBest l D cI cZ cO jhm jam Sm (1 : Int32) x1 H.size u1 e2) ⟨Nat.le_of_ble_eq_true rfl, Nat.le_of_ble_eq_true rfl⟩ hP hD hK hZ hS hA [0, 1, 2, 3, 4, 5, 6] [] [0, 1, 2, 3, 4, 5, 6] rfl (by decide) rfl (by decide) (by decide) (by decide) rfl (va_recv hK hP (ci := 7) (q0 := 0) rfl rfl) hl.1 rfl rfl (Nat.le_of_ble_eq_true rfl) dX8_regretOf_3 (fun H locs hP hD hS => ?_)
  refine lv_aload_n hx hb dX8_regretOf_6 rfl (lv_at hl 0 rfl) ?_
  obtain ⟨u3, e4, hf⟩ := bdS hf
  refine k_rV (As := []) (rest := []) hC miX8_bestNow mjX8_bestNow.1 mjX8_bestNow.2 wd4_224 (qX8_bestNow l D cI cZ cO jhm jam u1 u3 e4) ⟨Nat.le_of_ble_eq_true rfl, Nat.le_of_ble_eq_true rfl⟩ (hP.sub [0, 2, 4, 5] rfl) hK hZ hS (va_recv hK hP (ci := 7) (q0 := 0) rfl rfl) hl.1 rfl rfl (Nat.le_of_ble_eq_true rfl) dX8_regretOf_7 ?_
  refine lv_istore_n (lv' := [(2, .int u3), (0, .ref jhm), (1, .int x1)]) hx hb dX8_regretOf_10 rfl hl (by decide) rfl (fun ls hl => ?_)
  refine lv_aload_n hx hb dX8_regretOf_11 rfl (lv_at hl 1 rfl) ?_
  refine lv_iconst (v := (1 : Int32)) hx hb dX8_regretOf_12 rfl ?_
  refine lv_bipush (v := (-9 : Int32)) hx hb dX8_regretOf_13 rfl ?_
  obtain ⟨u5, e6, hf⟩ := bdS hf
  refine k_wVv (ws' := (wX8_regretOf cI cZ jhm jam u5)) (wr := []) (As := [.int (1 : Int32), .int (-9 : Int32)]) (rest := []) hC miX8_layBest mjX8_layBest.1 mjX8_layBest.2 wd4_176 (qX8_layBest l D cI cZ cO jhm jam u1 (1 : Int32) (-9 : Int32) H.size u5 e6) ⟨Nat.le_of_ble_eq_true rfl, Nat.le_of_ble_eq_true rfl⟩ hP hD hK hZ hS hA [0, 1, 2, 3, 4, 5, 6] [] [0, 1, 2, 3, 4, 5, 6] rfl (by decide) rfl (by decide) (by decide) (by decide) rfl (va_recv hK hP (ci := 7) (q0 := 0) rfl rfl) hl.1 rfl rfl (Nat.le_of_ble_eq_true rfl) dX8_regretOf_15 (fun H locs hP hD hS => ?_)
  refine lv_aload_n hx hb dX8_regretOf_18 rfl (lv_at hl 1 rfl) ?_
  refine lv_aload_n hx hb dX8_regretOf_19 rfl (lv_at hl 1 rfl) ?_
  obtain ⟨u7, e8, hf⟩ := bdS hf
  refine k_rV (As := []) (rest := [.ref jhm]) hC miX8_codeNow mjX8_codeNow.1 mjX8_codeNow.2 wd4_184 (qX8_codeNow l D cI cZ cO jhm jam u5 u7 e8) ⟨Nat.le_of_ble_eq_true rfl, Nat.le_of_ble_eq_true rfl⟩ (hP.sub [0, 2, 4] rfl) hK hZ hS (va_recv hK hP (ci := 7) (q0 := 0) rfl rfl) hl.1 rfl rfl (Nat.le_of_ble_eq_true rfl) dX8_regretOf_20 ?_
  refine lv_aload_n hx hb dX8_regretOf_23 rfl (lv_at hl 1 rfl) ?_
  refine va_get (D := D) (ci := 7) (v := .ref (jam 7)) (C := RX8) (T := TX8) (N := 31) hx hb ht inX8 hown hK hP 0 rfl rfl 16 (by decide) (ht _ wd3_201) (fun _ h9 => h9) rfl dX8_regretOf_24 ?_
  refine lv_bipush (v := (13 : Int32)) hx hb dX8_regretOf_27 rfl ?_
  obtain ⟨h9, hf⟩ := inB_s hf
  refine va_iald (f := (u5.2.1 7)) (n := 16) hx hb hK hP 4 0 rfl rfl h9 dX8_regretOf_29 ?_
  refine lv_iload_n hx hb dX8_regretOf_30 rfl (lv_at hl 2 rfl) ?_
  refine lv_iconst (v := (1 : Int32)) hx hb dX8_regretOf_31 rfl ?_
  obtain ⟨u10, e11, hf⟩ := bdS hf
  refine k_rV (As := [.int u7, .int ((u5.2.1 7) (13 : Int32).toNatClampNeg), .int x1, .int (1 : Int32)]) (rest := []) hC miX8_behind mjX8_behind.1 mjX8_behind.2 wd4_220 (qX8_behind l D cI cZ cO jhm jam u5 u7 ((u5.2.1 7) (13 : Int32).toNatClampNeg) x1 (1 : Int32) u10 e11) ⟨Nat.le_of_ble_eq_true rfl, Nat.le_of_ble_eq_true rfl⟩ (hP.sub [0, 2, 5] rfl) hK hZ hS (va_recv hK hP (ci := 7) (q0 := 0) rfl rfl) hl.1 rfl rfl (Nat.le_of_ble_eq_true rfl) dX8_regretOf_32 ?_
  refine lv_istore_n (lv' := [(3, .int u10), (2, .int u3), (0, .ref jhm), (1, .int x1)]) hx hb dX8_regretOf_35 rfl hl (by decide) rfl (fun ls hl => ?_)
  refine lv_iload_n hx hb dX8_regretOf_36 rfl (lv_at hl 1 rfl) ?_
  refine lv_iload_n hx hb dX8_regretOf_37 rfl (lv_at hl 0 rfl) ?_
  refine lv_icmp_le (tgt := 47) hx hb dX8_regretOf_38 (by decide) (fun c12 => ?_) (fun c12 => ?_)
  · have hf := itP c12 hf
    refine lv_iconst (v := (0 : Int32)) hx hb dX8_regretOf_47 rfl ?_
    cases hf
    exact W.iret hx hb hr (fun t ht9 hW => ⟨⟨_, (), rfl, rfl, by rw [ht9]; exact hP, va_K.moved hW.alike hK, hD⟩, hS.F ht9⟩) hS.2.2 dX8_regretOf_48
  · have hf := itN c12 hf
    refine lv_iload_n hx hb dX8_regretOf_41 rfl (lv_at hl 1 rfl) ?_
    refine lv_iload_n hx hb dX8_regretOf_42 rfl (lv_at hl 0 rfl) ?_
    refine lv_isub hx hb dX8_regretOf_43 ?_
    refine lv_goto (tgt := 48) hx hb dX8_regretOf_44 (by decide) ?_
    cases hf
    exact W.iret hx hb hr (fun t ht9 hW => ⟨⟨_, (), rfl, rfl, by rw [ht9]; exact hP, va_K.moved hW.alike hK, hD⟩, hS.F ht9⟩) hS.2.2 dX8_regretOf_48
abbrev wX8_regret (cI cZ : ClassId) (jhm : Nat) (jam : Nat → Nat) (Sm : Bk) : va_W := [(jhm, .inr (7, [.int (Sm.1 0), .ref (jam 0), .int (Sm.1 1), .int (Sm.1 2), .int (Sm.1 3), .int (Sm.1 4), .int (Sm.1 5), .ref (jam 1), .ref (jam 2), .ref (jam 3), .int (Sm.1 6), .int (Sm.1 7), .int (Sm.1 8), .ref (jam 4), .ref (jam 5), .ref (jam 6), .ref (jam 7), .ref (jam 8), .ref (jam 9), .int (Sm.1 9), .ref (jam 10), .ref (jam 11), .int (Sm.1 10), .ref (jam 12), .ref (jam 13), .long Sm.2.2, .ref (jam 14), .ref (jam 15), .int (Sm.1 11), .int (Sm.1 12), .int (Sm.1 13)])), (jam 1, .inl (cI, 12, .inl (Sm.2.1 1))), (jam 2, .inl (cI, 16, .inl (Sm.2.1 2))), (jam 3, .inl (cI, 20, .inl (Sm.2.1 3))), (jam 7, .inl (cI, 16, .inl (Sm.2.1 7))), (jam 14, .inl (cI, 1296, .inl (Sm.2.1 14))), (jam 15, .inl (cI, 4, .inl (Sm.2.1 15)))]
def fX8_regret (Sm : Bk) (x1 : Int32) : Option (Int32 × Bk) := (fX8_noQuestion (bI Sm 0 (0 : Int32)) x1).bind (fun u1 => (if u1 = 0 then (fX8_noDrink (bI Sm 0 (0 : Int32)) (Sm.2.1 7) 16 x1).bind (fun u4 => (if u4 = 0 then (fX8_regretOf (bI Sm 0 (0 : Int32)) x1).bind (fun u7 => some (u7.1, u7.2)) else some (u4, (bI Sm 0 (0 : Int32))))) else some ((-1 : Int32), (bI Sm 0 (0 : Int32)))))
theorem miX8_regret : MI yX8_regret cX8_regret 3 (some .int) 1 := ⟨wd1_8, wd4_239, by decide +kernel⟩
theorem mjX8_regret : Cond.instanceMethod yX8_regret ∈ wT ∧ Cond.selects yX8_regret.cls yX8_regret yX8_regret ∈ wT := ⟨wd4_237, wd4_238⟩
set_option maxHeartbeats 4000000 in
set_option maxRecDepth 100000 in
theorem qX8_regret (l : Launch) (D : va_G) (cI cZ cO : ClassId) (jhm : Nat) (jam : Nat → Nat) (Sm : Bk) (x1 : Int32) (sz : Nat) (res : Int32 × Bk) (hf : fX8_regret Sm x1 = some res) : Met l yX8_regret (Cond.code yX8_regret cX8_regret 3 (some .int) :: wT) (rmF 7 174) (va_Pc [.ref jhm, .int x1] (cW D (tyL cI cZ cO) (wX8_regret cI cZ jhm jam Sm) sz)) (va_Qi (S := Unit) (fun r _ => r = res.1) (fun _ => qW D (tyL cI cZ cO) (va_A (wX8_regret cI cZ jhm jam Sm) sz) (wX8_regret cI cZ jhm jam res.2)) (va_A (wX8_regret cI cZ jhm jam Sm) sz)) 0 0 (va_A (wX8_regret cI cZ jhm jam Sm) sz) := by
  refine met_w (by decide) (Nat.le_of_ble_eq_true rfl) ?_
  intro p e s m below meth c hx hb hr hml ht hown hlk ls hl hsz hP hK hD0 hZ
  subst hsz
  have hD := hD0.self (sz := s.heap.size)
  generalize hAe : va_A (wX8_regret cI cZ jhm jam Sm) s.heap.size = A at hD hZ ⊢
  have hA : ∀ q : Nat, s.heap.size ≤ q → A q := fun q h => by rw [← hAe]; exact Or.inr h
  have hS : va_S A s.heap s.heap [] := va_S.rf
  have hown : s.vm.findClass "EyeDrinkModel" = some m.cls := hown
  have hl : lv_has ls 3 [(0, .ref jhm), (1, .int x1)] := hl
  have hC : CallFix p m c cX8_regret 3 s ([.ref jhm, .int x1] : List Value).toArray wT "EyeDrinkModel" := ⟨hx, hb, hml, hown, ht⟩
  unfold fX8_regret at hf
  suffices hgo : ∀ (H : Heap) (locs : List Loc), va_P D vwCl (wX8_regret cI cZ jhm jam Sm) H → va_S A s.heap H locs → W p l e (rmF 7 174) s m ([.ref jhm, .int x1] : List Value).toArray below meth c H locs 0 0 (MQ below (va_Qi (S := Unit) (fun r _ => r = res.1) (fun _ => qW D (tyL cI cZ cO) A (wX8_regret cI cZ jhm jam res.2)) A) ([.ref jhm, .int x1] : List Value).toArray s 0 0 A) (F0 m 0 ls []) from hgo s.heap [] hP hS
  intro H locs hP hS
  refine lv_aload_n hx hb dX8_regret_0 rfl (lv_at hl 0 rfl) ?_
  refine lv_iconst (v := (0 : Int32)) hx hb dX8_regret_1 rfl ?_
  refine va_put (D := D) (ci := 7) (v := .int (0 : Int32)) (ty := .int) (C := RX8) (T := TX8) (N := 31) hx hb ht inX8 tyX8 tyX8_ok nmX8 hown hK hP hD hS 0 rfl rfl 0 (by decide) (ht _ wd3_185) (fun _ h9 => h9) rfl (tyX8_ok 0 (by decide)) rfl rfl (Nat.le_of_ble_eq_true rfl) dX8_regret_2 (fun H locs hP hD hS => ?_)
  have hP : va_P D vwCl (wX8_regret cI cZ jhm jam (bI Sm 0 (0 : Int32))) H := hP
  have hD : va_D A (wX8_regret cI cZ jhm jam (bI Sm 0 (0 : Int32))) := hD
  refine lv_aload_n hx hb dX8_regret_5 rfl (lv_at hl 0 rfl) ?_
  refine lv_iload_n hx hb dX8_regret_6 rfl (lv_at hl 1 rfl) ?_
  obtain ⟨u1, e2, hf⟩ := bdS hf
  refine k_rV (As := [.int x1]) (rest := []) hC miX8_noQuestion mjX8_noQuestion.1 mjX8_noQuestion.2 wd4_104 (qX8_noQuestion l D cI cZ cO jhm jam (bI Sm 0 (0 : Int32)) x1 u1 e2) ⟨Nat.le_of_ble_eq_true rfl, Nat.le_of_ble_eq_true rfl⟩ (hP.sub [0] rfl) hK hZ hS (va_recv hK hP (ci := 7) (q0 := 0) rfl rfl) hl.1 rfl rfl (Nat.le_of_ble_eq_true rfl) dX8_regret_7 ?_
  refine lv_if_eq (tgt := 15) hx hb dX8_regret_10 (by decide) (fun c3 => ?_) (fun c3 => ?_)
  · have hf := itP c3 hf
    refine lv_aload_n hx hb dX8_regret_15 rfl (lv_at hl 0 rfl) ?_
    refine lv_aload_n hx hb dX8_regret_16 rfl (lv_at hl 0 rfl) ?_
    refine va_get (D := D) (ci := 7) (v := .ref (jam 7)) (C := RX8) (T := TX8) (N := 31) hx hb ht inX8 hown hK hP 0 rfl rfl 16 (by decide) (ht _ wd3_201) (fun _ h9 => h9) rfl dX8_regret_17 ?_
    refine lv_iload_n hx hb dX8_regret_20 rfl (lv_at hl 1 rfl) ?_
    obtain ⟨u4, e5, hf⟩ := bdS hf
    refine k_rV (As := [.ref (jam 7), .int x1]) (rest := []) hC miX8_noDrink mjX8_noDrink.1 mjX8_noDrink.2 wd4_124 (qX8_noDrink l D cI cZ cO jhm jam (jam 7) (16) (bI Sm 0 (0 : Int32)) (Sm.2.1 7) x1 u4 e5) ⟨Nat.le_of_ble_eq_true rfl, Nat.le_of_ble_eq_true rfl⟩ (hP.sub [0, 2, 4] rfl) hK hZ hS (va_recv hK hP (ci := 7) (q0 := 0) rfl rfl) hl.1 rfl rfl (Nat.le_of_ble_eq_true rfl) dX8_regret_21 ?_
    refine lv_istore_n (lv' := [(2, .int u4), (0, .ref jhm), (1, .int x1)]) hx hb dX8_regret_24 rfl hl (by decide) rfl (fun ls hl => ?_)
    refine lv_iload_n hx hb dX8_regret_25 rfl (lv_at hl 0 rfl) ?_
    refine lv_if_eq (tgt := 33) hx hb dX8_regret_26 (by decide) (fun c6 => ?_) (fun c6 => ?_)
    · have hf := itP c6 hf
      refine lv_aload_n hx hb dX8_regret_33 rfl (lv_at hl 1 rfl) ?_
      refine lv_iload_n hx hb dX8_regret_34 rfl (lv_at hl 2 rfl) ?_
      obtain ⟨u7, e8, hf⟩ := bdS hf
      refine k_wVi (ws' := (wX8_regret cI cZ jhm jam u7.2)) (wr := []) (As := [.int x1]) (rest := []) hC miX8_regretOf mjX8_regretOf.1 mjX8_regretOf.2 wd5_0 (qX8_regretOf l D cI cZ cO jhm jam (bI Sm 0 (0 : Int32)) x1 H.size u7 e8) ⟨Nat.le_of_ble_eq_true rfl, Nat.le_of_ble_eq_true rfl⟩ hP hD hK hZ hS hA [0, 1, 2, 3, 4, 5, 6] [] [0, 1, 2, 3, 4, 5, 6] rfl (by decide) rfl (by decide) (by decide) (by decide) rfl (va_recv hK hP (ci := 7) (q0 := 0) rfl rfl) hl.1 rfl rfl (Nat.le_of_ble_eq_true rfl) dX8_regret_35 (fun H locs hP hD hS => ?_)
      cases hf
      exact W.iret hx hb hr (fun t ht9 hW => ⟨⟨_, (), rfl, rfl, by rw [ht9]; exact hP, va_K.moved hW.alike hK, hD⟩, hS.F ht9⟩) hS.2.2 dX8_regret_38
    · have hf := itN c6 hf
      refine lv_iload_n hx hb dX8_regret_29 rfl (lv_at hl 0 rfl) ?_
      refine lv_goto (tgt := 38) hx hb dX8_regret_30 (by decide) ?_
      cases hf
      exact W.iret hx hb hr (fun t ht9 hW => ⟨⟨_, (), rfl, rfl, by rw [ht9]; exact hP, va_K.moved hW.alike hK, hD⟩, hS.F ht9⟩) hS.2.2 dX8_regret_38
  · have hf := itN c3 hf
    refine lv_iconst (v := (-1 : Int32)) hx hb dX8_regret_13 rfl ?_
    cases hf
    exact W.iret hx hb hr (fun t ht9 hW => ⟨⟨_, (), rfl, rfl, by rw [ht9]; exact hP, va_K.moved hW.alike hK, hD⟩, hS.F ht9⟩) hS.2.2 dX8_regret_14
abbrev wX8_never (cI cZ : ClassId) (jhm : Nat) (jam : Nat → Nat) (Sm : Bk) : va_W := [(jhm, .inr (7, [.int (Sm.1 0), .ref (jam 0), .int (Sm.1 1), .int (Sm.1 2), .int (Sm.1 3), .int (Sm.1 4), .int (Sm.1 5), .ref (jam 1), .ref (jam 2), .ref (jam 3), .int (Sm.1 6), .int (Sm.1 7), .int (Sm.1 8), .ref (jam 4), .ref (jam 5), .ref (jam 6), .ref (jam 7), .ref (jam 8), .ref (jam 9), .int (Sm.1 9), .ref (jam 10), .ref (jam 11), .int (Sm.1 10), .ref (jam 12), .ref (jam 13), .long Sm.2.2, .ref (jam 14), .ref (jam 15), .int (Sm.1 11), .int (Sm.1 12), .int (Sm.1 13)])), (jam 1, .inl (cI, 12, .inl (Sm.2.1 1))), (jam 2, .inl (cI, 16, .inl (Sm.2.1 2))), (jam 3, .inl (cI, 20, .inl (Sm.2.1 3))), (jam 7, .inl (cI, 16, .inl (Sm.2.1 7))), (jam 14, .inl (cI, 1296, .inl (Sm.2.1 14))), (jam 15, .inl (cI, 4, .inl (Sm.2.1 15)))]
def gX8_never_45 (k9 : Int32 → Int32 → Bk → Option (Int32 × Bk)) (x2 : Int32) (Sm : Bk) (y0 : Int32) (y1 : Int32) : Option (Int32 × Bk) := k9 (y0 ||| y1) (x2 + (1 : Int32)) Sm
def gX8_never_44 (k9 : Int32 → Int32 → Bk → Option (Int32 × Bk)) (x2 : Int32) (Sm : Bk) (y0 : Int32) : Option (Int32 × Bk) := gX8_never_45 k9 x2 Sm y0 (0 : Int32)
def sX8_never_9 (k9 : Int32 → Int32 → Bk → Option (Int32 × Bk)) (x1 : Int32) (x2 : Int32) (Sm : Bk) : Option (Int32 × Bk) := (if (Sm.1 4) ≤ x2 then some (x1, Sm) else (fX8_noDrink Sm (Sm.2.1 7) 16 x2).bind (fun u2 => (if u2 = 0 then (fX8_regretOf Sm x2).bind (fun u5 => (if u5.1 = 0 then gX8_never_45 k9 x2 u5.2 x1 ((1 : Int32) <<< (x2 &&& 31)) else gX8_never_44 k9 x2 u5.2 x1)) else gX8_never_44 k9 x2 Sm x1)))
def fX8_never (Sm : Bk) : Option (Int32 × Bk) := lk3 (sX8_never_9 ) 1000 (0 : Int32) (0 : Int32) (bI Sm 0 (0 : Int32))
theorem miX8_never : MI yX8_never cX8_never 3 (some .int) 0 := ⟨wd1_8, wd5_7, by decide +kernel⟩
theorem mjX8_never : Cond.instanceMethod yX8_never ∈ wT ∧ Cond.selects yX8_never.cls yX8_never yX8_never ∈ wT := ⟨wd5_5, wd5_6⟩
set_option maxHeartbeats 4000000 in
set_option maxRecDepth 100000 in
theorem qX8_never (l : Launch) (D : va_G) (cI cZ cO : ClassId) (jhm : Nat) (jam : Nat → Nat) (Sm : Bk) (sz : Nat) (res : Int32 × Bk) (hf : fX8_never Sm = some res) : Met l yX8_never (Cond.code yX8_never cX8_never 3 (some .int) :: wT) (rmF 7 174) (va_Pc [.ref jhm] (cW D (tyL cI cZ cO) (wX8_never cI cZ jhm jam Sm) sz)) (va_Qi (S := Unit) (fun r _ => r = res.1) (fun _ => qW D (tyL cI cZ cO) (va_A (wX8_never cI cZ jhm jam Sm) sz) (wX8_never cI cZ jhm jam res.2)) (va_A (wX8_never cI cZ jhm jam Sm) sz)) 0 0 (va_A (wX8_never cI cZ jhm jam Sm) sz) := by
  refine met_w (by decide) (Nat.le_of_ble_eq_true rfl) ?_
  intro p e s m below meth c hx hb hr hml ht hown hlk ls hl hsz hP hK hD0 hZ
  subst hsz
  have hD := hD0.self (sz := s.heap.size)
  generalize hAe : va_A (wX8_never cI cZ jhm jam Sm) s.heap.size = A at hD hZ ⊢
  have hA : ∀ q : Nat, s.heap.size ≤ q → A q := fun q h => by rw [← hAe]; exact Or.inr h
  have hS : va_S A s.heap s.heap [] := va_S.rf
  have hown : s.vm.findClass "EyeDrinkModel" = some m.cls := hown
  have hl : lv_has ls 3 [(0, .ref jhm)] := hl
  have hC : CallFix p m c cX8_never 3 s ([.ref jhm] : List Value).toArray wT "EyeDrinkModel" := ⟨hx, hb, hml, hown, ht⟩
  unfold fX8_never at hf
  suffices hgo : ∀ (H : Heap) (locs : List Loc), va_P D vwCl (wX8_never cI cZ jhm jam Sm) H → va_S A s.heap H locs → W p l e (rmF 7 174) s m ([.ref jhm] : List Value).toArray below meth c H locs 0 0 (MQ below (va_Qi (S := Unit) (fun r _ => r = res.1) (fun _ => qW D (tyL cI cZ cO) A (wX8_never cI cZ jhm jam res.2)) A) ([.ref jhm] : List Value).toArray s 0 0 A) (F0 m 0 ls []) from hgo s.heap [] hP hS
  have hj9 : ∀ (x1 : Int32) (x2 : Int32) (Sm : Bk), lk3 (sX8_never_9 ) 1000 x1 x2 Sm = some res → ∀ (H : Heap) (locs : List Loc) (ls : Array Slot), va_P D vwCl (wX8_never cI cZ jhm jam Sm) H → va_D A (wX8_never cI cZ jhm jam Sm) → va_S A s.heap H locs → lv_has ls 3 [(0, .ref jhm), (1, .int x1), (2, .int x2)] → W p l e (rmF 7 174) s m ([.ref jhm] : List Value).toArray below meth c H locs 0 0 (MQ below (va_Qi (S := Unit) (fun r _ => r = res.1) (fun _ => qW D (tyL cI cZ cO) A (wX8_never cI cZ jhm jam res.2)) A) ([.ref jhm] : List Value).toArray s 0 0 A) (F0 m 9 ls []) := by
    refine lk3_w (fun (x1 : Int32) (x2 : Int32) (Sm : Bk) => ∀ (H : Heap) (locs : List Loc) (ls : Array Slot), va_P D vwCl (wX8_never cI cZ jhm jam Sm) H → va_D A (wX8_never cI cZ jhm jam Sm) → va_S A s.heap H locs → lv_has ls 3 [(0, .ref jhm), (1, .int x1), (2, .int x2)] → W p l e (rmF 7 174) s m ([.ref jhm] : List Value).toArray below meth c H locs 0 0 (MQ below (va_Qi (S := Unit) (fun r _ => r = res.1) (fun _ => qW D (tyL cI cZ cO) A (wX8_never cI cZ jhm jam res.2)) A) ([.ref jhm] : List Value).toArray s 0 0 A) (F0 m 9 ls [])) ?_ 1000
    intro k9 hk9 x1 x2 Sm hf H locs ls hP hD hS hl
    unfold sX8_never_9 at hf
    have hj45 : ∀ (x2 : Int32) (Sm : Bk) (y0 : Int32) (y1 : Int32), gX8_never_45 k9 x2 Sm y0 y1 = some res → ∀ (H : Heap) (locs : List Loc) (ls : Array Slot), va_P D vwCl (wX8_never cI cZ jhm jam Sm) H → va_D A (wX8_never cI cZ jhm jam Sm) → va_S A s.heap H locs → lv_has ls 3 [(0, .ref jhm), (2, .int x2)] → W p l e (rmF 7 174) s m ([.ref jhm] : List Value).toArray below meth c H locs 0 0 (MQ below (va_Qi (S := Unit) (fun r _ => r = res.1) (fun _ => qW D (tyL cI cZ cO) A (wX8_never cI cZ jhm jam res.2)) A) ([.ref jhm] : List Value).toArray s 0 0 A) (F0 m 45 ls [.int y1, .int y0]) := by
      intro x2 Sm y0 y1 hf H locs ls hP hD hS hl
      unfold gX8_never_45 at hf
      refine lv_ior hx hb dX8_never_45 ?_
      refine lv_istore_n (lv' := [(1, .int (y0 ||| y1)), (0, .ref jhm), (2, .int x2)]) hx hb dX8_never_46 rfl hl (by decide) rfl (fun ls hl => ?_)
      refine lv_iinc (v := (x2 + (1 : Int32))) (lv' := [(2, .int (x2 + (1 : Int32))), (1, .int (y0 ||| y1)), (0, .ref jhm)]) hx hb dX8_never_47 hl (k := 2) rfl rfl (by decide) rfl (fun ls hl => ?_)
      refine lv_goto (tgt := 9) hx hb dX8_never_50 (by decide) ?_
      exact hk9 (y0 ||| y1) (x2 + (1 : Int32)) Sm hf _ _ _ hP hD hS (lv_sub hl [2, 1, 0] rfl)
    have hj44 : ∀ (x2 : Int32) (Sm : Bk) (y0 : Int32), gX8_never_44 k9 x2 Sm y0 = some res → ∀ (H : Heap) (locs : List Loc) (ls : Array Slot), va_P D vwCl (wX8_never cI cZ jhm jam Sm) H → va_D A (wX8_never cI cZ jhm jam Sm) → va_S A s.heap H locs → lv_has ls 3 [(0, .ref jhm), (2, .int x2)] → W p l e (rmF 7 174) s m ([.ref jhm] : List Value).toArray below meth c H locs 0 0 (MQ below (va_Qi (S := Unit) (fun r _ => r = res.1) (fun _ => qW D (tyL cI cZ cO) A (wX8_never cI cZ jhm jam res.2)) A) ([.ref jhm] : List Value).toArray s 0 0 A) (F0 m 44 ls [.int y0]) := by
      intro x2 Sm y0 hf H locs ls hP hD hS hl
      unfold gX8_never_44 at hf
      refine lv_iconst (v := (0 : Int32)) hx hb dX8_never_44 rfl ?_
      exact hj45 x2 Sm y0 (0 : Int32) hf _ _ _ hP hD hS (lv_sub hl [0, 1] rfl)
    refine lv_iload_n hx hb dX8_never_9 rfl (lv_at hl 2 rfl) ?_
    refine lv_aload_n hx hb dX8_never_10 rfl (lv_at hl 0 rfl) ?_
    refine va_get (D := D) (ci := 7) (v := .int (Sm.1 4)) (C := RX8) (T := TX8) (N := 31) hx hb ht inX8 hown hK hP 0 rfl rfl 5 (by decide) (ht _ wd3_190) (fun _ h9 => h9) rfl dX8_never_11 ?_
    refine lv_icmp_ge (tgt := 53) hx hb dX8_never_14 (by decide) (fun c1 => ?_) (fun c1 => ?_)
    · have hf := itP c1 hf
      refine lv_iload_n hx hb dX8_never_53 rfl (lv_at hl 1 rfl) ?_
      cases hf
      exact W.iret hx hb hr (fun t ht9 hW => ⟨⟨_, (), rfl, rfl, by rw [ht9]; exact hP, va_K.moved hW.alike hK, hD⟩, hS.F ht9⟩) hS.2.2 dX8_never_54
    · have hf := itN c1 hf
      refine lv_iload_n hx hb dX8_never_17 rfl (lv_at hl 1 rfl) ?_
      refine lv_aload_n hx hb dX8_never_18 rfl (lv_at hl 0 rfl) ?_
      refine lv_aload_n hx hb dX8_never_19 rfl (lv_at hl 0 rfl) ?_
      refine va_get (D := D) (ci := 7) (v := .ref (jam 7)) (C := RX8) (T := TX8) (N := 31) hx hb ht inX8 hown hK hP 0 rfl rfl 16 (by decide) (ht _ wd3_201) (fun _ h9 => h9) rfl dX8_never_20 ?_
      refine lv_iload_n hx hb dX8_never_23 rfl (lv_at hl 2 rfl) ?_
      obtain ⟨u2, e3, hf⟩ := bdS hf
      refine k_rV (As := [.ref (jam 7), .int x2]) (rest := [.int x1]) hC miX8_noDrink mjX8_noDrink.1 mjX8_noDrink.2 wd4_124 (qX8_noDrink l D cI cZ cO jhm jam (jam 7) (16) Sm (Sm.2.1 7) x2 u2 e3) ⟨Nat.le_of_ble_eq_true rfl, Nat.le_of_ble_eq_true rfl⟩ (hP.sub [0, 2, 4] rfl) hK hZ hS (va_recv hK hP (ci := 7) (q0 := 0) rfl rfl) hl.1 rfl rfl (Nat.le_of_ble_eq_true rfl) dX8_never_24 ?_
      refine lv_if_ne (tgt := 44) hx hb dX8_never_27 (by decide) (fun c4 => ?_) (fun c4 => ?_)
      · have hf := itN c4 hf
        exact hj44 x2 Sm x1 hf _ _ _ hP hD hS (lv_sub hl [0, 2] rfl)
      · have hf := itP c4 hf
        refine lv_aload_n hx hb dX8_never_30 rfl (lv_at hl 0 rfl) ?_
        refine lv_iload_n hx hb dX8_never_31 rfl (lv_at hl 2 rfl) ?_
        obtain ⟨u5, e6, hf⟩ := bdS hf
        refine k_wVi (ws' := (wX8_never cI cZ jhm jam u5.2)) (wr := []) (As := [.int x2]) (rest := [.int x1]) hC miX8_regretOf mjX8_regretOf.1 mjX8_regretOf.2 wd5_0 (qX8_regretOf l D cI cZ cO jhm jam Sm x2 H.size u5 e6) ⟨Nat.le_of_ble_eq_true rfl, Nat.le_of_ble_eq_true rfl⟩ hP hD hK hZ hS hA [0, 1, 2, 3, 4, 5, 6] [] [0, 1, 2, 3, 4, 5, 6] rfl (by decide) rfl (by decide) (by decide) (by decide) rfl (va_recv hK hP (ci := 7) (q0 := 0) rfl rfl) hl.1 rfl rfl (Nat.le_of_ble_eq_true rfl) dX8_never_32 (fun H locs hP hD hS => ?_)
        refine lv_if_ne (tgt := 44) hx hb dX8_never_35 (by decide) (fun c7 => ?_) (fun c7 => ?_)
        · have hf := itN c7 hf
          exact hj44 x2 u5.2 x1 hf _ _ _ hP hD hS (lv_sub hl [0, 2] rfl)
        · have hf := itP c7 hf
          refine lv_iconst (v := (1 : Int32)) hx hb dX8_never_38 rfl ?_
          refine lv_iload_n hx hb dX8_never_39 rfl (lv_at hl 2 rfl) ?_
          refine lv_ishl hx hb dX8_never_40 ?_
          refine lv_goto (tgt := 45) hx hb dX8_never_41 (by decide) ?_
          exact hj45 x2 u5.2 x1 ((1 : Int32) <<< (x2 &&& 31)) hf _ _ _ hP hD hS (lv_sub hl [0, 2] rfl)
  intro H locs hP hS
  refine lv_aload_n hx hb dX8_never_0 rfl (lv_at hl 0 rfl) ?_
  refine lv_iconst (v := (0 : Int32)) hx hb dX8_never_1 rfl ?_
  refine va_put (D := D) (ci := 7) (v := .int (0 : Int32)) (ty := .int) (C := RX8) (T := TX8) (N := 31) hx hb ht inX8 tyX8 tyX8_ok nmX8 hown hK hP hD hS 0 rfl rfl 0 (by decide) (ht _ wd3_185) (fun _ h9 => h9) rfl (tyX8_ok 0 (by decide)) rfl rfl (Nat.le_of_ble_eq_true rfl) dX8_never_2 (fun H locs hP hD hS => ?_)
  have hP : va_P D vwCl (wX8_never cI cZ jhm jam (bI Sm 0 (0 : Int32))) H := hP
  have hD : va_D A (wX8_never cI cZ jhm jam (bI Sm 0 (0 : Int32))) := hD
  refine lv_iconst (v := (0 : Int32)) hx hb dX8_never_5 rfl ?_
  refine lv_istore_n (lv' := [(1, .int (0 : Int32)), (0, .ref jhm)]) hx hb dX8_never_6 rfl hl (by decide) rfl (fun ls hl => ?_)
  refine lv_iconst (v := (0 : Int32)) hx hb dX8_never_7 rfl ?_
  refine lv_istore_n (lv' := [(2, .int (0 : Int32)), (1, .int (0 : Int32)), (0, .ref jhm)]) hx hb dX8_never_8 rfl hl (by decide) rfl (fun ls hl => ?_)
  exact hj9 (0 : Int32) (0 : Int32) (bI Sm 0 (0 : Int32)) hf _ _ _ hP hD hS (lv_sub hl [2, 1, 0] rfl)
abbrev wX8_shortFor (cI cZ : ClassId) (jhm : Nat) (jam : Nat → Nat) (Sm : Bk) : va_W := [(jhm, .inr (7, [.int (Sm.1 0), .ref (jam 0), .int (Sm.1 1), .int (Sm.1 2), .int (Sm.1 3), .int (Sm.1 4), .int (Sm.1 5), .ref (jam 1), .ref (jam 2), .ref (jam 3), .int (Sm.1 6), .int (Sm.1 7), .int (Sm.1 8), .ref (jam 4), .ref (jam 5), .ref (jam 6), .ref (jam 7), .ref (jam 8), .ref (jam 9), .int (Sm.1 9), .ref (jam 10), .ref (jam 11), .int (Sm.1 10), .ref (jam 12), .ref (jam 13), .long Sm.2.2, .ref (jam 14), .ref (jam 15), .int (Sm.1 11), .int (Sm.1 12), .int (Sm.1 13)])), (jam 3, .inl (cI, 20, .inl (Sm.2.1 3))), (jam 7, .inl (cI, 16, .inl (Sm.2.1 7)))]
def gX8_shortFor_132 (x1 : Int32) (k30 : Int32 → Int32 → Bk → Option (Int32 × Bk)) (x3 : Int32) (Sm : Bk) (y0 : Int32) (y1 : Int32) : Option (Int32 × Bk) := k30 (y0 ||| y1) (x3 + (1 : Int32)) Sm
def gX8_shortFor_104 (x1 : Int32) (k30 : Int32 → Int32 → Bk → Option (Int32 × Bk)) (k44 : Int32 → Int32 → Int32 → Int32 → Bk → Option (Int32 × Bk)) (x2 : Int32) (x3 : Int32) (x5 : Int32) (Sm : Bk) (y0 : Int32) (y1 : Int32) : Option (Int32 × Bk) := k44 x2 x3 (y0 + y1) (x5 + (1 : Int32)) Sm
def gX8_shortFor_103 (x1 : Int32) (k30 : Int32 → Int32 → Bk → Option (Int32 × Bk)) (k44 : Int32 → Int32 → Int32 → Int32 → Bk → Option (Int32 × Bk)) (x2 : Int32) (x3 : Int32) (x5 : Int32) (Sm : Bk) (y0 : Int32) : Option (Int32 × Bk) := gX8_shortFor_104 x1 k30 k44 x2 x3 x5 Sm y0 (0 : Int32)
def sX8_shortFor_44 (x1 : Int32) (k30 : Int32 → Int32 → Bk → Option (Int32 × Bk)) (k44 : Int32 → Int32 → Int32 → Int32 → Bk → Option (Int32 × Bk)) (x2 : Int32) (x3 : Int32) (x4 : Int32) (x5 : Int32) (Sm : Bk) : Option (Int32 × Bk) := (if (Sm.1 5) ≤ x5 then inB 16 x3 ((if x4 ≤ ((Sm.2.1 7) x3.toNatClampNeg) then gX8_shortFor_132 x1 k30 x3 Sm x2 (0 : Int32) else gX8_shortFor_132 x1 k30 x3 Sm x2 ((1 : Int32) <<< (x3 &&& 31)))) else inB 16 (13 : Int32) ((fX8_has (x1 &&& (((Sm.2.1 7) (13 : Int32).toNatClampNeg) ^^^ (-1 : Int32))) x5).bind (fun u5 => (if u5 = 0 then gX8_shortFor_103 x1 k30 k44 x2 x3 x5 Sm x4 else inB 20 (((5 : Int32) * x5) + (3 : Int32)) ((if ((Sm.2.1 3) (((5 : Int32) * x5) + (3 : Int32)).toNatClampNeg) = x3 then inB 20 (((5 : Int32) * x5) + (4 : Int32)) (gX8_shortFor_104 x1 k30 k44 x2 x3 x5 Sm x4 ((Sm.2.1 3) (((5 : Int32) * x5) + (4 : Int32)).toNatClampNeg)) else gX8_shortFor_103 x1 k30 k44 x2 x3 x5 Sm x4))))))
def sX8_shortFor_30 (x1 : Int32) (k30 : Int32 → Int32 → Bk → Option (Int32 × Bk)) (x2 : Int32) (x3 : Int32) (Sm : Bk) : Option (Int32 × Bk) := (if (Sm.1 3) ≤ x3 then some (x2, Sm) else lk5 (sX8_shortFor_44 x1 k30) 1000 x2 x3 (0 : Int32) (0 : Int32) Sm)
def fX8_shortFor (Sm : Bk) (x1 : Int32) : Option (Int32 × Bk) := (fX8_in x1.toInt64 (0 : Int64) ((((1 : Int32) <<< ((Sm.1 5) &&& 31)) - (1 : Int32)).toInt64)).bind (fun u12 => (if u12 = 0 then some ((-2 : Int32), (bI Sm 0 (0 : Int32))) else lk3 (sX8_shortFor_30 x1) 1000 (0 : Int32) (0 : Int32) (bI Sm 0 (0 : Int32))))
theorem miX8_shortFor : MI yX8_shortFor cX8_shortFor 6 (some .int) 1 := ⟨wd1_8, wd5_11, by decide +kernel⟩
theorem mjX8_shortFor : Cond.instanceMethod yX8_shortFor ∈ wT ∧ Cond.selects yX8_shortFor.cls yX8_shortFor yX8_shortFor ∈ wT := ⟨wd5_9, wd5_10⟩
set_option maxHeartbeats 4000000 in
set_option maxRecDepth 100000 in
theorem qX8_shortFor (l : Launch) (D : va_G) (cI cZ cO : ClassId) (jhm : Nat) (jam : Nat → Nat) (Sm : Bk) (x1 : Int32) (sz : Nat) (res : Int32 × Bk) (hf : fX8_shortFor Sm x1 = some res) : Met l yX8_shortFor (Cond.code yX8_shortFor cX8_shortFor 6 (some .int) :: wT) (rmF 1 25) (va_Pc [.ref jhm, .int x1] (cW D (tyL cI cZ cO) (wX8_shortFor cI cZ jhm jam Sm) sz)) (va_Qi (S := Unit) (fun r _ => r = res.1) (fun _ => qW D (tyL cI cZ cO) (va_A (wX8_shortFor cI cZ jhm jam Sm) sz) (wX8_shortFor cI cZ jhm jam res.2)) (va_A (wX8_shortFor cI cZ jhm jam Sm) sz)) 0 0 (va_A (wX8_shortFor cI cZ jhm jam Sm) sz) := by
  refine met_w (by decide) (Nat.le_of_ble_eq_true rfl) ?_
  intro p e s m below meth c hx hb hr hml ht hown hlk ls hl hsz hP hK hD0 hZ
  subst hsz
  have hD := hD0.self (sz := s.heap.size)
  generalize hAe : va_A (wX8_shortFor cI cZ jhm jam Sm) s.heap.size = A at hD hZ ⊢
  have hA : ∀ q : Nat, s.heap.size ≤ q → A q := fun q h => by rw [← hAe]; exact Or.inr h
  have hS : va_S A s.heap s.heap [] := va_S.rf
  have hown : s.vm.findClass "EyeDrinkModel" = some m.cls := hown
  have hl : lv_has ls 6 [(0, .ref jhm), (1, .int x1)] := hl
  have hC : CallFix p m c cX8_shortFor 6 s ([.ref jhm, .int x1] : List Value).toArray wT "EyeDrinkModel" := ⟨hx, hb, hml, hown, ht⟩
  unfold fX8_shortFor at hf
  suffices hgo : ∀ (H : Heap) (locs : List Loc), va_P D vwCl (wX8_shortFor cI cZ jhm jam Sm) H → va_S A s.heap H locs → W p l e (rmF 1 25) s m ([.ref jhm, .int x1] : List Value).toArray below meth c H locs 0 0 (MQ below (va_Qi (S := Unit) (fun r _ => r = res.1) (fun _ => qW D (tyL cI cZ cO) A (wX8_shortFor cI cZ jhm jam res.2)) A) ([.ref jhm, .int x1] : List Value).toArray s 0 0 A) (F0 m 0 ls []) from hgo s.heap [] hP hS
  have hj30 : ∀ (x2 : Int32) (x3 : Int32) (Sm : Bk), lk3 (sX8_shortFor_30 x1) 1000 x2 x3 Sm = some res → ∀ (H : Heap) (locs : List Loc) (ls : Array Slot), va_P D vwCl (wX8_shortFor cI cZ jhm jam Sm) H → va_D A (wX8_shortFor cI cZ jhm jam Sm) → va_S A s.heap H locs → lv_has ls 6 [(0, .ref jhm), (1, .int x1), (2, .int x2), (3, .int x3)] → W p l e (rmF 1 25) s m ([.ref jhm, .int x1] : List Value).toArray below meth c H locs 0 0 (MQ below (va_Qi (S := Unit) (fun r _ => r = res.1) (fun _ => qW D (tyL cI cZ cO) A (wX8_shortFor cI cZ jhm jam res.2)) A) ([.ref jhm, .int x1] : List Value).toArray s 0 0 A) (F0 m 30 ls []) := by
    refine lk3_w (fun (x2 : Int32) (x3 : Int32) (Sm : Bk) => ∀ (H : Heap) (locs : List Loc) (ls : Array Slot), va_P D vwCl (wX8_shortFor cI cZ jhm jam Sm) H → va_D A (wX8_shortFor cI cZ jhm jam Sm) → va_S A s.heap H locs → lv_has ls 6 [(0, .ref jhm), (1, .int x1), (2, .int x2), (3, .int x3)] → W p l e (rmF 1 25) s m ([.ref jhm, .int x1] : List Value).toArray below meth c H locs 0 0 (MQ below (va_Qi (S := Unit) (fun r _ => r = res.1) (fun _ => qW D (tyL cI cZ cO) A (wX8_shortFor cI cZ jhm jam res.2)) A) ([.ref jhm, .int x1] : List Value).toArray s 0 0 A) (F0 m 30 ls [])) ?_ 1000
    intro k30 hk30 x2 x3 Sm hf H locs ls hP hD hS hl
    unfold sX8_shortFor_30 at hf
    have hj132 : ∀ (x3 : Int32) (Sm : Bk) (y0 : Int32) (y1 : Int32), gX8_shortFor_132 x1 k30 x3 Sm y0 y1 = some res → ∀ (H : Heap) (locs : List Loc) (ls : Array Slot), va_P D vwCl (wX8_shortFor cI cZ jhm jam Sm) H → va_D A (wX8_shortFor cI cZ jhm jam Sm) → va_S A s.heap H locs → lv_has ls 6 [(0, .ref jhm), (1, .int x1), (3, .int x3)] → W p l e (rmF 1 25) s m ([.ref jhm, .int x1] : List Value).toArray below meth c H locs 0 0 (MQ below (va_Qi (S := Unit) (fun r _ => r = res.1) (fun _ => qW D (tyL cI cZ cO) A (wX8_shortFor cI cZ jhm jam res.2)) A) ([.ref jhm, .int x1] : List Value).toArray s 0 0 A) (F0 m 132 ls [.int y1, .int y0]) := by
      intro x3 Sm y0 y1 hf H locs ls hP hD hS hl
      unfold gX8_shortFor_132 at hf
      refine lv_ior hx hb dX8_shortFor_132 ?_
      refine lv_istore_n (lv' := [(2, .int (y0 ||| y1)), (0, .ref jhm), (1, .int x1), (3, .int x3)]) hx hb dX8_shortFor_133 rfl hl (by decide) rfl (fun ls hl => ?_)
      refine lv_iinc (v := (x3 + (1 : Int32))) (lv' := [(3, .int (x3 + (1 : Int32))), (2, .int (y0 ||| y1)), (0, .ref jhm), (1, .int x1)]) hx hb dX8_shortFor_134 hl (k := 3) rfl rfl (by decide) rfl (fun ls hl => ?_)
      refine lv_goto (tgt := 30) hx hb dX8_shortFor_137 (by decide) ?_
      exact hk30 (y0 ||| y1) (x3 + (1 : Int32)) Sm hf _ _ _ hP hD hS (lv_sub hl [2, 3, 1, 0] rfl)
    have hj44 : ∀ (x2 : Int32) (x3 : Int32) (x4 : Int32) (x5 : Int32) (Sm : Bk), lk5 (sX8_shortFor_44 x1 k30) 1000 x2 x3 x4 x5 Sm = some res → ∀ (H : Heap) (locs : List Loc) (ls : Array Slot), va_P D vwCl (wX8_shortFor cI cZ jhm jam Sm) H → va_D A (wX8_shortFor cI cZ jhm jam Sm) → va_S A s.heap H locs → lv_has ls 6 [(0, .ref jhm), (1, .int x1), (2, .int x2), (3, .int x3), (4, .int x4), (5, .int x5)] → W p l e (rmF 1 25) s m ([.ref jhm, .int x1] : List Value).toArray below meth c H locs 0 0 (MQ below (va_Qi (S := Unit) (fun r _ => r = res.1) (fun _ => qW D (tyL cI cZ cO) A (wX8_shortFor cI cZ jhm jam res.2)) A) ([.ref jhm, .int x1] : List Value).toArray s 0 0 A) (F0 m 44 ls []) := by
      refine lk5_w (fun (x2 : Int32) (x3 : Int32) (x4 : Int32) (x5 : Int32) (Sm : Bk) => ∀ (H : Heap) (locs : List Loc) (ls : Array Slot), va_P D vwCl (wX8_shortFor cI cZ jhm jam Sm) H → va_D A (wX8_shortFor cI cZ jhm jam Sm) → va_S A s.heap H locs → lv_has ls 6 [(0, .ref jhm), (1, .int x1), (2, .int x2), (3, .int x3), (4, .int x4), (5, .int x5)] → W p l e (rmF 1 25) s m ([.ref jhm, .int x1] : List Value).toArray below meth c H locs 0 0 (MQ below (va_Qi (S := Unit) (fun r _ => r = res.1) (fun _ => qW D (tyL cI cZ cO) A (wX8_shortFor cI cZ jhm jam res.2)) A) ([.ref jhm, .int x1] : List Value).toArray s 0 0 A) (F0 m 44 ls [])) ?_ 1000
      intro k44 hk44 x2 x3 x4 x5 Sm hf H locs ls hP hD hS hl
      unfold sX8_shortFor_44 at hf
      have hj104 : ∀ (x2 : Int32) (x3 : Int32) (x5 : Int32) (Sm : Bk) (y0 : Int32) (y1 : Int32), gX8_shortFor_104 x1 k30 k44 x2 x3 x5 Sm y0 y1 = some res → ∀ (H : Heap) (locs : List Loc) (ls : Array Slot), va_P D vwCl (wX8_shortFor cI cZ jhm jam Sm) H → va_D A (wX8_shortFor cI cZ jhm jam Sm) → va_S A s.heap H locs → lv_has ls 6 [(0, .ref jhm), (1, .int x1), (2, .int x2), (3, .int x3), (5, .int x5)] → W p l e (rmF 1 25) s m ([.ref jhm, .int x1] : List Value).toArray below meth c H locs 0 0 (MQ below (va_Qi (S := Unit) (fun r _ => r = res.1) (fun _ => qW D (tyL cI cZ cO) A (wX8_shortFor cI cZ jhm jam res.2)) A) ([.ref jhm, .int x1] : List Value).toArray s 0 0 A) (F0 m 104 ls [.int y1, .int y0]) := by
        intro x2 x3 x5 Sm y0 y1 hf H locs ls hP hD hS hl
        unfold gX8_shortFor_104 at hf
        refine lv_iadd hx hb dX8_shortFor_104 ?_
        refine lv_istore (lv' := [(4, .int (y0 + y1)), (0, .ref jhm), (1, .int x1), (2, .int x2), (3, .int x3), (5, .int x5)]) hx hb dX8_shortFor_105 hl (by decide) rfl (fun ls hl => ?_)
        refine lv_iinc (v := (x5 + (1 : Int32))) (lv' := [(5, .int (x5 + (1 : Int32))), (4, .int (y0 + y1)), (0, .ref jhm), (1, .int x1), (2, .int x2), (3, .int x3)]) hx hb dX8_shortFor_107 hl (k := 5) rfl rfl (by decide) rfl (fun ls hl => ?_)
        refine lv_goto (tgt := 44) hx hb dX8_shortFor_110 (by decide) ?_
        exact hk44 x2 x3 (y0 + y1) (x5 + (1 : Int32)) Sm hf _ _ _ hP hD hS (lv_sub hl [2, 3, 4, 5, 1, 0] rfl)
      have hj103 : ∀ (x2 : Int32) (x3 : Int32) (x5 : Int32) (Sm : Bk) (y0 : Int32), gX8_shortFor_103 x1 k30 k44 x2 x3 x5 Sm y0 = some res → ∀ (H : Heap) (locs : List Loc) (ls : Array Slot), va_P D vwCl (wX8_shortFor cI cZ jhm jam Sm) H → va_D A (wX8_shortFor cI cZ jhm jam Sm) → va_S A s.heap H locs → lv_has ls 6 [(0, .ref jhm), (1, .int x1), (2, .int x2), (3, .int x3), (5, .int x5)] → W p l e (rmF 1 25) s m ([.ref jhm, .int x1] : List Value).toArray below meth c H locs 0 0 (MQ below (va_Qi (S := Unit) (fun r _ => r = res.1) (fun _ => qW D (tyL cI cZ cO) A (wX8_shortFor cI cZ jhm jam res.2)) A) ([.ref jhm, .int x1] : List Value).toArray s 0 0 A) (F0 m 103 ls [.int y0]) := by
        intro x2 x3 x5 Sm y0 hf H locs ls hP hD hS hl
        unfold gX8_shortFor_103 at hf
        refine lv_iconst (v := (0 : Int32)) hx hb dX8_shortFor_103 rfl ?_
        exact hj104 x2 x3 x5 Sm y0 (0 : Int32) hf _ _ _ hP hD hS (lv_sub hl [0, 1, 2, 3, 4] rfl)
      refine lv_iload hx hb dX8_shortFor_44 (lv_at hl 5 rfl) ?_
      refine lv_aload_n hx hb dX8_shortFor_46 rfl (lv_at hl 0 rfl) ?_
      refine va_get (D := D) (ci := 7) (v := .int (Sm.1 5)) (C := RX8) (T := TX8) (N := 31) hx hb ht inX8 hown hK hP 0 rfl rfl 6 (by decide) (ht _ wd3_191) (fun _ h9 => h9) rfl dX8_shortFor_47 ?_
      refine lv_icmp_ge (tgt := 113) hx hb dX8_shortFor_50 (by decide) (fun c1 => ?_) (fun c1 => ?_)
      · have hf := itP c1 hf
        refine lv_iload_n hx hb dX8_shortFor_113 rfl (lv_at hl 2 rfl) ?_
        refine lv_iload hx hb dX8_shortFor_114 (lv_at hl 4 rfl) ?_
        refine lv_aload_n hx hb dX8_shortFor_116 rfl (lv_at hl 0 rfl) ?_
        refine va_get (D := D) (ci := 7) (v := .ref (jam 7)) (C := RX8) (T := TX8) (N := 31) hx hb ht inX8 hown hK hP 0 rfl rfl 16 (by decide) (ht _ wd3_201) (fun _ h9 => h9) rfl dX8_shortFor_117 ?_
        refine lv_iload_n hx hb dX8_shortFor_120 rfl (lv_at hl 3 rfl) ?_
        obtain ⟨h2, hf⟩ := inB_s hf
        refine va_iald (f := (Sm.2.1 7)) (n := 16) hx hb hK hP 2 0 rfl rfl h2 dX8_shortFor_121 ?_
        refine lv_icmp_le (tgt := 131) hx hb dX8_shortFor_122 (by decide) (fun c3 => ?_) (fun c3 => ?_)
        · have hf := itP c3 hf
          refine lv_iconst (v := (0 : Int32)) hx hb dX8_shortFor_131 rfl ?_
          exact hj132 x3 Sm x2 (0 : Int32) hf _ _ _ hP hD hS (lv_sub hl [0, 1, 3] rfl)
        · have hf := itN c3 hf
          refine lv_iconst (v := (1 : Int32)) hx hb dX8_shortFor_125 rfl ?_
          refine lv_iload_n hx hb dX8_shortFor_126 rfl (lv_at hl 3 rfl) ?_
          refine lv_ishl hx hb dX8_shortFor_127 ?_
          refine lv_goto (tgt := 132) hx hb dX8_shortFor_128 (by decide) ?_
          exact hj132 x3 Sm x2 ((1 : Int32) <<< (x3 &&& 31)) hf _ _ _ hP hD hS (lv_sub hl [0, 1, 3] rfl)
      · have hf := itN c1 hf
        refine lv_iload hx hb dX8_shortFor_53 (lv_at hl 4 rfl) ?_
        refine lv_iload_n hx hb dX8_shortFor_55 rfl (lv_at hl 1 rfl) ?_
        refine lv_aload_n hx hb dX8_shortFor_56 rfl (lv_at hl 0 rfl) ?_
        refine va_get (D := D) (ci := 7) (v := .ref (jam 7)) (C := RX8) (T := TX8) (N := 31) hx hb ht inX8 hown hK hP 0 rfl rfl 16 (by decide) (ht _ wd3_201) (fun _ h9 => h9) rfl dX8_shortFor_57 ?_
        refine lv_bipush (v := (13 : Int32)) hx hb dX8_shortFor_60 rfl ?_
        obtain ⟨h4, hf⟩ := inB_s hf
        refine va_iald (f := (Sm.2.1 7)) (n := 16) hx hb hK hP 2 0 rfl rfl h4 dX8_shortFor_62 ?_
        refine lv_iconst (v := (-1 : Int32)) hx hb dX8_shortFor_63 rfl ?_
        refine lv_ixor hx hb dX8_shortFor_64 ?_
        refine lv_iand hx hb dX8_shortFor_65 ?_
        refine lv_iload hx hb dX8_shortFor_66 (lv_at hl 5 rfl) ?_
        obtain ⟨u5, e6, hf⟩ := bdS hf
        refine k_pS (As := [.int (x1 &&& (((Sm.2.1 7) (13 : Int32).toNatClampNeg) ^^^ (-1 : Int32))), .int x5]) (rest := [.int x4]) hC miX8_has mjX8_has wd4_108 (qX8_has l (x1 &&& (((Sm.2.1 7) (13 : Int32).toNatClampNeg) ^^^ (-1 : Int32))) x5 u5 e6) ⟨Nat.le_of_ble_eq_true rfl, Nat.le_of_ble_eq_true rfl⟩ hl.1 rfl rfl (Nat.le_of_ble_eq_true rfl) dX8_shortFor_68 ?_
        refine lv_if_eq (tgt := 103) hx hb dX8_shortFor_71 (by decide) (fun c7 => ?_) (fun c7 => ?_)
        · have hf := itP c7 hf
          exact hj103 x2 x3 x5 Sm x4 hf _ _ _ hP hD hS (lv_sub hl [0, 1, 2, 3, 5] rfl)
        · have hf := itN c7 hf
          refine lv_aload_n hx hb dX8_shortFor_74 rfl (lv_at hl 0 rfl) ?_
          refine va_get (D := D) (ci := 7) (v := .ref (jam 3)) (C := RX8) (T := TX8) (N := 31) hx hb ht inX8 hown hK hP 0 rfl rfl 9 (by decide) (ht _ wd3_194) (fun _ h9 => h9) rfl dX8_shortFor_75 ?_
          refine lv_iconst (v := (5 : Int32)) hx hb dX8_shortFor_78 rfl ?_
          refine lv_iload hx hb dX8_shortFor_79 (lv_at hl 5 rfl) ?_
          refine lv_imul hx hb dX8_shortFor_81 ?_
          refine lv_iconst (v := (3 : Int32)) hx hb dX8_shortFor_82 rfl ?_
          refine lv_iadd hx hb dX8_shortFor_83 ?_
          obtain ⟨h8, hf⟩ := inB_s hf
          refine va_iald (f := (Sm.2.1 3)) (n := 20) hx hb hK hP 1 0 rfl rfl h8 dX8_shortFor_84 ?_
          refine lv_iload_n hx hb dX8_shortFor_85 rfl (lv_at hl 3 rfl) ?_
          refine lv_icmp_ne (tgt := 103) hx hb dX8_shortFor_86 (by decide) (fun c9 => ?_) (fun c9 => ?_)
          · have hf := itN c9 hf
            exact hj103 x2 x3 x5 Sm x4 hf _ _ _ hP hD hS (lv_sub hl [0, 1, 2, 3, 5] rfl)
          · have hf := itP c9 hf
            refine lv_aload_n hx hb dX8_shortFor_89 rfl (lv_at hl 0 rfl) ?_
            refine va_get (D := D) (ci := 7) (v := .ref (jam 3)) (C := RX8) (T := TX8) (N := 31) hx hb ht inX8 hown hK hP 0 rfl rfl 9 (by decide) (ht _ wd3_194) (fun _ h9 => h9) rfl dX8_shortFor_90 ?_
            refine lv_iconst (v := (5 : Int32)) hx hb dX8_shortFor_93 rfl ?_
            refine lv_iload hx hb dX8_shortFor_94 (lv_at hl 5 rfl) ?_
            refine lv_imul hx hb dX8_shortFor_96 ?_
            refine lv_iconst (v := (4 : Int32)) hx hb dX8_shortFor_97 rfl ?_
            refine lv_iadd hx hb dX8_shortFor_98 ?_
            obtain ⟨h10, hf⟩ := inB_s hf
            refine va_iald (f := (Sm.2.1 3)) (n := 20) hx hb hK hP 1 0 rfl rfl h10 dX8_shortFor_99 ?_
            refine lv_goto (tgt := 104) hx hb dX8_shortFor_100 (by decide) ?_
            exact hj104 x2 x3 x5 Sm x4 ((Sm.2.1 3) (((5 : Int32) * x5) + (4 : Int32)).toNatClampNeg) hf _ _ _ hP hD hS (lv_sub hl [0, 1, 2, 3, 5] rfl)
    refine lv_iload_n hx hb dX8_shortFor_30 rfl (lv_at hl 3 rfl) ?_
    refine lv_aload_n hx hb dX8_shortFor_31 rfl (lv_at hl 0 rfl) ?_
    refine va_get (D := D) (ci := 7) (v := .int (Sm.1 3)) (C := RX8) (T := TX8) (N := 31) hx hb ht inX8 hown hK hP 0 rfl rfl 4 (by decide) (ht _ wd3_189) (fun _ h9 => h9) rfl dX8_shortFor_32 ?_
    refine lv_icmp_ge (tgt := 140) hx hb dX8_shortFor_35 (by decide) (fun c11 => ?_) (fun c11 => ?_)
    · have hf := itP c11 hf
      refine lv_iload_n hx hb dX8_shortFor_140 rfl (lv_at hl 2 rfl) ?_
      cases hf
      exact W.iret hx hb hr (fun t ht9 hW => ⟨⟨_, (), rfl, rfl, by rw [ht9]; exact hP, va_K.moved hW.alike hK, hD⟩, hS.F ht9⟩) hS.2.2 dX8_shortFor_141
    · have hf := itN c11 hf
      refine lv_iconst (v := (0 : Int32)) hx hb dX8_shortFor_38 rfl ?_
      refine lv_istore (lv' := [(4, .int (0 : Int32)), (0, .ref jhm), (1, .int x1), (2, .int x2), (3, .int x3)]) hx hb dX8_shortFor_39 hl (by decide) rfl (fun ls hl => ?_)
      refine lv_iconst (v := (0 : Int32)) hx hb dX8_shortFor_41 rfl ?_
      refine lv_istore (lv' := [(5, .int (0 : Int32)), (4, .int (0 : Int32)), (0, .ref jhm), (1, .int x1), (2, .int x2), (3, .int x3)]) hx hb dX8_shortFor_42 hl (by decide) rfl (fun ls hl => ?_)
      exact hj44 x2 x3 (0 : Int32) (0 : Int32) Sm hf _ _ _ hP hD hS (lv_sub hl [2, 3, 4, 5, 1, 0] rfl)
  intro H locs hP hS
  refine lv_aload_n hx hb dX8_shortFor_0 rfl (lv_at hl 0 rfl) ?_
  refine lv_iconst (v := (0 : Int32)) hx hb dX8_shortFor_1 rfl ?_
  refine va_put (D := D) (ci := 7) (v := .int (0 : Int32)) (ty := .int) (C := RX8) (T := TX8) (N := 31) hx hb ht inX8 tyX8 tyX8_ok nmX8 hown hK hP hD hS 0 rfl rfl 0 (by decide) (ht _ wd3_185) (fun _ h9 => h9) rfl (tyX8_ok 0 (by decide)) rfl rfl (Nat.le_of_ble_eq_true rfl) dX8_shortFor_2 (fun H locs hP hD hS => ?_)
  have hP : va_P D vwCl (wX8_shortFor cI cZ jhm jam (bI Sm 0 (0 : Int32))) H := hP
  have hD : va_D A (wX8_shortFor cI cZ jhm jam (bI Sm 0 (0 : Int32))) := hD
  refine lv_iload_n hx hb dX8_shortFor_5 rfl (lv_at hl 1 rfl) ?_
  refine lv_i2l hx hb dX8_shortFor_6 rfl ?_
  refine lv_lconst (v := 0) hx hb dX8_shortFor_7 rfl ?_
  refine lv_iconst (v := (1 : Int32)) hx hb dX8_shortFor_8 rfl ?_
  refine lv_aload_n hx hb dX8_shortFor_9 rfl (lv_at hl 0 rfl) ?_
  refine va_get (D := D) (ci := 7) (v := .int (Sm.1 5)) (C := RX8) (T := TX8) (N := 31) hx hb ht inX8 hown hK hP 0 rfl rfl 6 (by decide) (ht _ wd3_191) (fun _ h9 => h9) rfl dX8_shortFor_10 ?_
  refine lv_ishl hx hb dX8_shortFor_13 ?_
  refine lv_iconst (v := (1 : Int32)) hx hb dX8_shortFor_14 rfl ?_
  refine lv_isub hx hb dX8_shortFor_15 ?_
  refine lv_i2l hx hb dX8_shortFor_16 rfl ?_
  obtain ⟨u12, e13, hf⟩ := bdS hf
  refine k_pS (As := [.long x1.toInt64, .long (0 : Int64), .long (((1 : Int32) <<< ((Sm.1 5) &&& 31)) - (1 : Int32)).toInt64]) (rest := []) hC miX8_in mjX8_in wd4_44 (qX8_in l x1.toInt64 (0 : Int64) ((((1 : Int32) <<< ((Sm.1 5) &&& 31)) - (1 : Int32)).toInt64) u12 e13) ⟨Nat.le_of_ble_eq_true rfl, Nat.le_of_ble_eq_true rfl⟩ hl.1 rfl rfl (Nat.le_of_ble_eq_true rfl) dX8_shortFor_17 ?_
  refine lv_if_ne (tgt := 26) hx hb dX8_shortFor_20 (by decide) (fun c14 => ?_) (fun c14 => ?_)
  · have hf := itN c14 hf
    refine lv_iconst (v := (0 : Int32)) hx hb dX8_shortFor_26 rfl ?_
    refine lv_istore_n (lv' := [(2, .int (0 : Int32)), (0, .ref jhm), (1, .int x1)]) hx hb dX8_shortFor_27 rfl hl (by decide) rfl (fun ls hl => ?_)
    refine lv_iconst (v := (0 : Int32)) hx hb dX8_shortFor_28 rfl ?_
    refine lv_istore_n (lv' := [(3, .int (0 : Int32)), (2, .int (0 : Int32)), (0, .ref jhm), (1, .int x1)]) hx hb dX8_shortFor_29 rfl hl (by decide) rfl (fun ls hl => ?_)
    exact hj30 (0 : Int32) (0 : Int32) (bI Sm 0 (0 : Int32)) hf _ _ _ hP hD hS (lv_sub hl [2, 3, 1, 0] rfl)
  · have hf := itP c14 hf
    refine lv_bipush (v := (-2 : Int32)) hx hb dX8_shortFor_23 rfl ?_
    cases hf
    exact W.iret hx hb hr (fun t ht9 hW => ⟨⟨_, (), rfl, rfl, by rw [ht9]; exact hP, va_K.moved hW.alike hK, hD⟩, hS.F ht9⟩) hS.2.2 dX8_shortFor_25
abbrev wX8_partners (cI cZ : ClassId) (jhm : Nat) (jam : Nat → Nat) (Sm : Bk) : va_W := [(jhm, .inr (7, [.int (Sm.1 0), .ref (jam 0), .int (Sm.1 1), .int (Sm.1 2), .int (Sm.1 3), .int (Sm.1 4), .int (Sm.1 5), .ref (jam 1), .ref (jam 2), .ref (jam 3), .int (Sm.1 6), .int (Sm.1 7), .int (Sm.1 8), .ref (jam 4), .ref (jam 5), .ref (jam 6), .ref (jam 7), .ref (jam 8), .ref (jam 9), .int (Sm.1 9), .ref (jam 10), .ref (jam 11), .int (Sm.1 10), .ref (jam 12), .ref (jam 13), .long Sm.2.2, .ref (jam 14), .ref (jam 15), .int (Sm.1 11), .int (Sm.1 12), .int (Sm.1 13)]))]
def gX8_partners_115 (x1 : Int32) (x2 : Int32) (x3 : Int32) (x4 : Int32) (k65 : Int32 → Int32 → Int32 → Bk → Option (Int32 × Bk)) (x5 : Int32) (x6 : Int32) (x7 : Int32) (Sm : Bk) : Option (Int32 × Bk) := k65 x5 x6 (x7 + (1 : Int32)) Sm
def gX8_partners_110 (x1 : Int32) (x2 : Int32) (x3 : Int32) (x4 : Int32) (k65 : Int32 → Int32 → Int32 → Bk → Option (Int32 × Bk)) (x5 : Int32) (x7 : Int32) (Sm : Bk) (y0 : Int32) : Option (Int32 × Bk) := gX8_partners_115 x1 x2 x3 x4 k65 (x5 + (1 : Int32)) y0 x7 Sm
def sX8_partners_65 (x1 : Int32) (x2 : Int32) (x3 : Int32) (x4 : Int32) (k65 : Int32 → Int32 → Int32 → Bk → Option (Int32 × Bk)) (x5 : Int32) (x6 : Int32) (x7 : Int32) (Sm : Bk) : Option (Int32 × Bk) := (if (10 : Int32) < x7 then (if x4 = 0 then some (x5, Sm) else some (x6, Sm)) else (if x2 < (((x1 * x7) + (9 : Int32)) / (10 : Int32)) then gX8_partners_115 x1 x2 x3 x4 k65 x5 x6 x7 Sm else (if x3 < (x1 - (((x1 * x7) + (9 : Int32)) / (10 : Int32))) then gX8_partners_115 x1 x2 x3 x4 k65 x5 x6 x7 Sm else (if x5 = 0 then gX8_partners_110 x1 x2 x3 x4 k65 x5 x7 Sm x7 else gX8_partners_110 x1 x2 x3 x4 k65 x5 x7 Sm x6))))
def fX8_partners (Sm : Bk) (x1 : Int32) (x2 : Int32) (x3 : Int32) (x4 : Int32) : Option (Int32 × Bk) := (fX8_in x1.toInt64 (1 : Int64) (9 : Int64)).bind (fun u6 => (if u6 = 0 then some ((-2 : Int32), (bI Sm 0 (0 : Int32))) else (fX8_in x2.toInt64 (0 : Int64) (9 : Int64)).bind (fun u9 => (if u9 = 0 then some ((-2 : Int32), (bI Sm 0 (0 : Int32))) else (fX8_in x3.toInt64 (0 : Int64) (9 : Int64)).bind (fun u12 => (if u12 = 0 then some ((-2 : Int32), (bI Sm 0 (0 : Int32))) else (fX8_in x4.toInt64 (0 : Int64) (1 : Int64)).bind (fun u15 => (if u15 = 0 then some ((-2 : Int32), (bI Sm 0 (0 : Int32))) else lk4 (sX8_partners_65 x1 x2 x3 x4) 1000 (0 : Int32) (-9 : Int32) (0 : Int32) (bI Sm 0 (0 : Int32))))))))))
theorem miX8_partners : MI yX8_partners cX8_partners 9 (some .int) 4 := ⟨wd1_8, wd5_15, by decide +kernel⟩
theorem mjX8_partners : Cond.instanceMethod yX8_partners ∈ wT ∧ Cond.selects yX8_partners.cls yX8_partners yX8_partners ∈ wT := ⟨wd5_13, wd5_14⟩
set_option maxHeartbeats 4000000 in
set_option maxRecDepth 100000 in
theorem qX8_partners (l : Launch) (D : va_G) (cI cZ cO : ClassId) (jhm : Nat) (jam : Nat → Nat) (Sm : Bk) (x1 : Int32) (x2 : Int32) (x3 : Int32) (x4 : Int32) (sz : Nat) (res : Int32 × Bk) (hf : fX8_partners Sm x1 x2 x3 x4 = some res) : Met l yX8_partners (Cond.code yX8_partners cX8_partners 9 (some .int) :: wT) (rmF 1 25) (va_Pc [.ref jhm, .int x1, .int x2, .int x3, .int x4] (cW D (tyL cI cZ cO) (wX8_partners cI cZ jhm jam Sm) sz)) (va_Qi (S := Unit) (fun r _ => r = res.1) (fun _ => qW D (tyL cI cZ cO) (va_A (wX8_partners cI cZ jhm jam Sm) sz) (wX8_partners cI cZ jhm jam res.2)) (va_A (wX8_partners cI cZ jhm jam Sm) sz)) 0 0 (va_A (wX8_partners cI cZ jhm jam Sm) sz) := by
  refine met_w (by decide) (Nat.le_of_ble_eq_true rfl) ?_
  intro p e s m below meth c hx hb hr hml ht hown hlk ls hl hsz hP hK hD0 hZ
  subst hsz
  have hD := hD0.self (sz := s.heap.size)
  generalize hAe : va_A (wX8_partners cI cZ jhm jam Sm) s.heap.size = A at hD hZ ⊢
  have hA : ∀ q : Nat, s.heap.size ≤ q → A q := fun q h => by rw [← hAe]; exact Or.inr h
  have hS : va_S A s.heap s.heap [] := va_S.rf
  have hown : s.vm.findClass "EyeDrinkModel" = some m.cls := hown
  have hl : lv_has ls 9 [(0, .ref jhm), (1, .int x1), (2, .int x2), (3, .int x3), (4, .int x4)] := hl
  have hC : CallFix p m c cX8_partners 9 s ([.ref jhm, .int x1, .int x2, .int x3, .int x4] : List Value).toArray wT "EyeDrinkModel" := ⟨hx, hb, hml, hown, ht⟩
  unfold fX8_partners at hf
  suffices hgo : ∀ (H : Heap) (locs : List Loc), va_P D vwCl (wX8_partners cI cZ jhm jam Sm) H → va_S A s.heap H locs → W p l e (rmF 1 25) s m ([.ref jhm, .int x1, .int x2, .int x3, .int x4] : List Value).toArray below meth c H locs 0 0 (MQ below (va_Qi (S := Unit) (fun r _ => r = res.1) (fun _ => qW D (tyL cI cZ cO) A (wX8_partners cI cZ jhm jam res.2)) A) ([.ref jhm, .int x1, .int x2, .int x3, .int x4] : List Value).toArray s 0 0 A) (F0 m 0 ls []) from hgo s.heap [] hP hS
  have hj65 : ∀ (x5 : Int32) (x6 : Int32) (x7 : Int32) (Sm : Bk), lk4 (sX8_partners_65 x1 x2 x3 x4) 1000 x5 x6 x7 Sm = some res → ∀ (H : Heap) (locs : List Loc) (ls : Array Slot), va_P D vwCl (wX8_partners cI cZ jhm jam Sm) H → va_D A (wX8_partners cI cZ jhm jam Sm) → va_S A s.heap H locs → lv_has ls 9 [(1, .int x1), (2, .int x2), (3, .int x3), (4, .int x4), (5, .int x5), (6, .int x6), (7, .int x7)] → W p l e (rmF 1 25) s m ([.ref jhm, .int x1, .int x2, .int x3, .int x4] : List Value).toArray below meth c H locs 0 0 (MQ below (va_Qi (S := Unit) (fun r _ => r = res.1) (fun _ => qW D (tyL cI cZ cO) A (wX8_partners cI cZ jhm jam res.2)) A) ([.ref jhm, .int x1, .int x2, .int x3, .int x4] : List Value).toArray s 0 0 A) (F0 m 65 ls []) := by
    refine lk4_w (fun (x5 : Int32) (x6 : Int32) (x7 : Int32) (Sm : Bk) => ∀ (H : Heap) (locs : List Loc) (ls : Array Slot), va_P D vwCl (wX8_partners cI cZ jhm jam Sm) H → va_D A (wX8_partners cI cZ jhm jam Sm) → va_S A s.heap H locs → lv_has ls 9 [(1, .int x1), (2, .int x2), (3, .int x3), (4, .int x4), (5, .int x5), (6, .int x6), (7, .int x7)] → W p l e (rmF 1 25) s m ([.ref jhm, .int x1, .int x2, .int x3, .int x4] : List Value).toArray below meth c H locs 0 0 (MQ below (va_Qi (S := Unit) (fun r _ => r = res.1) (fun _ => qW D (tyL cI cZ cO) A (wX8_partners cI cZ jhm jam res.2)) A) ([.ref jhm, .int x1, .int x2, .int x3, .int x4] : List Value).toArray s 0 0 A) (F0 m 65 ls [])) ?_ 1000
    intro k65 hk65 x5 x6 x7 Sm hf H locs ls hP hD hS hl
    unfold sX8_partners_65 at hf
    have hj115 : ∀ (x5 : Int32) (x6 : Int32) (x7 : Int32) (Sm : Bk), gX8_partners_115 x1 x2 x3 x4 k65 x5 x6 x7 Sm = some res → ∀ (H : Heap) (locs : List Loc) (ls : Array Slot), va_P D vwCl (wX8_partners cI cZ jhm jam Sm) H → va_D A (wX8_partners cI cZ jhm jam Sm) → va_S A s.heap H locs → lv_has ls 9 [(1, .int x1), (2, .int x2), (3, .int x3), (4, .int x4), (5, .int x5), (6, .int x6), (7, .int x7)] → W p l e (rmF 1 25) s m ([.ref jhm, .int x1, .int x2, .int x3, .int x4] : List Value).toArray below meth c H locs 0 0 (MQ below (va_Qi (S := Unit) (fun r _ => r = res.1) (fun _ => qW D (tyL cI cZ cO) A (wX8_partners cI cZ jhm jam res.2)) A) ([.ref jhm, .int x1, .int x2, .int x3, .int x4] : List Value).toArray s 0 0 A) (F0 m 115 ls []) := by
      intro x5 x6 x7 Sm hf H locs ls hP hD hS hl
      unfold gX8_partners_115 at hf
      refine lv_iinc (v := (x7 + (1 : Int32))) (lv' := [(7, .int (x7 + (1 : Int32))), (1, .int x1), (2, .int x2), (3, .int x3), (4, .int x4), (5, .int x5), (6, .int x6)]) hx hb dX8_partners_115 hl (k := 6) rfl rfl (by decide) rfl (fun ls hl => ?_)
      refine lv_goto (tgt := 65) hx hb dX8_partners_118 (by decide) ?_
      exact hk65 x5 x6 (x7 + (1 : Int32)) Sm hf _ _ _ hP hD hS (lv_sub hl [1, 2, 3, 4, 5, 6, 0] rfl)
    have hj110 : ∀ (x5 : Int32) (x7 : Int32) (Sm : Bk) (y0 : Int32), gX8_partners_110 x1 x2 x3 x4 k65 x5 x7 Sm y0 = some res → ∀ (H : Heap) (locs : List Loc) (ls : Array Slot), va_P D vwCl (wX8_partners cI cZ jhm jam Sm) H → va_D A (wX8_partners cI cZ jhm jam Sm) → va_S A s.heap H locs → lv_has ls 9 [(1, .int x1), (2, .int x2), (3, .int x3), (4, .int x4), (5, .int x5), (7, .int x7)] → W p l e (rmF 1 25) s m ([.ref jhm, .int x1, .int x2, .int x3, .int x4] : List Value).toArray below meth c H locs 0 0 (MQ below (va_Qi (S := Unit) (fun r _ => r = res.1) (fun _ => qW D (tyL cI cZ cO) A (wX8_partners cI cZ jhm jam res.2)) A) ([.ref jhm, .int x1, .int x2, .int x3, .int x4] : List Value).toArray s 0 0 A) (F0 m 110 ls [.int y0]) := by
      intro x5 x7 Sm y0 hf H locs ls hP hD hS hl
      unfold gX8_partners_110 at hf
      refine lv_istore (lv' := [(6, .int y0), (1, .int x1), (2, .int x2), (3, .int x3), (4, .int x4), (5, .int x5), (7, .int x7)]) hx hb dX8_partners_110 hl (by decide) rfl (fun ls hl => ?_)
      refine lv_iinc (v := (x5 + (1 : Int32))) (lv' := [(5, .int (x5 + (1 : Int32))), (6, .int y0), (1, .int x1), (2, .int x2), (3, .int x3), (4, .int x4), (7, .int x7)]) hx hb dX8_partners_112 hl (k := 5) rfl rfl (by decide) rfl (fun ls hl => ?_)
      exact hj115 (x5 + (1 : Int32)) y0 x7 Sm hf _ _ _ hP hD hS (lv_sub hl [2, 3, 4, 5, 0, 1, 6] rfl)
    refine lv_iload hx hb dX8_partners_65 (lv_at hl 6 rfl) ?_
    refine lv_bipush (v := (10 : Int32)) hx hb dX8_partners_67 rfl ?_
    refine lv_icmp_gt (tgt := 121) hx hb dX8_partners_69 (by decide) (fun c1 => ?_) (fun c1 => ?_)
    · have hf := itP c1 hf
      refine lv_iload hx hb dX8_partners_121 (lv_at hl 3 rfl) ?_
      refine lv_if_ne (tgt := 131) hx hb dX8_partners_123 (by decide) (fun c2 => ?_) (fun c2 => ?_)
      · have hf := itN c2 hf
        refine lv_iload hx hb dX8_partners_131 (lv_at hl 5 rfl) ?_
        cases hf
        exact W.iret hx hb hr (fun t ht9 hW => ⟨⟨_, (), rfl, rfl, by rw [ht9]; exact hP, va_K.moved hW.alike hK, hD⟩, hS.F ht9⟩) hS.2.2 dX8_partners_133
      · have hf := itP c2 hf
        refine lv_iload hx hb dX8_partners_126 (lv_at hl 4 rfl) ?_
        refine lv_goto (tgt := 133) hx hb dX8_partners_128 (by decide) ?_
        cases hf
        exact W.iret hx hb hr (fun t ht9 hW => ⟨⟨_, (), rfl, rfl, by rw [ht9]; exact hP, va_K.moved hW.alike hK, hD⟩, hS.F ht9⟩) hS.2.2 dX8_partners_133
    · have hf := itN c1 hf
      refine lv_iload_n hx hb dX8_partners_72 rfl (lv_at hl 0 rfl) ?_
      refine lv_iload hx hb dX8_partners_73 (lv_at hl 6 rfl) ?_
      refine lv_imul hx hb dX8_partners_75 ?_
      refine lv_bipush (v := (9 : Int32)) hx hb dX8_partners_76 rfl ?_
      refine lv_iadd hx hb dX8_partners_78 ?_
      refine lv_bipush (v := (10 : Int32)) hx hb dX8_partners_79 rfl ?_
      refine lv_idiv hx hb dX8_partners_81 (by decide) ?_
      refine lv_istore (lv' := [(8, .int (((x1 * x7) + (9 : Int32)) / (10 : Int32))), (1, .int x1), (2, .int x2), (3, .int x3), (4, .int x4), (5, .int x5), (6, .int x6), (7, .int x7)]) hx hb dX8_partners_82 hl (by decide) rfl (fun ls hl => ?_)
      refine lv_iload hx hb dX8_partners_84 (lv_at hl 0 rfl) ?_
      refine lv_iload_n hx hb dX8_partners_86 rfl (lv_at hl 2 rfl) ?_
      refine lv_icmp_gt (tgt := 115) hx hb dX8_partners_87 (by decide) (fun c3 => ?_) (fun c3 => ?_)
      · have hf := itP c3 hf
        exact hj115 x5 x6 x7 Sm hf _ _ _ hP hD hS (lv_sub hl [1, 2, 3, 4, 5, 6, 7] rfl)
      · have hf := itN c3 hf
        refine lv_iload_n hx hb dX8_partners_90 rfl (lv_at hl 1 rfl) ?_
        refine lv_iload hx hb dX8_partners_91 (lv_at hl 0 rfl) ?_
        refine lv_isub hx hb dX8_partners_93 ?_
        refine lv_iload_n hx hb dX8_partners_94 rfl (lv_at hl 3 rfl) ?_
        refine lv_icmp_gt (tgt := 115) hx hb dX8_partners_95 (by decide) (fun c4 => ?_) (fun c4 => ?_)
        · have hf := itP c4 hf
          exact hj115 x5 x6 x7 Sm hf _ _ _ hP hD hS (lv_sub hl [1, 2, 3, 4, 5, 6, 7] rfl)
        · have hf := itN c4 hf
          refine lv_iload hx hb dX8_partners_98 (lv_at hl 5 rfl) ?_
          refine lv_if_ne (tgt := 108) hx hb dX8_partners_100 (by decide) (fun c5 => ?_) (fun c5 => ?_)
          · have hf := itN c5 hf
            refine lv_iload hx hb dX8_partners_108 (lv_at hl 6 rfl) ?_
            exact hj110 x5 x7 Sm x6 hf _ _ _ hP hD hS (lv_sub hl [1, 2, 3, 4, 5, 7] rfl)
          · have hf := itP c5 hf
            refine lv_iload hx hb dX8_partners_103 (lv_at hl 7 rfl) ?_
            refine lv_goto (tgt := 110) hx hb dX8_partners_105 (by decide) ?_
            exact hj110 x5 x7 Sm x7 hf _ _ _ hP hD hS (lv_sub hl [1, 2, 3, 4, 5, 7] rfl)
  intro H locs hP hS
  refine lv_aload_n hx hb dX8_partners_0 rfl (lv_at hl 0 rfl) ?_
  refine lv_iconst (v := (0 : Int32)) hx hb dX8_partners_1 rfl ?_
  refine va_put (D := D) (ci := 7) (v := .int (0 : Int32)) (ty := .int) (C := RX8) (T := TX8) (N := 31) hx hb ht inX8 tyX8 tyX8_ok nmX8 hown hK hP hD hS 0 rfl rfl 0 (by decide) (ht _ wd3_185) (fun _ h9 => h9) rfl (tyX8_ok 0 (by decide)) rfl rfl (Nat.le_of_ble_eq_true rfl) dX8_partners_2 (fun H locs hP hD hS => ?_)
  have hP : va_P D vwCl (wX8_partners cI cZ jhm jam (bI Sm 0 (0 : Int32))) H := hP
  have hD : va_D A (wX8_partners cI cZ jhm jam (bI Sm 0 (0 : Int32))) := hD
  refine lv_iload_n hx hb dX8_partners_5 rfl (lv_at hl 1 rfl) ?_
  refine lv_i2l hx hb dX8_partners_6 rfl ?_
  refine lv_lconst (v := 1) hx hb dX8_partners_7 rfl ?_
  refine lv_ldc2 hx hb hown (ht _ wd5_16) dX8_partners_8 ?_
  obtain ⟨u6, e7, hf⟩ := bdS hf
  refine k_pS (As := [.long x1.toInt64, .long (1 : Int64), .long (9 : Int64)]) (rest := []) hC miX8_in mjX8_in wd4_44 (qX8_in l x1.toInt64 (1 : Int64) (9 : Int64) u6 e7) ⟨Nat.le_of_ble_eq_true rfl, Nat.le_of_ble_eq_true rfl⟩ hl.1 rfl rfl (Nat.le_of_ble_eq_true rfl) dX8_partners_11 ?_
  refine lv_if_eq (tgt := 52) hx hb dX8_partners_14 (by decide) (fun c8 => ?_) (fun c8 => ?_)
  · have hf := itP c8 hf
    refine lv_bipush (v := (-2 : Int32)) hx hb dX8_partners_52 rfl ?_
    cases hf
    exact W.iret hx hb hr (fun t ht9 hW => ⟨⟨_, (), rfl, rfl, by rw [ht9]; exact hP, va_K.moved hW.alike hK, hD⟩, hS.F ht9⟩) hS.2.2 dX8_partners_54
  · have hf := itN c8 hf
    refine lv_iload_n hx hb dX8_partners_17 rfl (lv_at hl 2 rfl) ?_
    refine lv_i2l hx hb dX8_partners_18 rfl ?_
    refine lv_lconst (v := 0) hx hb dX8_partners_19 rfl ?_
    refine lv_ldc2 hx hb hown (ht _ wd5_16) dX8_partners_20 ?_
    obtain ⟨u9, e10, hf⟩ := bdS hf
    refine k_pS (As := [.long x2.toInt64, .long (0 : Int64), .long (9 : Int64)]) (rest := []) hC miX8_in mjX8_in wd4_44 (qX8_in l x2.toInt64 (0 : Int64) (9 : Int64) u9 e10) ⟨Nat.le_of_ble_eq_true rfl, Nat.le_of_ble_eq_true rfl⟩ hl.1 rfl rfl (Nat.le_of_ble_eq_true rfl) dX8_partners_23 ?_
    refine lv_if_eq (tgt := 52) hx hb dX8_partners_26 (by decide) (fun c11 => ?_) (fun c11 => ?_)
    · have hf := itP c11 hf
      refine lv_bipush (v := (-2 : Int32)) hx hb dX8_partners_52 rfl ?_
      cases hf
      exact W.iret hx hb hr (fun t ht9 hW => ⟨⟨_, (), rfl, rfl, by rw [ht9]; exact hP, va_K.moved hW.alike hK, hD⟩, hS.F ht9⟩) hS.2.2 dX8_partners_54
    · have hf := itN c11 hf
      refine lv_iload_n hx hb dX8_partners_29 rfl (lv_at hl 3 rfl) ?_
      refine lv_i2l hx hb dX8_partners_30 rfl ?_
      refine lv_lconst (v := 0) hx hb dX8_partners_31 rfl ?_
      refine lv_ldc2 hx hb hown (ht _ wd5_16) dX8_partners_32 ?_
      obtain ⟨u12, e13, hf⟩ := bdS hf
      refine k_pS (As := [.long x3.toInt64, .long (0 : Int64), .long (9 : Int64)]) (rest := []) hC miX8_in mjX8_in wd4_44 (qX8_in l x3.toInt64 (0 : Int64) (9 : Int64) u12 e13) ⟨Nat.le_of_ble_eq_true rfl, Nat.le_of_ble_eq_true rfl⟩ hl.1 rfl rfl (Nat.le_of_ble_eq_true rfl) dX8_partners_35 ?_
      refine lv_if_eq (tgt := 52) hx hb dX8_partners_38 (by decide) (fun c14 => ?_) (fun c14 => ?_)
      · have hf := itP c14 hf
        refine lv_bipush (v := (-2 : Int32)) hx hb dX8_partners_52 rfl ?_
        cases hf
        exact W.iret hx hb hr (fun t ht9 hW => ⟨⟨_, (), rfl, rfl, by rw [ht9]; exact hP, va_K.moved hW.alike hK, hD⟩, hS.F ht9⟩) hS.2.2 dX8_partners_54
      · have hf := itN c14 hf
        refine lv_iload hx hb dX8_partners_41 (lv_at hl 4 rfl) ?_
        refine lv_i2l hx hb dX8_partners_43 rfl ?_
        refine lv_lconst (v := 0) hx hb dX8_partners_44 rfl ?_
        refine lv_lconst (v := 1) hx hb dX8_partners_45 rfl ?_
        obtain ⟨u15, e16, hf⟩ := bdS hf
        refine k_pS (As := [.long x4.toInt64, .long (0 : Int64), .long (1 : Int64)]) (rest := []) hC miX8_in mjX8_in wd4_44 (qX8_in l x4.toInt64 (0 : Int64) (1 : Int64) u15 e16) ⟨Nat.le_of_ble_eq_true rfl, Nat.le_of_ble_eq_true rfl⟩ hl.1 rfl rfl (Nat.le_of_ble_eq_true rfl) dX8_partners_46 ?_
        refine lv_if_ne (tgt := 55) hx hb dX8_partners_49 (by decide) (fun c17 => ?_) (fun c17 => ?_)
        · have hf := itN c17 hf
          refine lv_iconst (v := (0 : Int32)) hx hb dX8_partners_55 rfl ?_
          refine lv_istore (lv' := [(5, .int (0 : Int32)), (0, .ref jhm), (1, .int x1), (2, .int x2), (3, .int x3), (4, .int x4)]) hx hb dX8_partners_56 hl (by decide) rfl (fun ls hl => ?_)
          refine lv_bipush (v := (-9 : Int32)) hx hb dX8_partners_58 rfl ?_
          refine lv_istore (lv' := [(6, .int (-9 : Int32)), (5, .int (0 : Int32)), (0, .ref jhm), (1, .int x1), (2, .int x2), (3, .int x3), (4, .int x4)]) hx hb dX8_partners_60 hl (by decide) rfl (fun ls hl => ?_)
          refine lv_iconst (v := (0 : Int32)) hx hb dX8_partners_62 rfl ?_
          refine lv_istore (lv' := [(7, .int (0 : Int32)), (6, .int (-9 : Int32)), (5, .int (0 : Int32)), (0, .ref jhm), (1, .int x1), (2, .int x2), (3, .int x3), (4, .int x4)]) hx hb dX8_partners_63 hl (by decide) rfl (fun ls hl => ?_)
          exact hj65 (0 : Int32) (-9 : Int32) (0 : Int32) (bI Sm 0 (0 : Int32)) hf _ _ _ hP hD hS (lv_sub hl [4, 5, 6, 7, 2, 1, 0] rfl)
        · have hf := itP c17 hf
          refine lv_bipush (v := (-2 : Int32)) hx hb dX8_partners_52 rfl ?_
          cases hf
          exact W.iret hx hb hr (fun t ht9 hW => ⟨⟨_, (), rfl, rfl, by rw [ht9]; exact hP, va_K.moved hW.alike hK, hD⟩, hS.F ht9⟩) hS.2.2 dX8_partners_54
abbrev wX8_keeper (cI cZ : ClassId) (jhm : Nat) (jam : Nat → Nat) (Sm : Bk) : va_W := [(jhm, .inr (7, [.int (Sm.1 0), .ref (jam 0), .int (Sm.1 1), .int (Sm.1 2), .int (Sm.1 3), .int (Sm.1 4), .int (Sm.1 5), .ref (jam 1), .ref (jam 2), .ref (jam 3), .int (Sm.1 6), .int (Sm.1 7), .int (Sm.1 8), .ref (jam 4), .ref (jam 5), .ref (jam 6), .ref (jam 7), .ref (jam 8), .ref (jam 9), .int (Sm.1 9), .ref (jam 10), .ref (jam 11), .int (Sm.1 10), .ref (jam 12), .ref (jam 13), .long Sm.2.2, .ref (jam 14), .ref (jam 15), .int (Sm.1 11), .int (Sm.1 12), .int (Sm.1 13)]))]
def gX8_keeper_137 (x1 : Int32) (x2 : Int32) (x3 : Int32) (k56 : Int32 → Int32 → Int32 → Bk → Option (Int32 × Bk)) (x4 : Int32) (x6 : Int32) (Sm : Bk) (y0 : Int32) : Option (Int32 × Bk) := k56 x4 y0 (x6 + (1 : Int32)) Sm
def gX8_keeper_121 (x1 : Int32) (x2 : Int32) (x3 : Int32) (k56 : Int32 → Int32 → Int32 → Bk → Option (Int32 × Bk)) (x5 : Int32) (x6 : Int32) (x7 : Int32) (Sm : Bk) (y0 : Int32) : Option (Int32 × Bk) := (if x7 ≤ x5 then gX8_keeper_137 x1 x2 x3 k56 y0 x6 Sm x5 else gX8_keeper_137 x1 x2 x3 k56 y0 x6 Sm x7)
def gX8_keeper_98 (x1 : Int32) (x2 : Int32) (x3 : Int32) (k56 : Int32 → Int32 → Int32 → Bk → Option (Int32 × Bk)) (k69 : Int32 → Int32 → Int32 → Int32 → Int32 → Bk → Option (Int32 × Bk)) (x4 : Int32) (x5 : Int32) (x6 : Int32) (x8 : Int32) (Sm : Bk) (y0 : Int32) (y1 : Int32) : Option (Int32 × Bk) := k69 x4 x5 x6 (y0 + y1) (x8 + (1 : Int32)) Sm
def sX8_keeper_69 (x1 : Int32) (x2 : Int32) (x3 : Int32) (k56 : Int32 → Int32 → Int32 → Bk → Option (Int32 × Bk)) (k69 : Int32 → Int32 → Int32 → Int32 → Int32 → Bk → Option (Int32 × Bk)) (x4 : Int32) (x5 : Int32) (x6 : Int32) (x7 : Int32) (x8 : Int32) (Sm : Bk) : Option (Int32 × Bk) := (if x1 ≤ x8 then (if x7 ≤ x5 then gX8_keeper_121 x1 x2 x3 k56 x5 x6 x7 Sm x4 else gX8_keeper_121 x1 x2 x3 k56 x5 x6 x7 Sm x6) else (fX8_ten x8).bind (fun u4 => nzA u4 ((if ((x2 / u4) - (x2 / u4) / (10 : Int32) * (10 : Int32)) < x6 then gX8_keeper_98 x1 x2 x3 k56 k69 x4 x5 x6 x8 Sm x7 (0 : Int32) else gX8_keeper_98 x1 x2 x3 k56 k69 x4 x5 x6 x8 Sm x7 x6))))
def sX8_keeper_56 (x1 : Int32) (x2 : Int32) (x3 : Int32) (k56 : Int32 → Int32 → Int32 → Bk → Option (Int32 × Bk)) (x4 : Int32) (x5 : Int32) (x6 : Int32) (Sm : Bk) : Option (Int32 × Bk) := (if (9 : Int32) < x6 then (if x3 = 0 then some (x4, Sm) else some (x5, Sm)) else lk6 (sX8_keeper_69 x1 x2 x3 k56) 1000 x4 x5 x6 (0 : Int32) (0 : Int32) Sm)
def fX8_keeper (Sm : Bk) (x1 : Int32) (x2 : Int32) (x3 : Int32) : Option (Int32 × Bk) := (fX8_in x1.toInt64 (1 : Int64) (6 : Int64)).bind (fun u10 => (if u10 = 0 then some ((-2 : Int32), (bI Sm 0 (0 : Int32))) else (fX8_ten x1).bind (fun u13 => (fX8_in x2.toInt64 (0 : Int64) ((u13 - (1 : Int32)).toInt64)).bind (fun u15 => (if u15 = 0 then some ((-2 : Int32), (bI Sm 0 (0 : Int32))) else (fX8_in x3.toInt64 (0 : Int64) (1 : Int64)).bind (fun u18 => (if u18 = 0 then some ((-2 : Int32), (bI Sm 0 (0 : Int32))) else lk4 (sX8_keeper_56 x1 x2 x3) 1000 (1 : Int32) (-9 : Int32) (1 : Int32) (bI Sm 0 (0 : Int32)))))))))
theorem miX8_keeper : MI yX8_keeper cX8_keeper 9 (some .int) 3 := ⟨wd1_8, wd5_20, by decide +kernel⟩
theorem mjX8_keeper : Cond.instanceMethod yX8_keeper ∈ wT ∧ Cond.selects yX8_keeper.cls yX8_keeper yX8_keeper ∈ wT := ⟨wd5_18, wd5_19⟩
set_option maxHeartbeats 4000000 in
set_option maxRecDepth 100000 in
theorem qX8_keeper (l : Launch) (D : va_G) (cI cZ cO : ClassId) (jhm : Nat) (jam : Nat → Nat) (Sm : Bk) (x1 : Int32) (x2 : Int32) (x3 : Int32) (sz : Nat) (res : Int32 × Bk) (hf : fX8_keeper Sm x1 x2 x3 = some res) : Met l yX8_keeper (Cond.code yX8_keeper cX8_keeper 9 (some .int) :: wT) (rmF 1 25) (va_Pc [.ref jhm, .int x1, .int x2, .int x3] (cW D (tyL cI cZ cO) (wX8_keeper cI cZ jhm jam Sm) sz)) (va_Qi (S := Unit) (fun r _ => r = res.1) (fun _ => qW D (tyL cI cZ cO) (va_A (wX8_keeper cI cZ jhm jam Sm) sz) (wX8_keeper cI cZ jhm jam res.2)) (va_A (wX8_keeper cI cZ jhm jam Sm) sz)) 0 0 (va_A (wX8_keeper cI cZ jhm jam Sm) sz) := by
  refine met_w (by decide) (Nat.le_of_ble_eq_true rfl) ?_
  intro p e s m below meth c hx hb hr hml ht hown hlk ls hl hsz hP hK hD0 hZ
  subst hsz
  have hD := hD0.self (sz := s.heap.size)
  generalize hAe : va_A (wX8_keeper cI cZ jhm jam Sm) s.heap.size = A at hD hZ ⊢
  have hA : ∀ q : Nat, s.heap.size ≤ q → A q := fun q h => by rw [← hAe]; exact Or.inr h
  have hS : va_S A s.heap s.heap [] := va_S.rf
  have hown : s.vm.findClass "EyeDrinkModel" = some m.cls := hown
  have hl : lv_has ls 9 [(0, .ref jhm), (1, .int x1), (2, .int x2), (3, .int x3)] := hl
  have hC : CallFix p m c cX8_keeper 9 s ([.ref jhm, .int x1, .int x2, .int x3] : List Value).toArray wT "EyeDrinkModel" := ⟨hx, hb, hml, hown, ht⟩
  unfold fX8_keeper at hf
  suffices hgo : ∀ (H : Heap) (locs : List Loc), va_P D vwCl (wX8_keeper cI cZ jhm jam Sm) H → va_S A s.heap H locs → W p l e (rmF 1 25) s m ([.ref jhm, .int x1, .int x2, .int x3] : List Value).toArray below meth c H locs 0 0 (MQ below (va_Qi (S := Unit) (fun r _ => r = res.1) (fun _ => qW D (tyL cI cZ cO) A (wX8_keeper cI cZ jhm jam res.2)) A) ([.ref jhm, .int x1, .int x2, .int x3] : List Value).toArray s 0 0 A) (F0 m 0 ls []) from hgo s.heap [] hP hS
  have hj56 : ∀ (x4 : Int32) (x5 : Int32) (x6 : Int32) (Sm : Bk), lk4 (sX8_keeper_56 x1 x2 x3) 1000 x4 x5 x6 Sm = some res → ∀ (H : Heap) (locs : List Loc) (ls : Array Slot), va_P D vwCl (wX8_keeper cI cZ jhm jam Sm) H → va_D A (wX8_keeper cI cZ jhm jam Sm) → va_S A s.heap H locs → lv_has ls 9 [(1, .int x1), (2, .int x2), (3, .int x3), (4, .int x4), (5, .int x5), (6, .int x6)] → W p l e (rmF 1 25) s m ([.ref jhm, .int x1, .int x2, .int x3] : List Value).toArray below meth c H locs 0 0 (MQ below (va_Qi (S := Unit) (fun r _ => r = res.1) (fun _ => qW D (tyL cI cZ cO) A (wX8_keeper cI cZ jhm jam res.2)) A) ([.ref jhm, .int x1, .int x2, .int x3] : List Value).toArray s 0 0 A) (F0 m 56 ls []) := by
    refine lk4_w (fun (x4 : Int32) (x5 : Int32) (x6 : Int32) (Sm : Bk) => ∀ (H : Heap) (locs : List Loc) (ls : Array Slot), va_P D vwCl (wX8_keeper cI cZ jhm jam Sm) H → va_D A (wX8_keeper cI cZ jhm jam Sm) → va_S A s.heap H locs → lv_has ls 9 [(1, .int x1), (2, .int x2), (3, .int x3), (4, .int x4), (5, .int x5), (6, .int x6)] → W p l e (rmF 1 25) s m ([.ref jhm, .int x1, .int x2, .int x3] : List Value).toArray below meth c H locs 0 0 (MQ below (va_Qi (S := Unit) (fun r _ => r = res.1) (fun _ => qW D (tyL cI cZ cO) A (wX8_keeper cI cZ jhm jam res.2)) A) ([.ref jhm, .int x1, .int x2, .int x3] : List Value).toArray s 0 0 A) (F0 m 56 ls [])) ?_ 1000
    intro k56 hk56 x4 x5 x6 Sm hf H locs ls hP hD hS hl
    unfold sX8_keeper_56 at hf
    have hj137 : ∀ (x4 : Int32) (x6 : Int32) (Sm : Bk) (y0 : Int32), gX8_keeper_137 x1 x2 x3 k56 x4 x6 Sm y0 = some res → ∀ (H : Heap) (locs : List Loc) (ls : Array Slot), va_P D vwCl (wX8_keeper cI cZ jhm jam Sm) H → va_D A (wX8_keeper cI cZ jhm jam Sm) → va_S A s.heap H locs → lv_has ls 9 [(1, .int x1), (2, .int x2), (3, .int x3), (4, .int x4), (6, .int x6)] → W p l e (rmF 1 25) s m ([.ref jhm, .int x1, .int x2, .int x3] : List Value).toArray below meth c H locs 0 0 (MQ below (va_Qi (S := Unit) (fun r _ => r = res.1) (fun _ => qW D (tyL cI cZ cO) A (wX8_keeper cI cZ jhm jam res.2)) A) ([.ref jhm, .int x1, .int x2, .int x3] : List Value).toArray s 0 0 A) (F0 m 137 ls [.int y0]) := by
      intro x4 x6 Sm y0 hf H locs ls hP hD hS hl
      unfold gX8_keeper_137 at hf
      refine lv_istore (lv' := [(5, .int y0), (1, .int x1), (2, .int x2), (3, .int x3), (4, .int x4), (6, .int x6)]) hx hb dX8_keeper_137 hl (by decide) rfl (fun ls hl => ?_)
      refine lv_iinc (v := (x6 + (1 : Int32))) (lv' := [(6, .int (x6 + (1 : Int32))), (5, .int y0), (1, .int x1), (2, .int x2), (3, .int x3), (4, .int x4)]) hx hb dX8_keeper_139 hl (k := 5) rfl rfl (by decide) rfl (fun ls hl => ?_)
      refine lv_goto (tgt := 56) hx hb dX8_keeper_142 (by decide) ?_
      exact hk56 x4 y0 (x6 + (1 : Int32)) Sm hf _ _ _ hP hD hS (lv_sub hl [2, 3, 4, 5, 1, 0] rfl)
    have hj121 : ∀ (x5 : Int32) (x6 : Int32) (x7 : Int32) (Sm : Bk) (y0 : Int32), gX8_keeper_121 x1 x2 x3 k56 x5 x6 x7 Sm y0 = some res → ∀ (H : Heap) (locs : List Loc) (ls : Array Slot), va_P D vwCl (wX8_keeper cI cZ jhm jam Sm) H → va_D A (wX8_keeper cI cZ jhm jam Sm) → va_S A s.heap H locs → lv_has ls 9 [(1, .int x1), (2, .int x2), (3, .int x3), (5, .int x5), (6, .int x6), (7, .int x7)] → W p l e (rmF 1 25) s m ([.ref jhm, .int x1, .int x2, .int x3] : List Value).toArray below meth c H locs 0 0 (MQ below (va_Qi (S := Unit) (fun r _ => r = res.1) (fun _ => qW D (tyL cI cZ cO) A (wX8_keeper cI cZ jhm jam res.2)) A) ([.ref jhm, .int x1, .int x2, .int x3] : List Value).toArray s 0 0 A) (F0 m 121 ls [.int y0]) := by
      intro x5 x6 x7 Sm y0 hf H locs ls hP hD hS hl
      unfold gX8_keeper_121 at hf
      refine lv_istore (lv' := [(4, .int y0), (1, .int x1), (2, .int x2), (3, .int x3), (5, .int x5), (6, .int x6), (7, .int x7)]) hx hb dX8_keeper_121 hl (by decide) rfl (fun ls hl => ?_)
      refine lv_iload hx hb dX8_keeper_123 (lv_at hl 6 rfl) ?_
      refine lv_iload hx hb dX8_keeper_125 (lv_at hl 4 rfl) ?_
      refine lv_icmp_le (tgt := 135) hx hb dX8_keeper_127 (by decide) (fun c1 => ?_) (fun c1 => ?_)
      · have hf := itP c1 hf
        refine lv_iload hx hb dX8_keeper_135 (lv_at hl 4 rfl) ?_
        exact hj137 y0 x6 Sm x5 hf _ _ _ hP hD hS (lv_sub hl [1, 2, 3, 0, 5] rfl)
      · have hf := itN c1 hf
        refine lv_iload hx hb dX8_keeper_130 (lv_at hl 6 rfl) ?_
        refine lv_goto (tgt := 137) hx hb dX8_keeper_132 (by decide) ?_
        exact hj137 y0 x6 Sm x7 hf _ _ _ hP hD hS (lv_sub hl [1, 2, 3, 0, 5] rfl)
    have hj69 : ∀ (x4 : Int32) (x5 : Int32) (x6 : Int32) (x7 : Int32) (x8 : Int32) (Sm : Bk), lk6 (sX8_keeper_69 x1 x2 x3 k56) 1000 x4 x5 x6 x7 x8 Sm = some res → ∀ (H : Heap) (locs : List Loc) (ls : Array Slot), va_P D vwCl (wX8_keeper cI cZ jhm jam Sm) H → va_D A (wX8_keeper cI cZ jhm jam Sm) → va_S A s.heap H locs → lv_has ls 9 [(1, .int x1), (2, .int x2), (3, .int x3), (4, .int x4), (5, .int x5), (6, .int x6), (7, .int x7), (8, .int x8)] → W p l e (rmF 1 25) s m ([.ref jhm, .int x1, .int x2, .int x3] : List Value).toArray below meth c H locs 0 0 (MQ below (va_Qi (S := Unit) (fun r _ => r = res.1) (fun _ => qW D (tyL cI cZ cO) A (wX8_keeper cI cZ jhm jam res.2)) A) ([.ref jhm, .int x1, .int x2, .int x3] : List Value).toArray s 0 0 A) (F0 m 69 ls []) := by
      refine lk6_w (fun (x4 : Int32) (x5 : Int32) (x6 : Int32) (x7 : Int32) (x8 : Int32) (Sm : Bk) => ∀ (H : Heap) (locs : List Loc) (ls : Array Slot), va_P D vwCl (wX8_keeper cI cZ jhm jam Sm) H → va_D A (wX8_keeper cI cZ jhm jam Sm) → va_S A s.heap H locs → lv_has ls 9 [(1, .int x1), (2, .int x2), (3, .int x3), (4, .int x4), (5, .int x5), (6, .int x6), (7, .int x7), (8, .int x8)] → W p l e (rmF 1 25) s m ([.ref jhm, .int x1, .int x2, .int x3] : List Value).toArray below meth c H locs 0 0 (MQ below (va_Qi (S := Unit) (fun r _ => r = res.1) (fun _ => qW D (tyL cI cZ cO) A (wX8_keeper cI cZ jhm jam res.2)) A) ([.ref jhm, .int x1, .int x2, .int x3] : List Value).toArray s 0 0 A) (F0 m 69 ls [])) ?_ 1000
      intro k69 hk69 x4 x5 x6 x7 x8 Sm hf H locs ls hP hD hS hl
      unfold sX8_keeper_69 at hf
      have hj98 : ∀ (x4 : Int32) (x5 : Int32) (x6 : Int32) (x8 : Int32) (Sm : Bk) (y0 : Int32) (y1 : Int32), gX8_keeper_98 x1 x2 x3 k56 k69 x4 x5 x6 x8 Sm y0 y1 = some res → ∀ (H : Heap) (locs : List Loc) (ls : Array Slot), va_P D vwCl (wX8_keeper cI cZ jhm jam Sm) H → va_D A (wX8_keeper cI cZ jhm jam Sm) → va_S A s.heap H locs → lv_has ls 9 [(1, .int x1), (2, .int x2), (3, .int x3), (4, .int x4), (5, .int x5), (6, .int x6), (8, .int x8)] → W p l e (rmF 1 25) s m ([.ref jhm, .int x1, .int x2, .int x3] : List Value).toArray below meth c H locs 0 0 (MQ below (va_Qi (S := Unit) (fun r _ => r = res.1) (fun _ => qW D (tyL cI cZ cO) A (wX8_keeper cI cZ jhm jam res.2)) A) ([.ref jhm, .int x1, .int x2, .int x3] : List Value).toArray s 0 0 A) (F0 m 98 ls [.int y1, .int y0]) := by
        intro x4 x5 x6 x8 Sm y0 y1 hf H locs ls hP hD hS hl
        unfold gX8_keeper_98 at hf
        refine lv_iadd hx hb dX8_keeper_98 ?_
        refine lv_istore (lv' := [(7, .int (y0 + y1)), (1, .int x1), (2, .int x2), (3, .int x3), (4, .int x4), (5, .int x5), (6, .int x6), (8, .int x8)]) hx hb dX8_keeper_99 hl (by decide) rfl (fun ls hl => ?_)
        refine lv_iinc (v := (x8 + (1 : Int32))) (lv' := [(8, .int (x8 + (1 : Int32))), (7, .int (y0 + y1)), (1, .int x1), (2, .int x2), (3, .int x3), (4, .int x4), (5, .int x5), (6, .int x6)]) hx hb dX8_keeper_101 hl (k := 7) rfl rfl (by decide) rfl (fun ls hl => ?_)
        refine lv_goto (tgt := 69) hx hb dX8_keeper_104 (by decide) ?_
        exact hk69 x4 x5 x6 (y0 + y1) (x8 + (1 : Int32)) Sm hf _ _ _ hP hD hS (lv_sub hl [2, 3, 4, 5, 6, 7, 1, 0] rfl)
      refine lv_iload hx hb dX8_keeper_69 (lv_at hl 7 rfl) ?_
      refine lv_iload_n hx hb dX8_keeper_71 rfl (lv_at hl 0 rfl) ?_
      refine lv_icmp_ge (tgt := 107) hx hb dX8_keeper_72 (by decide) (fun c2 => ?_) (fun c2 => ?_)
      · have hf := itP c2 hf
        refine lv_iload hx hb dX8_keeper_107 (lv_at hl 6 rfl) ?_
        refine lv_iload hx hb dX8_keeper_109 (lv_at hl 4 rfl) ?_
        refine lv_icmp_le (tgt := 119) hx hb dX8_keeper_111 (by decide) (fun c3 => ?_) (fun c3 => ?_)
        · have hf := itP c3 hf
          refine lv_iload hx hb dX8_keeper_119 (lv_at hl 3 rfl) ?_
          exact hj121 x5 x6 x7 Sm x4 hf _ _ _ hP hD hS (lv_sub hl [0, 1, 2, 4, 5, 6] rfl)
        · have hf := itN c3 hf
          refine lv_iload hx hb dX8_keeper_114 (lv_at hl 5 rfl) ?_
          refine lv_goto (tgt := 121) hx hb dX8_keeper_116 (by decide) ?_
          exact hj121 x5 x6 x7 Sm x6 hf _ _ _ hP hD hS (lv_sub hl [0, 1, 2, 4, 5, 6] rfl)
      · have hf := itN c2 hf
        refine lv_iload hx hb dX8_keeper_75 (lv_at hl 6 rfl) ?_
        refine lv_iload_n hx hb dX8_keeper_77 rfl (lv_at hl 1 rfl) ?_
        refine lv_iload hx hb dX8_keeper_78 (lv_at hl 7 rfl) ?_
        obtain ⟨u4, e5, hf⟩ := bdS hf
        refine k_pS (As := [.int x8]) (rest := [.int x2, .int x7]) hC miX8_ten mjX8_ten wd4_213 (qX8_ten l x8 u4 e5) ⟨Nat.le_of_ble_eq_true rfl, Nat.le_of_ble_eq_true rfl⟩ hl.1 rfl rfl (Nat.le_of_ble_eq_true rfl) dX8_keeper_80 ?_
        obtain ⟨z6, hf⟩ := nzA_s hf
        refine lv_idiv hx hb dX8_keeper_83 z6 ?_
        refine lv_bipush (v := (10 : Int32)) hx hb dX8_keeper_84 rfl ?_
        refine lv_irem hx hb dX8_keeper_86 (by decide) ?_
        refine lv_iload hx hb dX8_keeper_87 (lv_at hl 5 rfl) ?_
        refine lv_icmp_lt (tgt := 97) hx hb dX8_keeper_89 (by decide) (fun c7 => ?_) (fun c7 => ?_)
        · have hf := itP c7 hf
          refine lv_iconst (v := (0 : Int32)) hx hb dX8_keeper_97 rfl ?_
          exact hj98 x4 x5 x6 x8 Sm x7 (0 : Int32) hf _ _ _ hP hD hS (lv_sub hl [0, 1, 2, 3, 4, 5, 7] rfl)
        · have hf := itN c7 hf
          refine lv_iload hx hb dX8_keeper_92 (lv_at hl 5 rfl) ?_
          refine lv_goto (tgt := 98) hx hb dX8_keeper_94 (by decide) ?_
          exact hj98 x4 x5 x6 x8 Sm x7 x6 hf _ _ _ hP hD hS (lv_sub hl [0, 1, 2, 3, 4, 5, 7] rfl)
    refine lv_iload hx hb dX8_keeper_56 (lv_at hl 5 rfl) ?_
    refine lv_bipush (v := (9 : Int32)) hx hb dX8_keeper_58 rfl ?_
    refine lv_icmp_gt (tgt := 145) hx hb dX8_keeper_60 (by decide) (fun c8 => ?_) (fun c8 => ?_)
    · have hf := itP c8 hf
      refine lv_iload_n hx hb dX8_keeper_145 rfl (lv_at hl 2 rfl) ?_
      refine lv_if_ne (tgt := 154) hx hb dX8_keeper_146 (by decide) (fun c9 => ?_) (fun c9 => ?_)
      · have hf := itN c9 hf
        refine lv_iload hx hb dX8_keeper_154 (lv_at hl 4 rfl) ?_
        cases hf
        exact W.iret hx hb hr (fun t ht9 hW => ⟨⟨_, (), rfl, rfl, by rw [ht9]; exact hP, va_K.moved hW.alike hK, hD⟩, hS.F ht9⟩) hS.2.2 dX8_keeper_156
      · have hf := itP c9 hf
        refine lv_iload hx hb dX8_keeper_149 (lv_at hl 3 rfl) ?_
        refine lv_goto (tgt := 156) hx hb dX8_keeper_151 (by decide) ?_
        cases hf
        exact W.iret hx hb hr (fun t ht9 hW => ⟨⟨_, (), rfl, rfl, by rw [ht9]; exact hP, va_K.moved hW.alike hK, hD⟩, hS.F ht9⟩) hS.2.2 dX8_keeper_156
    · have hf := itN c8 hf
      refine lv_iconst (v := (0 : Int32)) hx hb dX8_keeper_63 rfl ?_
      refine lv_istore (lv' := [(7, .int (0 : Int32)), (1, .int x1), (2, .int x2), (3, .int x3), (4, .int x4), (5, .int x5), (6, .int x6)]) hx hb dX8_keeper_64 hl (by decide) rfl (fun ls hl => ?_)
      refine lv_iconst (v := (0 : Int32)) hx hb dX8_keeper_66 rfl ?_
      refine lv_istore (lv' := [(8, .int (0 : Int32)), (7, .int (0 : Int32)), (1, .int x1), (2, .int x2), (3, .int x3), (4, .int x4), (5, .int x5), (6, .int x6)]) hx hb dX8_keeper_67 hl (by decide) rfl (fun ls hl => ?_)
      exact hj69 x4 x5 x6 (0 : Int32) (0 : Int32) Sm hf _ _ _ hP hD hS (lv_sub hl [2, 3, 4, 5, 6, 7, 1, 0] rfl)
  intro H locs hP hS
  refine lv_aload_n hx hb dX8_keeper_0 rfl (lv_at hl 0 rfl) ?_
  refine lv_iconst (v := (0 : Int32)) hx hb dX8_keeper_1 rfl ?_
  refine va_put (D := D) (ci := 7) (v := .int (0 : Int32)) (ty := .int) (C := RX8) (T := TX8) (N := 31) hx hb ht inX8 tyX8 tyX8_ok nmX8 hown hK hP hD hS 0 rfl rfl 0 (by decide) (ht _ wd3_185) (fun _ h9 => h9) rfl (tyX8_ok 0 (by decide)) rfl rfl (Nat.le_of_ble_eq_true rfl) dX8_keeper_2 (fun H locs hP hD hS => ?_)
  have hP : va_P D vwCl (wX8_keeper cI cZ jhm jam (bI Sm 0 (0 : Int32))) H := hP
  have hD : va_D A (wX8_keeper cI cZ jhm jam (bI Sm 0 (0 : Int32))) := hD
  refine lv_iload_n hx hb dX8_keeper_5 rfl (lv_at hl 1 rfl) ?_
  refine lv_i2l hx hb dX8_keeper_6 rfl ?_
  refine lv_lconst (v := 1) hx hb dX8_keeper_7 rfl ?_
  refine lv_ldc2 hx hb hown (ht _ wd5_21) dX8_keeper_8 ?_
  obtain ⟨u10, e11, hf⟩ := bdS hf
  refine k_pS (As := [.long x1.toInt64, .long (1 : Int64), .long (6 : Int64)]) (rest := []) hC miX8_in mjX8_in wd4_44 (qX8_in l x1.toInt64 (1 : Int64) (6 : Int64) u10 e11) ⟨Nat.le_of_ble_eq_true rfl, Nat.le_of_ble_eq_true rfl⟩ hl.1 rfl rfl (Nat.le_of_ble_eq_true rfl) dX8_keeper_11 ?_
  refine lv_if_eq (tgt := 43) hx hb dX8_keeper_14 (by decide) (fun c12 => ?_) (fun c12 => ?_)
  · have hf := itP c12 hf
    refine lv_bipush (v := (-2 : Int32)) hx hb dX8_keeper_43 rfl ?_
    cases hf
    exact W.iret hx hb hr (fun t ht9 hW => ⟨⟨_, (), rfl, rfl, by rw [ht9]; exact hP, va_K.moved hW.alike hK, hD⟩, hS.F ht9⟩) hS.2.2 dX8_keeper_45
  · have hf := itN c12 hf
    refine lv_iload_n hx hb dX8_keeper_17 rfl (lv_at hl 2 rfl) ?_
    refine lv_i2l hx hb dX8_keeper_18 rfl ?_
    refine lv_lconst (v := 0) hx hb dX8_keeper_19 rfl ?_
    refine lv_iload_n hx hb dX8_keeper_20 rfl (lv_at hl 1 rfl) ?_
    obtain ⟨u13, e14, hf⟩ := bdS hf
    refine k_pS (As := [.int x1]) (rest := [.long (0 : Int64), .long x2.toInt64]) hC miX8_ten mjX8_ten wd4_213 (qX8_ten l x1 u13 e14) ⟨Nat.le_of_ble_eq_true rfl, Nat.le_of_ble_eq_true rfl⟩ hl.1 rfl rfl (Nat.le_of_ble_eq_true rfl) dX8_keeper_21 ?_
    refine lv_iconst (v := (1 : Int32)) hx hb dX8_keeper_24 rfl ?_
    refine lv_isub hx hb dX8_keeper_25 ?_
    refine lv_i2l hx hb dX8_keeper_26 rfl ?_
    obtain ⟨u15, e16, hf⟩ := bdS hf
    refine k_pS (As := [.long x2.toInt64, .long (0 : Int64), .long (u13 - (1 : Int32)).toInt64]) (rest := []) hC miX8_in mjX8_in wd4_44 (qX8_in l x2.toInt64 (0 : Int64) ((u13 - (1 : Int32)).toInt64) u15 e16) ⟨Nat.le_of_ble_eq_true rfl, Nat.le_of_ble_eq_true rfl⟩ hl.1 rfl rfl (Nat.le_of_ble_eq_true rfl) dX8_keeper_27 ?_
    refine lv_if_eq (tgt := 43) hx hb dX8_keeper_30 (by decide) (fun c17 => ?_) (fun c17 => ?_)
    · have hf := itP c17 hf
      refine lv_bipush (v := (-2 : Int32)) hx hb dX8_keeper_43 rfl ?_
      cases hf
      exact W.iret hx hb hr (fun t ht9 hW => ⟨⟨_, (), rfl, rfl, by rw [ht9]; exact hP, va_K.moved hW.alike hK, hD⟩, hS.F ht9⟩) hS.2.2 dX8_keeper_45
    · have hf := itN c17 hf
      refine lv_iload_n hx hb dX8_keeper_33 rfl (lv_at hl 3 rfl) ?_
      refine lv_i2l hx hb dX8_keeper_34 rfl ?_
      refine lv_lconst (v := 0) hx hb dX8_keeper_35 rfl ?_
      refine lv_lconst (v := 1) hx hb dX8_keeper_36 rfl ?_
      obtain ⟨u18, e19, hf⟩ := bdS hf
      refine k_pS (As := [.long x3.toInt64, .long (0 : Int64), .long (1 : Int64)]) (rest := []) hC miX8_in mjX8_in wd4_44 (qX8_in l x3.toInt64 (0 : Int64) (1 : Int64) u18 e19) ⟨Nat.le_of_ble_eq_true rfl, Nat.le_of_ble_eq_true rfl⟩ hl.1 rfl rfl (Nat.le_of_ble_eq_true rfl) dX8_keeper_37 ?_
      refine lv_if_ne (tgt := 46) hx hb dX8_keeper_40 (by decide) (fun c20 => ?_) (fun c20 => ?_)
      · have hf := itN c20 hf
        refine lv_iconst (v := (1 : Int32)) hx hb dX8_keeper_46 rfl ?_
        refine lv_istore (lv' := [(4, .int (1 : Int32)), (0, .ref jhm), (1, .int x1), (2, .int x2), (3, .int x3)]) hx hb dX8_keeper_47 hl (by decide) rfl (fun ls hl => ?_)
        refine lv_bipush (v := (-9 : Int32)) hx hb dX8_keeper_49 rfl ?_
        refine lv_istore (lv' := [(5, .int (-9 : Int32)), (4, .int (1 : Int32)), (0, .ref jhm), (1, .int x1), (2, .int x2), (3, .int x3)]) hx hb dX8_keeper_51 hl (by decide) rfl (fun ls hl => ?_)
        refine lv_iconst (v := (1 : Int32)) hx hb dX8_keeper_53 rfl ?_
        refine lv_istore (lv' := [(6, .int (1 : Int32)), (5, .int (-9 : Int32)), (4, .int (1 : Int32)), (0, .ref jhm), (1, .int x1), (2, .int x2), (3, .int x3)]) hx hb dX8_keeper_54 hl (by decide) rfl (fun ls hl => ?_)
        exact hj56 (1 : Int32) (-9 : Int32) (1 : Int32) (bI Sm 0 (0 : Int32)) hf _ _ _ hP hD hS (lv_sub hl [4, 5, 6, 2, 1, 0] rfl)
      · have hf := itP c20 hf
        refine lv_bipush (v := (-2 : Int32)) hx hb dX8_keeper_43 rfl ?_
        cases hf
        exact W.iret hx hb hr (fun t ht9 hW => ⟨⟨_, (), rfl, rfl, by rw [ht9]; exact hP, va_K.moved hW.alike hK, hD⟩, hS.F ht9⟩) hS.2.2 dX8_keeper_45
abbrev wX8_byTurns (cI cZ : ClassId) (jhm : Nat) (jam : Nat → Nat) (Sm : Bk) : va_W := [(jhm, .inr (7, [.int (Sm.1 0), .ref (jam 0), .int (Sm.1 1), .int (Sm.1 2), .int (Sm.1 3), .int (Sm.1 4), .int (Sm.1 5), .ref (jam 1), .ref (jam 2), .ref (jam 3), .int (Sm.1 6), .int (Sm.1 7), .int (Sm.1 8), .ref (jam 4), .ref (jam 5), .ref (jam 6), .ref (jam 7), .ref (jam 8), .ref (jam 9), .int (Sm.1 9), .ref (jam 10), .ref (jam 11), .int (Sm.1 10), .ref (jam 12), .ref (jam 13), .long Sm.2.2, .ref (jam 14), .ref (jam 15), .int (Sm.1 11), .int (Sm.1 12), .int (Sm.1 13)]))]
def gX8_byTurns_223 (x1 : Int32) (x2 : Int32) (k45 : Int32 → Int32 → Int32 → Int32 → Bk → Option (Int32 × Bk)) (x3 : Int32) (x4 : Int32) (x5 : Int32) (x6 : Int32) (Sm : Bk) : Option (Int32 × Bk) := k45 x3 x4 x5 (x6 + (-1 : Int32)) Sm
def gX8_byTurns_202 (x1 : Int32) (x2 : Int32) (k45 : Int32 → Int32 → Int32 → Int32 → Bk → Option (Int32 × Bk)) (x3 : Int32) (x4 : Int32) (x5 : Int32) (x6 : Int32) (x7 : Int32) (x8 : Int32) (Sm : Bk) (y0 : Int32) : Option (Int32 × Bk) := (if y0 = 0 then gX8_byTurns_223 x1 x2 k45 x3 x4 x5 x6 Sm else gX8_byTurns_223 x1 x2 k45 x8 (x7 - x8) x8 x6 Sm)
def gX8_byTurns_201 (x1 : Int32) (x2 : Int32) (k45 : Int32 → Int32 → Int32 → Int32 → Bk → Option (Int32 × Bk)) (x3 : Int32) (x4 : Int32) (x5 : Int32) (x6 : Int32) (x7 : Int32) (x8 : Int32) (Sm : Bk) : Option (Int32 × Bk) := gX8_byTurns_202 x1 x2 k45 x3 x4 x5 x6 x7 x8 Sm (0 : Int32)
def gX8_byTurns_197 (x1 : Int32) (x2 : Int32) (k45 : Int32 → Int32 → Int32 → Int32 → Bk → Option (Int32 × Bk)) (x3 : Int32) (x4 : Int32) (x5 : Int32) (x6 : Int32) (x7 : Int32) (x8 : Int32) (Sm : Bk) : Option (Int32 × Bk) := gX8_byTurns_202 x1 x2 k45 x3 x4 x5 x6 x7 x8 Sm (1 : Int32)
def gX8_byTurns_156 (x1 : Int32) (x2 : Int32) (k45 : Int32 → Int32 → Int32 → Int32 → Bk → Option (Int32 × Bk)) (k73 : Int32 → Int32 → Int32 → Int32 → Int32 → Int32 → Int32 → Bk → Option (Int32 × Bk)) (x3 : Int32) (x4 : Int32) (x5 : Int32) (x6 : Int32) (x7 : Int32) (x9 : Int32) (Sm : Bk) (y0 : Int32) : Option (Int32 × Bk) := k73 x3 x4 x5 x6 x7 y0 (x9 + (1 : Int32)) Sm
def gX8_byTurns_154 (x1 : Int32) (x2 : Int32) (k45 : Int32 → Int32 → Int32 → Int32 → Bk → Option (Int32 × Bk)) (k73 : Int32 → Int32 → Int32 → Int32 → Int32 → Int32 → Int32 → Bk → Option (Int32 × Bk)) (x3 : Int32) (x4 : Int32) (x5 : Int32) (x6 : Int32) (x7 : Int32) (x8 : Int32) (x9 : Int32) (Sm : Bk) : Option (Int32 × Bk) := gX8_byTurns_156 x1 x2 k45 k73 x3 x4 x5 x6 x7 x9 Sm x8
def gX8_byTurns_137 (x1 : Int32) (x2 : Int32) (k45 : Int32 → Int32 → Int32 → Int32 → Bk → Option (Int32 × Bk)) (k73 : Int32 → Int32 → Int32 → Int32 → Int32 → Int32 → Int32 → Bk → Option (Int32 × Bk)) (x3 : Int32) (x4 : Int32) (x5 : Int32) (x6 : Int32) (x7 : Int32) (x8 : Int32) (x9 : Int32) (x10 : Int32) (Sm : Bk) (y0 : Int32) : Option (Int32 × Bk) := (if x10 = 0 then gX8_byTurns_154 x1 x2 k45 k73 x3 x4 x5 x6 x7 x8 x9 Sm else (if y0 = 0 then gX8_byTurns_154 x1 x2 k45 k73 x3 x4 x5 x6 x7 x8 x9 Sm else gX8_byTurns_156 x1 x2 k45 k73 x3 x4 x5 x6 x7 x9 Sm x9))
def gX8_byTurns_132 (x1 : Int32) (x2 : Int32) (k45 : Int32 → Int32 → Int32 → Int32 → Bk → Option (Int32 × Bk)) (k73 : Int32 → Int32 → Int32 → Int32 → Int32 → Int32 → Int32 → Bk → Option (Int32 × Bk)) (x3 : Int32) (x4 : Int32) (x5 : Int32) (x6 : Int32) (x7 : Int32) (x8 : Int32) (x9 : Int32) (x10 : Int32) (Sm : Bk) : Option (Int32 × Bk) := gX8_byTurns_137 x1 x2 k45 k73 x3 x4 x5 x6 x7 x8 x9 x10 Sm (1 : Int32)
def gX8_byTurns_116 (x1 : Int32) (x2 : Int32) (k45 : Int32 → Int32 → Int32 → Int32 → Bk → Option (Int32 × Bk)) (k73 : Int32 → Int32 → Int32 → Int32 → Int32 → Int32 → Int32 → Bk → Option (Int32 × Bk)) (x3 : Int32) (x4 : Int32) (x5 : Int32) (x6 : Int32) (x7 : Int32) (x8 : Int32) (x9 : Int32) (Sm : Bk) (y0 : Int32) : Option (Int32 × Bk) := (if x8 = (-9 : Int32) then gX8_byTurns_132 x1 x2 k45 k73 x3 x4 x5 x6 x7 x8 x9 y0 Sm else (if (x6 - x6 / (2 : Int32) * (2 : Int32)) = 0 then gX8_byTurns_132 x1 x2 k45 k73 x3 x4 x5 x6 x7 x8 x9 y0 Sm else gX8_byTurns_137 x1 x2 k45 k73 x3 x4 x5 x6 x7 x8 x9 y0 Sm (0 : Int32)))
def sX8_byTurns_73 (x1 : Int32) (x2 : Int32) (k45 : Int32 → Int32 → Int32 → Int32 → Bk → Option (Int32 × Bk)) (k73 : Int32 → Int32 → Int32 → Int32 → Int32 → Int32 → Int32 → Bk → Option (Int32 × Bk)) (x3 : Int32) (x4 : Int32) (x5 : Int32) (x6 : Int32) (x7 : Int32) (x8 : Int32) (x9 : Int32) (Sm : Bk) : Option (Int32 × Bk) := (if (9 : Int32) < x9 then (if x8 = (-9 : Int32) then gX8_byTurns_201 x1 x2 k45 x3 x4 x5 x6 x7 x8 Sm else (if (x6 - x6 / (2 : Int32) * (2 : Int32)) = 0 then (if x8 < x3 then gX8_byTurns_201 x1 x2 k45 x3 x4 x5 x6 x7 x8 Sm else gX8_byTurns_197 x1 x2 k45 x3 x4 x5 x6 x7 x8 Sm) else (if (x7 - x8) < x4 then gX8_byTurns_201 x1 x2 k45 x3 x4 x5 x6 x7 x8 Sm else gX8_byTurns_197 x1 x2 k45 x3 x4 x5 x6 x7 x8 Sm))) else (if (x6 - x6 / (2 : Int32) * (2 : Int32)) = 0 then (if (x7 - x9) < x4 then gX8_byTurns_116 x1 x2 k45 k73 x3 x4 x5 x6 x7 x8 x9 Sm (0 : Int32) else gX8_byTurns_116 x1 x2 k45 k73 x3 x4 x5 x6 x7 x8 x9 Sm (1 : Int32)) else (if x9 < x3 then gX8_byTurns_116 x1 x2 k45 k73 x3 x4 x5 x6 x7 x8 x9 Sm (0 : Int32) else gX8_byTurns_116 x1 x2 k45 k73 x3 x4 x5 x6 x7 x8 x9 Sm (1 : Int32))))
def gX8_byTurns_64 (x1 : Int32) (x2 : Int32) (k45 : Int32 → Int32 → Int32 → Int32 → Bk → Option (Int32 × Bk)) (x3 : Int32) (x4 : Int32) (x5 : Int32) (x6 : Int32) (Sm : Bk) (y0 : Int32) : Option (Int32 × Bk) := lk8 (sX8_byTurns_73 x1 x2 k45) 1000 x3 x4 x5 x6 y0 (-9 : Int32) (0 : Int32) Sm
def sX8_byTurns_45 (x1 : Int32) (x2 : Int32) (k45 : Int32 → Int32 → Int32 → Int32 → Bk → Option (Int32 × Bk)) (x3 : Int32) (x4 : Int32) (x5 : Int32) (x6 : Int32) (Sm : Bk) : Option (Int32 × Bk) := (if x6 < 0 then some (x5, Sm) else (if x6 ≤ x1 then gX8_byTurns_64 x1 x2 k45 x3 x4 x5 x6 Sm (x1 - x6) else gX8_byTurns_64 x1 x2 k45 x3 x4 x5 x6 Sm (0 : Int32)))
def fX8_byTurns (Sm : Bk) (x1 : Int32) (x2 : Int32) : Option (Int32 × Bk) := (fX8_in x1.toInt64 (0 : Int64) (9 : Int64)).bind (fun u16 => (if u16 = 0 then some ((-2 : Int32), (bI Sm 0 (0 : Int32))) else (fX8_in x2.toInt64 (1 : Int64) (6 : Int64)).bind (fun u19 => (if u19 = 0 then some ((-2 : Int32), (bI Sm 0 (0 : Int32))) else lk5 (sX8_byTurns_45 x1 x2) 1000 (0 : Int32) (0 : Int32) (0 : Int32) (x2 - (1 : Int32)) (bI Sm 0 (0 : Int32))))))
theorem miX8_byTurns : MI yX8_byTurns cX8_byTurns 12 (some .int) 2 := ⟨wd1_8, wd5_25, by decide +kernel⟩
theorem mjX8_byTurns : Cond.instanceMethod yX8_byTurns ∈ wT ∧ Cond.selects yX8_byTurns.cls yX8_byTurns yX8_byTurns ∈ wT := ⟨wd5_23, wd5_24⟩
set_option maxHeartbeats 4000000 in
set_option maxRecDepth 100000 in
theorem qX8_byTurns (l : Launch) (D : va_G) (cI cZ cO : ClassId) (jhm : Nat) (jam : Nat → Nat) (Sm : Bk) (x1 : Int32) (x2 : Int32) (sz : Nat) (res : Int32 × Bk) (hf : fX8_byTurns Sm x1 x2 = some res) : Met l yX8_byTurns (Cond.code yX8_byTurns cX8_byTurns 12 (some .int) :: wT) (rmF 1 25) (va_Pc [.ref jhm, .int x1, .int x2] (cW D (tyL cI cZ cO) (wX8_byTurns cI cZ jhm jam Sm) sz)) (va_Qi (S := Unit) (fun r _ => r = res.1) (fun _ => qW D (tyL cI cZ cO) (va_A (wX8_byTurns cI cZ jhm jam Sm) sz) (wX8_byTurns cI cZ jhm jam res.2)) (va_A (wX8_byTurns cI cZ jhm jam Sm) sz)) 0 0 (va_A (wX8_byTurns cI cZ jhm jam Sm) sz) := by
  refine met_w (by decide) (Nat.le_of_ble_eq_true rfl) ?_
  intro p e s m below meth c hx hb hr hml ht hown hlk ls hl hsz hP hK hD0 hZ
  subst hsz
  have hD := hD0.self (sz := s.heap.size)
  generalize hAe : va_A (wX8_byTurns cI cZ jhm jam Sm) s.heap.size = A at hD hZ ⊢
  have hA : ∀ q : Nat, s.heap.size ≤ q → A q := fun q h => by rw [← hAe]; exact Or.inr h
  have hS : va_S A s.heap s.heap [] := va_S.rf
  have hown : s.vm.findClass "EyeDrinkModel" = some m.cls := hown
  have hl : lv_has ls 12 [(0, .ref jhm), (1, .int x1), (2, .int x2)] := hl
  have hC : CallFix p m c cX8_byTurns 12 s ([.ref jhm, .int x1, .int x2] : List Value).toArray wT "EyeDrinkModel" := ⟨hx, hb, hml, hown, ht⟩
  unfold fX8_byTurns at hf
  suffices hgo : ∀ (H : Heap) (locs : List Loc), va_P D vwCl (wX8_byTurns cI cZ jhm jam Sm) H → va_S A s.heap H locs → W p l e (rmF 1 25) s m ([.ref jhm, .int x1, .int x2] : List Value).toArray below meth c H locs 0 0 (MQ below (va_Qi (S := Unit) (fun r _ => r = res.1) (fun _ => qW D (tyL cI cZ cO) A (wX8_byTurns cI cZ jhm jam res.2)) A) ([.ref jhm, .int x1, .int x2] : List Value).toArray s 0 0 A) (F0 m 0 ls []) from hgo s.heap [] hP hS
  have hj45 : ∀ (x3 : Int32) (x4 : Int32) (x5 : Int32) (x6 : Int32) (Sm : Bk), lk5 (sX8_byTurns_45 x1 x2) 1000 x3 x4 x5 x6 Sm = some res → ∀ (H : Heap) (locs : List Loc) (ls : Array Slot), va_P D vwCl (wX8_byTurns cI cZ jhm jam Sm) H → va_D A (wX8_byTurns cI cZ jhm jam Sm) → va_S A s.heap H locs → lv_has ls 12 [(1, .int x1), (3, .int x3), (4, .int x4), (5, .int x5), (6, .int x6)] → W p l e (rmF 1 25) s m ([.ref jhm, .int x1, .int x2] : List Value).toArray below meth c H locs 0 0 (MQ below (va_Qi (S := Unit) (fun r _ => r = res.1) (fun _ => qW D (tyL cI cZ cO) A (wX8_byTurns cI cZ jhm jam res.2)) A) ([.ref jhm, .int x1, .int x2] : List Value).toArray s 0 0 A) (F0 m 45 ls []) := by
    refine lk5_w (fun (x3 : Int32) (x4 : Int32) (x5 : Int32) (x6 : Int32) (Sm : Bk) => ∀ (H : Heap) (locs : List Loc) (ls : Array Slot), va_P D vwCl (wX8_byTurns cI cZ jhm jam Sm) H → va_D A (wX8_byTurns cI cZ jhm jam Sm) → va_S A s.heap H locs → lv_has ls 12 [(1, .int x1), (3, .int x3), (4, .int x4), (5, .int x5), (6, .int x6)] → W p l e (rmF 1 25) s m ([.ref jhm, .int x1, .int x2] : List Value).toArray below meth c H locs 0 0 (MQ below (va_Qi (S := Unit) (fun r _ => r = res.1) (fun _ => qW D (tyL cI cZ cO) A (wX8_byTurns cI cZ jhm jam res.2)) A) ([.ref jhm, .int x1, .int x2] : List Value).toArray s 0 0 A) (F0 m 45 ls [])) ?_ 1000
    intro k45 hk45 x3 x4 x5 x6 Sm hf H locs ls hP hD hS hl
    unfold sX8_byTurns_45 at hf
    have hj223 : ∀ (x3 : Int32) (x4 : Int32) (x5 : Int32) (x6 : Int32) (Sm : Bk), gX8_byTurns_223 x1 x2 k45 x3 x4 x5 x6 Sm = some res → ∀ (H : Heap) (locs : List Loc) (ls : Array Slot), va_P D vwCl (wX8_byTurns cI cZ jhm jam Sm) H → va_D A (wX8_byTurns cI cZ jhm jam Sm) → va_S A s.heap H locs → lv_has ls 12 [(1, .int x1), (3, .int x3), (4, .int x4), (5, .int x5), (6, .int x6)] → W p l e (rmF 1 25) s m ([.ref jhm, .int x1, .int x2] : List Value).toArray below meth c H locs 0 0 (MQ below (va_Qi (S := Unit) (fun r _ => r = res.1) (fun _ => qW D (tyL cI cZ cO) A (wX8_byTurns cI cZ jhm jam res.2)) A) ([.ref jhm, .int x1, .int x2] : List Value).toArray s 0 0 A) (F0 m 223 ls []) := by
      intro x3 x4 x5 x6 Sm hf H locs ls hP hD hS hl
      unfold gX8_byTurns_223 at hf
      refine lv_iinc (v := (x6 + (-1 : Int32))) (lv' := [(6, .int (x6 + (-1 : Int32))), (1, .int x1), (3, .int x3), (4, .int x4), (5, .int x5)]) hx hb dX8_byTurns_223 hl (k := 4) rfl rfl (by decide) rfl (fun ls hl => ?_)
      refine lv_goto (tgt := 45) hx hb dX8_byTurns_226 (by decide) ?_
      exact hk45 x3 x4 x5 (x6 + (-1 : Int32)) Sm hf _ _ _ hP hD hS (lv_sub hl [1, 2, 3, 4, 0] rfl)
    have hj202 : ∀ (x3 : Int32) (x4 : Int32) (x5 : Int32) (x6 : Int32) (x7 : Int32) (x8 : Int32) (Sm : Bk) (y0 : Int32), gX8_byTurns_202 x1 x2 k45 x3 x4 x5 x6 x7 x8 Sm y0 = some res → ∀ (H : Heap) (locs : List Loc) (ls : Array Slot), va_P D vwCl (wX8_byTurns cI cZ jhm jam Sm) H → va_D A (wX8_byTurns cI cZ jhm jam Sm) → va_S A s.heap H locs → lv_has ls 12 [(1, .int x1), (3, .int x3), (4, .int x4), (5, .int x5), (6, .int x6), (7, .int x7), (8, .int x8)] → W p l e (rmF 1 25) s m ([.ref jhm, .int x1, .int x2] : List Value).toArray below meth c H locs 0 0 (MQ below (va_Qi (S := Unit) (fun r _ => r = res.1) (fun _ => qW D (tyL cI cZ cO) A (wX8_byTurns cI cZ jhm jam res.2)) A) ([.ref jhm, .int x1, .int x2] : List Value).toArray s 0 0 A) (F0 m 202 ls [.int y0]) := by
      intro x3 x4 x5 x6 x7 x8 Sm y0 hf H locs ls hP hD hS hl
      unfold gX8_byTurns_202 at hf
      refine lv_istore (lv' := [(9, .int y0), (1, .int x1), (3, .int x3), (4, .int x4), (5, .int x5), (6, .int x6), (7, .int x7), (8, .int x8)]) hx hb dX8_byTurns_202 hl (by decide) rfl (fun ls hl => ?_)
      refine lv_iload hx hb dX8_byTurns_204 (lv_at hl 0 rfl) ?_
      refine lv_if_eq (tgt := 223) hx hb dX8_byTurns_206 (by decide) (fun c1 => ?_) (fun c1 => ?_)
      · have hf := itP c1 hf
        exact hj223 x3 x4 x5 x6 Sm hf _ _ _ hP hD hS (lv_sub hl [1, 2, 3, 4, 5] rfl)
      · have hf := itN c1 hf
        refine lv_iload hx hb dX8_byTurns_209 (lv_at hl 7 rfl) ?_
        refine lv_istore_n (lv' := [(3, .int x8), (9, .int y0), (1, .int x1), (4, .int x4), (5, .int x5), (6, .int x6), (7, .int x7), (8, .int x8)]) hx hb dX8_byTurns_211 rfl hl (by decide) rfl (fun ls hl => ?_)
        refine lv_iload hx hb dX8_byTurns_212 (lv_at hl 6 rfl) ?_
        refine lv_iload hx hb dX8_byTurns_214 (lv_at hl 7 rfl) ?_
        refine lv_isub hx hb dX8_byTurns_216 ?_
        refine lv_istore (lv' := [(4, .int (x7 - x8)), (3, .int x8), (9, .int y0), (1, .int x1), (5, .int x5), (6, .int x6), (7, .int x7), (8, .int x8)]) hx hb dX8_byTurns_217 hl (by decide) rfl (fun ls hl => ?_)
        refine lv_iload hx hb dX8_byTurns_219 (lv_at hl 7 rfl) ?_
        refine lv_istore (lv' := [(5, .int x8), (4, .int (x7 - x8)), (3, .int x8), (9, .int y0), (1, .int x1), (6, .int x6), (7, .int x7), (8, .int x8)]) hx hb dX8_byTurns_221 hl (by decide) rfl (fun ls hl => ?_)
        exact hj223 x8 (x7 - x8) x8 x6 Sm hf _ _ _ hP hD hS (lv_sub hl [4, 2, 1, 0, 5] rfl)
    have hj201 : ∀ (x3 : Int32) (x4 : Int32) (x5 : Int32) (x6 : Int32) (x7 : Int32) (x8 : Int32) (Sm : Bk), gX8_byTurns_201 x1 x2 k45 x3 x4 x5 x6 x7 x8 Sm = some res → ∀ (H : Heap) (locs : List Loc) (ls : Array Slot), va_P D vwCl (wX8_byTurns cI cZ jhm jam Sm) H → va_D A (wX8_byTurns cI cZ jhm jam Sm) → va_S A s.heap H locs → lv_has ls 12 [(1, .int x1), (3, .int x3), (4, .int x4), (5, .int x5), (6, .int x6), (7, .int x7), (8, .int x8)] → W p l e (rmF 1 25) s m ([.ref jhm, .int x1, .int x2] : List Value).toArray below meth c H locs 0 0 (MQ below (va_Qi (S := Unit) (fun r _ => r = res.1) (fun _ => qW D (tyL cI cZ cO) A (wX8_byTurns cI cZ jhm jam res.2)) A) ([.ref jhm, .int x1, .int x2] : List Value).toArray s 0 0 A) (F0 m 201 ls []) := by
      intro x3 x4 x5 x6 x7 x8 Sm hf H locs ls hP hD hS hl
      unfold gX8_byTurns_201 at hf
      refine lv_iconst (v := (0 : Int32)) hx hb dX8_byTurns_201 rfl ?_
      exact hj202 x3 x4 x5 x6 x7 x8 Sm (0 : Int32) hf _ _ _ hP hD hS (lv_sub hl [0, 1, 2, 3, 4, 5, 6] rfl)
    have hj197 : ∀ (x3 : Int32) (x4 : Int32) (x5 : Int32) (x6 : Int32) (x7 : Int32) (x8 : Int32) (Sm : Bk), gX8_byTurns_197 x1 x2 k45 x3 x4 x5 x6 x7 x8 Sm = some res → ∀ (H : Heap) (locs : List Loc) (ls : Array Slot), va_P D vwCl (wX8_byTurns cI cZ jhm jam Sm) H → va_D A (wX8_byTurns cI cZ jhm jam Sm) → va_S A s.heap H locs → lv_has ls 12 [(1, .int x1), (3, .int x3), (4, .int x4), (5, .int x5), (6, .int x6), (7, .int x7), (8, .int x8)] → W p l e (rmF 1 25) s m ([.ref jhm, .int x1, .int x2] : List Value).toArray below meth c H locs 0 0 (MQ below (va_Qi (S := Unit) (fun r _ => r = res.1) (fun _ => qW D (tyL cI cZ cO) A (wX8_byTurns cI cZ jhm jam res.2)) A) ([.ref jhm, .int x1, .int x2] : List Value).toArray s 0 0 A) (F0 m 197 ls []) := by
      intro x3 x4 x5 x6 x7 x8 Sm hf H locs ls hP hD hS hl
      unfold gX8_byTurns_197 at hf
      refine lv_iconst (v := (1 : Int32)) hx hb dX8_byTurns_197 rfl ?_
      refine lv_goto (tgt := 202) hx hb dX8_byTurns_198 (by decide) ?_
      exact hj202 x3 x4 x5 x6 x7 x8 Sm (1 : Int32) hf _ _ _ hP hD hS (lv_sub hl [0, 1, 2, 3, 4, 5, 6] rfl)
    have hj73 : ∀ (x3 : Int32) (x4 : Int32) (x5 : Int32) (x6 : Int32) (x7 : Int32) (x8 : Int32) (x9 : Int32) (Sm : Bk), lk8 (sX8_byTurns_73 x1 x2 k45) 1000 x3 x4 x5 x6 x7 x8 x9 Sm = some res → ∀ (H : Heap) (locs : List Loc) (ls : Array Slot), va_P D vwCl (wX8_byTurns cI cZ jhm jam Sm) H → va_D A (wX8_byTurns cI cZ jhm jam Sm) → va_S A s.heap H locs → lv_has ls 12 [(1, .int x1), (3, .int x3), (4, .int x4), (5, .int x5), (6, .int x6), (7, .int x7), (8, .int x8), (9, .int x9)] → W p l e (rmF 1 25) s m ([.ref jhm, .int x1, .int x2] : List Value).toArray below meth c H locs 0 0 (MQ below (va_Qi (S := Unit) (fun r _ => r = res.1) (fun _ => qW D (tyL cI cZ cO) A (wX8_byTurns cI cZ jhm jam res.2)) A) ([.ref jhm, .int x1, .int x2] : List Value).toArray s 0 0 A) (F0 m 73 ls []) := by
      refine lk8_w (fun (x3 : Int32) (x4 : Int32) (x5 : Int32) (x6 : Int32) (x7 : Int32) (x8 : Int32) (x9 : Int32) (Sm : Bk) => ∀ (H : Heap) (locs : List Loc) (ls : Array Slot), va_P D vwCl (wX8_byTurns cI cZ jhm jam Sm) H → va_D A (wX8_byTurns cI cZ jhm jam Sm) → va_S A s.heap H locs → lv_has ls 12 [(1, .int x1), (3, .int x3), (4, .int x4), (5, .int x5), (6, .int x6), (7, .int x7), (8, .int x8), (9, .int x9)] → W p l e (rmF 1 25) s m ([.ref jhm, .int x1, .int x2] : List Value).toArray below meth c H locs 0 0 (MQ below (va_Qi (S := Unit) (fun r _ => r = res.1) (fun _ => qW D (tyL cI cZ cO) A (wX8_byTurns cI cZ jhm jam res.2)) A) ([.ref jhm, .int x1, .int x2] : List Value).toArray s 0 0 A) (F0 m 73 ls [])) ?_ 1000
      intro k73 hk73 x3 x4 x5 x6 x7 x8 x9 Sm hf H locs ls hP hD hS hl
      unfold sX8_byTurns_73 at hf
      have hj156 : ∀ (x3 : Int32) (x4 : Int32) (x5 : Int32) (x6 : Int32) (x7 : Int32) (x9 : Int32) (Sm : Bk) (y0 : Int32), gX8_byTurns_156 x1 x2 k45 k73 x3 x4 x5 x6 x7 x9 Sm y0 = some res → ∀ (H : Heap) (locs : List Loc) (ls : Array Slot), va_P D vwCl (wX8_byTurns cI cZ jhm jam Sm) H → va_D A (wX8_byTurns cI cZ jhm jam Sm) → va_S A s.heap H locs → lv_has ls 12 [(1, .int x1), (3, .int x3), (4, .int x4), (5, .int x5), (6, .int x6), (7, .int x7), (9, .int x9)] → W p l e (rmF 1 25) s m ([.ref jhm, .int x1, .int x2] : List Value).toArray below meth c H locs 0 0 (MQ below (va_Qi (S := Unit) (fun r _ => r = res.1) (fun _ => qW D (tyL cI cZ cO) A (wX8_byTurns cI cZ jhm jam res.2)) A) ([.ref jhm, .int x1, .int x2] : List Value).toArray s 0 0 A) (F0 m 156 ls [.int y0]) := by
        intro x3 x4 x5 x6 x7 x9 Sm y0 hf H locs ls hP hD hS hl
        unfold gX8_byTurns_156 at hf
        refine lv_istore (lv' := [(8, .int y0), (1, .int x1), (3, .int x3), (4, .int x4), (5, .int x5), (6, .int x6), (7, .int x7), (9, .int x9)]) hx hb dX8_byTurns_156 hl (by decide) rfl (fun ls hl => ?_)
        refine lv_iinc (v := (x9 + (1 : Int32))) (lv' := [(9, .int (x9 + (1 : Int32))), (8, .int y0), (1, .int x1), (3, .int x3), (4, .int x4), (5, .int x5), (6, .int x6), (7, .int x7)]) hx hb dX8_byTurns_158 hl (k := 7) rfl rfl (by decide) rfl (fun ls hl => ?_)
        refine lv_goto (tgt := 73) hx hb dX8_byTurns_161 (by decide) ?_
        exact hk73 x3 x4 x5 x6 x7 y0 (x9 + (1 : Int32)) Sm hf _ _ _ hP hD hS (lv_sub hl [2, 3, 4, 5, 6, 7, 1, 0] rfl)
      have hj154 : ∀ (x3 : Int32) (x4 : Int32) (x5 : Int32) (x6 : Int32) (x7 : Int32) (x8 : Int32) (x9 : Int32) (Sm : Bk), gX8_byTurns_154 x1 x2 k45 k73 x3 x4 x5 x6 x7 x8 x9 Sm = some res → ∀ (H : Heap) (locs : List Loc) (ls : Array Slot), va_P D vwCl (wX8_byTurns cI cZ jhm jam Sm) H → va_D A (wX8_byTurns cI cZ jhm jam Sm) → va_S A s.heap H locs → lv_has ls 12 [(1, .int x1), (3, .int x3), (4, .int x4), (5, .int x5), (6, .int x6), (7, .int x7), (8, .int x8), (9, .int x9)] → W p l e (rmF 1 25) s m ([.ref jhm, .int x1, .int x2] : List Value).toArray below meth c H locs 0 0 (MQ below (va_Qi (S := Unit) (fun r _ => r = res.1) (fun _ => qW D (tyL cI cZ cO) A (wX8_byTurns cI cZ jhm jam res.2)) A) ([.ref jhm, .int x1, .int x2] : List Value).toArray s 0 0 A) (F0 m 154 ls []) := by
        intro x3 x4 x5 x6 x7 x8 x9 Sm hf H locs ls hP hD hS hl
        unfold gX8_byTurns_154 at hf
        refine lv_iload hx hb dX8_byTurns_154 (lv_at hl 6 rfl) ?_
        exact hj156 x3 x4 x5 x6 x7 x9 Sm x8 hf _ _ _ hP hD hS (lv_sub hl [0, 1, 2, 3, 4, 5, 7] rfl)
      have hj137 : ∀ (x3 : Int32) (x4 : Int32) (x5 : Int32) (x6 : Int32) (x7 : Int32) (x8 : Int32) (x9 : Int32) (x10 : Int32) (Sm : Bk) (y0 : Int32), gX8_byTurns_137 x1 x2 k45 k73 x3 x4 x5 x6 x7 x8 x9 x10 Sm y0 = some res → ∀ (H : Heap) (locs : List Loc) (ls : Array Slot), va_P D vwCl (wX8_byTurns cI cZ jhm jam Sm) H → va_D A (wX8_byTurns cI cZ jhm jam Sm) → va_S A s.heap H locs → lv_has ls 12 [(1, .int x1), (3, .int x3), (4, .int x4), (5, .int x5), (6, .int x6), (7, .int x7), (8, .int x8), (9, .int x9), (10, .int x10)] → W p l e (rmF 1 25) s m ([.ref jhm, .int x1, .int x2] : List Value).toArray below meth c H locs 0 0 (MQ below (va_Qi (S := Unit) (fun r _ => r = res.1) (fun _ => qW D (tyL cI cZ cO) A (wX8_byTurns cI cZ jhm jam res.2)) A) ([.ref jhm, .int x1, .int x2] : List Value).toArray s 0 0 A) (F0 m 137 ls [.int y0]) := by
        intro x3 x4 x5 x6 x7 x8 x9 x10 Sm y0 hf H locs ls hP hD hS hl
        unfold gX8_byTurns_137 at hf
        refine lv_istore (lv' := [(11, .int y0), (1, .int x1), (3, .int x3), (4, .int x4), (5, .int x5), (6, .int x6), (7, .int x7), (8, .int x8), (9, .int x9), (10, .int x10)]) hx hb dX8_byTurns_137 hl (by decide) rfl (fun ls hl => ?_)
        refine lv_iload hx hb dX8_byTurns_139 (lv_at hl 9 rfl) ?_
        refine lv_if_eq (tgt := 154) hx hb dX8_byTurns_141 (by decide) (fun c2 => ?_) (fun c2 => ?_)
        · have hf := itP c2 hf
          exact hj154 x3 x4 x5 x6 x7 x8 x9 Sm hf _ _ _ hP hD hS (lv_sub hl [1, 2, 3, 4, 5, 6, 7, 8] rfl)
        · have hf := itN c2 hf
          refine lv_iload hx hb dX8_byTurns_144 (lv_at hl 0 rfl) ?_
          refine lv_if_eq (tgt := 154) hx hb dX8_byTurns_146 (by decide) (fun c3 => ?_) (fun c3 => ?_)
          · have hf := itP c3 hf
            exact hj154 x3 x4 x5 x6 x7 x8 x9 Sm hf _ _ _ hP hD hS (lv_sub hl [1, 2, 3, 4, 5, 6, 7, 8] rfl)
          · have hf := itN c3 hf
            refine lv_iload hx hb dX8_byTurns_149 (lv_at hl 8 rfl) ?_
            refine lv_goto (tgt := 156) hx hb dX8_byTurns_151 (by decide) ?_
            exact hj156 x3 x4 x5 x6 x7 x9 Sm x9 hf _ _ _ hP hD hS (lv_sub hl [1, 2, 3, 4, 5, 6, 8] rfl)
      have hj132 : ∀ (x3 : Int32) (x4 : Int32) (x5 : Int32) (x6 : Int32) (x7 : Int32) (x8 : Int32) (x9 : Int32) (x10 : Int32) (Sm : Bk), gX8_byTurns_132 x1 x2 k45 k73 x3 x4 x5 x6 x7 x8 x9 x10 Sm = some res → ∀ (H : Heap) (locs : List Loc) (ls : Array Slot), va_P D vwCl (wX8_byTurns cI cZ jhm jam Sm) H → va_D A (wX8_byTurns cI cZ jhm jam Sm) → va_S A s.heap H locs → lv_has ls 12 [(1, .int x1), (3, .int x3), (4, .int x4), (5, .int x5), (6, .int x6), (7, .int x7), (8, .int x8), (9, .int x9), (10, .int x10)] → W p l e (rmF 1 25) s m ([.ref jhm, .int x1, .int x2] : List Value).toArray below meth c H locs 0 0 (MQ below (va_Qi (S := Unit) (fun r _ => r = res.1) (fun _ => qW D (tyL cI cZ cO) A (wX8_byTurns cI cZ jhm jam res.2)) A) ([.ref jhm, .int x1, .int x2] : List Value).toArray s 0 0 A) (F0 m 132 ls []) := by
        intro x3 x4 x5 x6 x7 x8 x9 x10 Sm hf H locs ls hP hD hS hl
        unfold gX8_byTurns_132 at hf
        refine lv_iconst (v := (1 : Int32)) hx hb dX8_byTurns_132 rfl ?_
        refine lv_goto (tgt := 137) hx hb dX8_byTurns_133 (by decide) ?_
        exact hj137 x3 x4 x5 x6 x7 x8 x9 x10 Sm (1 : Int32) hf _ _ _ hP hD hS (lv_sub hl [0, 1, 2, 3, 4, 5, 6, 7, 8] rfl)
      have hj116 : ∀ (x3 : Int32) (x4 : Int32) (x5 : Int32) (x6 : Int32) (x7 : Int32) (x8 : Int32) (x9 : Int32) (Sm : Bk) (y0 : Int32), gX8_byTurns_116 x1 x2 k45 k73 x3 x4 x5 x6 x7 x8 x9 Sm y0 = some res → ∀ (H : Heap) (locs : List Loc) (ls : Array Slot), va_P D vwCl (wX8_byTurns cI cZ jhm jam Sm) H → va_D A (wX8_byTurns cI cZ jhm jam Sm) → va_S A s.heap H locs → lv_has ls 12 [(1, .int x1), (3, .int x3), (4, .int x4), (5, .int x5), (6, .int x6), (7, .int x7), (8, .int x8), (9, .int x9)] → W p l e (rmF 1 25) s m ([.ref jhm, .int x1, .int x2] : List Value).toArray below meth c H locs 0 0 (MQ below (va_Qi (S := Unit) (fun r _ => r = res.1) (fun _ => qW D (tyL cI cZ cO) A (wX8_byTurns cI cZ jhm jam res.2)) A) ([.ref jhm, .int x1, .int x2] : List Value).toArray s 0 0 A) (F0 m 116 ls [.int y0]) := by
        intro x3 x4 x5 x6 x7 x8 x9 Sm y0 hf H locs ls hP hD hS hl
        unfold gX8_byTurns_116 at hf
        refine lv_istore (lv' := [(10, .int y0), (1, .int x1), (3, .int x3), (4, .int x4), (5, .int x5), (6, .int x6), (7, .int x7), (8, .int x8), (9, .int x9)]) hx hb dX8_byTurns_116 hl (by decide) rfl (fun ls hl => ?_)
        refine lv_iload hx hb dX8_byTurns_118 (lv_at hl 7 rfl) ?_
        refine lv_bipush (v := (-9 : Int32)) hx hb dX8_byTurns_120 rfl ?_
        refine lv_icmp_eq (tgt := 132) hx hb dX8_byTurns_122 (by decide) (fun c4 => ?_) (fun c4 => ?_)
        · have hf := itP c4 hf
          exact hj132 x3 x4 x5 x6 x7 x8 x9 y0 Sm hf _ _ _ hP hD hS (lv_sub hl [1, 2, 3, 4, 5, 6, 7, 8, 0] rfl)
        · have hf := itN c4 hf
          refine lv_iload hx hb dX8_byTurns_125 (lv_at hl 5 rfl) ?_
          refine lv_iconst (v := (2 : Int32)) hx hb dX8_byTurns_127 rfl ?_
          refine lv_irem hx hb dX8_byTurns_128 (by decide) ?_
          refine lv_if_ne (tgt := 136) hx hb dX8_byTurns_129 (by decide) (fun c5 => ?_) (fun c5 => ?_)
          · have hf := itN c5 hf
            refine lv_iconst (v := (0 : Int32)) hx hb dX8_byTurns_136 rfl ?_
            exact hj137 x3 x4 x5 x6 x7 x8 x9 y0 Sm (0 : Int32) hf _ _ _ hP hD hS (lv_sub hl [1, 2, 3, 4, 5, 6, 7, 8, 0] rfl)
          · have hf := itP c5 hf
            exact hj132 x3 x4 x5 x6 x7 x8 x9 y0 Sm hf _ _ _ hP hD hS (lv_sub hl [1, 2, 3, 4, 5, 6, 7, 8, 0] rfl)
      refine lv_iload hx hb dX8_byTurns_73 (lv_at hl 7 rfl) ?_
      refine lv_bipush (v := (9 : Int32)) hx hb dX8_byTurns_75 rfl ?_
      refine lv_icmp_gt (tgt := 164) hx hb dX8_byTurns_77 (by decide) (fun c6 => ?_) (fun c6 => ?_)
      · have hf := itP c6 hf
        refine lv_iload hx hb dX8_byTurns_164 (lv_at hl 6 rfl) ?_
        refine lv_bipush (v := (-9 : Int32)) hx hb dX8_byTurns_166 rfl ?_
        refine lv_icmp_eq (tgt := 201) hx hb dX8_byTurns_168 (by decide) (fun c7 => ?_) (fun c7 => ?_)
        · have hf := itP c7 hf
          exact hj201 x3 x4 x5 x6 x7 x8 Sm hf _ _ _ hP hD hS (lv_sub hl [0, 1, 2, 3, 4, 5, 6] rfl)
        · have hf := itN c7 hf
          refine lv_iload hx hb dX8_byTurns_171 (lv_at hl 4 rfl) ?_
          refine lv_iconst (v := (2 : Int32)) hx hb dX8_byTurns_173 rfl ?_
          refine lv_irem hx hb dX8_byTurns_174 (by decide) ?_
          refine lv_if_ne (tgt := 187) hx hb dX8_byTurns_175 (by decide) (fun c8 => ?_) (fun c8 => ?_)
          · have hf := itN c8 hf
            refine lv_iload hx hb dX8_byTurns_187 (lv_at hl 5 rfl) ?_
            refine lv_iload hx hb dX8_byTurns_189 (lv_at hl 6 rfl) ?_
            refine lv_isub hx hb dX8_byTurns_191 ?_
            refine lv_iload hx hb dX8_byTurns_192 (lv_at hl 2 rfl) ?_
            refine lv_icmp_lt (tgt := 201) hx hb dX8_byTurns_194 (by decide) (fun c9 => ?_) (fun c9 => ?_)
            · have hf := itP c9 hf
              exact hj201 x3 x4 x5 x6 x7 x8 Sm hf _ _ _ hP hD hS (lv_sub hl [0, 1, 2, 3, 4, 5, 6] rfl)
            · have hf := itN c9 hf
              exact hj197 x3 x4 x5 x6 x7 x8 Sm hf _ _ _ hP hD hS (lv_sub hl [0, 1, 2, 3, 4, 5, 6] rfl)
          · have hf := itP c8 hf
            refine lv_iload hx hb dX8_byTurns_178 (lv_at hl 6 rfl) ?_
            refine lv_iload_n hx hb dX8_byTurns_180 rfl (lv_at hl 1 rfl) ?_
            refine lv_icmp_lt (tgt := 201) hx hb dX8_byTurns_181 (by decide) (fun c10 => ?_) (fun c10 => ?_)
            · have hf := itP c10 hf
              exact hj201 x3 x4 x5 x6 x7 x8 Sm hf _ _ _ hP hD hS (lv_sub hl [0, 1, 2, 3, 4, 5, 6] rfl)
            · have hf := itN c10 hf
              refine lv_goto (tgt := 197) hx hb dX8_byTurns_184 (by decide) ?_
              exact hj197 x3 x4 x5 x6 x7 x8 Sm hf _ _ _ hP hD hS (lv_sub hl [0, 1, 2, 3, 4, 5, 6] rfl)
      · have hf := itN c6 hf
        refine lv_iload hx hb dX8_byTurns_80 (lv_at hl 4 rfl) ?_
        refine lv_iconst (v := (2 : Int32)) hx hb dX8_byTurns_82 rfl ?_
        refine lv_irem hx hb dX8_byTurns_83 (by decide) ?_
        refine lv_if_ne (tgt := 105) hx hb dX8_byTurns_84 (by decide) (fun c11 => ?_) (fun c11 => ?_)
        · have hf := itN c11 hf
          refine lv_iload hx hb dX8_byTurns_105 (lv_at hl 7 rfl) ?_
          refine lv_iload_n hx hb dX8_byTurns_107 rfl (lv_at hl 1 rfl) ?_
          refine lv_icmp_lt (tgt := 115) hx hb dX8_byTurns_108 (by decide) (fun c12 => ?_) (fun c12 => ?_)
          · have hf := itP c12 hf
            refine lv_iconst (v := (0 : Int32)) hx hb dX8_byTurns_115 rfl ?_
            exact hj116 x3 x4 x5 x6 x7 x8 x9 Sm (0 : Int32) hf _ _ _ hP hD hS (lv_sub hl [0, 1, 2, 3, 4, 5, 6, 7] rfl)
          · have hf := itN c12 hf
            refine lv_iconst (v := (1 : Int32)) hx hb dX8_byTurns_111 rfl ?_
            refine lv_goto (tgt := 116) hx hb dX8_byTurns_112 (by decide) ?_
            exact hj116 x3 x4 x5 x6 x7 x8 x9 Sm (1 : Int32) hf _ _ _ hP hD hS (lv_sub hl [0, 1, 2, 3, 4, 5, 6, 7] rfl)
        · have hf := itP c11 hf
          refine lv_iload hx hb dX8_byTurns_87 (lv_at hl 5 rfl) ?_
          refine lv_iload hx hb dX8_byTurns_89 (lv_at hl 7 rfl) ?_
          refine lv_isub hx hb dX8_byTurns_91 ?_
          refine lv_iload hx hb dX8_byTurns_92 (lv_at hl 2 rfl) ?_
          refine lv_icmp_lt (tgt := 101) hx hb dX8_byTurns_94 (by decide) (fun c13 => ?_) (fun c13 => ?_)
          · have hf := itP c13 hf
            refine lv_iconst (v := (0 : Int32)) hx hb dX8_byTurns_101 rfl ?_
            refine lv_goto (tgt := 116) hx hb dX8_byTurns_102 (by decide) ?_
            exact hj116 x3 x4 x5 x6 x7 x8 x9 Sm (0 : Int32) hf _ _ _ hP hD hS (lv_sub hl [0, 1, 2, 3, 4, 5, 6, 7] rfl)
          · have hf := itN c13 hf
            refine lv_iconst (v := (1 : Int32)) hx hb dX8_byTurns_97 rfl ?_
            refine lv_goto (tgt := 116) hx hb dX8_byTurns_98 (by decide) ?_
            exact hj116 x3 x4 x5 x6 x7 x8 x9 Sm (1 : Int32) hf _ _ _ hP hD hS (lv_sub hl [0, 1, 2, 3, 4, 5, 6, 7] rfl)
    have hj64 : ∀ (x3 : Int32) (x4 : Int32) (x5 : Int32) (x6 : Int32) (Sm : Bk) (y0 : Int32), gX8_byTurns_64 x1 x2 k45 x3 x4 x5 x6 Sm y0 = some res → ∀ (H : Heap) (locs : List Loc) (ls : Array Slot), va_P D vwCl (wX8_byTurns cI cZ jhm jam Sm) H → va_D A (wX8_byTurns cI cZ jhm jam Sm) → va_S A s.heap H locs → lv_has ls 12 [(1, .int x1), (3, .int x3), (4, .int x4), (5, .int x5), (6, .int x6)] → W p l e (rmF 1 25) s m ([.ref jhm, .int x1, .int x2] : List Value).toArray below meth c H locs 0 0 (MQ below (va_Qi (S := Unit) (fun r _ => r = res.1) (fun _ => qW D (tyL cI cZ cO) A (wX8_byTurns cI cZ jhm jam res.2)) A) ([.ref jhm, .int x1, .int x2] : List Value).toArray s 0 0 A) (F0 m 64 ls [.int y0]) := by
      intro x3 x4 x5 x6 Sm y0 hf H locs ls hP hD hS hl
      unfold gX8_byTurns_64 at hf
      refine lv_istore (lv' := [(7, .int y0), (1, .int x1), (3, .int x3), (4, .int x4), (5, .int x5), (6, .int x6)]) hx hb dX8_byTurns_64 hl (by decide) rfl (fun ls hl => ?_)
      refine lv_bipush (v := (-9 : Int32)) hx hb dX8_byTurns_66 rfl ?_
      refine lv_istore (lv' := [(8, .int (-9 : Int32)), (7, .int y0), (1, .int x1), (3, .int x3), (4, .int x4), (5, .int x5), (6, .int x6)]) hx hb dX8_byTurns_68 hl (by decide) rfl (fun ls hl => ?_)
      refine lv_iconst (v := (0 : Int32)) hx hb dX8_byTurns_70 rfl ?_
      refine lv_istore (lv' := [(9, .int (0 : Int32)), (8, .int (-9 : Int32)), (7, .int y0), (1, .int x1), (3, .int x3), (4, .int x4), (5, .int x5), (6, .int x6)]) hx hb dX8_byTurns_71 hl (by decide) rfl (fun ls hl => ?_)
      exact hj73 x3 x4 x5 x6 y0 (-9 : Int32) (0 : Int32) Sm hf _ _ _ hP hD hS (lv_sub hl [3, 4, 5, 6, 7, 2, 1, 0] rfl)
    refine lv_iload hx hb dX8_byTurns_45 (lv_at hl 4 rfl) ?_
    refine lv_if_lt (tgt := 229) hx hb dX8_byTurns_47 (by decide) (fun c14 => ?_) (fun c14 => ?_)
    · have hf := itP c14 hf
      refine lv_iload hx hb dX8_byTurns_229 (lv_at hl 3 rfl) ?_
      cases hf
      exact W.iret hx hb hr (fun t ht9 hW => ⟨⟨_, (), rfl, rfl, by rw [ht9]; exact hP, va_K.moved hW.alike hK, hD⟩, hS.F ht9⟩) hS.2.2 dX8_byTurns_231
    · have hf := itN c14 hf
      refine lv_iload_n hx hb dX8_byTurns_50 rfl (lv_at hl 0 rfl) ?_
      refine lv_iload hx hb dX8_byTurns_51 (lv_at hl 4 rfl) ?_
      refine lv_icmp_ge (tgt := 60) hx hb dX8_byTurns_53 (by decide) (fun c15 => ?_) (fun c15 => ?_)
      · have hf := itP c15 hf
        refine lv_iload_n hx hb dX8_byTurns_60 rfl (lv_at hl 0 rfl) ?_
        refine lv_iload hx hb dX8_byTurns_61 (lv_at hl 4 rfl) ?_
        refine lv_isub hx hb dX8_byTurns_63 ?_
        exact hj64 x3 x4 x5 x6 Sm (x1 - x6) hf _ _ _ hP hD hS (lv_sub hl [0, 1, 2, 3, 4] rfl)
      · have hf := itN c15 hf
        refine lv_iconst (v := (0 : Int32)) hx hb dX8_byTurns_56 rfl ?_
        refine lv_goto (tgt := 64) hx hb dX8_byTurns_57 (by decide) ?_
        exact hj64 x3 x4 x5 x6 Sm (0 : Int32) hf _ _ _ hP hD hS (lv_sub hl [0, 1, 2, 3, 4] rfl)
  intro H locs hP hS
  refine lv_aload_n hx hb dX8_byTurns_0 rfl (lv_at hl 0 rfl) ?_
  refine lv_iconst (v := (0 : Int32)) hx hb dX8_byTurns_1 rfl ?_
  refine va_put (D := D) (ci := 7) (v := .int (0 : Int32)) (ty := .int) (C := RX8) (T := TX8) (N := 31) hx hb ht inX8 tyX8 tyX8_ok nmX8 hown hK hP hD hS 0 rfl rfl 0 (by decide) (ht _ wd3_185) (fun _ h9 => h9) rfl (tyX8_ok 0 (by decide)) rfl rfl (Nat.le_of_ble_eq_true rfl) dX8_byTurns_2 (fun H locs hP hD hS => ?_)
  have hP : va_P D vwCl (wX8_byTurns cI cZ jhm jam (bI Sm 0 (0 : Int32))) H := hP
  have hD : va_D A (wX8_byTurns cI cZ jhm jam (bI Sm 0 (0 : Int32))) := hD
  refine lv_iload_n hx hb dX8_byTurns_5 rfl (lv_at hl 1 rfl) ?_
  refine lv_i2l hx hb dX8_byTurns_6 rfl ?_
  refine lv_lconst (v := 0) hx hb dX8_byTurns_7 rfl ?_
  refine lv_ldc2 hx hb hown (ht _ wd5_16) dX8_byTurns_8 ?_
  obtain ⟨u16, e17, hf⟩ := bdS hf
  refine k_pS (As := [.long x1.toInt64, .long (0 : Int64), .long (9 : Int64)]) (rest := []) hC miX8_in mjX8_in wd4_44 (qX8_in l x1.toInt64 (0 : Int64) (9 : Int64) u16 e17) ⟨Nat.le_of_ble_eq_true rfl, Nat.le_of_ble_eq_true rfl⟩ hl.1 rfl rfl (Nat.le_of_ble_eq_true rfl) dX8_byTurns_11 ?_
  refine lv_if_eq (tgt := 29) hx hb dX8_byTurns_14 (by decide) (fun c18 => ?_) (fun c18 => ?_)
  · have hf := itP c18 hf
    refine lv_bipush (v := (-2 : Int32)) hx hb dX8_byTurns_29 rfl ?_
    cases hf
    exact W.iret hx hb hr (fun t ht9 hW => ⟨⟨_, (), rfl, rfl, by rw [ht9]; exact hP, va_K.moved hW.alike hK, hD⟩, hS.F ht9⟩) hS.2.2 dX8_byTurns_31
  · have hf := itN c18 hf
    refine lv_iload_n hx hb dX8_byTurns_17 rfl (lv_at hl 2 rfl) ?_
    refine lv_i2l hx hb dX8_byTurns_18 rfl ?_
    refine lv_lconst (v := 1) hx hb dX8_byTurns_19 rfl ?_
    refine lv_ldc2 hx hb hown (ht _ wd5_21) dX8_byTurns_20 ?_
    obtain ⟨u19, e20, hf⟩ := bdS hf
    refine k_pS (As := [.long x2.toInt64, .long (1 : Int64), .long (6 : Int64)]) (rest := []) hC miX8_in mjX8_in wd4_44 (qX8_in l x2.toInt64 (1 : Int64) (6 : Int64) u19 e20) ⟨Nat.le_of_ble_eq_true rfl, Nat.le_of_ble_eq_true rfl⟩ hl.1 rfl rfl (Nat.le_of_ble_eq_true rfl) dX8_byTurns_23 ?_
    refine lv_if_ne (tgt := 32) hx hb dX8_byTurns_26 (by decide) (fun c21 => ?_) (fun c21 => ?_)
    · have hf := itN c21 hf
      refine lv_iconst (v := (0 : Int32)) hx hb dX8_byTurns_32 rfl ?_
      refine lv_istore_n (lv' := [(3, .int (0 : Int32)), (0, .ref jhm), (1, .int x1), (2, .int x2)]) hx hb dX8_byTurns_33 rfl hl (by decide) rfl (fun ls hl => ?_)
      refine lv_iconst (v := (0 : Int32)) hx hb dX8_byTurns_34 rfl ?_
      refine lv_istore (lv' := [(4, .int (0 : Int32)), (3, .int (0 : Int32)), (0, .ref jhm), (1, .int x1), (2, .int x2)]) hx hb dX8_byTurns_35 hl (by decide) rfl (fun ls hl => ?_)
      refine lv_iconst (v := (0 : Int32)) hx hb dX8_byTurns_37 rfl ?_
      refine lv_istore (lv' := [(5, .int (0 : Int32)), (4, .int (0 : Int32)), (3, .int (0 : Int32)), (0, .ref jhm), (1, .int x1), (2, .int x2)]) hx hb dX8_byTurns_38 hl (by decide) rfl (fun ls hl => ?_)
      refine lv_iload_n hx hb dX8_byTurns_40 rfl (lv_at hl 5 rfl) ?_
      refine lv_iconst (v := (1 : Int32)) hx hb dX8_byTurns_41 rfl ?_
      refine lv_isub hx hb dX8_byTurns_42 ?_
      refine lv_istore (lv' := [(6, .int (x2 - (1 : Int32))), (5, .int (0 : Int32)), (4, .int (0 : Int32)), (3, .int (0 : Int32)), (0, .ref jhm), (1, .int x1), (2, .int x2)]) hx hb dX8_byTurns_43 hl (by decide) rfl (fun ls hl => ?_)
      exact hj45 (0 : Int32) (0 : Int32) (0 : Int32) (x2 - (1 : Int32)) (bI Sm 0 (0 : Int32)) hf _ _ _ hP hD hS (lv_sub hl [5, 3, 2, 1, 0] rfl)
    · have hf := itP c21 hf
      refine lv_bipush (v := (-2 : Int32)) hx hb dX8_byTurns_29 rfl ?_
      cases hf
      exact W.iret hx hb hr (fun t ht9 hW => ⟨⟨_, (), rfl, rfl, by rw [ht9]; exact hP, va_K.moved hW.alike hK, hD⟩, hS.F ht9⟩) hS.2.2 dX8_byTurns_31
abbrev wX8_see (cI cZ : ClassId) (jhm : Nat) (jam : Nat → Nat) (Sm : Bk) : va_W := [(jhm, .inr (7, [.int (Sm.1 0), .ref (jam 0), .int (Sm.1 1), .int (Sm.1 2), .int (Sm.1 3), .int (Sm.1 4), .int (Sm.1 5), .ref (jam 1), .ref (jam 2), .ref (jam 3), .int (Sm.1 6), .int (Sm.1 7), .int (Sm.1 8), .ref (jam 4), .ref (jam 5), .ref (jam 6), .ref (jam 7), .ref (jam 8), .ref (jam 9), .int (Sm.1 9), .ref (jam 10), .ref (jam 11), .int (Sm.1 10), .ref (jam 12), .ref (jam 13), .long Sm.2.2, .ref (jam 14), .ref (jam 15), .int (Sm.1 11), .int (Sm.1 12), .int (Sm.1 13)])), (jam 12, .inl (cI, 6, .inl (Sm.2.1 12))), (jam 13, .inl (cZ, 6, .inl (Sm.2.1 13)))]
def fX8_see (Sm : Bk) (x1 : Int32) (x2 : Int32) : Option (Int32 × Bk) := (fX8_noDeed (bI Sm 0 (0 : Int32)) x1).bind (fun u1 => (if u1 = 0 then (if (Sm.1 10) = (6 : Int32) then some ((-4 : Int32), (bI Sm 0 (0 : Int32))) else inB 6 (Sm.1 10) (nmV (Sm.1 10).toNatClampNeg (fun j6 => inB 6 (Sm.1 10) (nmV (Sm.1 10).toNatClampNeg (fun j8 => nmV ((Sm.1 10) + (1 : Int32)) (fun v9 => some (v9, (bI (bW (bW (bI Sm 0 (0 : Int32)) 12 j6 x1) 13 j8 (vp_nar .boolean x2)) 10 v9)))))))) else some ((-1 : Int32), (bI Sm 0 (0 : Int32)))))
theorem miX8_see : MI yX8_see cX8_see 3 (some .int) 2 := ⟨wd1_8, wd5_29, by decide +kernel⟩
theorem mjX8_see : Cond.instanceMethod yX8_see ∈ wT ∧ Cond.selects yX8_see.cls yX8_see yX8_see ∈ wT := ⟨wd5_27, wd5_28⟩
set_option maxHeartbeats 4000000 in
set_option maxRecDepth 100000 in
theorem qX8_see (l : Launch) (D : va_G) (cI cZ cO : ClassId) (jhm : Nat) (jam : Nat → Nat) (Sm : Bk) (x1 : Int32) (x2 : Int32) (sz : Nat) (res : Int32 × Bk) (hf : fX8_see Sm x1 x2 = some res) : Met l yX8_see (Cond.code yX8_see cX8_see 3 (some .int) :: wT) (rmF 2 46) (va_Pc [.ref jhm, .int x1, .int x2] (cW D (tyL cI cZ cO) (wX8_see cI cZ jhm jam Sm) sz)) (va_Qi (S := Unit) (fun r _ => r = res.1) (fun _ => qW D (tyL cI cZ cO) (va_A (wX8_see cI cZ jhm jam Sm) sz) (wX8_see cI cZ jhm jam res.2)) (va_A (wX8_see cI cZ jhm jam Sm) sz)) 0 0 (va_A (wX8_see cI cZ jhm jam Sm) sz) := by
  refine met_w (by decide) (Nat.le_of_ble_eq_true rfl) ?_
  intro p e s m below meth c hx hb hr hml ht hown hlk ls hl hsz hP hK hD0 hZ
  subst hsz
  have hD := hD0.self (sz := s.heap.size)
  generalize hAe : va_A (wX8_see cI cZ jhm jam Sm) s.heap.size = A at hD hZ ⊢
  have hA : ∀ q : Nat, s.heap.size ≤ q → A q := fun q h => by rw [← hAe]; exact Or.inr h
  have hS : va_S A s.heap s.heap [] := va_S.rf
  have hown : s.vm.findClass "EyeDrinkModel" = some m.cls := hown
  have hl : lv_has ls 3 [(0, .ref jhm), (1, .int x1), (2, .int x2)] := hl
  have hC : CallFix p m c cX8_see 3 s ([.ref jhm, .int x1, .int x2] : List Value).toArray wT "EyeDrinkModel" := ⟨hx, hb, hml, hown, ht⟩
  unfold fX8_see at hf
  suffices hgo : ∀ (H : Heap) (locs : List Loc), va_P D vwCl (wX8_see cI cZ jhm jam Sm) H → va_S A s.heap H locs → W p l e (rmF 2 46) s m ([.ref jhm, .int x1, .int x2] : List Value).toArray below meth c H locs 0 0 (MQ below (va_Qi (S := Unit) (fun r _ => r = res.1) (fun _ => qW D (tyL cI cZ cO) A (wX8_see cI cZ jhm jam res.2)) A) ([.ref jhm, .int x1, .int x2] : List Value).toArray s 0 0 A) (F0 m 0 ls []) from hgo s.heap [] hP hS
  intro H locs hP hS
  refine lv_aload_n hx hb dX8_see_0 rfl (lv_at hl 0 rfl) ?_
  refine lv_iconst (v := (0 : Int32)) hx hb dX8_see_1 rfl ?_
  refine va_put (D := D) (ci := 7) (v := .int (0 : Int32)) (ty := .int) (C := RX8) (T := TX8) (N := 31) hx hb ht inX8 tyX8 tyX8_ok nmX8 hown hK hP hD hS 0 rfl rfl 0 (by decide) (ht _ wd3_185) (fun _ h9 => h9) rfl (tyX8_ok 0 (by decide)) rfl rfl (Nat.le_of_ble_eq_true rfl) dX8_see_2 (fun H locs hP hD hS => ?_)
  have hP : va_P D vwCl (wX8_see cI cZ jhm jam (bI Sm 0 (0 : Int32))) H := hP
  have hD : va_D A (wX8_see cI cZ jhm jam (bI Sm 0 (0 : Int32))) := hD
  refine lv_aload_n hx hb dX8_see_5 rfl (lv_at hl 0 rfl) ?_
  refine lv_iload_n hx hb dX8_see_6 rfl (lv_at hl 1 rfl) ?_
  obtain ⟨u1, e2, hf⟩ := bdS hf
  refine k_rV (As := [.int x1]) (rest := []) hC miX8_noDeed mjX8_noDeed.1 mjX8_noDeed.2 wd4_115 (qX8_noDeed l D cI cZ cO jhm jam (bI Sm 0 (0 : Int32)) x1 u1 e2) ⟨Nat.le_of_ble_eq_true rfl, Nat.le_of_ble_eq_true rfl⟩ (hP.sub [0] rfl) hK hZ hS (va_recv hK hP (ci := 7) (q0 := 0) rfl rfl) hl.1 rfl rfl (Nat.le_of_ble_eq_true rfl) dX8_see_7 ?_
  refine lv_if_eq (tgt := 15) hx hb dX8_see_10 (by decide) (fun c3 => ?_) (fun c3 => ?_)
  · have hf := itP c3 hf
    refine lv_aload_n hx hb dX8_see_15 rfl (lv_at hl 0 rfl) ?_
    refine va_get (D := D) (ci := 7) (v := .int (Sm.1 10)) (C := RX8) (T := TX8) (N := 31) hx hb ht inX8 hown hK hP 0 rfl rfl 22 (by decide) (ht _ wd3_207) (fun _ h9 => h9) rfl dX8_see_16 ?_
    refine lv_bipush (v := (6 : Int32)) hx hb dX8_see_19 rfl ?_
    refine lv_icmp_ne (tgt := 27) hx hb dX8_see_21 (by decide) (fun c4 => ?_) (fun c4 => ?_)
    · have hf := itN c4 hf
      refine lv_aload_n hx hb dX8_see_27 rfl (lv_at hl 0 rfl) ?_
      refine va_get (D := D) (ci := 7) (v := .ref (jam 12)) (C := RX8) (T := TX8) (N := 31) hx hb ht inX8 hown hK hP 0 rfl rfl 23 (by decide) (ht _ wd3_208) (fun _ h9 => h9) rfl dX8_see_28 ?_
      refine lv_aload_n hx hb dX8_see_31 rfl (lv_at hl 0 rfl) ?_
      refine va_get (D := D) (ci := 7) (v := .int (Sm.1 10)) (C := RX8) (T := TX8) (N := 31) hx hb ht inX8 hown hK hP 0 rfl rfl 22 (by decide) (ht _ wd3_207) (fun _ h9 => h9) rfl dX8_see_32 ?_
      refine lv_iload_n hx hb dX8_see_35 rfl (lv_at hl 1 rfl) ?_
      obtain ⟨h5, hf⟩ := inB_s hf
      obtain ⟨j6, ej6, hf⟩ := nmV_s hf
      refine va_iast (f := (Sm.2.1 12)) (n := 6) hx hb hK hP hD hS 1 0 rfl rfl h5 dX8_see_36 (fun H locs hP hD hS => ?_)
      rw [← ej6] at hP hD
      have hP : va_P D vwCl (wX8_see cI cZ jhm jam (bW (bI Sm 0 (0 : Int32)) 12 j6 x1)) H := hP
      have hD : va_D A (wX8_see cI cZ jhm jam (bW (bI Sm 0 (0 : Int32)) 12 j6 x1)) := hD
      refine lv_aload_n hx hb dX8_see_37 rfl (lv_at hl 0 rfl) ?_
      refine va_get (D := D) (ci := 7) (v := .ref (jam 13)) (C := RX8) (T := TX8) (N := 31) hx hb ht inX8 hown hK hP 0 rfl rfl 24 (by decide) (ht _ wd3_209) (fun _ h9 => h9) rfl dX8_see_38 ?_
      refine lv_aload_n hx hb dX8_see_41 rfl (lv_at hl 0 rfl) ?_
      refine va_get (D := D) (ci := 7) (v := .int (Sm.1 10)) (C := RX8) (T := TX8) (N := 31) hx hb ht inX8 hown hK hP 0 rfl rfl 22 (by decide) (ht _ wd3_207) (fun _ h9 => h9) rfl dX8_see_42 ?_
      refine lv_iload_n hx hb dX8_see_45 rfl (lv_at hl 2 rfl) ?_
      obtain ⟨h7, hf⟩ := inB_s hf
      obtain ⟨j8, ej8, hf⟩ := nmV_s hf
      refine va_zast (f := (Sm.2.1 13)) (n := 6) hx hb hK hP hD hS 2 1 rfl rfl h7 dX8_see_46 (fun H locs hP hD hS => ?_)
      rw [← ej8] at hP hD
      have hP : va_P D vwCl (wX8_see cI cZ jhm jam (bW (bW (bI Sm 0 (0 : Int32)) 12 j6 x1) 13 j8 (vp_nar .boolean x2))) H := hP
      have hD : va_D A (wX8_see cI cZ jhm jam (bW (bW (bI Sm 0 (0 : Int32)) 12 j6 x1) 13 j8 (vp_nar .boolean x2))) := hD
      refine lv_aload_n hx hb dX8_see_47 rfl (lv_at hl 0 rfl) ?_
      refine lv_dup hx hb dX8_see_48 rfl ?_
      refine va_get (D := D) (ci := 7) (v := .int (Sm.1 10)) (C := RX8) (T := TX8) (N := 31) hx hb ht inX8 hown hK hP 0 rfl rfl 22 (by decide) (ht _ wd3_207) (fun _ h9 => h9) rfl dX8_see_49 ?_
      refine lv_iconst (v := (1 : Int32)) hx hb dX8_see_52 rfl ?_
      refine lv_iadd hx hb dX8_see_53 ?_
      obtain ⟨v9, ev9, hf⟩ := nmV_s hf
      rw [← ev9]
      refine va_put (D := D) (ci := 7) (v := .int v9) (ty := .int) (C := RX8) (T := TX8) (N := 31) hx hb ht inX8 tyX8 tyX8_ok nmX8 hown hK hP hD hS 0 rfl rfl 22 (by decide) (ht _ wd3_207) (fun _ h9 => h9) rfl (tyX8_ok 22 (by decide)) rfl rfl (Nat.le_of_ble_eq_true rfl) dX8_see_54 (fun H locs hP hD hS => ?_)
      have hP : va_P D vwCl (wX8_see cI cZ jhm jam (bI (bW (bW (bI Sm 0 (0 : Int32)) 12 j6 x1) 13 j8 (vp_nar .boolean x2)) 10 v9)) H := hP
      have hD : va_D A (wX8_see cI cZ jhm jam (bI (bW (bW (bI Sm 0 (0 : Int32)) 12 j6 x1) 13 j8 (vp_nar .boolean x2)) 10 v9)) := hD
      refine lv_aload_n hx hb dX8_see_57 rfl (lv_at hl 0 rfl) ?_
      refine va_get (D := D) (ci := 7) (v := .int v9) (C := RX8) (T := TX8) (N := 31) hx hb ht inX8 hown hK hP 0 rfl rfl 22 (by decide) (ht _ wd3_207) (fun _ h9 => h9) rfl dX8_see_58 ?_
      cases hf
      exact W.iret hx hb hr (fun t ht9 hW => ⟨⟨_, (), rfl, rfl, by rw [ht9]; exact hP, va_K.moved hW.alike hK, hD⟩, hS.F ht9⟩) hS.2.2 dX8_see_61
    · have hf := itP c4 hf
      refine lv_bipush (v := (-4 : Int32)) hx hb dX8_see_24 rfl ?_
      cases hf
      exact W.iret hx hb hr (fun t ht9 hW => ⟨⟨_, (), rfl, rfl, by rw [ht9]; exact hP, va_K.moved hW.alike hK, hD⟩, hS.F ht9⟩) hS.2.2 dX8_see_26
  · have hf := itN c3 hf
    refine lv_iconst (v := (-1 : Int32)) hx hb dX8_see_13 rfl ?_
    cases hf
    exact W.iret hx hb hr (fun t ht9 hW => ⟨⟨_, (), rfl, rfl, by rw [ht9]; exact hP, va_K.moved hW.alike hK, hD⟩, hS.F ht9⟩) hS.2.2 dX8_see_14
abbrev wX8_unsee (cI cZ : ClassId) (jhm : Nat) (jam : Nat → Nat) (Sm : Bk) : va_W := [(jhm, .inr (7, [.int (Sm.1 0), .ref (jam 0), .int (Sm.1 1), .int (Sm.1 2), .int (Sm.1 3), .int (Sm.1 4), .int (Sm.1 5), .ref (jam 1), .ref (jam 2), .ref (jam 3), .int (Sm.1 6), .int (Sm.1 7), .int (Sm.1 8), .ref (jam 4), .ref (jam 5), .ref (jam 6), .ref (jam 7), .ref (jam 8), .ref (jam 9), .int (Sm.1 9), .ref (jam 10), .ref (jam 11), .int (Sm.1 10), .ref (jam 12), .ref (jam 13), .long Sm.2.2, .ref (jam 14), .ref (jam 15), .int (Sm.1 11), .int (Sm.1 12), .int (Sm.1 13)]))]
def fX8_unsee (Sm : Bk) : Option (Int32 × Bk) := some ((Sm.1 10), (bI (bI Sm 0 (0 : Int32)) 10 (0 : Int32)))
theorem miX8_unsee : MI yX8_unsee cX8_unsee 2 (some .int) 0 := ⟨wd1_8, wd5_33, by decide +kernel⟩
theorem mjX8_unsee : Cond.instanceMethod yX8_unsee ∈ wT ∧ Cond.selects yX8_unsee.cls yX8_unsee yX8_unsee ∈ wT := ⟨wd5_31, wd5_32⟩
set_option maxHeartbeats 4000000 in
set_option maxRecDepth 100000 in
theorem qX8_unsee (l : Launch) (D : va_G) (cI cZ cO : ClassId) (jhm : Nat) (jam : Nat → Nat) (Sm : Bk) (sz : Nat) (res : Int32 × Bk) (hf : fX8_unsee Sm = some res) : Met l yX8_unsee (Cond.code yX8_unsee cX8_unsee 2 (some .int) :: wT) (rmF 0 0) (va_Pc [.ref jhm] (cW D (tyL cI cZ cO) (wX8_unsee cI cZ jhm jam Sm) sz)) (va_Qi (S := Unit) (fun r _ => r = res.1) (fun _ => qW D (tyL cI cZ cO) (va_A (wX8_unsee cI cZ jhm jam Sm) sz) (wX8_unsee cI cZ jhm jam res.2)) (va_A (wX8_unsee cI cZ jhm jam Sm) sz)) 0 0 (va_A (wX8_unsee cI cZ jhm jam Sm) sz) := by
  refine met_w (by decide) (Nat.le_of_ble_eq_true rfl) ?_
  intro p e s m below meth c hx hb hr hml ht hown hlk ls hl hsz hP hK hD0 hZ
  subst hsz
  have hD := hD0.self (sz := s.heap.size)
  generalize hAe : va_A (wX8_unsee cI cZ jhm jam Sm) s.heap.size = A at hD hZ ⊢
  have hA : ∀ q : Nat, s.heap.size ≤ q → A q := fun q h => by rw [← hAe]; exact Or.inr h
  have hS : va_S A s.heap s.heap [] := va_S.rf
  have hown : s.vm.findClass "EyeDrinkModel" = some m.cls := hown
  have hl : lv_has ls 2 [(0, .ref jhm)] := hl
  unfold fX8_unsee at hf
  suffices hgo : ∀ (H : Heap) (locs : List Loc), va_P D vwCl (wX8_unsee cI cZ jhm jam Sm) H → va_S A s.heap H locs → W p l e (rmF 0 0) s m ([.ref jhm] : List Value).toArray below meth c H locs 0 0 (MQ below (va_Qi (S := Unit) (fun r _ => r = res.1) (fun _ => qW D (tyL cI cZ cO) A (wX8_unsee cI cZ jhm jam res.2)) A) ([.ref jhm] : List Value).toArray s 0 0 A) (F0 m 0 ls []) from hgo s.heap [] hP hS
  intro H locs hP hS
  refine lv_aload_n hx hb dX8_unsee_0 rfl (lv_at hl 0 rfl) ?_
  refine lv_iconst (v := (0 : Int32)) hx hb dX8_unsee_1 rfl ?_
  refine va_put (D := D) (ci := 7) (v := .int (0 : Int32)) (ty := .int) (C := RX8) (T := TX8) (N := 31) hx hb ht inX8 tyX8 tyX8_ok nmX8 hown hK hP hD hS 0 rfl rfl 0 (by decide) (ht _ wd3_185) (fun _ h9 => h9) rfl (tyX8_ok 0 (by decide)) rfl rfl (Nat.le_of_ble_eq_true rfl) dX8_unsee_2 (fun H locs hP hD hS => ?_)
  have hP : va_P D vwCl (wX8_unsee cI cZ jhm jam (bI Sm 0 (0 : Int32))) H := hP
  have hD : va_D A (wX8_unsee cI cZ jhm jam (bI Sm 0 (0 : Int32))) := hD
  refine lv_aload_n hx hb dX8_unsee_5 rfl (lv_at hl 0 rfl) ?_
  refine va_get (D := D) (ci := 7) (v := .int (Sm.1 10)) (C := RX8) (T := TX8) (N := 31) hx hb ht inX8 hown hK hP 0 rfl rfl 22 (by decide) (ht _ wd3_207) (fun _ h9 => h9) rfl dX8_unsee_6 ?_
  refine lv_istore_n (lv' := [(1, .int (Sm.1 10)), (0, .ref jhm)]) hx hb dX8_unsee_9 rfl hl (by decide) rfl (fun ls hl => ?_)
  refine lv_aload_n hx hb dX8_unsee_10 rfl (lv_at hl 1 rfl) ?_
  refine lv_iconst (v := (0 : Int32)) hx hb dX8_unsee_11 rfl ?_
  refine va_put (D := D) (ci := 7) (v := .int (0 : Int32)) (ty := .int) (C := RX8) (T := TX8) (N := 31) hx hb ht inX8 tyX8 tyX8_ok nmX8 hown hK hP hD hS 0 rfl rfl 22 (by decide) (ht _ wd3_207) (fun _ h9 => h9) rfl (tyX8_ok 22 (by decide)) rfl rfl (Nat.le_of_ble_eq_true rfl) dX8_unsee_12 (fun H locs hP hD hS => ?_)
  have hP : va_P D vwCl (wX8_unsee cI cZ jhm jam (bI (bI Sm 0 (0 : Int32)) 10 (0 : Int32))) H := hP
  have hD : va_D A (wX8_unsee cI cZ jhm jam (bI (bI Sm 0 (0 : Int32)) 10 (0 : Int32))) := hD
  refine lv_iload_n hx hb dX8_unsee_15 rfl (lv_at hl 0 rfl) ?_
  cases hf
  exact W.iret hx hb hr (fun t ht9 hW => ⟨⟨_, (), rfl, rfl, by rw [ht9]; exact hP, va_K.moved hW.alike hK, hD⟩, hS.F ht9⟩) hS.2.2 dX8_unsee_16
abbrev wX8_findKnew (cI cZ : ClassId) (jhm : Nat) (jam : Nat → Nat) (Sm : Bk) : va_W := [(jhm, .inr (7, [.int (Sm.1 0), .ref (jam 0), .int (Sm.1 1), .int (Sm.1 2), .int (Sm.1 3), .int (Sm.1 4), .int (Sm.1 5), .ref (jam 1), .ref (jam 2), .ref (jam 3), .int (Sm.1 6), .int (Sm.1 7), .int (Sm.1 8), .ref (jam 4), .ref (jam 5), .ref (jam 6), .ref (jam 7), .ref (jam 8), .ref (jam 9), .int (Sm.1 9), .ref (jam 10), .ref (jam 11), .int (Sm.1 10), .ref (jam 12), .ref (jam 13), .long Sm.2.2, .ref (jam 14), .ref (jam 15), .int (Sm.1 11), .int (Sm.1 12), .int (Sm.1 13)])), (jam 3, .inl (cI, 20, .inl (Sm.2.1 3))), (jam 12, .inl (cI, 6, .inl (Sm.2.1 12))), (jam 13, .inl (cZ, 6, .inl (Sm.2.1 13)))]
def gX8_findKnew_164 (k25 : Int32 → Bk → Option (Bk)) (x1 : Int32) (Sm : Bk) : Option (Bk) := k25 (x1 + (1 : Int32)) Sm
def gX8_findKnew_141 (k25 : Int32 → Bk → Option (Bk)) (x1 : Int32) (Sm : Bk) (y1 : Int32) : Option (Bk) := nmV ((Sm.1 11) + (1 : Int32)) (fun v1 => nmV ((Sm.1 13) &&& x1) (fun v2 => gX8_findKnew_164 k25 x1 (bI (bI (bI Sm 12 y1) 11 v1) 13 v2)))
def gX8_findKnew_121 (k25 : Int32 → Bk → Option (Bk)) (x1 : Int32) (x2 : Int32) (Sm : Bk) : Option (Bk) := (if x2 = 0 then gX8_findKnew_164 k25 x1 Sm else (if (Sm.1 11) = 0 then gX8_findKnew_141 k25 x1 Sm x1 else gX8_findKnew_141 k25 x1 Sm (Sm.1 12)))
def gX8_findKnew_114 (k25 : Int32 → Bk → Option (Bk)) (k39 : Int32 → Int32 → Int32 → Bk → Option (Bk)) (x1 : Int32) (x3 : Int32) (Sm : Bk) (y0 : Int32) : Option (Bk) := k39 x1 y0 (x3 + (1 : Int32)) Sm
def gX8_findKnew_109 (k25 : Int32 → Bk → Option (Bk)) (k39 : Int32 → Int32 → Int32 → Bk → Option (Bk)) (x1 : Int32) (x3 : Int32) (Sm : Bk) : Option (Bk) := gX8_findKnew_114 k25 k39 x1 x3 Sm (1 : Int32)
def gX8_findKnew_100 (k25 : Int32 → Bk → Option (Bk)) (k39 : Int32 → Int32 → Int32 → Bk → Option (Bk)) (x1 : Int32) (x3 : Int32) (Sm : Bk) (y0 : Int32) : Option (Bk) := inB 6 x3 ((if y0 = ((Sm.2.1 13) x3.toNatClampNeg) then gX8_findKnew_109 k25 k39 x1 x3 Sm else gX8_findKnew_114 k25 k39 x1 x3 Sm (0 : Int32)))
def sX8_findKnew_39 (k25 : Int32 → Bk → Option (Bk)) (k39 : Int32 → Int32 → Int32 → Bk → Option (Bk)) (x1 : Int32) (x2 : Int32) (x3 : Int32) (Sm : Bk) : Option (Bk) := (if (Sm.1 10) ≤ x3 then gX8_findKnew_121 k25 x1 x2 Sm else (if x2 = 0 then gX8_findKnew_121 k25 x1 x2 Sm else inB 6 x3 ((if (Sm.1 5) ≤ ((Sm.2.1 12) x3.toNatClampNeg) then gX8_findKnew_109 k25 k39 x1 x3 Sm else inB 20 ((5 : Int32) * ((Sm.2.1 12) x3.toNatClampNeg)) (inB 20 (((5 : Int32) * ((Sm.2.1 12) x3.toNatClampNeg)) + (1 : Int32)) ((if ((x1 >>> (((Sm.2.1 3) ((5 : Int32) * ((Sm.2.1 12) x3.toNatClampNeg)).toNatClampNeg) &&& 31)) &&& (1 : Int32)) = ((Sm.2.1 3) (((5 : Int32) * ((Sm.2.1 12) x3.toNatClampNeg)) + (1 : Int32)).toNatClampNeg) then gX8_findKnew_100 k25 k39 x1 x3 Sm (1 : Int32) else gX8_findKnew_100 k25 k39 x1 x3 Sm (0 : Int32))))))))
def sX8_findKnew_25 (k25 : Int32 → Bk → Option (Bk)) (x1 : Int32) (Sm : Bk) : Option (Bk) := (if ((1 : Int32) <<< ((Sm.1 4) &&& 31)) ≤ x1 then some Sm else lk4 (sX8_findKnew_39 k25) 1000 x1 (1 : Int32) (0 : Int32) Sm)
def fX8_findKnew (Sm : Bk) : Option (Bk) := nmV (((1 : Int32) <<< ((Sm.1 4) &&& 31)) - (1 : Int32)) (fun v15 => lk2 (sX8_findKnew_25 ) 1000 (0 : Int32) (bI (bI (bI Sm 11 (0 : Int32)) 12 (-9 : Int32)) 13 v15))
theorem miX8_findKnew : MI yX8_findKnew cX8_findKnew 5 none 0 := ⟨wd1_8, wd5_41, by decide +kernel⟩
theorem mjX8_findKnew : Cond.instanceMethod yX8_findKnew ∈ wT ∧ Cond.selects yX8_findKnew.cls yX8_findKnew yX8_findKnew ∈ wT := ⟨wd5_40, ws_43⟩
set_option maxHeartbeats 4000000 in
set_option maxRecDepth 100000 in
theorem qX8_findKnew (l : Launch) (D : va_G) (cI cZ cO : ClassId) (jhm : Nat) (jam : Nat → Nat) (Sm : Bk) (sz : Nat) (res : Bk) (hf : fX8_findKnew Sm = some res) : Met l yX8_findKnew (Cond.code yX8_findKnew cX8_findKnew 5 none :: wT) (rmF 0 0) (va_Pc [.ref jhm] (cW D (tyL cI cZ cO) (wX8_findKnew cI cZ jhm jam Sm) sz)) (va_Qv (S := Unit) (fun _ => True) (fun _ => qW D (tyL cI cZ cO) (va_A (wX8_findKnew cI cZ jhm jam Sm) sz) (wX8_findKnew cI cZ jhm jam res)) (va_A (wX8_findKnew cI cZ jhm jam Sm) sz)) 0 0 (va_A (wX8_findKnew cI cZ jhm jam Sm) sz) := by
  refine met_w (by decide) (Nat.le_of_ble_eq_true rfl) ?_
  intro p e s m below meth c hx hb hr hml ht hown hlk ls hl hsz hP hK hD0 hZ
  subst hsz
  have hD := hD0.self (sz := s.heap.size)
  generalize hAe : va_A (wX8_findKnew cI cZ jhm jam Sm) s.heap.size = A at hD hZ ⊢
  have hA : ∀ q : Nat, s.heap.size ≤ q → A q := fun q h => by rw [← hAe]; exact Or.inr h
  have hS : va_S A s.heap s.heap [] := va_S.rf
  have hown : s.vm.findClass "EyeDrinkModel" = some m.cls := hown
  have hl : lv_has ls 5 [(0, .ref jhm)] := hl
  unfold fX8_findKnew at hf
  suffices hgo : ∀ (H : Heap) (locs : List Loc), va_P D vwCl (wX8_findKnew cI cZ jhm jam Sm) H → va_S A s.heap H locs → W p l e (rmF 0 0) s m ([.ref jhm] : List Value).toArray below meth c H locs 0 0 (MQ below (va_Qv (S := Unit) (fun _ => True) (fun _ => qW D (tyL cI cZ cO) A (wX8_findKnew cI cZ jhm jam res)) A) ([.ref jhm] : List Value).toArray s 0 0 A) (F0 m 0 ls []) from hgo s.heap [] hP hS
  have hj25 : ∀ (x1 : Int32) (Sm : Bk), lk2 (sX8_findKnew_25 ) 1000 x1 Sm = some res → ∀ (H : Heap) (locs : List Loc) (ls : Array Slot), va_P D vwCl (wX8_findKnew cI cZ jhm jam Sm) H → va_D A (wX8_findKnew cI cZ jhm jam Sm) → va_S A s.heap H locs → lv_has ls 5 [(0, .ref jhm), (1, .int x1)] → W p l e (rmF 0 0) s m ([.ref jhm] : List Value).toArray below meth c H locs 0 0 (MQ below (va_Qv (S := Unit) (fun _ => True) (fun _ => qW D (tyL cI cZ cO) A (wX8_findKnew cI cZ jhm jam res)) A) ([.ref jhm] : List Value).toArray s 0 0 A) (F0 m 25 ls []) := by
    refine lk2_w (fun (x1 : Int32) (Sm : Bk) => ∀ (H : Heap) (locs : List Loc) (ls : Array Slot), va_P D vwCl (wX8_findKnew cI cZ jhm jam Sm) H → va_D A (wX8_findKnew cI cZ jhm jam Sm) → va_S A s.heap H locs → lv_has ls 5 [(0, .ref jhm), (1, .int x1)] → W p l e (rmF 0 0) s m ([.ref jhm] : List Value).toArray below meth c H locs 0 0 (MQ below (va_Qv (S := Unit) (fun _ => True) (fun _ => qW D (tyL cI cZ cO) A (wX8_findKnew cI cZ jhm jam res)) A) ([.ref jhm] : List Value).toArray s 0 0 A) (F0 m 25 ls [])) ?_ 1000
    intro k25 hk25 x1 Sm hf H locs ls hP hD hS hl
    unfold sX8_findKnew_25 at hf
    have hj164 : ∀ (x1 : Int32) (Sm : Bk), gX8_findKnew_164 k25 x1 Sm = some res → ∀ (H : Heap) (locs : List Loc) (ls : Array Slot), va_P D vwCl (wX8_findKnew cI cZ jhm jam Sm) H → va_D A (wX8_findKnew cI cZ jhm jam Sm) → va_S A s.heap H locs → lv_has ls 5 [(0, .ref jhm), (1, .int x1)] → W p l e (rmF 0 0) s m ([.ref jhm] : List Value).toArray below meth c H locs 0 0 (MQ below (va_Qv (S := Unit) (fun _ => True) (fun _ => qW D (tyL cI cZ cO) A (wX8_findKnew cI cZ jhm jam res)) A) ([.ref jhm] : List Value).toArray s 0 0 A) (F0 m 164 ls []) := by
      intro x1 Sm hf H locs ls hP hD hS hl
      unfold gX8_findKnew_164 at hf
      refine lv_iinc (v := (x1 + (1 : Int32))) (lv' := [(1, .int (x1 + (1 : Int32))), (0, .ref jhm)]) hx hb dX8_findKnew_164 hl (k := 1) rfl rfl (by decide) rfl (fun ls hl => ?_)
      refine lv_goto (tgt := 25) hx hb dX8_findKnew_167 (by decide) ?_
      exact hk25 (x1 + (1 : Int32)) Sm hf _ _ _ hP hD hS (lv_sub hl [1, 0] rfl)
    have hj141 : ∀ (x1 : Int32) (Sm : Bk) (y1 : Int32), gX8_findKnew_141 k25 x1 Sm y1 = some res → ∀ (H : Heap) (locs : List Loc) (ls : Array Slot), va_P D vwCl (wX8_findKnew cI cZ jhm jam Sm) H → va_D A (wX8_findKnew cI cZ jhm jam Sm) → va_S A s.heap H locs → lv_has ls 5 [(0, .ref jhm), (1, .int x1)] → W p l e (rmF 0 0) s m ([.ref jhm] : List Value).toArray below meth c H locs 0 0 (MQ below (va_Qv (S := Unit) (fun _ => True) (fun _ => qW D (tyL cI cZ cO) A (wX8_findKnew cI cZ jhm jam res)) A) ([.ref jhm] : List Value).toArray s 0 0 A) (F0 m 141 ls [.int y1, .ref jhm]) := by
      intro x1 Sm y1 hf H locs ls hP hD hS hl
      unfold gX8_findKnew_141 at hf
      refine va_put (D := D) (ci := 7) (v := .int y1) (ty := .int) (C := RX8) (T := TX8) (N := 31) hx hb ht inX8 tyX8 tyX8_ok nmX8 hown hK hP hD hS 0 rfl rfl 29 (by decide) (ht _ wd3_214) (fun _ h9 => h9) rfl (tyX8_ok 29 (by decide)) rfl rfl (Nat.le_of_ble_eq_true rfl) dX8_findKnew_141 (fun H locs hP hD hS => ?_)
      have hP : va_P D vwCl (wX8_findKnew cI cZ jhm jam (bI Sm 12 y1)) H := hP
      have hD : va_D A (wX8_findKnew cI cZ jhm jam (bI Sm 12 y1)) := hD
      refine lv_aload_n hx hb dX8_findKnew_144 rfl (lv_at hl 0 rfl) ?_
      refine lv_dup hx hb dX8_findKnew_145 rfl ?_
      refine va_get (D := D) (ci := 7) (v := .int (Sm.1 11)) (C := RX8) (T := TX8) (N := 31) hx hb ht inX8 hown hK hP 0 rfl rfl 28 (by decide) (ht _ wd3_213) (fun _ h9 => h9) rfl dX8_findKnew_146 ?_
      refine lv_iconst (v := (1 : Int32)) hx hb dX8_findKnew_149 rfl ?_
      refine lv_iadd hx hb dX8_findKnew_150 ?_
      obtain ⟨v1, ev1, hf⟩ := nmV_s hf
      rw [← ev1]
      refine va_put (D := D) (ci := 7) (v := .int v1) (ty := .int) (C := RX8) (T := TX8) (N := 31) hx hb ht inX8 tyX8 tyX8_ok nmX8 hown hK hP hD hS 0 rfl rfl 28 (by decide) (ht _ wd3_213) (fun _ h9 => h9) rfl (tyX8_ok 28 (by decide)) rfl rfl (Nat.le_of_ble_eq_true rfl) dX8_findKnew_151 (fun H locs hP hD hS => ?_)
      have hP : va_P D vwCl (wX8_findKnew cI cZ jhm jam (bI (bI Sm 12 y1) 11 v1)) H := hP
      have hD : va_D A (wX8_findKnew cI cZ jhm jam (bI (bI Sm 12 y1) 11 v1)) := hD
      refine lv_aload_n hx hb dX8_findKnew_154 rfl (lv_at hl 0 rfl) ?_
      refine lv_dup hx hb dX8_findKnew_155 rfl ?_
      refine va_get (D := D) (ci := 7) (v := .int (Sm.1 13)) (C := RX8) (T := TX8) (N := 31) hx hb ht inX8 hown hK hP 0 rfl rfl 30 (by decide) (ht _ wd3_215) (fun _ h9 => h9) rfl dX8_findKnew_156 ?_
      refine lv_iload_n hx hb dX8_findKnew_159 rfl (lv_at hl 1 rfl) ?_
      refine lv_iand hx hb dX8_findKnew_160 ?_
      obtain ⟨v2, ev2, hf⟩ := nmV_s hf
      rw [← ev2]
      refine va_put (D := D) (ci := 7) (v := .int v2) (ty := .int) (C := RX8) (T := TX8) (N := 31) hx hb ht inX8 tyX8 tyX8_ok nmX8 hown hK hP hD hS 0 rfl rfl 30 (by decide) (ht _ wd3_215) (fun _ h9 => h9) rfl (tyX8_ok 30 (by decide)) rfl rfl (Nat.le_of_ble_eq_true rfl) dX8_findKnew_161 (fun H locs hP hD hS => ?_)
      have hP : va_P D vwCl (wX8_findKnew cI cZ jhm jam (bI (bI (bI Sm 12 y1) 11 v1) 13 v2)) H := hP
      have hD : va_D A (wX8_findKnew cI cZ jhm jam (bI (bI (bI Sm 12 y1) 11 v1) 13 v2)) := hD
      exact hj164 x1 (bI (bI (bI Sm 12 y1) 11 v1) 13 v2) hf _ _ _ hP hD hS (lv_sub hl [0, 1] rfl)
    have hj121 : ∀ (x1 : Int32) (x2 : Int32) (Sm : Bk), gX8_findKnew_121 k25 x1 x2 Sm = some res → ∀ (H : Heap) (locs : List Loc) (ls : Array Slot), va_P D vwCl (wX8_findKnew cI cZ jhm jam Sm) H → va_D A (wX8_findKnew cI cZ jhm jam Sm) → va_S A s.heap H locs → lv_has ls 5 [(0, .ref jhm), (1, .int x1), (2, .int x2)] → W p l e (rmF 0 0) s m ([.ref jhm] : List Value).toArray below meth c H locs 0 0 (MQ below (va_Qv (S := Unit) (fun _ => True) (fun _ => qW D (tyL cI cZ cO) A (wX8_findKnew cI cZ jhm jam res)) A) ([.ref jhm] : List Value).toArray s 0 0 A) (F0 m 121 ls []) := by
      intro x1 x2 Sm hf H locs ls hP hD hS hl
      unfold gX8_findKnew_121 at hf
      refine lv_iload_n hx hb dX8_findKnew_121 rfl (lv_at hl 2 rfl) ?_
      refine lv_if_eq (tgt := 164) hx hb dX8_findKnew_122 (by decide) (fun c3 => ?_) (fun c3 => ?_)
      · have hf := itP c3 hf
        exact hj164 x1 Sm hf _ _ _ hP hD hS (lv_sub hl [0, 1] rfl)
      · have hf := itN c3 hf
        refine lv_aload_n hx hb dX8_findKnew_125 rfl (lv_at hl 0 rfl) ?_
        refine lv_aload_n hx hb dX8_findKnew_126 rfl (lv_at hl 0 rfl) ?_
        refine va_get (D := D) (ci := 7) (v := .int (Sm.1 11)) (C := RX8) (T := TX8) (N := 31) hx hb ht inX8 hown hK hP 0 rfl rfl 28 (by decide) (ht _ wd3_213) (fun _ h9 => h9) rfl dX8_findKnew_127 ?_
        refine lv_if_ne (tgt := 137) hx hb dX8_findKnew_130 (by decide) (fun c4 => ?_) (fun c4 => ?_)
        · have hf := itN c4 hf
          refine lv_aload_n hx hb dX8_findKnew_137 rfl (lv_at hl 0 rfl) ?_
          refine va_get (D := D) (ci := 7) (v := .int (Sm.1 12)) (C := RX8) (T := TX8) (N := 31) hx hb ht inX8 hown hK hP 0 rfl rfl 29 (by decide) (ht _ wd3_214) (fun _ h9 => h9) rfl dX8_findKnew_138 ?_
          exact hj141 x1 Sm (Sm.1 12) hf _ _ _ hP hD hS (lv_sub hl [0, 1] rfl)
        · have hf := itP c4 hf
          refine lv_iload_n hx hb dX8_findKnew_133 rfl (lv_at hl 1 rfl) ?_
          refine lv_goto (tgt := 141) hx hb dX8_findKnew_134 (by decide) ?_
          exact hj141 x1 Sm x1 hf _ _ _ hP hD hS (lv_sub hl [0, 1] rfl)
    have hj39 : ∀ (x1 : Int32) (x2 : Int32) (x3 : Int32) (Sm : Bk), lk4 (sX8_findKnew_39 k25) 1000 x1 x2 x3 Sm = some res → ∀ (H : Heap) (locs : List Loc) (ls : Array Slot), va_P D vwCl (wX8_findKnew cI cZ jhm jam Sm) H → va_D A (wX8_findKnew cI cZ jhm jam Sm) → va_S A s.heap H locs → lv_has ls 5 [(0, .ref jhm), (1, .int x1), (2, .int x2), (3, .int x3)] → W p l e (rmF 0 0) s m ([.ref jhm] : List Value).toArray below meth c H locs 0 0 (MQ below (va_Qv (S := Unit) (fun _ => True) (fun _ => qW D (tyL cI cZ cO) A (wX8_findKnew cI cZ jhm jam res)) A) ([.ref jhm] : List Value).toArray s 0 0 A) (F0 m 39 ls []) := by
      refine lk4_w (fun (x1 : Int32) (x2 : Int32) (x3 : Int32) (Sm : Bk) => ∀ (H : Heap) (locs : List Loc) (ls : Array Slot), va_P D vwCl (wX8_findKnew cI cZ jhm jam Sm) H → va_D A (wX8_findKnew cI cZ jhm jam Sm) → va_S A s.heap H locs → lv_has ls 5 [(0, .ref jhm), (1, .int x1), (2, .int x2), (3, .int x3)] → W p l e (rmF 0 0) s m ([.ref jhm] : List Value).toArray below meth c H locs 0 0 (MQ below (va_Qv (S := Unit) (fun _ => True) (fun _ => qW D (tyL cI cZ cO) A (wX8_findKnew cI cZ jhm jam res)) A) ([.ref jhm] : List Value).toArray s 0 0 A) (F0 m 39 ls [])) ?_ 1000
      intro k39 hk39 x1 x2 x3 Sm hf H locs ls hP hD hS hl
      unfold sX8_findKnew_39 at hf
      have hj114 : ∀ (x1 : Int32) (x3 : Int32) (Sm : Bk) (y0 : Int32), gX8_findKnew_114 k25 k39 x1 x3 Sm y0 = some res → ∀ (H : Heap) (locs : List Loc) (ls : Array Slot), va_P D vwCl (wX8_findKnew cI cZ jhm jam Sm) H → va_D A (wX8_findKnew cI cZ jhm jam Sm) → va_S A s.heap H locs → lv_has ls 5 [(0, .ref jhm), (1, .int x1), (3, .int x3)] → W p l e (rmF 0 0) s m ([.ref jhm] : List Value).toArray below meth c H locs 0 0 (MQ below (va_Qv (S := Unit) (fun _ => True) (fun _ => qW D (tyL cI cZ cO) A (wX8_findKnew cI cZ jhm jam res)) A) ([.ref jhm] : List Value).toArray s 0 0 A) (F0 m 114 ls [.int y0]) := by
        intro x1 x3 Sm y0 hf H locs ls hP hD hS hl
        unfold gX8_findKnew_114 at hf
        refine lv_istore_n (lv' := [(2, .int y0), (0, .ref jhm), (1, .int x1), (3, .int x3)]) hx hb dX8_findKnew_114 rfl hl (by decide) rfl (fun ls hl => ?_)
        refine lv_iinc (v := (x3 + (1 : Int32))) (lv' := [(3, .int (x3 + (1 : Int32))), (2, .int y0), (0, .ref jhm), (1, .int x1)]) hx hb dX8_findKnew_115 hl (k := 3) rfl rfl (by decide) rfl (fun ls hl => ?_)
        refine lv_goto (tgt := 39) hx hb dX8_findKnew_118 (by decide) ?_
        exact hk39 x1 y0 (x3 + (1 : Int32)) Sm hf _ _ _ hP hD hS (lv_sub hl [2, 3, 1, 0] rfl)
      have hj109 : ∀ (x1 : Int32) (x3 : Int32) (Sm : Bk), gX8_findKnew_109 k25 k39 x1 x3 Sm = some res → ∀ (H : Heap) (locs : List Loc) (ls : Array Slot), va_P D vwCl (wX8_findKnew cI cZ jhm jam Sm) H → va_D A (wX8_findKnew cI cZ jhm jam Sm) → va_S A s.heap H locs → lv_has ls 5 [(0, .ref jhm), (1, .int x1), (3, .int x3)] → W p l e (rmF 0 0) s m ([.ref jhm] : List Value).toArray below meth c H locs 0 0 (MQ below (va_Qv (S := Unit) (fun _ => True) (fun _ => qW D (tyL cI cZ cO) A (wX8_findKnew cI cZ jhm jam res)) A) ([.ref jhm] : List Value).toArray s 0 0 A) (F0 m 109 ls []) := by
        intro x1 x3 Sm hf H locs ls hP hD hS hl
        unfold gX8_findKnew_109 at hf
        refine lv_iconst (v := (1 : Int32)) hx hb dX8_findKnew_109 rfl ?_
        refine lv_goto (tgt := 114) hx hb dX8_findKnew_110 (by decide) ?_
        exact hj114 x1 x3 Sm (1 : Int32) hf _ _ _ hP hD hS (lv_sub hl [0, 1, 2] rfl)
      have hj100 : ∀ (x1 : Int32) (x3 : Int32) (Sm : Bk) (y0 : Int32), gX8_findKnew_100 k25 k39 x1 x3 Sm y0 = some res → ∀ (H : Heap) (locs : List Loc) (ls : Array Slot), va_P D vwCl (wX8_findKnew cI cZ jhm jam Sm) H → va_D A (wX8_findKnew cI cZ jhm jam Sm) → va_S A s.heap H locs → lv_has ls 5 [(0, .ref jhm), (1, .int x1), (3, .int x3)] → W p l e (rmF 0 0) s m ([.ref jhm] : List Value).toArray below meth c H locs 0 0 (MQ below (va_Qv (S := Unit) (fun _ => True) (fun _ => qW D (tyL cI cZ cO) A (wX8_findKnew cI cZ jhm jam res)) A) ([.ref jhm] : List Value).toArray s 0 0 A) (F0 m 100 ls [.int y0]) := by
        intro x1 x3 Sm y0 hf H locs ls hP hD hS hl
        unfold gX8_findKnew_100 at hf
        refine lv_aload_n hx hb dX8_findKnew_100 rfl (lv_at hl 0 rfl) ?_
        refine va_get (D := D) (ci := 7) (v := .ref (jam 13)) (C := RX8) (T := TX8) (N := 31) hx hb ht inX8 hown hK hP 0 rfl rfl 24 (by decide) (ht _ wd3_209) (fun _ h9 => h9) rfl dX8_findKnew_101 ?_
        refine lv_iload_n hx hb dX8_findKnew_104 rfl (lv_at hl 2 rfl) ?_
        obtain ⟨h5, hf⟩ := inB_s hf
        refine va_zald (f := (Sm.2.1 13)) (n := 6) hx hb hK hP 3 1 rfl rfl h5 dX8_findKnew_105 ?_
        refine lv_icmp_ne (tgt := 113) hx hb dX8_findKnew_106 (by decide) (fun c6 => ?_) (fun c6 => ?_)
        · have hf := itN c6 hf
          refine lv_iconst (v := (0 : Int32)) hx hb dX8_findKnew_113 rfl ?_
          exact hj114 x1 x3 Sm (0 : Int32) hf _ _ _ hP hD hS (lv_sub hl [0, 1, 2] rfl)
        · have hf := itP c6 hf
          exact hj109 x1 x3 Sm hf _ _ _ hP hD hS (lv_sub hl [0, 1, 2] rfl)
      refine lv_iload_n hx hb dX8_findKnew_39 rfl (lv_at hl 3 rfl) ?_
      refine lv_aload_n hx hb dX8_findKnew_40 rfl (lv_at hl 0 rfl) ?_
      refine va_get (D := D) (ci := 7) (v := .int (Sm.1 10)) (C := RX8) (T := TX8) (N := 31) hx hb ht inX8 hown hK hP 0 rfl rfl 22 (by decide) (ht _ wd3_207) (fun _ h9 => h9) rfl dX8_findKnew_41 ?_
      refine lv_icmp_ge (tgt := 121) hx hb dX8_findKnew_44 (by decide) (fun c7 => ?_) (fun c7 => ?_)
      · have hf := itP c7 hf
        exact hj121 x1 x2 Sm hf _ _ _ hP hD hS (lv_sub hl [0, 1, 2] rfl)
      · have hf := itN c7 hf
        refine lv_iload_n hx hb dX8_findKnew_47 rfl (lv_at hl 2 rfl) ?_
        refine lv_if_eq (tgt := 121) hx hb dX8_findKnew_48 (by decide) (fun c8 => ?_) (fun c8 => ?_)
        · have hf := itP c8 hf
          exact hj121 x1 x2 Sm hf _ _ _ hP hD hS (lv_sub hl [0, 1, 2] rfl)
        · have hf := itN c8 hf
          refine lv_aload_n hx hb dX8_findKnew_51 rfl (lv_at hl 0 rfl) ?_
          refine va_get (D := D) (ci := 7) (v := .ref (jam 12)) (C := RX8) (T := TX8) (N := 31) hx hb ht inX8 hown hK hP 0 rfl rfl 23 (by decide) (ht _ wd3_208) (fun _ h9 => h9) rfl dX8_findKnew_52 ?_
          refine lv_iload_n hx hb dX8_findKnew_55 rfl (lv_at hl 3 rfl) ?_
          obtain ⟨h9, hf⟩ := inB_s hf
          refine va_iald (f := (Sm.2.1 12)) (n := 6) hx hb hK hP 2 0 rfl rfl h9 dX8_findKnew_56 ?_
          refine lv_istore (lv' := [(4, .int ((Sm.2.1 12) x3.toNatClampNeg)), (0, .ref jhm), (1, .int x1), (2, .int x2), (3, .int x3)]) hx hb dX8_findKnew_57 hl (by decide) rfl (fun ls hl => ?_)
          refine lv_iload hx hb dX8_findKnew_59 (lv_at hl 0 rfl) ?_
          refine lv_aload_n hx hb dX8_findKnew_61 rfl (lv_at hl 1 rfl) ?_
          refine va_get (D := D) (ci := 7) (v := .int (Sm.1 5)) (C := RX8) (T := TX8) (N := 31) hx hb ht inX8 hown hK hP 0 rfl rfl 6 (by decide) (ht _ wd3_191) (fun _ h9 => h9) rfl dX8_findKnew_62 ?_
          refine lv_icmp_ge (tgt := 109) hx hb dX8_findKnew_65 (by decide) (fun c10 => ?_) (fun c10 => ?_)
          · have hf := itP c10 hf
            exact hj109 x1 x3 Sm hf _ _ _ hP hD hS (lv_sub hl [1, 2, 4] rfl)
          · have hf := itN c10 hf
            refine lv_iload_n hx hb dX8_findKnew_68 rfl (lv_at hl 2 rfl) ?_
            refine lv_aload_n hx hb dX8_findKnew_69 rfl (lv_at hl 1 rfl) ?_
            refine va_get (D := D) (ci := 7) (v := .ref (jam 3)) (C := RX8) (T := TX8) (N := 31) hx hb ht inX8 hown hK hP 0 rfl rfl 9 (by decide) (ht _ wd3_194) (fun _ h9 => h9) rfl dX8_findKnew_70 ?_
            refine lv_iconst (v := (5 : Int32)) hx hb dX8_findKnew_73 rfl ?_
            refine lv_iload hx hb dX8_findKnew_74 (lv_at hl 0 rfl) ?_
            refine lv_imul hx hb dX8_findKnew_76 ?_
            obtain ⟨h11, hf⟩ := inB_s hf
            refine va_iald (f := (Sm.2.1 3)) (n := 20) hx hb hK hP 1 0 rfl rfl h11 dX8_findKnew_77 ?_
            refine lv_ishr hx hb dX8_findKnew_78 ?_
            refine lv_iconst (v := (1 : Int32)) hx hb dX8_findKnew_79 rfl ?_
            refine lv_iand hx hb dX8_findKnew_80 ?_
            refine lv_aload_n hx hb dX8_findKnew_81 rfl (lv_at hl 1 rfl) ?_
            refine va_get (D := D) (ci := 7) (v := .ref (jam 3)) (C := RX8) (T := TX8) (N := 31) hx hb ht inX8 hown hK hP 0 rfl rfl 9 (by decide) (ht _ wd3_194) (fun _ h9 => h9) rfl dX8_findKnew_82 ?_
            refine lv_iconst (v := (5 : Int32)) hx hb dX8_findKnew_85 rfl ?_
            refine lv_iload hx hb dX8_findKnew_86 (lv_at hl 0 rfl) ?_
            refine lv_imul hx hb dX8_findKnew_88 ?_
            refine lv_iconst (v := (1 : Int32)) hx hb dX8_findKnew_89 rfl ?_
            refine lv_iadd hx hb dX8_findKnew_90 ?_
            obtain ⟨h12, hf⟩ := inB_s hf
            refine va_iald (f := (Sm.2.1 3)) (n := 20) hx hb hK hP 1 0 rfl rfl h12 dX8_findKnew_91 ?_
            refine lv_icmp_ne (tgt := 99) hx hb dX8_findKnew_92 (by decide) (fun c13 => ?_) (fun c13 => ?_)
            · have hf := itN c13 hf
              refine lv_iconst (v := (0 : Int32)) hx hb dX8_findKnew_99 rfl ?_
              exact hj100 x1 x3 Sm (0 : Int32) hf _ _ _ hP hD hS (lv_sub hl [1, 2, 4] rfl)
            · have hf := itP c13 hf
              refine lv_iconst (v := (1 : Int32)) hx hb dX8_findKnew_95 rfl ?_
              refine lv_goto (tgt := 100) hx hb dX8_findKnew_96 (by decide) ?_
              exact hj100 x1 x3 Sm (1 : Int32) hf _ _ _ hP hD hS (lv_sub hl [1, 2, 4] rfl)
    refine lv_iload_n hx hb dX8_findKnew_25 rfl (lv_at hl 1 rfl) ?_
    refine lv_iconst (v := (1 : Int32)) hx hb dX8_findKnew_26 rfl ?_
    refine lv_aload_n hx hb dX8_findKnew_27 rfl (lv_at hl 0 rfl) ?_
    refine va_get (D := D) (ci := 7) (v := .int (Sm.1 4)) (C := RX8) (T := TX8) (N := 31) hx hb ht inX8 hown hK hP 0 rfl rfl 5 (by decide) (ht _ wd3_190) (fun _ h9 => h9) rfl dX8_findKnew_28 ?_
    refine lv_ishl hx hb dX8_findKnew_31 ?_
    refine lv_icmp_ge (tgt := 170) hx hb dX8_findKnew_32 (by decide) (fun c14 => ?_) (fun c14 => ?_)
    · have hf := itP c14 hf
      cases hf
      exact W.vret hx hb hr (fun t ht9 hW => ⟨⟨(), rfl, trivial, by rw [ht9]; exact hP, va_K.moved hW.alike hK, hD⟩, hS.F ht9⟩) hS.2.2 dX8_findKnew_170
    · have hf := itN c14 hf
      refine lv_iconst (v := (1 : Int32)) hx hb dX8_findKnew_35 rfl ?_
      refine lv_istore_n (lv' := [(2, .int (1 : Int32)), (0, .ref jhm), (1, .int x1)]) hx hb dX8_findKnew_36 rfl hl (by decide) rfl (fun ls hl => ?_)
      refine lv_iconst (v := (0 : Int32)) hx hb dX8_findKnew_37 rfl ?_
      refine lv_istore_n (lv' := [(3, .int (0 : Int32)), (2, .int (1 : Int32)), (0, .ref jhm), (1, .int x1)]) hx hb dX8_findKnew_38 rfl hl (by decide) rfl (fun ls hl => ?_)
      exact hj39 x1 (1 : Int32) (0 : Int32) Sm hf _ _ _ hP hD hS (lv_sub hl [2, 3, 1, 0] rfl)
  intro H locs hP hS
  refine lv_aload_n hx hb dX8_findKnew_0 rfl (lv_at hl 0 rfl) ?_
  refine lv_iconst (v := (0 : Int32)) hx hb dX8_findKnew_1 rfl ?_
  refine va_put (D := D) (ci := 7) (v := .int (0 : Int32)) (ty := .int) (C := RX8) (T := TX8) (N := 31) hx hb ht inX8 tyX8 tyX8_ok nmX8 hown hK hP hD hS 0 rfl rfl 28 (by decide) (ht _ wd3_213) (fun _ h9 => h9) rfl (tyX8_ok 28 (by decide)) rfl rfl (Nat.le_of_ble_eq_true rfl) dX8_findKnew_2 (fun H locs hP hD hS => ?_)
  have hP : va_P D vwCl (wX8_findKnew cI cZ jhm jam (bI Sm 11 (0 : Int32))) H := hP
  have hD : va_D A (wX8_findKnew cI cZ jhm jam (bI Sm 11 (0 : Int32))) := hD
  refine lv_aload_n hx hb dX8_findKnew_5 rfl (lv_at hl 0 rfl) ?_
  refine lv_bipush (v := (-9 : Int32)) hx hb dX8_findKnew_6 rfl ?_
  refine va_put (D := D) (ci := 7) (v := .int (-9 : Int32)) (ty := .int) (C := RX8) (T := TX8) (N := 31) hx hb ht inX8 tyX8 tyX8_ok nmX8 hown hK hP hD hS 0 rfl rfl 29 (by decide) (ht _ wd3_214) (fun _ h9 => h9) rfl (tyX8_ok 29 (by decide)) rfl rfl (Nat.le_of_ble_eq_true rfl) dX8_findKnew_8 (fun H locs hP hD hS => ?_)
  have hP : va_P D vwCl (wX8_findKnew cI cZ jhm jam (bI (bI Sm 11 (0 : Int32)) 12 (-9 : Int32))) H := hP
  have hD : va_D A (wX8_findKnew cI cZ jhm jam (bI (bI Sm 11 (0 : Int32)) 12 (-9 : Int32))) := hD
  refine lv_aload_n hx hb dX8_findKnew_11 rfl (lv_at hl 0 rfl) ?_
  refine lv_iconst (v := (1 : Int32)) hx hb dX8_findKnew_12 rfl ?_
  refine lv_aload_n hx hb dX8_findKnew_13 rfl (lv_at hl 0 rfl) ?_
  refine va_get (D := D) (ci := 7) (v := .int (Sm.1 4)) (C := RX8) (T := TX8) (N := 31) hx hb ht inX8 hown hK hP 0 rfl rfl 5 (by decide) (ht _ wd3_190) (fun _ h9 => h9) rfl dX8_findKnew_14 ?_
  refine lv_ishl hx hb dX8_findKnew_17 ?_
  refine lv_iconst (v := (1 : Int32)) hx hb dX8_findKnew_18 rfl ?_
  refine lv_isub hx hb dX8_findKnew_19 ?_
  obtain ⟨v15, ev15, hf⟩ := nmV_s hf
  rw [← ev15]
  refine va_put (D := D) (ci := 7) (v := .int v15) (ty := .int) (C := RX8) (T := TX8) (N := 31) hx hb ht inX8 tyX8 tyX8_ok nmX8 hown hK hP hD hS 0 rfl rfl 30 (by decide) (ht _ wd3_215) (fun _ h9 => h9) rfl (tyX8_ok 30 (by decide)) rfl rfl (Nat.le_of_ble_eq_true rfl) dX8_findKnew_20 (fun H locs hP hD hS => ?_)
  have hP : va_P D vwCl (wX8_findKnew cI cZ jhm jam (bI (bI (bI Sm 11 (0 : Int32)) 12 (-9 : Int32)) 13 v15)) H := hP
  have hD : va_D A (wX8_findKnew cI cZ jhm jam (bI (bI (bI Sm 11 (0 : Int32)) 12 (-9 : Int32)) 13 v15)) := hD
  refine lv_iconst (v := (0 : Int32)) hx hb dX8_findKnew_23 rfl ?_
  refine lv_istore_n (lv' := [(1, .int (0 : Int32)), (0, .ref jhm)]) hx hb dX8_findKnew_24 rfl hl (by decide) rfl (fun ls hl => ?_)
  exact hj25 (0 : Int32) (bI (bI (bI Sm 11 (0 : Int32)) 12 (-9 : Int32)) 13 v15) hf _ _ _ hP hD hS (lv_sub hl [1, 0] rfl)
abbrev wX8_knew (cI cZ : ClassId) (jhm : Nat) (jam : Nat → Nat) (Sm : Bk) : va_W := [(jhm, .inr (7, [.int (Sm.1 0), .ref (jam 0), .int (Sm.1 1), .int (Sm.1 2), .int (Sm.1 3), .int (Sm.1 4), .int (Sm.1 5), .ref (jam 1), .ref (jam 2), .ref (jam 3), .int (Sm.1 6), .int (Sm.1 7), .int (Sm.1 8), .ref (jam 4), .ref (jam 5), .ref (jam 6), .ref (jam 7), .ref (jam 8), .ref (jam 9), .int (Sm.1 9), .ref (jam 10), .ref (jam 11), .int (Sm.1 10), .ref (jam 12), .ref (jam 13), .long Sm.2.2, .ref (jam 14), .ref (jam 15), .int (Sm.1 11), .int (Sm.1 12), .int (Sm.1 13)])), (jam 3, .inl (cI, 20, .inl (Sm.2.1 3))), (jam 12, .inl (cI, 6, .inl (Sm.2.1 12))), (jam 13, .inl (cZ, 6, .inl (Sm.2.1 13)))]
def fX8_knew (Sm : Bk) (x1 : Int32) : Option (Int32 × Bk) := (fX8_in x1.toInt64 (0 : Int64) (2 : Int64)).bind (fun u1 => (if u1 = 0 then some ((-2 : Int32), (bI Sm 0 (0 : Int32))) else (fX8_findKnew (bI Sm 0 (0 : Int32))).bind (fun u4 => (if x1 = 0 then some ((u4.1 11), u4) else (if (u4.1 11) = 0 then some ((-9 : Int32), u4) else (if x1 = (1 : Int32) then some ((u4.1 12), u4) else some ((u4.1 13), u4)))))))
theorem miX8_knew : MI yX8_knew cX8_knew 2 (some .int) 1 := ⟨wd1_8, wd5_37, by decide +kernel⟩
theorem mjX8_knew : Cond.instanceMethod yX8_knew ∈ wT ∧ Cond.selects yX8_knew.cls yX8_knew yX8_knew ∈ wT := ⟨wd5_35, wd5_36⟩
set_option maxHeartbeats 4000000 in
set_option maxRecDepth 100000 in
theorem qX8_knew (l : Launch) (D : va_G) (cI cZ cO : ClassId) (jhm : Nat) (jam : Nat → Nat) (Sm : Bk) (x1 : Int32) (sz : Nat) (res : Int32 × Bk) (hf : fX8_knew Sm x1 = some res) : Met l yX8_knew (Cond.code yX8_knew cX8_knew 2 (some .int) :: wT) (rmF 1 25) (va_Pc [.ref jhm, .int x1] (cW D (tyL cI cZ cO) (wX8_knew cI cZ jhm jam Sm) sz)) (va_Qi (S := Unit) (fun r _ => r = res.1) (fun _ => qW D (tyL cI cZ cO) (va_A (wX8_knew cI cZ jhm jam Sm) sz) (wX8_knew cI cZ jhm jam res.2)) (va_A (wX8_knew cI cZ jhm jam Sm) sz)) 0 0 (va_A (wX8_knew cI cZ jhm jam Sm) sz) := by
  refine met_w (by decide) (Nat.le_of_ble_eq_true rfl) ?_
  intro p e s m below meth c hx hb hr hml ht hown hlk ls hl hsz hP hK hD0 hZ
  subst hsz
  have hD := hD0.self (sz := s.heap.size)
  generalize hAe : va_A (wX8_knew cI cZ jhm jam Sm) s.heap.size = A at hD hZ ⊢
  have hA : ∀ q : Nat, s.heap.size ≤ q → A q := fun q h => by rw [← hAe]; exact Or.inr h
  have hS : va_S A s.heap s.heap [] := va_S.rf
  have hown : s.vm.findClass "EyeDrinkModel" = some m.cls := hown
  have hl : lv_has ls 2 [(0, .ref jhm), (1, .int x1)] := hl
  have hC : CallFix p m c cX8_knew 2 s ([.ref jhm, .int x1] : List Value).toArray wT "EyeDrinkModel" := ⟨hx, hb, hml, hown, ht⟩
  unfold fX8_knew at hf
  suffices hgo : ∀ (H : Heap) (locs : List Loc), va_P D vwCl (wX8_knew cI cZ jhm jam Sm) H → va_S A s.heap H locs → W p l e (rmF 1 25) s m ([.ref jhm, .int x1] : List Value).toArray below meth c H locs 0 0 (MQ below (va_Qi (S := Unit) (fun r _ => r = res.1) (fun _ => qW D (tyL cI cZ cO) A (wX8_knew cI cZ jhm jam res.2)) A) ([.ref jhm, .int x1] : List Value).toArray s 0 0 A) (F0 m 0 ls []) from hgo s.heap [] hP hS
  intro H locs hP hS
  refine lv_aload_n hx hb dX8_knew_0 rfl (lv_at hl 0 rfl) ?_
  refine lv_iconst (v := (0 : Int32)) hx hb dX8_knew_1 rfl ?_
  refine va_put (D := D) (ci := 7) (v := .int (0 : Int32)) (ty := .int) (C := RX8) (T := TX8) (N := 31) hx hb ht inX8 tyX8 tyX8_ok nmX8 hown hK hP hD hS 0 rfl rfl 0 (by decide) (ht _ wd3_185) (fun _ h9 => h9) rfl (tyX8_ok 0 (by decide)) rfl rfl (Nat.le_of_ble_eq_true rfl) dX8_knew_2 (fun H locs hP hD hS => ?_)
  have hP : va_P D vwCl (wX8_knew cI cZ jhm jam (bI Sm 0 (0 : Int32))) H := hP
  have hD : va_D A (wX8_knew cI cZ jhm jam (bI Sm 0 (0 : Int32))) := hD
  refine lv_iload_n hx hb dX8_knew_5 rfl (lv_at hl 1 rfl) ?_
  refine lv_i2l hx hb dX8_knew_6 rfl ?_
  refine lv_lconst (v := 0) hx hb dX8_knew_7 rfl ?_
  refine lv_ldc2 hx hb hown (ht _ wd4_99) dX8_knew_8 ?_
  obtain ⟨u1, e2, hf⟩ := bdS hf
  refine k_pS (As := [.long x1.toInt64, .long (0 : Int64), .long (2 : Int64)]) (rest := []) hC miX8_in mjX8_in wd4_44 (qX8_in l x1.toInt64 (0 : Int64) (2 : Int64) u1 e2) ⟨Nat.le_of_ble_eq_true rfl, Nat.le_of_ble_eq_true rfl⟩ hl.1 rfl rfl (Nat.le_of_ble_eq_true rfl) dX8_knew_11 ?_
  refine lv_if_ne (tgt := 20) hx hb dX8_knew_14 (by decide) (fun c3 => ?_) (fun c3 => ?_)
  · have hf := itN c3 hf
    refine lv_aload_n hx hb dX8_knew_20 rfl (lv_at hl 0 rfl) ?_
    obtain ⟨u4, e5, hf⟩ := bdS hf
    refine k_wVv (ws' := (wX8_knew cI cZ jhm jam u4)) (wr := []) (As := []) (rest := []) hC miX8_findKnew mjX8_findKnew.1 mjX8_findKnew.2 wd5_38 (qX8_findKnew l D cI cZ cO jhm jam (bI Sm 0 (0 : Int32)) H.size u4 e5) ⟨Nat.le_of_ble_eq_true rfl, Nat.le_of_ble_eq_true rfl⟩ hP hD hK hZ hS hA [0, 1, 2, 3] [] [0, 1, 2, 3] rfl (by decide) rfl (by decide) (by decide) (by decide) rfl (va_recv hK hP (ci := 7) (q0 := 0) rfl rfl) hl.1 rfl rfl (Nat.le_of_ble_eq_true rfl) dX8_knew_21 (fun H locs hP hD hS => ?_)
    refine lv_iload_n hx hb dX8_knew_24 rfl (lv_at hl 1 rfl) ?_
    refine lv_if_ne (tgt := 35) hx hb dX8_knew_25 (by decide) (fun c6 => ?_) (fun c6 => ?_)
    · have hf := itN c6 hf
      refine lv_aload_n hx hb dX8_knew_35 rfl (lv_at hl 0 rfl) ?_
      refine va_get (D := D) (ci := 7) (v := .int (u4.1 11)) (C := RX8) (T := TX8) (N := 31) hx hb ht inX8 hown hK hP 0 rfl rfl 28 (by decide) (ht _ wd3_213) (fun _ h9 => h9) rfl dX8_knew_36 ?_
      refine lv_if_ne (tgt := 47) hx hb dX8_knew_39 (by decide) (fun c7 => ?_) (fun c7 => ?_)
      · have hf := itN c7 hf
        refine lv_iload_n hx hb dX8_knew_47 rfl (lv_at hl 1 rfl) ?_
        refine lv_iconst (v := (1 : Int32)) hx hb dX8_knew_48 rfl ?_
        refine lv_icmp_ne (tgt := 59) hx hb dX8_knew_49 (by decide) (fun c8 => ?_) (fun c8 => ?_)
        · have hf := itN c8 hf
          refine lv_aload_n hx hb dX8_knew_59 rfl (lv_at hl 0 rfl) ?_
          refine va_get (D := D) (ci := 7) (v := .int (u4.1 13)) (C := RX8) (T := TX8) (N := 31) hx hb ht inX8 hown hK hP 0 rfl rfl 30 (by decide) (ht _ wd3_215) (fun _ h9 => h9) rfl dX8_knew_60 ?_
          cases hf
          exact W.iret hx hb hr (fun t ht9 hW => ⟨⟨_, (), rfl, rfl, by rw [ht9]; exact hP, va_K.moved hW.alike hK, hD⟩, hS.F ht9⟩) hS.2.2 dX8_knew_63
        · have hf := itP c8 hf
          refine lv_aload_n hx hb dX8_knew_52 rfl (lv_at hl 0 rfl) ?_
          refine va_get (D := D) (ci := 7) (v := .int (u4.1 12)) (C := RX8) (T := TX8) (N := 31) hx hb ht inX8 hown hK hP 0 rfl rfl 29 (by decide) (ht _ wd3_214) (fun _ h9 => h9) rfl dX8_knew_53 ?_
          refine lv_goto (tgt := 63) hx hb dX8_knew_56 (by decide) ?_
          cases hf
          exact W.iret hx hb hr (fun t ht9 hW => ⟨⟨_, (), rfl, rfl, by rw [ht9]; exact hP, va_K.moved hW.alike hK, hD⟩, hS.F ht9⟩) hS.2.2 dX8_knew_63
      · have hf := itP c7 hf
        refine lv_bipush (v := (-9 : Int32)) hx hb dX8_knew_42 rfl ?_
        refine lv_goto (tgt := 63) hx hb dX8_knew_44 (by decide) ?_
        cases hf
        exact W.iret hx hb hr (fun t ht9 hW => ⟨⟨_, (), rfl, rfl, by rw [ht9]; exact hP, va_K.moved hW.alike hK, hD⟩, hS.F ht9⟩) hS.2.2 dX8_knew_63
    · have hf := itP c6 hf
      refine lv_aload_n hx hb dX8_knew_28 rfl (lv_at hl 0 rfl) ?_
      refine va_get (D := D) (ci := 7) (v := .int (u4.1 11)) (C := RX8) (T := TX8) (N := 31) hx hb ht inX8 hown hK hP 0 rfl rfl 28 (by decide) (ht _ wd3_213) (fun _ h9 => h9) rfl dX8_knew_29 ?_
      refine lv_goto (tgt := 63) hx hb dX8_knew_32 (by decide) ?_
      cases hf
      exact W.iret hx hb hr (fun t ht9 hW => ⟨⟨_, (), rfl, rfl, by rw [ht9]; exact hP, va_K.moved hW.alike hK, hD⟩, hS.F ht9⟩) hS.2.2 dX8_knew_63
  · have hf := itP c3 hf
    refine lv_bipush (v := (-2 : Int32)) hx hb dX8_knew_17 rfl ?_
    cases hf
    exact W.iret hx hb hr (fun t ht9 hW => ⟨⟨_, (), rfl, rfl, by rw [ht9]; exact hP, va_K.moved hW.alike hK, hD⟩, hS.F ht9⟩) hS.2.2 dX8_knew_19
abbrev wX8_seed (cI cZ : ClassId) (jhm : Nat) (jam : Nat → Nat) (Sm : Bk) : va_W := [(jhm, .inr (7, [.int (Sm.1 0), .ref (jam 0), .int (Sm.1 1), .int (Sm.1 2), .int (Sm.1 3), .int (Sm.1 4), .int (Sm.1 5), .ref (jam 1), .ref (jam 2), .ref (jam 3), .int (Sm.1 6), .int (Sm.1 7), .int (Sm.1 8), .ref (jam 4), .ref (jam 5), .ref (jam 6), .ref (jam 7), .ref (jam 8), .ref (jam 9), .int (Sm.1 9), .ref (jam 10), .ref (jam 11), .int (Sm.1 10), .ref (jam 12), .ref (jam 13), .long Sm.2.2, .ref (jam 14), .ref (jam 15), .int (Sm.1 11), .int (Sm.1 12), .int (Sm.1 13)]))]
def fX8_seed (Sm : Bk) (x1 : Int64) : Option (Int64 × Bk) := some (Sm.2.2, (bJ (bI Sm 0 (0 : Int32)) x1))
theorem miX8_seed : MI yX8_seed cX8_seed 5 (some .long) 1 := ⟨wd1_8, wd5_45, by decide +kernel⟩
theorem mjX8_seed : Cond.instanceMethod yX8_seed ∈ wT ∧ Cond.selects yX8_seed.cls yX8_seed yX8_seed ∈ wT := ⟨wd5_43, wd5_44⟩
set_option maxHeartbeats 4000000 in
set_option maxRecDepth 100000 in
theorem qX8_seed (l : Launch) (D : va_G) (cI cZ cO : ClassId) (jhm : Nat) (jam : Nat → Nat) (Sm : Bk) (x1 : Int64) (sz : Nat) (res : Int64 × Bk) (hf : fX8_seed Sm x1 = some res) : Met l yX8_seed (Cond.code yX8_seed cX8_seed 5 (some .long) :: wT) (rmF 0 0) (va_Pc [.ref jhm, .long x1] (cW D (tyL cI cZ cO) (wX8_seed cI cZ jhm jam Sm) sz)) (va_Ql (S := Unit) (fun r _ => r = res.1) (fun _ => qW D (tyL cI cZ cO) (va_A (wX8_seed cI cZ jhm jam Sm) sz) (wX8_seed cI cZ jhm jam res.2)) (va_A (wX8_seed cI cZ jhm jam Sm) sz)) 0 0 (va_A (wX8_seed cI cZ jhm jam Sm) sz) := by
  refine met_w (by decide) (Nat.le_of_ble_eq_true rfl) ?_
  intro p e s m below meth c hx hb hr hml ht hown hlk ls hl hsz hP hK hD0 hZ
  subst hsz
  have hD := hD0.self (sz := s.heap.size)
  generalize hAe : va_A (wX8_seed cI cZ jhm jam Sm) s.heap.size = A at hD hZ ⊢
  have hA : ∀ q : Nat, s.heap.size ≤ q → A q := fun q h => by rw [← hAe]; exact Or.inr h
  have hS : va_S A s.heap s.heap [] := va_S.rf
  have hown : s.vm.findClass "EyeDrinkModel" = some m.cls := hown
  have hl : lv_has ls 5 [(0, .ref jhm), (1, .long x1)] := hl
  unfold fX8_seed at hf
  suffices hgo : ∀ (H : Heap) (locs : List Loc), va_P D vwCl (wX8_seed cI cZ jhm jam Sm) H → va_S A s.heap H locs → W p l e (rmF 0 0) s m ([.ref jhm, .long x1] : List Value).toArray below meth c H locs 0 0 (MQ below (va_Ql (S := Unit) (fun r _ => r = res.1) (fun _ => qW D (tyL cI cZ cO) A (wX8_seed cI cZ jhm jam res.2)) A) ([.ref jhm, .long x1] : List Value).toArray s 0 0 A) (F0 m 0 ls []) from hgo s.heap [] hP hS
  intro H locs hP hS
  refine lv_aload_n hx hb dX8_seed_0 rfl (lv_at hl 0 rfl) ?_
  refine lv_iconst (v := (0 : Int32)) hx hb dX8_seed_1 rfl ?_
  refine va_put (D := D) (ci := 7) (v := .int (0 : Int32)) (ty := .int) (C := RX8) (T := TX8) (N := 31) hx hb ht inX8 tyX8 tyX8_ok nmX8 hown hK hP hD hS 0 rfl rfl 0 (by decide) (ht _ wd3_185) (fun _ h9 => h9) rfl (tyX8_ok 0 (by decide)) rfl rfl (Nat.le_of_ble_eq_true rfl) dX8_seed_2 (fun H locs hP hD hS => ?_)
  have hP : va_P D vwCl (wX8_seed cI cZ jhm jam (bI Sm 0 (0 : Int32))) H := hP
  have hD : va_D A (wX8_seed cI cZ jhm jam (bI Sm 0 (0 : Int32))) := hD
  refine lv_aload_n hx hb dX8_seed_5 rfl (lv_at hl 0 rfl) ?_
  refine va_get (D := D) (ci := 7) (v := .long Sm.2.2) (C := RX8) (T := TX8) (N := 31) hx hb ht inX8 hown hK hP 0 rfl rfl 25 (by decide) (ht _ wd3_210) (fun _ h9 => h9) rfl dX8_seed_6 ?_
  refine lv_lstore_n (lv' := [(3, .long Sm.2.2), (0, .ref jhm), (1, .long x1)]) hx hb dX8_seed_9 rfl hl (by decide) rfl (fun ls hl => ?_)
  refine lv_aload_n hx hb dX8_seed_10 rfl (lv_at hl 1 rfl) ?_
  refine lv_lload_n hx hb dX8_seed_11 rfl (lv_at hl 2 rfl) ?_
  refine va_put (D := D) (ci := 7) (v := .long x1) (ty := .long) (C := RX8) (T := TX8) (N := 31) hx hb ht inX8 tyX8 tyX8_ok nmX8 hown hK hP hD hS 0 rfl rfl 25 (by decide) (ht _ wd3_210) (fun _ h9 => h9) rfl (tyX8_ok 25 (by decide)) rfl rfl (Nat.le_of_ble_eq_true rfl) dX8_seed_12 (fun H locs hP hD hS => ?_)
  have hP : va_P D vwCl (wX8_seed cI cZ jhm jam (bJ (bI Sm 0 (0 : Int32)) x1)) H := hP
  have hD : va_D A (wX8_seed cI cZ jhm jam (bJ (bI Sm 0 (0 : Int32)) x1)) := hD
  refine lv_lload_n hx hb dX8_seed_15 rfl (lv_at hl 0 rfl) ?_
  cases hf
  exact W.lret hx hb hr (fun t ht9 hW => ⟨⟨_, (), rfl, rfl, by rw [ht9]; exact hP, va_K.moved hW.alike hK, hD⟩, hS.F ht9⟩) hS.2.2 dX8_seed_16
abbrev wX8_drinkers (cI cZ : ClassId) (jhm : Nat) (jam : Nat → Nat) (Sm : Bk) : va_W := [(jhm, .inr (7, [.int (Sm.1 0), .ref (jam 0), .int (Sm.1 1), .int (Sm.1 2), .int (Sm.1 3), .int (Sm.1 4), .int (Sm.1 5), .ref (jam 1), .ref (jam 2), .ref (jam 3), .int (Sm.1 6), .int (Sm.1 7), .int (Sm.1 8), .ref (jam 4), .ref (jam 5), .ref (jam 6), .ref (jam 7), .ref (jam 8), .ref (jam 9), .int (Sm.1 9), .ref (jam 10), .ref (jam 11), .int (Sm.1 10), .ref (jam 12), .ref (jam 13), .long Sm.2.2, .ref (jam 14), .ref (jam 15), .int (Sm.1 11), .int (Sm.1 12), .int (Sm.1 13)])), (jam 1, .inl (cI, 12, .inl (Sm.2.1 1))), (jam 2, .inl (cI, 16, .inl (Sm.2.1 2))), (jam 3, .inl (cI, 20, .inl (Sm.2.1 3))), (jam 7, .inl (cI, 16, .inl (Sm.2.1 7))), (jam 8, .inl (cI, 16, .inl (Sm.2.1 8)))]
def gX8_drinkers_151 (x1 : Int32) (k48 : Int32 → Bk → Option (Int32 × Bk)) (x2 : Int32) (Sm : Bk) : Option (Int32 × Bk) := (fX8_goDay Sm (Sm.2.1 8) 16).bind (fun u1 => k48 (x2 + (1 : Int32)) (bA Sm 8 u1.2))
def gX8_drinkers_111 (x1 : Int32) (k48 : Int32 → Bk → Option (Int32 × Bk)) (x2 : Int32) (x3 : Int32) (Sm : Bk) : Option (Int32 × Bk) := (if x3 ≤ (3 : Int32) then gX8_drinkers_151 x1 k48 x2 Sm else (if (Sm.1 5) ≤ (x3 - (4 : Int32)) then gX8_drinkers_151 x1 k48 x2 Sm else (fX8_noAct Sm (Sm.2.1 8) 16 (x3 - (4 : Int32))).bind (fun u5 => (if u5 = 0 then (fX8_goAct Sm (Sm.2.1 8) 16 (x3 - (4 : Int32))).bind (fun u8 => gX8_drinkers_151 x1 k48 x2 (bA Sm 8 u8)) else gX8_drinkers_151 x1 k48 x2 Sm))))
def sX8_drinkers_48 (x1 : Int32) (k48 : Int32 → Bk → Option (Int32 × Bk)) (x2 : Int32) (Sm : Bk) : Option (Int32 × Bk) := (if x1 ≤ x2 then (fX8_estateOf Sm (Sm.2.1 8) 16).bind (fun u11 => some (u11, Sm)) else nmV ((Sm.2.2 * (6364136223846793005 : Int64)) + (1442695040888963407 : Int64)) (fun v13 => (if (Sm.1 4) ≤ ((v13.toUInt64 >>> ((33 : Int32).toInt64.toUInt64 &&& Int64.toUInt64 63)).toInt64 - (v13.toUInt64 >>> ((33 : Int32).toInt64.toUInt64 &&& Int64.toUInt64 63)).toInt64 / (8 : Int64) * (8 : Int64)).toInt32 then gX8_drinkers_111 x1 k48 x2 (((v13.toUInt64 >>> ((33 : Int32).toInt64.toUInt64 &&& Int64.toUInt64 63)).toInt64 - (v13.toUInt64 >>> ((33 : Int32).toInt64.toUInt64 &&& Int64.toUInt64 63)).toInt64 / (8 : Int64) * (8 : Int64)).toInt32) (bJ Sm v13) else (fX8_noDrink (bJ Sm v13) (Sm.2.1 8) 16 (((v13.toUInt64 >>> ((33 : Int32).toInt64.toUInt64 &&& Int64.toUInt64 63)).toInt64 - (v13.toUInt64 >>> ((33 : Int32).toInt64.toUInt64 &&& Int64.toUInt64 63)).toInt64 / (8 : Int64) * (8 : Int64)).toInt32)).bind (fun u15 => (if u15 = 0 then (fX8_goDrink (bJ Sm v13) (Sm.2.1 8) 16 (((v13.toUInt64 >>> ((33 : Int32).toInt64.toUInt64 &&& Int64.toUInt64 63)).toInt64 - (v13.toUInt64 >>> ((33 : Int32).toInt64.toUInt64 &&& Int64.toUInt64 63)).toInt64 / (8 : Int64) * (8 : Int64)).toInt32)).bind (fun u18 => gX8_drinkers_111 x1 k48 x2 (((v13.toUInt64 >>> ((33 : Int32).toInt64.toUInt64 &&& Int64.toUInt64 63)).toInt64 - (v13.toUInt64 >>> ((33 : Int32).toInt64.toUInt64 &&& Int64.toUInt64 63)).toInt64 / (8 : Int64) * (8 : Int64)).toInt32) (bA (bJ Sm v13) 8 u18)) else gX8_drinkers_111 x1 k48 x2 (((v13.toUInt64 >>> ((33 : Int32).toInt64.toUInt64 &&& Int64.toUInt64 63)).toInt64 - (v13.toUInt64 >>> ((33 : Int32).toInt64.toUInt64 &&& Int64.toUInt64 63)).toInt64 / (8 : Int64) * (8 : Int64)).toInt32) (bJ Sm v13))))))
def sX8_drinkers_22 (x1 : Int32) (k22 : Int32 → Bk → Option (Int32 × Bk)) (x2 : Int32) (Sm : Bk) : Option (Int32 × Bk) := (if (16 : Int32) ≤ x2 then lk2 (sX8_drinkers_48 x1) 1000 (0 : Int32) Sm else inB 16 x2 (nmV ((Sm.2.1 7) x2.toNatClampNeg) (fun v22 => inB 16 x2 (nmV x2.toNatClampNeg (fun j24 => k22 (x2 + (1 : Int32)) (bW Sm 8 j24 v22))))))
def fX8_drinkers (Sm : Bk) (x1 : Int32) : Option (Int32 × Bk) := (fX8_in x1.toInt64 (1 : Int64) (30 : Int64)).bind (fun u25 => (if u25 = 0 then some ((-2 : Int32), (bI Sm 0 (0 : Int32))) else lk2 (sX8_drinkers_22 x1) 1000 (0 : Int32) (bI Sm 0 (0 : Int32))))
theorem miX8_drinkers : MI yX8_drinkers cX8_drinkers 4 (some .int) 1 := ⟨wd1_8, wd5_49, by decide +kernel⟩
theorem mjX8_drinkers : Cond.instanceMethod yX8_drinkers ∈ wT ∧ Cond.selects yX8_drinkers.cls yX8_drinkers yX8_drinkers ∈ wT := ⟨wd5_47, wd5_48⟩
set_option maxHeartbeats 4000000 in
set_option maxRecDepth 100000 in
theorem qX8_drinkers (l : Launch) (D : va_G) (cI cZ cO : ClassId) (jhm : Nat) (jam : Nat → Nat) (Sm : Bk) (x1 : Int32) (sz : Nat) (res : Int32 × Bk) (hf : fX8_drinkers Sm x1 = some res) : Met l yX8_drinkers (Cond.code yX8_drinkers cX8_drinkers 4 (some .int) :: wT) (rmF 2 46) (va_Pc [.ref jhm, .int x1] (cW D (tyL cI cZ cO) (wX8_drinkers cI cZ jhm jam Sm) sz)) (va_Qi (S := Unit) (fun r _ => r = res.1) (fun _ => qW D (tyL cI cZ cO) (va_A (wX8_drinkers cI cZ jhm jam Sm) sz) (wX8_drinkers cI cZ jhm jam res.2)) (va_A (wX8_drinkers cI cZ jhm jam Sm) sz)) 0 0 (va_A (wX8_drinkers cI cZ jhm jam Sm) sz) := by
  refine met_w (by decide) (Nat.le_of_ble_eq_true rfl) ?_
  intro p e s m below meth c hx hb hr hml ht hown hlk ls hl hsz hP hK hD0 hZ
  subst hsz
  have hD := hD0.self (sz := s.heap.size)
  generalize hAe : va_A (wX8_drinkers cI cZ jhm jam Sm) s.heap.size = A at hD hZ ⊢
  have hA : ∀ q : Nat, s.heap.size ≤ q → A q := fun q h => by rw [← hAe]; exact Or.inr h
  have hS : va_S A s.heap s.heap [] := va_S.rf
  have hown : s.vm.findClass "EyeDrinkModel" = some m.cls := hown
  have hl : lv_has ls 4 [(0, .ref jhm), (1, .int x1)] := hl
  have hC : CallFix p m c cX8_drinkers 4 s ([.ref jhm, .int x1] : List Value).toArray wT "EyeDrinkModel" := ⟨hx, hb, hml, hown, ht⟩
  unfold fX8_drinkers at hf
  suffices hgo : ∀ (H : Heap) (locs : List Loc), va_P D vwCl (wX8_drinkers cI cZ jhm jam Sm) H → va_S A s.heap H locs → W p l e (rmF 2 46) s m ([.ref jhm, .int x1] : List Value).toArray below meth c H locs 0 0 (MQ below (va_Qi (S := Unit) (fun r _ => r = res.1) (fun _ => qW D (tyL cI cZ cO) A (wX8_drinkers cI cZ jhm jam res.2)) A) ([.ref jhm, .int x1] : List Value).toArray s 0 0 A) (F0 m 0 ls []) from hgo s.heap [] hP hS
  have hj48 : ∀ (x2 : Int32) (Sm : Bk), lk2 (sX8_drinkers_48 x1) 1000 x2 Sm = some res → ∀ (H : Heap) (locs : List Loc) (ls : Array Slot), va_P D vwCl (wX8_drinkers cI cZ jhm jam Sm) H → va_D A (wX8_drinkers cI cZ jhm jam Sm) → va_S A s.heap H locs → lv_has ls 4 [(0, .ref jhm), (1, .int x1), (2, .int x2)] → W p l e (rmF 2 46) s m ([.ref jhm, .int x1] : List Value).toArray below meth c H locs 0 0 (MQ below (va_Qi (S := Unit) (fun r _ => r = res.1) (fun _ => qW D (tyL cI cZ cO) A (wX8_drinkers cI cZ jhm jam res.2)) A) ([.ref jhm, .int x1] : List Value).toArray s 0 0 A) (F0 m 48 ls []) := by
    refine lk2_w (fun (x2 : Int32) (Sm : Bk) => ∀ (H : Heap) (locs : List Loc) (ls : Array Slot), va_P D vwCl (wX8_drinkers cI cZ jhm jam Sm) H → va_D A (wX8_drinkers cI cZ jhm jam Sm) → va_S A s.heap H locs → lv_has ls 4 [(0, .ref jhm), (1, .int x1), (2, .int x2)] → W p l e (rmF 2 46) s m ([.ref jhm, .int x1] : List Value).toArray below meth c H locs 0 0 (MQ below (va_Qi (S := Unit) (fun r _ => r = res.1) (fun _ => qW D (tyL cI cZ cO) A (wX8_drinkers cI cZ jhm jam res.2)) A) ([.ref jhm, .int x1] : List Value).toArray s 0 0 A) (F0 m 48 ls [])) ?_ 1000
    intro k48 hk48 x2 Sm hf H locs ls hP hD hS hl
    unfold sX8_drinkers_48 at hf
    have hj151 : ∀ (x2 : Int32) (Sm : Bk), gX8_drinkers_151 x1 k48 x2 Sm = some res → ∀ (H : Heap) (locs : List Loc) (ls : Array Slot), va_P D vwCl (wX8_drinkers cI cZ jhm jam Sm) H → va_D A (wX8_drinkers cI cZ jhm jam Sm) → va_S A s.heap H locs → lv_has ls 4 [(0, .ref jhm), (1, .int x1), (2, .int x2)] → W p l e (rmF 2 46) s m ([.ref jhm, .int x1] : List Value).toArray below meth c H locs 0 0 (MQ below (va_Qi (S := Unit) (fun r _ => r = res.1) (fun _ => qW D (tyL cI cZ cO) A (wX8_drinkers cI cZ jhm jam res.2)) A) ([.ref jhm, .int x1] : List Value).toArray s 0 0 A) (F0 m 151 ls []) := by
      intro x2 Sm hf H locs ls hP hD hS hl
      unfold gX8_drinkers_151 at hf
      refine lv_aload_n hx hb dX8_drinkers_151 rfl (lv_at hl 0 rfl) ?_
      refine lv_aload_n hx hb dX8_drinkers_152 rfl (lv_at hl 0 rfl) ?_
      refine va_get (D := D) (ci := 7) (v := .ref (jam 8)) (C := RX8) (T := TX8) (N := 31) hx hb ht inX8 hown hK hP 0 rfl rfl 17 (by decide) (ht _ wd3_202) (fun _ h9 => h9) rfl dX8_drinkers_153 ?_
      obtain ⟨u1, e2, hf⟩ := bdS hf
      refine k_wVi (ws' := (wX8_drinkers cI cZ jhm jam (bA Sm 8 u1.2))) (wr := [(jam 2, .inl (cI, 16, .inl ((bA Sm 8 u1.2).2.1 2))), (jam 3, .inl (cI, 20, .inl ((bA Sm 8 u1.2).2.1 3))), (jam 7, .inl (cI, 16, .inl ((bA Sm 8 u1.2).2.1 7)))]) (As := [.ref (jam 8)]) (rest := []) hC miX8_goDay mjX8_goDay.1 mjX8_goDay.2 wd4_156 (qX8_goDay l D cI cZ cO jhm jam (jam 8) (16) Sm (Sm.2.1 8) H.size u1 e2) ⟨Nat.le_of_ble_eq_true rfl, Nat.le_of_ble_eq_true rfl⟩ hP hD hK hZ hS hA [0, 1, 5] [2, 3, 4] [3, 4, 0, 1, 2, 5] rfl (by decide) rfl (by decide) (by decide) (by decide) rfl (va_recv hK hP (ci := 7) (q0 := 0) rfl rfl) hl.1 rfl rfl (Nat.le_of_ble_eq_true rfl) dX8_drinkers_156 (fun H locs hP hD hS => ?_)
      refine lv_pop hx hb dX8_drinkers_159 rfl ?_
      refine lv_iinc (v := (x2 + (1 : Int32))) (lv' := [(2, .int (x2 + (1 : Int32))), (0, .ref jhm), (1, .int x1)]) hx hb dX8_drinkers_160 hl (k := 2) rfl rfl (by decide) rfl (fun ls hl => ?_)
      refine lv_goto (tgt := 48) hx hb dX8_drinkers_163 (by decide) ?_
      exact hk48 (x2 + (1 : Int32)) (bA Sm 8 u1.2) hf _ _ _ hP hD hS (lv_sub hl [1, 2, 0] rfl)
    have hj111 : ∀ (x2 : Int32) (x3 : Int32) (Sm : Bk), gX8_drinkers_111 x1 k48 x2 x3 Sm = some res → ∀ (H : Heap) (locs : List Loc) (ls : Array Slot), va_P D vwCl (wX8_drinkers cI cZ jhm jam Sm) H → va_D A (wX8_drinkers cI cZ jhm jam Sm) → va_S A s.heap H locs → lv_has ls 4 [(0, .ref jhm), (1, .int x1), (2, .int x2), (3, .int x3)] → W p l e (rmF 2 46) s m ([.ref jhm, .int x1] : List Value).toArray below meth c H locs 0 0 (MQ below (va_Qi (S := Unit) (fun r _ => r = res.1) (fun _ => qW D (tyL cI cZ cO) A (wX8_drinkers cI cZ jhm jam res.2)) A) ([.ref jhm, .int x1] : List Value).toArray s 0 0 A) (F0 m 111 ls []) := by
      intro x2 x3 Sm hf H locs ls hP hD hS hl
      unfold gX8_drinkers_111 at hf
      refine lv_iload_n hx hb dX8_drinkers_111 rfl (lv_at hl 3 rfl) ?_
      refine lv_iconst (v := (3 : Int32)) hx hb dX8_drinkers_112 rfl ?_
      refine lv_icmp_le (tgt := 151) hx hb dX8_drinkers_113 (by decide) (fun c3 => ?_) (fun c3 => ?_)
      · have hf := itP c3 hf
        exact hj151 x2 Sm hf _ _ _ hP hD hS (lv_sub hl [0, 1, 2] rfl)
      · have hf := itN c3 hf
        refine lv_iload_n hx hb dX8_drinkers_116 rfl (lv_at hl 3 rfl) ?_
        refine lv_iconst (v := (4 : Int32)) hx hb dX8_drinkers_117 rfl ?_
        refine lv_isub hx hb dX8_drinkers_118 ?_
        refine lv_aload_n hx hb dX8_drinkers_119 rfl (lv_at hl 0 rfl) ?_
        refine va_get (D := D) (ci := 7) (v := .int (Sm.1 5)) (C := RX8) (T := TX8) (N := 31) hx hb ht inX8 hown hK hP 0 rfl rfl 6 (by decide) (ht _ wd3_191) (fun _ h9 => h9) rfl dX8_drinkers_120 ?_
        refine lv_icmp_ge (tgt := 151) hx hb dX8_drinkers_123 (by decide) (fun c4 => ?_) (fun c4 => ?_)
        · have hf := itP c4 hf
          exact hj151 x2 Sm hf _ _ _ hP hD hS (lv_sub hl [0, 1, 2] rfl)
        · have hf := itN c4 hf
          refine lv_aload_n hx hb dX8_drinkers_126 rfl (lv_at hl 0 rfl) ?_
          refine lv_aload_n hx hb dX8_drinkers_127 rfl (lv_at hl 0 rfl) ?_
          refine va_get (D := D) (ci := 7) (v := .ref (jam 8)) (C := RX8) (T := TX8) (N := 31) hx hb ht inX8 hown hK hP 0 rfl rfl 17 (by decide) (ht _ wd3_202) (fun _ h9 => h9) rfl dX8_drinkers_128 ?_
          refine lv_iload_n hx hb dX8_drinkers_131 rfl (lv_at hl 3 rfl) ?_
          refine lv_iconst (v := (4 : Int32)) hx hb dX8_drinkers_132 rfl ?_
          refine lv_isub hx hb dX8_drinkers_133 ?_
          obtain ⟨u5, e6, hf⟩ := bdS hf
          refine k_rV (As := [.ref (jam 8), .int (x3 - (4 : Int32))]) (rest := []) hC miX8_noAct mjX8_noAct.1 mjX8_noAct.2 wd4_144 (qX8_noAct l D cI cZ cO jhm jam (jam 8) (16) Sm (Sm.2.1 8) (x3 - (4 : Int32)) u5 e6) ⟨Nat.le_of_ble_eq_true rfl, Nat.le_of_ble_eq_true rfl⟩ (hP.sub [0, 3, 5] rfl) hK hZ hS (va_recv hK hP (ci := 7) (q0 := 0) rfl rfl) hl.1 rfl rfl (Nat.le_of_ble_eq_true rfl) dX8_drinkers_134 ?_
          refine lv_if_ne (tgt := 151) hx hb dX8_drinkers_137 (by decide) (fun c7 => ?_) (fun c7 => ?_)
          · have hf := itN c7 hf
            exact hj151 x2 Sm hf _ _ _ hP hD hS (lv_sub hl [0, 1, 2] rfl)
          · have hf := itP c7 hf
            refine lv_aload_n hx hb dX8_drinkers_140 rfl (lv_at hl 0 rfl) ?_
            refine lv_aload_n hx hb dX8_drinkers_141 rfl (lv_at hl 0 rfl) ?_
            refine va_get (D := D) (ci := 7) (v := .ref (jam 8)) (C := RX8) (T := TX8) (N := 31) hx hb ht inX8 hown hK hP 0 rfl rfl 17 (by decide) (ht _ wd3_202) (fun _ h9 => h9) rfl dX8_drinkers_142 ?_
            refine lv_iload_n hx hb dX8_drinkers_145 rfl (lv_at hl 3 rfl) ?_
            refine lv_iconst (v := (4 : Int32)) hx hb dX8_drinkers_146 rfl ?_
            refine lv_isub hx hb dX8_drinkers_147 ?_
            obtain ⟨u8, e9, hf⟩ := bdS hf
            refine k_wVv (ws' := (wX8_drinkers cI cZ jhm jam (bA Sm 8 u8))) (wr := [(jam 1, .inl (cI, 12, .inl ((bA Sm 8 u8).2.1 1))), (jam 7, .inl (cI, 16, .inl ((bA Sm 8 u8).2.1 7)))]) (As := [.ref (jam 8), .int (x3 - (4 : Int32))]) (rest := []) hC miX8_goAct mjX8_goAct.1 mjX8_goAct.2 wd4_148 (qX8_goAct l D cI cZ cO jhm jam (jam 8) (16) Sm (Sm.2.1 8) (x3 - (4 : Int32)) H.size u8 e9) ⟨Nat.le_of_ble_eq_true rfl, Nat.le_of_ble_eq_true rfl⟩ hP hD hK hZ hS hA [0, 2, 3, 5] [1, 4] [2, 0, 3, 4, 1, 5] rfl (by decide) rfl (by decide) (by decide) (by decide) rfl (va_recv hK hP (ci := 7) (q0 := 0) rfl rfl) hl.1 rfl rfl (Nat.le_of_ble_eq_true rfl) dX8_drinkers_148 (fun H locs hP hD hS => ?_)
            exact hj151 x2 (bA Sm 8 u8) hf _ _ _ hP hD hS (lv_sub hl [0, 1, 2] rfl)
    refine lv_iload_n hx hb dX8_drinkers_48 rfl (lv_at hl 2 rfl) ?_
    refine lv_iload_n hx hb dX8_drinkers_49 rfl (lv_at hl 1 rfl) ?_
    refine lv_icmp_ge (tgt := 166) hx hb dX8_drinkers_50 (by decide) (fun c10 => ?_) (fun c10 => ?_)
    · have hf := itP c10 hf
      refine lv_aload_n hx hb dX8_drinkers_166 rfl (lv_at hl 0 rfl) ?_
      refine lv_aload_n hx hb dX8_drinkers_167 rfl (lv_at hl 0 rfl) ?_
      refine va_get (D := D) (ci := 7) (v := .ref (jam 8)) (C := RX8) (T := TX8) (N := 31) hx hb ht inX8 hown hK hP 0 rfl rfl 17 (by decide) (ht _ wd3_202) (fun _ h9 => h9) rfl dX8_drinkers_168 ?_
      obtain ⟨u11, e12, hf⟩ := bdS hf
      refine k_rV (As := [.ref (jam 8)]) (rest := []) hC miX8_estateOf mjX8_estateOf.1 mjX8_estateOf.2 wd4_87 (qX8_estateOf l D cI cZ cO jhm jam (jam 8) (16) Sm (Sm.2.1 8) u11 e12) ⟨Nat.le_of_ble_eq_true rfl, Nat.le_of_ble_eq_true rfl⟩ (hP.sub [0, 1, 5] rfl) hK hZ hS (va_recv hK hP (ci := 7) (q0 := 0) rfl rfl) hl.1 rfl rfl (Nat.le_of_ble_eq_true rfl) dX8_drinkers_171 ?_
      cases hf
      exact W.iret hx hb hr (fun t ht9 hW => ⟨⟨_, (), rfl, rfl, by rw [ht9]; exact hP, va_K.moved hW.alike hK, hD⟩, hS.F ht9⟩) hS.2.2 dX8_drinkers_174
    · have hf := itN c10 hf
      refine lv_aload_n hx hb dX8_drinkers_53 rfl (lv_at hl 0 rfl) ?_
      refine lv_aload_n hx hb dX8_drinkers_54 rfl (lv_at hl 0 rfl) ?_
      refine va_get (D := D) (ci := 7) (v := .long Sm.2.2) (C := RX8) (T := TX8) (N := 31) hx hb ht inX8 hown hK hP 0 rfl rfl 25 (by decide) (ht _ wd3_210) (fun _ h9 => h9) rfl dX8_drinkers_55 ?_
      refine lv_ldc2 hx hb hown (ht _ wd5_51) dX8_drinkers_58 ?_
      refine lv_lmul hx hb dX8_drinkers_61 ?_
      refine lv_ldc2 hx hb hown (ht _ wd5_52) dX8_drinkers_62 ?_
      refine lv_ladd hx hb dX8_drinkers_65 ?_
      obtain ⟨v13, ev13, hf⟩ := nmV_s hf
      rw [← ev13]
      refine va_put (D := D) (ci := 7) (v := .long v13) (ty := .long) (C := RX8) (T := TX8) (N := 31) hx hb ht inX8 tyX8 tyX8_ok nmX8 hown hK hP hD hS 0 rfl rfl 25 (by decide) (ht _ wd3_210) (fun _ h9 => h9) rfl (tyX8_ok 25 (by decide)) rfl rfl (Nat.le_of_ble_eq_true rfl) dX8_drinkers_66 (fun H locs hP hD hS => ?_)
      have hP : va_P D vwCl (wX8_drinkers cI cZ jhm jam (bJ Sm v13)) H := hP
      have hD : va_D A (wX8_drinkers cI cZ jhm jam (bJ Sm v13)) := hD
      refine lv_aload_n hx hb dX8_drinkers_69 rfl (lv_at hl 0 rfl) ?_
      refine va_get (D := D) (ci := 7) (v := .long v13) (C := RX8) (T := TX8) (N := 31) hx hb ht inX8 hown hK hP 0 rfl rfl 25 (by decide) (ht _ wd3_210) (fun _ h9 => h9) rfl dX8_drinkers_70 ?_
      refine lv_bipush (v := (33 : Int32)) hx hb dX8_drinkers_73 rfl ?_
      refine lv_lushr hx hb dX8_drinkers_75 rfl ?_
      refine lv_ldc2 hx hb hown (ht _ wd5_53) dX8_drinkers_76 ?_
      refine lv_lrem hx hb dX8_drinkers_79 (by decide) ?_
      refine lv_l2i hx hb dX8_drinkers_80 rfl ?_
      refine lv_istore_n (lv' := [(3, .int ((v13.toUInt64 >>> ((33 : Int32).toInt64.toUInt64 &&& Int64.toUInt64 63)).toInt64 - (v13.toUInt64 >>> ((33 : Int32).toInt64.toUInt64 &&& Int64.toUInt64 63)).toInt64 / (8 : Int64) * (8 : Int64)).toInt32), (0, .ref jhm), (1, .int x1), (2, .int x2)]) hx hb dX8_drinkers_81 rfl hl (by decide) rfl (fun ls hl => ?_)
      refine lv_iload_n hx hb dX8_drinkers_82 rfl (lv_at hl 0 rfl) ?_
      refine lv_aload_n hx hb dX8_drinkers_83 rfl (lv_at hl 1 rfl) ?_
      refine va_get (D := D) (ci := 7) (v := .int (Sm.1 4)) (C := RX8) (T := TX8) (N := 31) hx hb ht inX8 hown hK hP 0 rfl rfl 5 (by decide) (ht _ wd3_190) (fun _ h9 => h9) rfl dX8_drinkers_84 ?_
      refine lv_icmp_ge (tgt := 111) hx hb dX8_drinkers_87 (by decide) (fun c14 => ?_) (fun c14 => ?_)
      · have hf := itP c14 hf
        exact hj111 x2 (((v13.toUInt64 >>> ((33 : Int32).toInt64.toUInt64 &&& Int64.toUInt64 63)).toInt64 - (v13.toUInt64 >>> ((33 : Int32).toInt64.toUInt64 &&& Int64.toUInt64 63)).toInt64 / (8 : Int64) * (8 : Int64)).toInt32) (bJ Sm v13) hf _ _ _ hP hD hS (lv_sub hl [1, 2, 3, 0] rfl)
      · have hf := itN c14 hf
        refine lv_aload_n hx hb dX8_drinkers_90 rfl (lv_at hl 1 rfl) ?_
        refine lv_aload_n hx hb dX8_drinkers_91 rfl (lv_at hl 1 rfl) ?_
        refine va_get (D := D) (ci := 7) (v := .ref (jam 8)) (C := RX8) (T := TX8) (N := 31) hx hb ht inX8 hown hK hP 0 rfl rfl 17 (by decide) (ht _ wd3_202) (fun _ h9 => h9) rfl dX8_drinkers_92 ?_
        refine lv_iload_n hx hb dX8_drinkers_95 rfl (lv_at hl 0 rfl) ?_
        obtain ⟨u15, e16, hf⟩ := bdS hf
        refine k_rV (As := [.ref (jam 8), .int ((v13.toUInt64 >>> ((33 : Int32).toInt64.toUInt64 &&& Int64.toUInt64 63)).toInt64 - (v13.toUInt64 >>> ((33 : Int32).toInt64.toUInt64 &&& Int64.toUInt64 63)).toInt64 / (8 : Int64) * (8 : Int64)).toInt32]) (rest := []) hC miX8_noDrink mjX8_noDrink.1 mjX8_noDrink.2 wd4_124 (qX8_noDrink l D cI cZ cO jhm jam (jam 8) (16) (bJ Sm v13) (Sm.2.1 8) (((v13.toUInt64 >>> ((33 : Int32).toInt64.toUInt64 &&& Int64.toUInt64 63)).toInt64 - (v13.toUInt64 >>> ((33 : Int32).toInt64.toUInt64 &&& Int64.toUInt64 63)).toInt64 / (8 : Int64) * (8 : Int64)).toInt32) u15 e16) ⟨Nat.le_of_ble_eq_true rfl, Nat.le_of_ble_eq_true rfl⟩ (hP.sub [0, 2, 5] rfl) hK hZ hS (va_recv hK hP (ci := 7) (q0 := 0) rfl rfl) hl.1 rfl rfl (Nat.le_of_ble_eq_true rfl) dX8_drinkers_96 ?_
        refine lv_if_ne (tgt := 111) hx hb dX8_drinkers_99 (by decide) (fun c17 => ?_) (fun c17 => ?_)
        · have hf := itN c17 hf
          exact hj111 x2 (((v13.toUInt64 >>> ((33 : Int32).toInt64.toUInt64 &&& Int64.toUInt64 63)).toInt64 - (v13.toUInt64 >>> ((33 : Int32).toInt64.toUInt64 &&& Int64.toUInt64 63)).toInt64 / (8 : Int64) * (8 : Int64)).toInt32) (bJ Sm v13) hf _ _ _ hP hD hS (lv_sub hl [1, 2, 3, 0] rfl)
        · have hf := itP c17 hf
          refine lv_aload_n hx hb dX8_drinkers_102 rfl (lv_at hl 1 rfl) ?_
          refine lv_aload_n hx hb dX8_drinkers_103 rfl (lv_at hl 1 rfl) ?_
          refine va_get (D := D) (ci := 7) (v := .ref (jam 8)) (C := RX8) (T := TX8) (N := 31) hx hb ht inX8 hown hK hP 0 rfl rfl 17 (by decide) (ht _ wd3_202) (fun _ h9 => h9) rfl dX8_drinkers_104 ?_
          refine lv_iload_n hx hb dX8_drinkers_107 rfl (lv_at hl 0 rfl) ?_
          obtain ⟨u18, e19, hf⟩ := bdS hf
          refine k_wVv (ws' := (wX8_drinkers cI cZ jhm jam (bA (bJ Sm v13) 8 u18))) (wr := [(jam 1, .inl (cI, 12, .inl ((bA (bJ Sm v13) 8 u18).2.1 1))), (jam 3, .inl (cI, 20, .inl ((bA (bJ Sm v13) 8 u18).2.1 3))), (jam 7, .inl (cI, 16, .inl ((bA (bJ Sm v13) 8 u18).2.1 7)))]) (As := [.ref (jam 8), .int ((v13.toUInt64 >>> ((33 : Int32).toInt64.toUInt64 &&& Int64.toUInt64 63)).toInt64 - (v13.toUInt64 >>> ((33 : Int32).toInt64.toUInt64 &&& Int64.toUInt64 63)).toInt64 / (8 : Int64) * (8 : Int64)).toInt32]) (rest := []) hC miX8_goDrink mjX8_goDrink.1 mjX8_goDrink.2 wd4_132 (qX8_goDrink l D cI cZ cO jhm jam (jam 8) (16) (bJ Sm v13) (Sm.2.1 8) (((v13.toUInt64 >>> ((33 : Int32).toInt64.toUInt64 &&& Int64.toUInt64 63)).toInt64 - (v13.toUInt64 >>> ((33 : Int32).toInt64.toUInt64 &&& Int64.toUInt64 63)).toInt64 / (8 : Int64) * (8 : Int64)).toInt32) H.size u18 e19) ⟨Nat.le_of_ble_eq_true rfl, Nat.le_of_ble_eq_true rfl⟩ hP hD hK hZ hS hA [0, 2, 5] [1, 3, 4] [3, 0, 4, 1, 2, 5] rfl (by decide) rfl (by decide) (by decide) (by decide) rfl (va_recv hK hP (ci := 7) (q0 := 0) rfl rfl) hl.1 rfl rfl (Nat.le_of_ble_eq_true rfl) dX8_drinkers_108 (fun H locs hP hD hS => ?_)
          exact hj111 x2 (((v13.toUInt64 >>> ((33 : Int32).toInt64.toUInt64 &&& Int64.toUInt64 63)).toInt64 - (v13.toUInt64 >>> ((33 : Int32).toInt64.toUInt64 &&& Int64.toUInt64 63)).toInt64 / (8 : Int64) * (8 : Int64)).toInt32) (bA (bJ Sm v13) 8 u18) hf _ _ _ hP hD hS (lv_sub hl [1, 2, 3, 0] rfl)
  have hj22 : ∀ (x2 : Int32) (Sm : Bk), lk2 (sX8_drinkers_22 x1) 1000 x2 Sm = some res → ∀ (H : Heap) (locs : List Loc) (ls : Array Slot), va_P D vwCl (wX8_drinkers cI cZ jhm jam Sm) H → va_D A (wX8_drinkers cI cZ jhm jam Sm) → va_S A s.heap H locs → lv_has ls 4 [(0, .ref jhm), (1, .int x1), (2, .int x2)] → W p l e (rmF 2 46) s m ([.ref jhm, .int x1] : List Value).toArray below meth c H locs 0 0 (MQ below (va_Qi (S := Unit) (fun r _ => r = res.1) (fun _ => qW D (tyL cI cZ cO) A (wX8_drinkers cI cZ jhm jam res.2)) A) ([.ref jhm, .int x1] : List Value).toArray s 0 0 A) (F0 m 22 ls []) := by
    refine lk2_w (fun (x2 : Int32) (Sm : Bk) => ∀ (H : Heap) (locs : List Loc) (ls : Array Slot), va_P D vwCl (wX8_drinkers cI cZ jhm jam Sm) H → va_D A (wX8_drinkers cI cZ jhm jam Sm) → va_S A s.heap H locs → lv_has ls 4 [(0, .ref jhm), (1, .int x1), (2, .int x2)] → W p l e (rmF 2 46) s m ([.ref jhm, .int x1] : List Value).toArray below meth c H locs 0 0 (MQ below (va_Qi (S := Unit) (fun r _ => r = res.1) (fun _ => qW D (tyL cI cZ cO) A (wX8_drinkers cI cZ jhm jam res.2)) A) ([.ref jhm, .int x1] : List Value).toArray s 0 0 A) (F0 m 22 ls [])) ?_ 1000
    intro k22 hk22 x2 Sm hf H locs ls hP hD hS hl
    unfold sX8_drinkers_22 at hf
    refine lv_iload_n hx hb dX8_drinkers_22 rfl (lv_at hl 2 rfl) ?_
    refine lv_bipush (v := (16 : Int32)) hx hb dX8_drinkers_23 rfl ?_
    refine lv_icmp_ge (tgt := 46) hx hb dX8_drinkers_25 (by decide) (fun c20 => ?_) (fun c20 => ?_)
    · have hf := itP c20 hf
      refine lv_iconst (v := (0 : Int32)) hx hb dX8_drinkers_46 rfl ?_
      refine lv_istore_n (lv' := [(2, .int (0 : Int32)), (0, .ref jhm), (1, .int x1)]) hx hb dX8_drinkers_47 rfl hl (by decide) rfl (fun ls hl => ?_)
      exact hj48 (0 : Int32) Sm hf _ _ _ hP hD hS (lv_sub hl [1, 2, 0] rfl)
    · have hf := itN c20 hf
      refine lv_aload_n hx hb dX8_drinkers_28 rfl (lv_at hl 0 rfl) ?_
      refine va_get (D := D) (ci := 7) (v := .ref (jam 8)) (C := RX8) (T := TX8) (N := 31) hx hb ht inX8 hown hK hP 0 rfl rfl 17 (by decide) (ht _ wd3_202) (fun _ h9 => h9) rfl dX8_drinkers_29 ?_
      refine lv_iload_n hx hb dX8_drinkers_32 rfl (lv_at hl 2 rfl) ?_
      refine lv_aload_n hx hb dX8_drinkers_33 rfl (lv_at hl 0 rfl) ?_
      refine va_get (D := D) (ci := 7) (v := .ref (jam 7)) (C := RX8) (T := TX8) (N := 31) hx hb ht inX8 hown hK hP 0 rfl rfl 16 (by decide) (ht _ wd3_201) (fun _ h9 => h9) rfl dX8_drinkers_34 ?_
      refine lv_iload_n hx hb dX8_drinkers_37 rfl (lv_at hl 2 rfl) ?_
      obtain ⟨h21, hf⟩ := inB_s hf
      refine va_iald (f := (Sm.2.1 7)) (n := 16) hx hb hK hP 4 0 rfl rfl h21 dX8_drinkers_38 ?_
      obtain ⟨v22, ev22, hf⟩ := nmV_s hf
      rw [← ev22]
      obtain ⟨h23, hf⟩ := inB_s hf
      obtain ⟨j24, ej24, hf⟩ := nmV_s hf
      refine va_iast (f := (Sm.2.1 8)) (n := 16) hx hb hK hP hD hS 5 0 rfl rfl h23 dX8_drinkers_39 (fun H locs hP hD hS => ?_)
      rw [← ej24] at hP hD
      have hP : va_P D vwCl (wX8_drinkers cI cZ jhm jam (bW Sm 8 j24 v22)) H := hP
      have hD : va_D A (wX8_drinkers cI cZ jhm jam (bW Sm 8 j24 v22)) := hD
      refine lv_iinc (v := (x2 + (1 : Int32))) (lv' := [(2, .int (x2 + (1 : Int32))), (0, .ref jhm), (1, .int x1)]) hx hb dX8_drinkers_40 hl (k := 2) rfl rfl (by decide) rfl (fun ls hl => ?_)
      refine lv_goto (tgt := 22) hx hb dX8_drinkers_43 (by decide) ?_
      exact hk22 (x2 + (1 : Int32)) (bW Sm 8 j24 v22) hf _ _ _ hP hD hS (lv_sub hl [1, 2, 0] rfl)
  intro H locs hP hS
  refine lv_aload_n hx hb dX8_drinkers_0 rfl (lv_at hl 0 rfl) ?_
  refine lv_iconst (v := (0 : Int32)) hx hb dX8_drinkers_1 rfl ?_
  refine va_put (D := D) (ci := 7) (v := .int (0 : Int32)) (ty := .int) (C := RX8) (T := TX8) (N := 31) hx hb ht inX8 tyX8 tyX8_ok nmX8 hown hK hP hD hS 0 rfl rfl 0 (by decide) (ht _ wd3_185) (fun _ h9 => h9) rfl (tyX8_ok 0 (by decide)) rfl rfl (Nat.le_of_ble_eq_true rfl) dX8_drinkers_2 (fun H locs hP hD hS => ?_)
  have hP : va_P D vwCl (wX8_drinkers cI cZ jhm jam (bI Sm 0 (0 : Int32))) H := hP
  have hD : va_D A (wX8_drinkers cI cZ jhm jam (bI Sm 0 (0 : Int32))) := hD
  refine lv_iload_n hx hb dX8_drinkers_5 rfl (lv_at hl 1 rfl) ?_
  refine lv_i2l hx hb dX8_drinkers_6 rfl ?_
  refine lv_lconst (v := 1) hx hb dX8_drinkers_7 rfl ?_
  refine lv_ldc2 hx hb hown (ht _ wd5_50) dX8_drinkers_8 ?_
  obtain ⟨u25, e26, hf⟩ := bdS hf
  refine k_pS (As := [.long x1.toInt64, .long (1 : Int64), .long (30 : Int64)]) (rest := []) hC miX8_in mjX8_in wd4_44 (qX8_in l x1.toInt64 (1 : Int64) (30 : Int64) u25 e26) ⟨Nat.le_of_ble_eq_true rfl, Nat.le_of_ble_eq_true rfl⟩ hl.1 rfl rfl (Nat.le_of_ble_eq_true rfl) dX8_drinkers_11 ?_
  refine lv_if_ne (tgt := 20) hx hb dX8_drinkers_14 (by decide) (fun c27 => ?_) (fun c27 => ?_)
  · have hf := itN c27 hf
    refine lv_iconst (v := (0 : Int32)) hx hb dX8_drinkers_20 rfl ?_
    refine lv_istore_n (lv' := [(2, .int (0 : Int32)), (0, .ref jhm), (1, .int x1)]) hx hb dX8_drinkers_21 rfl hl (by decide) rfl (fun ls hl => ?_)
    exact hj22 (0 : Int32) (bI Sm 0 (0 : Int32)) hf _ _ _ hP hD hS (lv_sub hl [1, 2, 0] rfl)
  · have hf := itP c27 hf
    refine lv_bipush (v := (-2 : Int32)) hx hb dX8_drinkers_17 rfl ?_
    cases hf
    exact W.iret hx hb hr (fun t ht9 hW => ⟨⟨_, (), rfl, rfl, by rw [ht9]; exact hP, va_K.moved hW.alike hK, hD⟩, hS.F ht9⟩) hS.2.2 dX8_drinkers_19
abbrev wX8_keep (cI cZ : ClassId) (jhm : Nat) (jam : Nat → Nat) (Sm : Bk) : va_W := [(jhm, .inr (7, [.int (Sm.1 0), .ref (jam 0), .int (Sm.1 1), .int (Sm.1 2), .int (Sm.1 3), .int (Sm.1 4), .int (Sm.1 5), .ref (jam 1), .ref (jam 2), .ref (jam 3), .int (Sm.1 6), .int (Sm.1 7), .int (Sm.1 8), .ref (jam 4), .ref (jam 5), .ref (jam 6), .ref (jam 7), .ref (jam 8), .ref (jam 9), .int (Sm.1 9), .ref (jam 10), .ref (jam 11), .int (Sm.1 10), .ref (jam 12), .ref (jam 13), .long Sm.2.2, .ref (jam 14), .ref (jam 15), .int (Sm.1 11), .int (Sm.1 12), .int (Sm.1 13)])), (jam 1, .inl (cI, 12, .inl (Sm.2.1 1))), (jam 7, .inl (cI, 16, .inl (Sm.2.1 7))), (jam 10, .inl (cI, 32, .inl (Sm.2.1 10))), (jam 11, .inl (cZ, 2, .inl (Sm.2.1 11)))]
def sX8_keep_26 (x1 : Int32) (k26 : Int32 → Bk → Option (Int32 × Bk)) (x2 : Int32) (Sm : Bk) : Option (Int32 × Bk) := (if (16 : Int32) ≤ x2 then (fX8_estateOf Sm (Sm.2.1 7) 16).bind (fun u2 => some (u2, Sm)) else inB 16 x2 (nmV ((Sm.2.1 7) x2.toNatClampNeg) (fun v5 => inB 32 (((16 : Int32) * x1) + x2) (nmV (((16 : Int32) * x1) + x2).toNatClampNeg (fun j7 => k26 (x2 + (1 : Int32)) (bW Sm 10 j7 v5))))))
def fX8_keep (Sm : Bk) (x1 : Int32) : Option (Int32 × Bk) := (fX8_in x1.toInt64 (0 : Int64) (1 : Int64)).bind (fun u8 => (if u8 = 0 then some ((-1 : Int32), (bI Sm 0 (0 : Int32))) else inB 2 x1 (nmV x1.toNatClampNeg (fun j12 => lk2 (sX8_keep_26 x1) 1000 (0 : Int32) (bW (bI Sm 0 (0 : Int32)) 11 j12 (vp_nar .boolean (1 : Int32)))))))
theorem miX8_keep : MI yX8_keep cX8_keep 3 (some .int) 1 := ⟨wd1_8, wd5_57, by decide +kernel⟩
theorem mjX8_keep : Cond.instanceMethod yX8_keep ∈ wT ∧ Cond.selects yX8_keep.cls yX8_keep yX8_keep ∈ wT := ⟨wd5_55, wd5_56⟩
set_option maxHeartbeats 4000000 in
set_option maxRecDepth 100000 in
theorem qX8_keep (l : Launch) (D : va_G) (cI cZ cO : ClassId) (jhm : Nat) (jam : Nat → Nat) (Sm : Bk) (x1 : Int32) (sz : Nat) (res : Int32 × Bk) (hf : fX8_keep Sm x1 = some res) : Met l yX8_keep (Cond.code yX8_keep cX8_keep 3 (some .int) :: wT) (rmF 2 45) (va_Pc [.ref jhm, .int x1] (cW D (tyL cI cZ cO) (wX8_keep cI cZ jhm jam Sm) sz)) (va_Qi (S := Unit) (fun r _ => r = res.1) (fun _ => qW D (tyL cI cZ cO) (va_A (wX8_keep cI cZ jhm jam Sm) sz) (wX8_keep cI cZ jhm jam res.2)) (va_A (wX8_keep cI cZ jhm jam Sm) sz)) 0 0 (va_A (wX8_keep cI cZ jhm jam Sm) sz) := by
  refine met_w (by decide) (Nat.le_of_ble_eq_true rfl) ?_
  intro p e s m below meth c hx hb hr hml ht hown hlk ls hl hsz hP hK hD0 hZ
  subst hsz
  have hD := hD0.self (sz := s.heap.size)
  generalize hAe : va_A (wX8_keep cI cZ jhm jam Sm) s.heap.size = A at hD hZ ⊢
  have hA : ∀ q : Nat, s.heap.size ≤ q → A q := fun q h => by rw [← hAe]; exact Or.inr h
  have hS : va_S A s.heap s.heap [] := va_S.rf
  have hown : s.vm.findClass "EyeDrinkModel" = some m.cls := hown
  have hl : lv_has ls 3 [(0, .ref jhm), (1, .int x1)] := hl
  have hC : CallFix p m c cX8_keep 3 s ([.ref jhm, .int x1] : List Value).toArray wT "EyeDrinkModel" := ⟨hx, hb, hml, hown, ht⟩
  unfold fX8_keep at hf
  suffices hgo : ∀ (H : Heap) (locs : List Loc), va_P D vwCl (wX8_keep cI cZ jhm jam Sm) H → va_S A s.heap H locs → W p l e (rmF 2 45) s m ([.ref jhm, .int x1] : List Value).toArray below meth c H locs 0 0 (MQ below (va_Qi (S := Unit) (fun r _ => r = res.1) (fun _ => qW D (tyL cI cZ cO) A (wX8_keep cI cZ jhm jam res.2)) A) ([.ref jhm, .int x1] : List Value).toArray s 0 0 A) (F0 m 0 ls []) from hgo s.heap [] hP hS
  have hj26 : ∀ (x2 : Int32) (Sm : Bk), lk2 (sX8_keep_26 x1) 1000 x2 Sm = some res → ∀ (H : Heap) (locs : List Loc) (ls : Array Slot), va_P D vwCl (wX8_keep cI cZ jhm jam Sm) H → va_D A (wX8_keep cI cZ jhm jam Sm) → va_S A s.heap H locs → lv_has ls 3 [(0, .ref jhm), (1, .int x1), (2, .int x2)] → W p l e (rmF 2 45) s m ([.ref jhm, .int x1] : List Value).toArray below meth c H locs 0 0 (MQ below (va_Qi (S := Unit) (fun r _ => r = res.1) (fun _ => qW D (tyL cI cZ cO) A (wX8_keep cI cZ jhm jam res.2)) A) ([.ref jhm, .int x1] : List Value).toArray s 0 0 A) (F0 m 26 ls []) := by
    refine lk2_w (fun (x2 : Int32) (Sm : Bk) => ∀ (H : Heap) (locs : List Loc) (ls : Array Slot), va_P D vwCl (wX8_keep cI cZ jhm jam Sm) H → va_D A (wX8_keep cI cZ jhm jam Sm) → va_S A s.heap H locs → lv_has ls 3 [(0, .ref jhm), (1, .int x1), (2, .int x2)] → W p l e (rmF 2 45) s m ([.ref jhm, .int x1] : List Value).toArray below meth c H locs 0 0 (MQ below (va_Qi (S := Unit) (fun r _ => r = res.1) (fun _ => qW D (tyL cI cZ cO) A (wX8_keep cI cZ jhm jam res.2)) A) ([.ref jhm, .int x1] : List Value).toArray s 0 0 A) (F0 m 26 ls [])) ?_ 1000
    intro k26 hk26 x2 Sm hf H locs ls hP hD hS hl
    unfold sX8_keep_26 at hf
    refine lv_iload_n hx hb dX8_keep_26 rfl (lv_at hl 2 rfl) ?_
    refine lv_bipush (v := (16 : Int32)) hx hb dX8_keep_27 rfl ?_
    refine lv_icmp_ge (tgt := 55) hx hb dX8_keep_29 (by decide) (fun c1 => ?_) (fun c1 => ?_)
    · have hf := itP c1 hf
      refine lv_aload_n hx hb dX8_keep_55 rfl (lv_at hl 0 rfl) ?_
      refine lv_aload_n hx hb dX8_keep_56 rfl (lv_at hl 0 rfl) ?_
      refine va_get (D := D) (ci := 7) (v := .ref (jam 7)) (C := RX8) (T := TX8) (N := 31) hx hb ht inX8 hown hK hP 0 rfl rfl 16 (by decide) (ht _ wd3_201) (fun _ h9 => h9) rfl dX8_keep_57 ?_
      obtain ⟨u2, e3, hf⟩ := bdS hf
      refine k_rV (As := [.ref (jam 7)]) (rest := []) hC miX8_estateOf mjX8_estateOf.1 mjX8_estateOf.2 wd4_87 (qX8_estateOf l D cI cZ cO jhm jam (jam 7) (16) Sm (Sm.2.1 7) u2 e3) ⟨Nat.le_of_ble_eq_true rfl, Nat.le_of_ble_eq_true rfl⟩ (hP.sub [0, 1, 2] rfl) hK hZ hS (va_recv hK hP (ci := 7) (q0 := 0) rfl rfl) hl.1 rfl rfl (Nat.le_of_ble_eq_true rfl) dX8_keep_60 ?_
      cases hf
      exact W.iret hx hb hr (fun t ht9 hW => ⟨⟨_, (), rfl, rfl, by rw [ht9]; exact hP, va_K.moved hW.alike hK, hD⟩, hS.F ht9⟩) hS.2.2 dX8_keep_63
    · have hf := itN c1 hf
      refine lv_aload_n hx hb dX8_keep_32 rfl (lv_at hl 0 rfl) ?_
      refine va_get (D := D) (ci := 7) (v := .ref (jam 10)) (C := RX8) (T := TX8) (N := 31) hx hb ht inX8 hown hK hP 0 rfl rfl 20 (by decide) (ht _ wd3_205) (fun _ h9 => h9) rfl dX8_keep_33 ?_
      refine lv_bipush (v := (16 : Int32)) hx hb dX8_keep_36 rfl ?_
      refine lv_iload_n hx hb dX8_keep_38 rfl (lv_at hl 1 rfl) ?_
      refine lv_imul hx hb dX8_keep_39 ?_
      refine lv_iload_n hx hb dX8_keep_40 rfl (lv_at hl 2 rfl) ?_
      refine lv_iadd hx hb dX8_keep_41 ?_
      refine lv_aload_n hx hb dX8_keep_42 rfl (lv_at hl 0 rfl) ?_
      refine va_get (D := D) (ci := 7) (v := .ref (jam 7)) (C := RX8) (T := TX8) (N := 31) hx hb ht inX8 hown hK hP 0 rfl rfl 16 (by decide) (ht _ wd3_201) (fun _ h9 => h9) rfl dX8_keep_43 ?_
      refine lv_iload_n hx hb dX8_keep_46 rfl (lv_at hl 2 rfl) ?_
      obtain ⟨h4, hf⟩ := inB_s hf
      refine va_iald (f := (Sm.2.1 7)) (n := 16) hx hb hK hP 2 0 rfl rfl h4 dX8_keep_47 ?_
      obtain ⟨v5, ev5, hf⟩ := nmV_s hf
      rw [← ev5]
      obtain ⟨h6, hf⟩ := inB_s hf
      obtain ⟨j7, ej7, hf⟩ := nmV_s hf
      refine va_iast (f := (Sm.2.1 10)) (n := 32) hx hb hK hP hD hS 3 0 rfl rfl h6 dX8_keep_48 (fun H locs hP hD hS => ?_)
      rw [← ej7] at hP hD
      have hP : va_P D vwCl (wX8_keep cI cZ jhm jam (bW Sm 10 j7 v5)) H := hP
      have hD : va_D A (wX8_keep cI cZ jhm jam (bW Sm 10 j7 v5)) := hD
      refine lv_iinc (v := (x2 + (1 : Int32))) (lv' := [(2, .int (x2 + (1 : Int32))), (0, .ref jhm), (1, .int x1)]) hx hb dX8_keep_49 hl (k := 2) rfl rfl (by decide) rfl (fun ls hl => ?_)
      refine lv_goto (tgt := 26) hx hb dX8_keep_52 (by decide) ?_
      exact hk26 (x2 + (1 : Int32)) (bW Sm 10 j7 v5) hf _ _ _ hP hD hS (lv_sub hl [1, 2, 0] rfl)
  intro H locs hP hS
  refine lv_aload_n hx hb dX8_keep_0 rfl (lv_at hl 0 rfl) ?_
  refine lv_iconst (v := (0 : Int32)) hx hb dX8_keep_1 rfl ?_
  refine va_put (D := D) (ci := 7) (v := .int (0 : Int32)) (ty := .int) (C := RX8) (T := TX8) (N := 31) hx hb ht inX8 tyX8 tyX8_ok nmX8 hown hK hP hD hS 0 rfl rfl 0 (by decide) (ht _ wd3_185) (fun _ h9 => h9) rfl (tyX8_ok 0 (by decide)) rfl rfl (Nat.le_of_ble_eq_true rfl) dX8_keep_2 (fun H locs hP hD hS => ?_)
  have hP : va_P D vwCl (wX8_keep cI cZ jhm jam (bI Sm 0 (0 : Int32))) H := hP
  have hD : va_D A (wX8_keep cI cZ jhm jam (bI Sm 0 (0 : Int32))) := hD
  refine lv_iload_n hx hb dX8_keep_5 rfl (lv_at hl 1 rfl) ?_
  refine lv_i2l hx hb dX8_keep_6 rfl ?_
  refine lv_lconst (v := 0) hx hb dX8_keep_7 rfl ?_
  refine lv_lconst (v := 1) hx hb dX8_keep_8 rfl ?_
  obtain ⟨u8, e9, hf⟩ := bdS hf
  refine k_pS (As := [.long x1.toInt64, .long (0 : Int64), .long (1 : Int64)]) (rest := []) hC miX8_in mjX8_in wd4_44 (qX8_in l x1.toInt64 (0 : Int64) (1 : Int64) u8 e9) ⟨Nat.le_of_ble_eq_true rfl, Nat.le_of_ble_eq_true rfl⟩ hl.1 rfl rfl (Nat.le_of_ble_eq_true rfl) dX8_keep_9 ?_
  refine lv_if_ne (tgt := 17) hx hb dX8_keep_12 (by decide) (fun c10 => ?_) (fun c10 => ?_)
  · have hf := itN c10 hf
    refine lv_aload_n hx hb dX8_keep_17 rfl (lv_at hl 0 rfl) ?_
    refine va_get (D := D) (ci := 7) (v := .ref (jam 11)) (C := RX8) (T := TX8) (N := 31) hx hb ht inX8 hown hK hP 0 rfl rfl 21 (by decide) (ht _ wd3_206) (fun _ h9 => h9) rfl dX8_keep_18 ?_
    refine lv_iload_n hx hb dX8_keep_21 rfl (lv_at hl 1 rfl) ?_
    refine lv_iconst (v := (1 : Int32)) hx hb dX8_keep_22 rfl ?_
    obtain ⟨h11, hf⟩ := inB_s hf
    obtain ⟨j12, ej12, hf⟩ := nmV_s hf
    refine va_zast (f := (Sm.2.1 11)) (n := 2) hx hb hK hP hD hS 4 1 rfl rfl h11 dX8_keep_23 (fun H locs hP hD hS => ?_)
    rw [← ej12] at hP hD
    have hP : va_P D vwCl (wX8_keep cI cZ jhm jam (bW (bI Sm 0 (0 : Int32)) 11 j12 (vp_nar .boolean (1 : Int32)))) H := hP
    have hD : va_D A (wX8_keep cI cZ jhm jam (bW (bI Sm 0 (0 : Int32)) 11 j12 (vp_nar .boolean (1 : Int32)))) := hD
    refine lv_iconst (v := (0 : Int32)) hx hb dX8_keep_24 rfl ?_
    refine lv_istore_n (lv' := [(2, .int (0 : Int32)), (0, .ref jhm), (1, .int x1)]) hx hb dX8_keep_25 rfl hl (by decide) rfl (fun ls hl => ?_)
    exact hj26 (0 : Int32) (bW (bI Sm 0 (0 : Int32)) 11 j12 (vp_nar .boolean (1 : Int32))) hf _ _ _ hP hD hS (lv_sub hl [1, 2, 0] rfl)
  · have hf := itP c10 hf
    refine lv_iconst (v := (-1 : Int32)) hx hb dX8_keep_15 rfl ?_
    cases hf
    exact W.iret hx hb hr (fun t ht9 hW => ⟨⟨_, (), rfl, rfl, by rw [ht9]; exact hP, va_K.moved hW.alike hK, hD⟩, hS.F ht9⟩) hS.2.2 dX8_keep_16
abbrev wX8_again (cI cZ : ClassId) (jhm : Nat) (jam : Nat → Nat) (Sm : Bk) : va_W := [(jhm, .inr (7, [.int (Sm.1 0), .ref (jam 0), .int (Sm.1 1), .int (Sm.1 2), .int (Sm.1 3), .int (Sm.1 4), .int (Sm.1 5), .ref (jam 1), .ref (jam 2), .ref (jam 3), .int (Sm.1 6), .int (Sm.1 7), .int (Sm.1 8), .ref (jam 4), .ref (jam 5), .ref (jam 6), .ref (jam 7), .ref (jam 8), .ref (jam 9), .int (Sm.1 9), .ref (jam 10), .ref (jam 11), .int (Sm.1 10), .ref (jam 12), .ref (jam 13), .long Sm.2.2, .ref (jam 14), .ref (jam 15), .int (Sm.1 11), .int (Sm.1 12), .int (Sm.1 13)])), (jam 1, .inl (cI, 12, .inl (Sm.2.1 1))), (jam 7, .inl (cI, 16, .inl (Sm.2.1 7))), (jam 10, .inl (cI, 32, .inl (Sm.2.1 10))), (jam 11, .inl (cZ, 2, .inl (Sm.2.1 11)))]
def sX8_again_31 (x1 : Int32) (k31 : Int32 → Bk → Option (Int32 × Bk)) (x2 : Int32) (Sm : Bk) : Option (Int32 × Bk) := (if (16 : Int32) ≤ x2 then (fX8_estateOf (bI Sm 9 (0 : Int32)) (Sm.2.1 7) 16).bind (fun u2 => some (u2, (bI Sm 9 (0 : Int32)))) else inB 32 (((16 : Int32) * x1) + x2) (nmV ((Sm.2.1 10) (((16 : Int32) * x1) + x2).toNatClampNeg) (fun v5 => inB 16 x2 (nmV x2.toNatClampNeg (fun j7 => k31 (x2 + (1 : Int32)) (bW Sm 7 j7 v5))))))
def fX8_again (Sm : Bk) (x1 : Int32) : Option (Int32 × Bk) := (fX8_in x1.toInt64 (0 : Int64) (1 : Int64)).bind (fun u8 => (if u8 = 0 then some ((-1 : Int32), (bI Sm 0 (0 : Int32))) else inB 2 x1 ((if ((Sm.2.1 11) x1.toNatClampNeg) = 0 then some ((-3 : Int32), (bI Sm 0 (0 : Int32))) else lk2 (sX8_again_31 x1) 1000 (0 : Int32) (bI Sm 0 (0 : Int32))))))
theorem miX8_again : MI yX8_again cX8_again 3 (some .int) 1 := ⟨wd1_8, wd5_61, by decide +kernel⟩
theorem mjX8_again : Cond.instanceMethod yX8_again ∈ wT ∧ Cond.selects yX8_again.cls yX8_again yX8_again ∈ wT := ⟨wd5_59, wd5_60⟩
set_option maxHeartbeats 4000000 in
set_option maxRecDepth 100000 in
theorem qX8_again (l : Launch) (D : va_G) (cI cZ cO : ClassId) (jhm : Nat) (jam : Nat → Nat) (Sm : Bk) (x1 : Int32) (sz : Nat) (res : Int32 × Bk) (hf : fX8_again Sm x1 = some res) : Met l yX8_again (Cond.code yX8_again cX8_again 3 (some .int) :: wT) (rmF 2 45) (va_Pc [.ref jhm, .int x1] (cW D (tyL cI cZ cO) (wX8_again cI cZ jhm jam Sm) sz)) (va_Qi (S := Unit) (fun r _ => r = res.1) (fun _ => qW D (tyL cI cZ cO) (va_A (wX8_again cI cZ jhm jam Sm) sz) (wX8_again cI cZ jhm jam res.2)) (va_A (wX8_again cI cZ jhm jam Sm) sz)) 0 0 (va_A (wX8_again cI cZ jhm jam Sm) sz) := by
  refine met_w (by decide) (Nat.le_of_ble_eq_true rfl) ?_
  intro p e s m below meth c hx hb hr hml ht hown hlk ls hl hsz hP hK hD0 hZ
  subst hsz
  have hD := hD0.self (sz := s.heap.size)
  generalize hAe : va_A (wX8_again cI cZ jhm jam Sm) s.heap.size = A at hD hZ ⊢
  have hA : ∀ q : Nat, s.heap.size ≤ q → A q := fun q h => by rw [← hAe]; exact Or.inr h
  have hS : va_S A s.heap s.heap [] := va_S.rf
  have hown : s.vm.findClass "EyeDrinkModel" = some m.cls := hown
  have hl : lv_has ls 3 [(0, .ref jhm), (1, .int x1)] := hl
  have hC : CallFix p m c cX8_again 3 s ([.ref jhm, .int x1] : List Value).toArray wT "EyeDrinkModel" := ⟨hx, hb, hml, hown, ht⟩
  unfold fX8_again at hf
  suffices hgo : ∀ (H : Heap) (locs : List Loc), va_P D vwCl (wX8_again cI cZ jhm jam Sm) H → va_S A s.heap H locs → W p l e (rmF 2 45) s m ([.ref jhm, .int x1] : List Value).toArray below meth c H locs 0 0 (MQ below (va_Qi (S := Unit) (fun r _ => r = res.1) (fun _ => qW D (tyL cI cZ cO) A (wX8_again cI cZ jhm jam res.2)) A) ([.ref jhm, .int x1] : List Value).toArray s 0 0 A) (F0 m 0 ls []) from hgo s.heap [] hP hS
  have hj31 : ∀ (x2 : Int32) (Sm : Bk), lk2 (sX8_again_31 x1) 1000 x2 Sm = some res → ∀ (H : Heap) (locs : List Loc) (ls : Array Slot), va_P D vwCl (wX8_again cI cZ jhm jam Sm) H → va_D A (wX8_again cI cZ jhm jam Sm) → va_S A s.heap H locs → lv_has ls 3 [(0, .ref jhm), (1, .int x1), (2, .int x2)] → W p l e (rmF 2 45) s m ([.ref jhm, .int x1] : List Value).toArray below meth c H locs 0 0 (MQ below (va_Qi (S := Unit) (fun r _ => r = res.1) (fun _ => qW D (tyL cI cZ cO) A (wX8_again cI cZ jhm jam res.2)) A) ([.ref jhm, .int x1] : List Value).toArray s 0 0 A) (F0 m 31 ls []) := by
    refine lk2_w (fun (x2 : Int32) (Sm : Bk) => ∀ (H : Heap) (locs : List Loc) (ls : Array Slot), va_P D vwCl (wX8_again cI cZ jhm jam Sm) H → va_D A (wX8_again cI cZ jhm jam Sm) → va_S A s.heap H locs → lv_has ls 3 [(0, .ref jhm), (1, .int x1), (2, .int x2)] → W p l e (rmF 2 45) s m ([.ref jhm, .int x1] : List Value).toArray below meth c H locs 0 0 (MQ below (va_Qi (S := Unit) (fun r _ => r = res.1) (fun _ => qW D (tyL cI cZ cO) A (wX8_again cI cZ jhm jam res.2)) A) ([.ref jhm, .int x1] : List Value).toArray s 0 0 A) (F0 m 31 ls [])) ?_ 1000
    intro k31 hk31 x2 Sm hf H locs ls hP hD hS hl
    unfold sX8_again_31 at hf
    refine lv_iload_n hx hb dX8_again_31 rfl (lv_at hl 2 rfl) ?_
    refine lv_bipush (v := (16 : Int32)) hx hb dX8_again_32 rfl ?_
    refine lv_icmp_ge (tgt := 60) hx hb dX8_again_34 (by decide) (fun c1 => ?_) (fun c1 => ?_)
    · have hf := itP c1 hf
      refine lv_aload_n hx hb dX8_again_60 rfl (lv_at hl 0 rfl) ?_
      refine lv_iconst (v := (0 : Int32)) hx hb dX8_again_61 rfl ?_
      refine va_put (D := D) (ci := 7) (v := .int (0 : Int32)) (ty := .int) (C := RX8) (T := TX8) (N := 31) hx hb ht inX8 tyX8 tyX8_ok nmX8 hown hK hP hD hS 0 rfl rfl 19 (by decide) (ht _ wd3_204) (fun _ h9 => h9) rfl (tyX8_ok 19 (by decide)) rfl rfl (Nat.le_of_ble_eq_true rfl) dX8_again_62 (fun H locs hP hD hS => ?_)
      have hP : va_P D vwCl (wX8_again cI cZ jhm jam (bI Sm 9 (0 : Int32))) H := hP
      have hD : va_D A (wX8_again cI cZ jhm jam (bI Sm 9 (0 : Int32))) := hD
      refine lv_aload_n hx hb dX8_again_65 rfl (lv_at hl 0 rfl) ?_
      refine lv_aload_n hx hb dX8_again_66 rfl (lv_at hl 0 rfl) ?_
      refine va_get (D := D) (ci := 7) (v := .ref (jam 7)) (C := RX8) (T := TX8) (N := 31) hx hb ht inX8 hown hK hP 0 rfl rfl 16 (by decide) (ht _ wd3_201) (fun _ h9 => h9) rfl dX8_again_67 ?_
      obtain ⟨u2, e3, hf⟩ := bdS hf
      refine k_rV (As := [.ref (jam 7)]) (rest := []) hC miX8_estateOf mjX8_estateOf.1 mjX8_estateOf.2 wd4_87 (qX8_estateOf l D cI cZ cO jhm jam (jam 7) (16) (bI Sm 9 (0 : Int32)) (Sm.2.1 7) u2 e3) ⟨Nat.le_of_ble_eq_true rfl, Nat.le_of_ble_eq_true rfl⟩ (hP.sub [0, 1, 2] rfl) hK hZ hS (va_recv hK hP (ci := 7) (q0 := 0) rfl rfl) hl.1 rfl rfl (Nat.le_of_ble_eq_true rfl) dX8_again_70 ?_
      cases hf
      exact W.iret hx hb hr (fun t ht9 hW => ⟨⟨_, (), rfl, rfl, by rw [ht9]; exact hP, va_K.moved hW.alike hK, hD⟩, hS.F ht9⟩) hS.2.2 dX8_again_73
    · have hf := itN c1 hf
      refine lv_aload_n hx hb dX8_again_37 rfl (lv_at hl 0 rfl) ?_
      refine va_get (D := D) (ci := 7) (v := .ref (jam 7)) (C := RX8) (T := TX8) (N := 31) hx hb ht inX8 hown hK hP 0 rfl rfl 16 (by decide) (ht _ wd3_201) (fun _ h9 => h9) rfl dX8_again_38 ?_
      refine lv_iload_n hx hb dX8_again_41 rfl (lv_at hl 2 rfl) ?_
      refine lv_aload_n hx hb dX8_again_42 rfl (lv_at hl 0 rfl) ?_
      refine va_get (D := D) (ci := 7) (v := .ref (jam 10)) (C := RX8) (T := TX8) (N := 31) hx hb ht inX8 hown hK hP 0 rfl rfl 20 (by decide) (ht _ wd3_205) (fun _ h9 => h9) rfl dX8_again_43 ?_
      refine lv_bipush (v := (16 : Int32)) hx hb dX8_again_46 rfl ?_
      refine lv_iload_n hx hb dX8_again_48 rfl (lv_at hl 1 rfl) ?_
      refine lv_imul hx hb dX8_again_49 ?_
      refine lv_iload_n hx hb dX8_again_50 rfl (lv_at hl 2 rfl) ?_
      refine lv_iadd hx hb dX8_again_51 ?_
      obtain ⟨h4, hf⟩ := inB_s hf
      refine va_iald (f := (Sm.2.1 10)) (n := 32) hx hb hK hP 3 0 rfl rfl h4 dX8_again_52 ?_
      obtain ⟨v5, ev5, hf⟩ := nmV_s hf
      rw [← ev5]
      obtain ⟨h6, hf⟩ := inB_s hf
      obtain ⟨j7, ej7, hf⟩ := nmV_s hf
      refine va_iast (f := (Sm.2.1 7)) (n := 16) hx hb hK hP hD hS 2 0 rfl rfl h6 dX8_again_53 (fun H locs hP hD hS => ?_)
      rw [← ej7] at hP hD
      have hP : va_P D vwCl (wX8_again cI cZ jhm jam (bW Sm 7 j7 v5)) H := hP
      have hD : va_D A (wX8_again cI cZ jhm jam (bW Sm 7 j7 v5)) := hD
      refine lv_iinc (v := (x2 + (1 : Int32))) (lv' := [(2, .int (x2 + (1 : Int32))), (0, .ref jhm), (1, .int x1)]) hx hb dX8_again_54 hl (k := 2) rfl rfl (by decide) rfl (fun ls hl => ?_)
      refine lv_goto (tgt := 31) hx hb dX8_again_57 (by decide) ?_
      exact hk31 (x2 + (1 : Int32)) (bW Sm 7 j7 v5) hf _ _ _ hP hD hS (lv_sub hl [1, 2, 0] rfl)
  intro H locs hP hS
  refine lv_aload_n hx hb dX8_again_0 rfl (lv_at hl 0 rfl) ?_
  refine lv_iconst (v := (0 : Int32)) hx hb dX8_again_1 rfl ?_
  refine va_put (D := D) (ci := 7) (v := .int (0 : Int32)) (ty := .int) (C := RX8) (T := TX8) (N := 31) hx hb ht inX8 tyX8 tyX8_ok nmX8 hown hK hP hD hS 0 rfl rfl 0 (by decide) (ht _ wd3_185) (fun _ h9 => h9) rfl (tyX8_ok 0 (by decide)) rfl rfl (Nat.le_of_ble_eq_true rfl) dX8_again_2 (fun H locs hP hD hS => ?_)
  have hP : va_P D vwCl (wX8_again cI cZ jhm jam (bI Sm 0 (0 : Int32))) H := hP
  have hD : va_D A (wX8_again cI cZ jhm jam (bI Sm 0 (0 : Int32))) := hD
  refine lv_iload_n hx hb dX8_again_5 rfl (lv_at hl 1 rfl) ?_
  refine lv_i2l hx hb dX8_again_6 rfl ?_
  refine lv_lconst (v := 0) hx hb dX8_again_7 rfl ?_
  refine lv_lconst (v := 1) hx hb dX8_again_8 rfl ?_
  obtain ⟨u8, e9, hf⟩ := bdS hf
  refine k_pS (As := [.long x1.toInt64, .long (0 : Int64), .long (1 : Int64)]) (rest := []) hC miX8_in mjX8_in wd4_44 (qX8_in l x1.toInt64 (0 : Int64) (1 : Int64) u8 e9) ⟨Nat.le_of_ble_eq_true rfl, Nat.le_of_ble_eq_true rfl⟩ hl.1 rfl rfl (Nat.le_of_ble_eq_true rfl) dX8_again_9 ?_
  refine lv_if_ne (tgt := 17) hx hb dX8_again_12 (by decide) (fun c10 => ?_) (fun c10 => ?_)
  · have hf := itN c10 hf
    refine lv_aload_n hx hb dX8_again_17 rfl (lv_at hl 0 rfl) ?_
    refine va_get (D := D) (ci := 7) (v := .ref (jam 11)) (C := RX8) (T := TX8) (N := 31) hx hb ht inX8 hown hK hP 0 rfl rfl 21 (by decide) (ht _ wd3_206) (fun _ h9 => h9) rfl dX8_again_18 ?_
    refine lv_iload_n hx hb dX8_again_21 rfl (lv_at hl 1 rfl) ?_
    obtain ⟨h11, hf⟩ := inB_s hf
    refine va_zald (f := (Sm.2.1 11)) (n := 2) hx hb hK hP 4 1 rfl rfl h11 dX8_again_22 ?_
    refine lv_if_ne (tgt := 29) hx hb dX8_again_23 (by decide) (fun c12 => ?_) (fun c12 => ?_)
    · have hf := itN c12 hf
      refine lv_iconst (v := (0 : Int32)) hx hb dX8_again_29 rfl ?_
      refine lv_istore_n (lv' := [(2, .int (0 : Int32)), (0, .ref jhm), (1, .int x1)]) hx hb dX8_again_30 rfl hl (by decide) rfl (fun ls hl => ?_)
      exact hj31 (0 : Int32) (bI Sm 0 (0 : Int32)) hf _ _ _ hP hD hS (lv_sub hl [1, 2, 0] rfl)
    · have hf := itP c12 hf
      refine lv_bipush (v := (-3 : Int32)) hx hb dX8_again_26 rfl ?_
      cases hf
      exact W.iret hx hb hr (fun t ht9 hW => ⟨⟨_, (), rfl, rfl, by rw [ht9]; exact hP, va_K.moved hW.alike hK, hD⟩, hS.F ht9⟩) hS.2.2 dX8_again_28
  · have hf := itP c10 hf
    refine lv_iconst (v := (-1 : Int32)) hx hb dX8_again_15 rfl ?_
    cases hf
    exact W.iret hx hb hr (fun t ht9 hW => ⟨⟨_, (), rfl, rfl, by rw [ht9]; exact hP, va_K.moved hW.alike hK, hD⟩, hS.F ht9⟩) hS.2.2 dX8_again_16
