abbrev wX7_write (cI cZ : ClassId) (jhe : Nat) (jae : Nat → Nat) (jhx : Nat) (jht : Nat) (jhw : Nat) (jhs : Nat) (jhd : Nat) (jhc : Nat) (jhr : Nat) (jhg : Nat) (jax : Nat → Nat) (Se : Bk) (Sx : Bk) : va_W := [(jhe, .inr (6, [.ref jhx, .ref jht, .ref jhw, .ref jhs, .ref jhd, .ref jhc, .ref jhr, .ref jhg, .ref (jae 8), .int (Se.1 0), .long Se.2.2])), (jhx, .inr (3, [.ref (jax 0), .ref (jax 1), .int (Sx.1 0)])), (jax 0, .inl (cI, 64, .inl (Sx.2.1 0)))]
def fX7_write (Se : Bk) (Sx : Bk) (x1 : Int32) : Option (Int32 × Bk) := (if x1 < 0 then some ((-2 : Int32), Sx) else (if x1 ≤ (255 : Int32) then (fX4_append Sx x1).bind (fun u3 => (if u3.1 = 0 then some ((-4 : Int32), u3.2) else some ((u3.2.1 0), u3.2))) else some ((-2 : Int32), Sx)))
theorem miX7_write : MI yX7_write cX7_write 2 (some .int) 1 := ⟨wd1_1, wd2_36, by decide +kernel⟩
theorem mjX7_write : Cond.instanceMethod yX7_write ∈ wT ∧ Cond.selects yX7_write.cls yX7_write yX7_write ∈ wT := ⟨wd2_34, wd2_35⟩
set_option maxHeartbeats 4000000 in
set_option maxRecDepth 100000 in
theorem qX7_write (l : Launch) (D : va_G) (cI cZ cO : ClassId) (jhe : Nat) (jae : Nat → Nat) (jhx : Nat) (jht : Nat) (jhw : Nat) (jhs : Nat) (jhd : Nat) (jhc : Nat) (jhr : Nat) (jhg : Nat) (jax : Nat → Nat) (Se : Bk) (Sx : Bk) (x1 : Int32) (sz : Nat) (res : Int32 × Bk) (hf : fX7_write Se Sx x1 = some res) : Met l yX7_write (Cond.code yX7_write cX7_write 2 (some .int) :: wT) (rmF 1 21) (va_Pc [.ref jhe, .int x1] (cW D (tyL cI cZ cO) (wX7_write cI cZ jhe jae jhx jht jhw jhs jhd jhc jhr jhg jax Se Sx) sz)) (va_Qi (S := Unit) (fun r _ => r = res.1) (fun _ => qW D (tyL cI cZ cO) (va_A (wX7_write cI cZ jhe jae jhx jht jhw jhs jhd jhc jhr jhg jax Se Sx) sz) (wX7_write cI cZ jhe jae jhx jht jhw jhs jhd jhc jhr jhg jax Se res.2)) (va_A (wX7_write cI cZ jhe jae jhx jht jhw jhs jhd jhc jhr jhg jax Se Sx) sz)) 0 0 (va_A (wX7_write cI cZ jhe jae jhx jht jhw jhs jhd jhc jhr jhg jax Se Sx) sz) := by
  refine met_w (by decide) (Nat.le_of_ble_eq_true rfl) ?_
  intro p e s m below meth c hx hb hr hml ht hown hlk ls hl hsz hP hK hD0 hZ
  subst hsz
  have hD := hD0.self (sz := s.heap.size)
  generalize hAe : va_A (wX7_write cI cZ jhe jae jhx jht jhw jhs jhd jhc jhr jhg jax Se Sx) s.heap.size = A at hD hZ ⊢
  have hA : ∀ q : Nat, s.heap.size ≤ q → A q := fun q h => by rw [← hAe]; exact Or.inr h
  have hS : va_S A s.heap s.heap [] := va_S.rf
  have hown : s.vm.findClass "EyeDrink" = some m.cls := hown
  have hl : lv_has ls 2 [(0, .ref jhe), (1, .int x1)] := hl
  have hC : CallFix p m c cX7_write 2 s ([.ref jhe, .int x1] : List Value).toArray wT "EyeDrink" := ⟨hx, hb, hml, hown, ht⟩
  unfold fX7_write at hf
  suffices hgo : ∀ (H : Heap) (locs : List Loc), va_P D vwCl (wX7_write cI cZ jhe jae jhx jht jhw jhs jhd jhc jhr jhg jax Se Sx) H → va_S A s.heap H locs → W p l e (rmF 1 21) s m ([.ref jhe, .int x1] : List Value).toArray below meth c H locs 0 0 (MQ below (va_Qi (S := Unit) (fun r _ => r = res.1) (fun _ => qW D (tyL cI cZ cO) A (wX7_write cI cZ jhe jae jhx jht jhw jhs jhd jhc jhr jhg jax Se res.2)) A) ([.ref jhe, .int x1] : List Value).toArray s 0 0 A) (F0 m 0 ls []) from hgo s.heap [] hP hS
  intro H locs hP hS
  refine lv_iload_n hx hb dX7_write_0 rfl (lv_at hl 1 rfl) ?_
  refine lv_if_lt (tgt := 11) hx hb dX7_write_1 (by decide) (fun c1 => ?_) (fun c1 => ?_)
  · have hf := itP c1 hf
    refine lv_bipush (v := (-2 : Int32)) hx hb dX7_write_11 rfl ?_
    cases hf
    exact W.iret hx hb hr (fun t ht9 hW => ⟨⟨_, (), rfl, rfl, by rw [ht9]; exact hP, va_K.moved hW.alike hK, hD⟩, hS.F ht9⟩) hS.2.2 dX7_write_13
  · have hf := itN c1 hf
    refine lv_iload_n hx hb dX7_write_4 rfl (lv_at hl 1 rfl) ?_
    refine lv_sipush (v := (255 : Int32)) hx hb dX7_write_5 rfl ?_
    refine lv_icmp_le (tgt := 14) hx hb dX7_write_8 (by decide) (fun c2 => ?_) (fun c2 => ?_)
    · have hf := itP c2 hf
      refine lv_aload_n hx hb dX7_write_14 rfl (lv_at hl 0 rfl) ?_
      refine va_get (D := D) (ci := 6) (v := .ref jhx) (C := RX7) (T := TX7) (N := 11) hx hb ht inX7 hown hK hP 0 rfl rfl 0 (by decide) (ht _ wd1_239) (fun _ h9 => h9) rfl dX7_write_15 ?_
      refine lv_iload_n hx hb dX7_write_18 rfl (lv_at hl 1 rfl) ?_
      obtain ⟨u3, e4, hf⟩ := bdS hf
      refine k_wVi (ws' := (wX7_write cI cZ jhe jae jhx jht jhw jhs jhd jhc jhr jhg jax Se u3.2)) (wr := [(jhe, .inr (6, [.ref jhx, .ref jht, .ref jhw, .ref jhs, .ref jhd, .ref jhc, .ref jhr, .ref jhg, .ref (jae 8), .int (Se.1 0), .long Se.2.2]))]) (As := [.int x1]) (rest := []) hC miX4_append mjX4_append.1 mjX4_append.2 wd2_37 (qX4_append l D cI cZ cO jhx jax Sx x1 H.size u3 e4) ⟨Nat.le_of_ble_eq_true rfl, Nat.le_of_ble_eq_true rfl⟩ hP hD hK hZ hS hA [1, 2] [0] [0, 1, 2] rfl (by decide) rfl (by decide) (by decide) (by decide) rfl (va_recv hK hP (ci := 3) (q0 := 1) rfl rfl) hl.1 rfl rfl (Nat.le_of_ble_eq_true rfl) dX7_write_19 (fun H locs hP hD hS => ?_)
      refine lv_if_eq (tgt := 35) hx hb dX7_write_22 (by decide) (fun c5 => ?_) (fun c5 => ?_)
      · have hf := itP c5 hf
        refine lv_bipush (v := (-4 : Int32)) hx hb dX7_write_35 rfl ?_
        cases hf
        exact W.iret hx hb hr (fun t ht9 hW => ⟨⟨_, (), rfl, rfl, by rw [ht9]; exact hP, va_K.moved hW.alike hK, hD⟩, hS.F ht9⟩) hS.2.2 dX7_write_37
      · have hf := itN c5 hf
        refine lv_aload_n hx hb dX7_write_25 rfl (lv_at hl 0 rfl) ?_
        refine va_get (D := D) (ci := 6) (v := .ref jhx) (C := RX7) (T := TX7) (N := 11) hx hb ht inX7 hown hK hP 0 rfl rfl 0 (by decide) (ht _ wd1_239) (fun _ h9 => h9) rfl dX7_write_26 ?_
        refine va_get (D := D) (ci := 3) (v := .int (u3.2.1 0)) (C := RX4) (T := TX4) (N := 3) hx hb ht inX4 hown hK hP 1 rfl rfl 2 (by decide) (ht _ wd1_30) (fun _ h9 => h9) rfl dX7_write_29 ?_
        refine lv_goto (tgt := 37) hx hb dX7_write_32 (by decide) ?_
        cases hf
        exact W.iret hx hb hr (fun t ht9 hW => ⟨⟨_, (), rfl, rfl, by rw [ht9]; exact hP, va_K.moved hW.alike hK, hD⟩, hS.F ht9⟩) hS.2.2 dX7_write_37
    · have hf := itN c2 hf
      refine lv_bipush (v := (-2 : Int32)) hx hb dX7_write_11 rfl ?_
      cases hf
      exact W.iret hx hb hr (fun t ht9 hW => ⟨⟨_, (), rfl, rfl, by rw [ht9]; exact hP, va_K.moved hW.alike hK, hD⟩, hS.F ht9⟩) hS.2.2 dX7_write_13
abbrev wX7_wipe (cI cZ : ClassId) (jhe : Nat) (jae : Nat → Nat) (jhx : Nat) (jht : Nat) (jhw : Nat) (jhs : Nat) (jhd : Nat) (jhc : Nat) (jhr : Nat) (jhg : Nat) (jax : Nat → Nat) (Se : Bk) (Sx : Bk) : va_W := [(jhe, .inr (6, [.ref jhx, .ref jht, .ref jhw, .ref jhs, .ref jhd, .ref jhc, .ref jhr, .ref jhg, .ref (jae 8), .int (Se.1 0), .long Se.2.2])), (jhx, .inr (3, [.ref (jax 0), .ref (jax 1), .int (Sx.1 0)]))]
def fX7_wipe (Se : Bk) (Sx : Bk) : Option (Int32 × Bk) := some ((Sx.1 0), (bI Sx 0 (0 : Int32)))
theorem miX7_wipe : MI yX7_wipe cX7_wipe 2 (some .int) 0 := ⟨wd1_1, wd2_44, by decide +kernel⟩
theorem mjX7_wipe : Cond.instanceMethod yX7_wipe ∈ wT ∧ Cond.selects yX7_wipe.cls yX7_wipe yX7_wipe ∈ wT := ⟨wd2_42, wd2_43⟩
set_option maxHeartbeats 4000000 in
set_option maxRecDepth 100000 in
theorem qX7_wipe (l : Launch) (D : va_G) (cI cZ cO : ClassId) (jhe : Nat) (jae : Nat → Nat) (jhx : Nat) (jht : Nat) (jhw : Nat) (jhs : Nat) (jhd : Nat) (jhc : Nat) (jhr : Nat) (jhg : Nat) (jax : Nat → Nat) (Se : Bk) (Sx : Bk) (sz : Nat) (res : Int32 × Bk) (hf : fX7_wipe Se Sx = some res) : Met l yX7_wipe (Cond.code yX7_wipe cX7_wipe 2 (some .int) :: wT) (rmF 0 0) (va_Pc [.ref jhe] (cW D (tyL cI cZ cO) (wX7_wipe cI cZ jhe jae jhx jht jhw jhs jhd jhc jhr jhg jax Se Sx) sz)) (va_Qi (S := Unit) (fun r _ => r = res.1) (fun _ => qW D (tyL cI cZ cO) (va_A (wX7_wipe cI cZ jhe jae jhx jht jhw jhs jhd jhc jhr jhg jax Se Sx) sz) (wX7_wipe cI cZ jhe jae jhx jht jhw jhs jhd jhc jhr jhg jax Se res.2)) (va_A (wX7_wipe cI cZ jhe jae jhx jht jhw jhs jhd jhc jhr jhg jax Se Sx) sz)) 0 0 (va_A (wX7_wipe cI cZ jhe jae jhx jht jhw jhs jhd jhc jhr jhg jax Se Sx) sz) := by
  refine met_w (by decide) (Nat.le_of_ble_eq_true rfl) ?_
  intro p e s m below meth c hx hb hr hml ht hown hlk ls hl hsz hP hK hD0 hZ
  subst hsz
  have hD := hD0.self (sz := s.heap.size)
  generalize hAe : va_A (wX7_wipe cI cZ jhe jae jhx jht jhw jhs jhd jhc jhr jhg jax Se Sx) s.heap.size = A at hD hZ ⊢
  have hA : ∀ q : Nat, s.heap.size ≤ q → A q := fun q h => by rw [← hAe]; exact Or.inr h
  have hS : va_S A s.heap s.heap [] := va_S.rf
  have hown : s.vm.findClass "EyeDrink" = some m.cls := hown
  have hl : lv_has ls 2 [(0, .ref jhe)] := hl
  unfold fX7_wipe at hf
  suffices hgo : ∀ (H : Heap) (locs : List Loc), va_P D vwCl (wX7_wipe cI cZ jhe jae jhx jht jhw jhs jhd jhc jhr jhg jax Se Sx) H → va_S A s.heap H locs → W p l e (rmF 0 0) s m ([.ref jhe] : List Value).toArray below meth c H locs 0 0 (MQ below (va_Qi (S := Unit) (fun r _ => r = res.1) (fun _ => qW D (tyL cI cZ cO) A (wX7_wipe cI cZ jhe jae jhx jht jhw jhs jhd jhc jhr jhg jax Se res.2)) A) ([.ref jhe] : List Value).toArray s 0 0 A) (F0 m 0 ls []) from hgo s.heap [] hP hS
  intro H locs hP hS
  refine lv_aload_n hx hb dX7_wipe_0 rfl (lv_at hl 0 rfl) ?_
  refine va_get (D := D) (ci := 6) (v := .ref jhx) (C := RX7) (T := TX7) (N := 11) hx hb ht inX7 hown hK hP 0 rfl rfl 0 (by decide) (ht _ wd1_239) (fun _ h9 => h9) rfl dX7_wipe_1 ?_
  refine va_get (D := D) (ci := 3) (v := .int (Sx.1 0)) (C := RX4) (T := TX4) (N := 3) hx hb ht inX4 hown hK hP 1 rfl rfl 2 (by decide) (ht _ wd1_30) (fun _ h9 => h9) rfl dX7_wipe_4 ?_
  refine lv_istore_n (lv' := [(1, .int (Sx.1 0)), (0, .ref jhe)]) hx hb dX7_wipe_7 rfl hl (by decide) rfl (fun ls hl => ?_)
  refine lv_aload_n hx hb dX7_wipe_8 rfl (lv_at hl 1 rfl) ?_
  refine va_get (D := D) (ci := 6) (v := .ref jhx) (C := RX7) (T := TX7) (N := 11) hx hb ht inX7 hown hK hP 0 rfl rfl 0 (by decide) (ht _ wd1_239) (fun _ h9 => h9) rfl dX7_wipe_9 ?_
  refine lv_iconst (v := (0 : Int32)) hx hb dX7_wipe_12 rfl ?_
  refine va_put (D := D) (ci := 3) (v := .int (0 : Int32)) (ty := .int) (C := RX4) (T := TX4) (N := 3) hx hb ht inX4 tyX4 tyX4_ok nmX4 hown hK hP hD hS 1 rfl rfl 2 (by decide) (ht _ wd1_30) (fun _ h9 => h9) rfl (tyX4_ok 2 (by decide)) rfl rfl (Nat.le_of_ble_eq_true rfl) dX7_wipe_13 (fun H locs hP hD hS => ?_)
  have hP : va_P D vwCl (wX7_wipe cI cZ jhe jae jhx jht jhw jhs jhd jhc jhr jhg jax Se (bI Sx 0 (0 : Int32))) H := hP
  have hD : va_D A (wX7_wipe cI cZ jhe jae jhx jht jhw jhs jhd jhc jhr jhg jax Se (bI Sx 0 (0 : Int32))) := hD
  refine lv_iload_n hx hb dX7_wipe_16 rfl (lv_at hl 0 rfl) ?_
  cases hf
  exact W.iret hx hb hr (fun t ht9 hW => ⟨⟨_, (), rfl, rfl, by rw [ht9]; exact hP, va_K.moved hW.alike hK, hD⟩, hS.F ht9⟩) hS.2.2 dX7_wipe_17
abbrev wX7_fault (cI cZ : ClassId) (jhe : Nat) (jae : Nat → Nat) (jhx : Nat) (jht : Nat) (jhw : Nat) (jhs : Nat) (jhd : Nat) (jhc : Nat) (jhr : Nat) (jhg : Nat) (jax : Nat → Nat) (jat : Nat → Nat) (Se : Bk) (Sx : Bk) (St : Bk) : va_W := [(jhe, .inr (6, [.ref jhx, .ref jht, .ref jhw, .ref jhs, .ref jhd, .ref jhc, .ref jhr, .ref jhg, .ref (jae 8), .int (Se.1 0), .long Se.2.2])), (jhx, .inr (3, [.ref (jax 0), .ref (jax 1), .int (Sx.1 0)])), (jax 0, .inl (cI, 64, .inl (Sx.2.1 0))), (jax 1, .inl (cI, 5, .inl (Sx.2.1 1))), (jht, .inr (5, [.int (St.1 0), .ref (jat 0), .ref (jat 1), .ref (jat 2), .int (St.1 1), .ref (jat 3), .ref (jat 4), .ref (jat 5), .int (St.1 2), .int (St.1 3), .ref (jat 6), .ref (jat 7), .ref (jat 8), .ref (jat 9), .ref (jat 10)])), (jat 0, .inl (cI, 4, .inl (St.2.1 0))), (jat 1, .inl (cI, 4, .inl (St.2.1 1))), (jat 2, .inl (cI, 4, .inl (St.2.1 2))), (jat 3, .inl (cI, 4, .inl (St.2.1 3))), (jat 4, .inl (cI, 4, .inl (St.2.1 4))), (jat 5, .inl (cI, 4, .inl (St.2.1 5))), (jat 6, .inl (cI, 4, .inl (St.2.1 6))), (jat 7, .inl (cI, 4, .inl (St.2.1 7))), (jat 8, .inl (cI, 4, .inl (St.2.1 8))), (jat 9, .inl (cI, 4, .inl (St.2.1 9))), (jat 10, .inl (cI, 4, .inl (St.2.1 10)))]
def fX7_fault (Se : Bk) (Sx : Bk) (St : Bk) : Option (Int32 × Bk × Bk) := (fX4_readInto Sx St).bind (fun u1 => some (u1.1, u1.2.1, u1.2.2))
theorem miX7_fault : MI yX7_fault cX7_fault 1 (some .int) 0 := ⟨wd1_1, wd2_48, by decide +kernel⟩
theorem mjX7_fault : Cond.instanceMethod yX7_fault ∈ wT ∧ Cond.selects yX7_fault.cls yX7_fault yX7_fault ∈ wT := ⟨wd2_46, wd2_47⟩
set_option maxHeartbeats 4000000 in
set_option maxRecDepth 100000 in
theorem qX7_fault (l : Launch) (D : va_G) (cI cZ cO : ClassId) (jhe : Nat) (jae : Nat → Nat) (jhx : Nat) (jht : Nat) (jhw : Nat) (jhs : Nat) (jhd : Nat) (jhc : Nat) (jhr : Nat) (jhg : Nat) (jax : Nat → Nat) (jat : Nat → Nat) (Se : Bk) (Sx : Bk) (St : Bk) (sz : Nat) (res : Int32 × Bk × Bk) (hf : fX7_fault Se Sx St = some res) : Met l yX7_fault (Cond.code yX7_fault cX7_fault 1 (some .int) :: wT) (rmF 3 68) (va_Pc [.ref jhe] (cW D (tyL cI cZ cO) (wX7_fault cI cZ jhe jae jhx jht jhw jhs jhd jhc jhr jhg jax jat Se Sx St) sz)) (va_Qi (S := Unit) (fun r _ => r = res.1) (fun _ => qW D (tyL cI cZ cO) (va_A (wX7_fault cI cZ jhe jae jhx jht jhw jhs jhd jhc jhr jhg jax jat Se Sx St) sz) (wX7_fault cI cZ jhe jae jhx jht jhw jhs jhd jhc jhr jhg jax jat Se res.2.1 res.2.2)) (va_A (wX7_fault cI cZ jhe jae jhx jht jhw jhs jhd jhc jhr jhg jax jat Se Sx St) sz)) 0 0 (va_A (wX7_fault cI cZ jhe jae jhx jht jhw jhs jhd jhc jhr jhg jax jat Se Sx St) sz) := by
  refine met_w (by decide) (Nat.le_of_ble_eq_true rfl) ?_
  intro p e s m below meth c hx hb hr hml ht hown hlk ls hl hsz hP hK hD0 hZ
  subst hsz
  have hD := hD0.self (sz := s.heap.size)
  generalize hAe : va_A (wX7_fault cI cZ jhe jae jhx jht jhw jhs jhd jhc jhr jhg jax jat Se Sx St) s.heap.size = A at hD hZ ⊢
  have hA : ∀ q : Nat, s.heap.size ≤ q → A q := fun q h => by rw [← hAe]; exact Or.inr h
  have hS : va_S A s.heap s.heap [] := va_S.rf
  have hown : s.vm.findClass "EyeDrink" = some m.cls := hown
  have hl : lv_has ls 1 [(0, .ref jhe)] := hl
  have hC : CallFix p m c cX7_fault 1 s ([.ref jhe] : List Value).toArray wT "EyeDrink" := ⟨hx, hb, hml, hown, ht⟩
  unfold fX7_fault at hf
  suffices hgo : ∀ (H : Heap) (locs : List Loc), va_P D vwCl (wX7_fault cI cZ jhe jae jhx jht jhw jhs jhd jhc jhr jhg jax jat Se Sx St) H → va_S A s.heap H locs → W p l e (rmF 3 68) s m ([.ref jhe] : List Value).toArray below meth c H locs 0 0 (MQ below (va_Qi (S := Unit) (fun r _ => r = res.1) (fun _ => qW D (tyL cI cZ cO) A (wX7_fault cI cZ jhe jae jhx jht jhw jhs jhd jhc jhr jhg jax jat Se res.2.1 res.2.2)) A) ([.ref jhe] : List Value).toArray s 0 0 A) (F0 m 0 ls []) from hgo s.heap [] hP hS
  intro H locs hP hS
  refine lv_aload_n hx hb dX7_fault_0 rfl (lv_at hl 0 rfl) ?_
  refine va_get (D := D) (ci := 6) (v := .ref jhx) (C := RX7) (T := TX7) (N := 11) hx hb ht inX7 hown hK hP 0 rfl rfl 0 (by decide) (ht _ wd1_239) (fun _ h9 => h9) rfl dX7_fault_1 ?_
  refine lv_aload_n hx hb dX7_fault_4 rfl (lv_at hl 0 rfl) ?_
  refine va_get (D := D) (ci := 6) (v := .ref jht) (C := RX7) (T := TX7) (N := 11) hx hb ht inX7 hown hK hP 0 rfl rfl 1 (by decide) (ht _ wd2_0) (fun _ h9 => h9) rfl dX7_fault_5 ?_
  obtain ⟨u1, e2, hf⟩ := bdS hf
  refine k_wVi (ws' := (wX7_fault cI cZ jhe jae jhx jht jhw jhs jhd jhc jhr jhg jax jat Se u1.2.1 u1.2.2)) (wr := [(jhe, .inr (6, [.ref jhx, .ref jht, .ref jhw, .ref jhs, .ref jhd, .ref jhc, .ref jhr, .ref jhg, .ref (jae 8), .int (Se.1 0), .long Se.2.2]))]) (As := [.ref jht]) (rest := []) hC miX4_readInto mjX4_readInto.1 mjX4_readInto.2 wd2_49 (qX4_readInto l D cI cZ cO jhx jax jht jat Sx St H.size u1 e2) ⟨Nat.le_of_ble_eq_true rfl, Nat.le_of_ble_eq_true rfl⟩ hP hD hK hZ hS hA [1, 2, 3, 4, 5, 6, 7, 8, 9, 10, 11, 12, 13, 14, 15] [0] [0, 1, 2, 3, 4, 5, 6, 7, 8, 9, 10, 11, 12, 13, 14, 15] rfl (by decide) rfl (by decide) (by decide) (by decide) rfl (va_recv hK hP (ci := 3) (q0 := 1) rfl rfl) hl.1 rfl rfl (Nat.le_of_ble_eq_true rfl) dX7_fault_8 (fun H locs hP hD hS => ?_)
  cases hf
  exact W.iret hx hb hr (fun t ht9 hW => ⟨⟨_, (), rfl, rfl, by rw [ht9]; exact hP, va_K.moved hW.alike hK, hD⟩, hS.F ht9⟩) hS.2.2 dX7_fault_11
abbrev wX7_well (cI cZ : ClassId) (jhe : Nat) (jae : Nat → Nat) (jhx : Nat) (jht : Nat) (jhw : Nat) (jhs : Nat) (jhd : Nat) (jhc : Nat) (jhr : Nat) (jhg : Nat) (jax : Nat → Nat) (jat : Nat → Nat) (jaw : Nat → Nat) (jas : Nat → Nat) (jac : Nat → Nat) (Se : Bk) (Sx : Bk) (St : Bk) (Sw : Bk) (Ss : Bk) (Sc : Bk) : va_W := [(jhe, .inr (6, [.ref jhx, .ref jht, .ref jhw, .ref jhs, .ref jhd, .ref jhc, .ref jhr, .ref jhg, .ref (jae 8), .int (Se.1 0), .long Se.2.2])), (jhx, .inr (3, [.ref (jax 0), .ref (jax 1), .int (Sx.1 0)])), (jax 0, .inl (cI, 64, .inl (Sx.2.1 0))), (jax 1, .inl (cI, 5, .inl (Sx.2.1 1))), (jht, .inr (5, [.int (St.1 0), .ref (jat 0), .ref (jat 1), .ref (jat 2), .int (St.1 1), .ref (jat 3), .ref (jat 4), .ref (jat 5), .int (St.1 2), .int (St.1 3), .ref (jat 6), .ref (jat 7), .ref (jat 8), .ref (jat 9), .ref (jat 10)])), (jat 0, .inl (cI, 4, .inl (St.2.1 0))), (jat 1, .inl (cI, 4, .inl (St.2.1 1))), (jat 2, .inl (cI, 4, .inl (St.2.1 2))), (jat 3, .inl (cI, 4, .inl (St.2.1 3))), (jat 4, .inl (cI, 4, .inl (St.2.1 4))), (jat 5, .inl (cI, 4, .inl (St.2.1 5))), (jat 6, .inl (cI, 4, .inl (St.2.1 6))), (jat 7, .inl (cI, 4, .inl (St.2.1 7))), (jat 8, .inl (cI, 4, .inl (St.2.1 8))), (jat 9, .inl (cI, 4, .inl (St.2.1 9))), (jat 10, .inl (cI, 4, .inl (St.2.1 10))), (jhw, .inr (5, [.int (Sw.1 0), .ref (jaw 0), .ref (jaw 1), .ref (jaw 2), .int (Sw.1 1), .ref (jaw 3), .ref (jaw 4), .ref (jaw 5), .int (Sw.1 2), .int (Sw.1 3), .ref (jaw 6), .ref (jaw 7), .ref (jaw 8), .ref (jaw 9), .ref (jaw 10)])), (jaw 0, .inl (cI, 4, .inl (Sw.2.1 0))), (jaw 1, .inl (cI, 4, .inl (Sw.2.1 1))), (jaw 2, .inl (cI, 4, .inl (Sw.2.1 2))), (jaw 3, .inl (cI, 4, .inl (Sw.2.1 3))), (jaw 4, .inl (cI, 4, .inl (Sw.2.1 4))), (jaw 5, .inl (cI, 4, .inl (Sw.2.1 5))), (jaw 6, .inl (cI, 4, .inl (Sw.2.1 6))), (jaw 7, .inl (cI, 4, .inl (Sw.2.1 7))), (jaw 8, .inl (cI, 4, .inl (Sw.2.1 8))), (jaw 9, .inl (cI, 4, .inl (Sw.2.1 9))), (jaw 10, .inl (cI, 4, .inl (Sw.2.1 10))), (jhs, .inr (2, [.ref jhw, .ref (jas 1), .ref (jas 2), .ref (jas 3), .int (Ss.1 0), .int (Ss.1 1), .int (Ss.1 2), .int (Ss.1 3)])), (jas 1, .inl (cI, 4, .inl (Ss.2.1 1))), (jas 2, .inl (cI, 4, .inl (Ss.2.1 2))), (jas 3, .inl (cI, 4, .inl (Ss.2.1 3))), (jhc, .inr (0, [.ref (jac 0), .int (Sc.1 0)]))]
def fX7_well (Se : Bk) (Sx : Bk) (St : Bk) (Sw : Bk) (Ss : Bk) (Sc : Bk) : Option (Int32 × Bk × Bk × Bk × Bk × Bk × Bk) := (fX4_readInto Sx St).bind (fun u1 => (if u1.1 = (-9 : Int32) then (fX4_readInto u1.2.1 Sw).bind (fun u4 => (fX3_begin u4.2.2 Ss).bind (fun u6 => some (((((100 : Int32) * (u4.2.2.1 0)) + ((10 : Int32) * (u4.2.2.1 1))) + (u4.2.2.1 3)), (bI Se 0 (0 : Int32)), u4.2.1, u1.2.2, u4.2.2, u6, (bI Sc 0 (0 : Int32))))) else some ((-3 : Int32), Se, u1.2.1, u1.2.2, Sw, Ss, Sc)))
theorem miX7_well : MI yX7_well cX7_well 1 (some .int) 0 := ⟨wd1_1, wd2_92, by decide +kernel⟩
theorem mjX7_well : Cond.instanceMethod yX7_well ∈ wT ∧ Cond.selects yX7_well.cls yX7_well yX7_well ∈ wT := ⟨wd2_90, wd2_91⟩
set_option maxHeartbeats 4000000 in
set_option maxRecDepth 100000 in
theorem qX7_well (l : Launch) (D : va_G) (cI cZ cO : ClassId) (jhe : Nat) (jae : Nat → Nat) (jhx : Nat) (jht : Nat) (jhw : Nat) (jhs : Nat) (jhd : Nat) (jhc : Nat) (jhr : Nat) (jhg : Nat) (jax : Nat → Nat) (jat : Nat → Nat) (jaw : Nat → Nat) (jas : Nat → Nat) (jac : Nat → Nat) (Se : Bk) (Sx : Bk) (St : Bk) (Sw : Bk) (Ss : Bk) (Sc : Bk) (sz : Nat) (res : Int32 × Bk × Bk × Bk × Bk × Bk × Bk) (hf : fX7_well Se Sx St Sw Ss Sc = some res) : Met l yX7_well (Cond.code yX7_well cX7_well 1 (some .int) :: wT) (rmF 3 68) (va_Pc [.ref jhe] (cW D (tyL cI cZ cO) (wX7_well cI cZ jhe jae jhx jht jhw jhs jhd jhc jhr jhg jax jat jaw jas jac Se Sx St Sw Ss Sc) sz)) (va_Qi (S := Unit) (fun r _ => r = res.1) (fun _ => qW D (tyL cI cZ cO) (va_A (wX7_well cI cZ jhe jae jhx jht jhw jhs jhd jhc jhr jhg jax jat jaw jas jac Se Sx St Sw Ss Sc) sz) (wX7_well cI cZ jhe jae jhx jht jhw jhs jhd jhc jhr jhg jax jat jaw jas jac res.2.1 res.2.2.1 res.2.2.2.1 res.2.2.2.2.1 res.2.2.2.2.2.1 res.2.2.2.2.2.2)) (va_A (wX7_well cI cZ jhe jae jhx jht jhw jhs jhd jhc jhr jhg jax jat jaw jas jac Se Sx St Sw Ss Sc) sz)) 0 0 (va_A (wX7_well cI cZ jhe jae jhx jht jhw jhs jhd jhc jhr jhg jax jat jaw jas jac Se Sx St Sw Ss Sc) sz) := by
  refine met_w (by decide) (Nat.le_of_ble_eq_true rfl) ?_
  intro p e s m below meth c hx hb hr hml ht hown hlk ls hl hsz hP hK hD0 hZ
  subst hsz
  have hD := hD0.self (sz := s.heap.size)
  generalize hAe : va_A (wX7_well cI cZ jhe jae jhx jht jhw jhs jhd jhc jhr jhg jax jat jaw jas jac Se Sx St Sw Ss Sc) s.heap.size = A at hD hZ ⊢
  have hA : ∀ q : Nat, s.heap.size ≤ q → A q := fun q h => by rw [← hAe]; exact Or.inr h
  have hS : va_S A s.heap s.heap [] := va_S.rf
  have hown : s.vm.findClass "EyeDrink" = some m.cls := hown
  have hl : lv_has ls 1 [(0, .ref jhe)] := hl
  have hC : CallFix p m c cX7_well 1 s ([.ref jhe] : List Value).toArray wT "EyeDrink" := ⟨hx, hb, hml, hown, ht⟩
  unfold fX7_well at hf
  suffices hgo : ∀ (H : Heap) (locs : List Loc), va_P D vwCl (wX7_well cI cZ jhe jae jhx jht jhw jhs jhd jhc jhr jhg jax jat jaw jas jac Se Sx St Sw Ss Sc) H → va_S A s.heap H locs → W p l e (rmF 3 68) s m ([.ref jhe] : List Value).toArray below meth c H locs 0 0 (MQ below (va_Qi (S := Unit) (fun r _ => r = res.1) (fun _ => qW D (tyL cI cZ cO) A (wX7_well cI cZ jhe jae jhx jht jhw jhs jhd jhc jhr jhg jax jat jaw jas jac res.2.1 res.2.2.1 res.2.2.2.1 res.2.2.2.2.1 res.2.2.2.2.2.1 res.2.2.2.2.2.2)) A) ([.ref jhe] : List Value).toArray s 0 0 A) (F0 m 0 ls []) from hgo s.heap [] hP hS
  intro H locs hP hS
  refine lv_aload_n hx hb dX7_well_0 rfl (lv_at hl 0 rfl) ?_
  refine va_get (D := D) (ci := 6) (v := .ref jhx) (C := RX7) (T := TX7) (N := 11) hx hb ht inX7 hown hK hP 0 rfl rfl 0 (by decide) (ht _ wd1_239) (fun _ h9 => h9) rfl dX7_well_1 ?_
  refine lv_aload_n hx hb dX7_well_4 rfl (lv_at hl 0 rfl) ?_
  refine va_get (D := D) (ci := 6) (v := .ref jht) (C := RX7) (T := TX7) (N := 11) hx hb ht inX7 hown hK hP 0 rfl rfl 1 (by decide) (ht _ wd2_0) (fun _ h9 => h9) rfl dX7_well_5 ?_
  obtain ⟨u1, e2, hf⟩ := bdS hf
  refine k_wVi (ws' := (wX7_well cI cZ jhe jae jhx jht jhw jhs jhd jhc jhr jhg jax jat jaw jas jac Se u1.2.1 u1.2.2 Sw Ss Sc)) (wr := [(jhe, .inr (6, [.ref jhx, .ref jht, .ref jhw, .ref jhs, .ref jhd, .ref jhc, .ref jhr, .ref jhg, .ref (jae 8), .int (Se.1 0), .long Se.2.2])), (jhw, .inr (5, [.int (Sw.1 0), .ref (jaw 0), .ref (jaw 1), .ref (jaw 2), .int (Sw.1 1), .ref (jaw 3), .ref (jaw 4), .ref (jaw 5), .int (Sw.1 2), .int (Sw.1 3), .ref (jaw 6), .ref (jaw 7), .ref (jaw 8), .ref (jaw 9), .ref (jaw 10)])), (jaw 0, .inl (cI, 4, .inl (Sw.2.1 0))), (jaw 1, .inl (cI, 4, .inl (Sw.2.1 1))), (jaw 2, .inl (cI, 4, .inl (Sw.2.1 2))), (jaw 3, .inl (cI, 4, .inl (Sw.2.1 3))), (jaw 4, .inl (cI, 4, .inl (Sw.2.1 4))), (jaw 5, .inl (cI, 4, .inl (Sw.2.1 5))), (jaw 6, .inl (cI, 4, .inl (Sw.2.1 6))), (jaw 7, .inl (cI, 4, .inl (Sw.2.1 7))), (jaw 8, .inl (cI, 4, .inl (Sw.2.1 8))), (jaw 9, .inl (cI, 4, .inl (Sw.2.1 9))), (jaw 10, .inl (cI, 4, .inl (Sw.2.1 10))), (jhs, .inr (2, [.ref jhw, .ref (jas 1), .ref (jas 2), .ref (jas 3), .int (Ss.1 0), .int (Ss.1 1), .int (Ss.1 2), .int (Ss.1 3)])), (jas 1, .inl (cI, 4, .inl (Ss.2.1 1))), (jas 2, .inl (cI, 4, .inl (Ss.2.1 2))), (jas 3, .inl (cI, 4, .inl (Ss.2.1 3))), (jhc, .inr (0, [.ref (jac 0), .int (Sc.1 0)]))]) (As := [.ref jht]) (rest := []) hC miX4_readInto mjX4_readInto.1 mjX4_readInto.2 wd2_49 (qX4_readInto l D cI cZ cO jhx jax jht jat Sx St H.size u1 e2) ⟨Nat.le_of_ble_eq_true rfl, Nat.le_of_ble_eq_true rfl⟩ hP hD hK hZ hS hA [1, 2, 3, 4, 5, 6, 7, 8, 9, 10, 11, 12, 13, 14, 15] [0, 16, 17, 18, 19, 20, 21, 22, 23, 24, 25, 26, 27, 28, 29, 30, 31, 32] [0, 18, 19, 20, 21, 22, 23, 24, 25, 26, 27, 28, 29, 30, 31, 32, 1, 2, 3, 4, 5, 6, 7, 8, 9, 10, 11, 12, 13, 14, 15, 16, 17] rfl (by decide) rfl (by decide) (by decide) (by decide) rfl (va_recv hK hP (ci := 3) (q0 := 1) rfl rfl) hl.1 rfl rfl (Nat.le_of_ble_eq_true rfl) dX7_well_8 (fun H locs hP hD hS => ?_)
  refine lv_bipush (v := (-9 : Int32)) hx hb dX7_well_11 rfl ?_
  refine lv_icmp_eq (tgt := 19) hx hb dX7_well_13 (by decide) (fun c3 => ?_) (fun c3 => ?_)
  · have hf := itP c3 hf
    refine lv_aload_n hx hb dX7_well_19 rfl (lv_at hl 0 rfl) ?_
    refine va_get (D := D) (ci := 6) (v := .ref jhx) (C := RX7) (T := TX7) (N := 11) hx hb ht inX7 hown hK hP 0 rfl rfl 0 (by decide) (ht _ wd1_239) (fun _ h9 => h9) rfl dX7_well_20 ?_
    refine lv_aload_n hx hb dX7_well_23 rfl (lv_at hl 0 rfl) ?_
    refine va_get (D := D) (ci := 6) (v := .ref jhw) (C := RX7) (T := TX7) (N := 11) hx hb ht inX7 hown hK hP 0 rfl rfl 2 (by decide) (ht _ wd2_1) (fun _ h9 => h9) rfl dX7_well_24 ?_
    obtain ⟨u4, e5, hf⟩ := bdS hf
    refine k_wVi (ws' := (wX7_well cI cZ jhe jae jhx jht jhw jhs jhd jhc jhr jhg jax jat jaw jas jac Se u4.2.1 u1.2.2 u4.2.2 Ss Sc)) (wr := [(jhe, .inr (6, [.ref jhx, .ref jht, .ref jhw, .ref jhs, .ref jhd, .ref jhc, .ref jhr, .ref jhg, .ref (jae 8), .int (Se.1 0), .long Se.2.2])), (jht, .inr (5, [.int (u1.2.2.1 0), .ref (jat 0), .ref (jat 1), .ref (jat 2), .int (u1.2.2.1 1), .ref (jat 3), .ref (jat 4), .ref (jat 5), .int (u1.2.2.1 2), .int (u1.2.2.1 3), .ref (jat 6), .ref (jat 7), .ref (jat 8), .ref (jat 9), .ref (jat 10)])), (jat 0, .inl (cI, 4, .inl (u1.2.2.2.1 0))), (jat 1, .inl (cI, 4, .inl (u1.2.2.2.1 1))), (jat 2, .inl (cI, 4, .inl (u1.2.2.2.1 2))), (jat 3, .inl (cI, 4, .inl (u1.2.2.2.1 3))), (jat 4, .inl (cI, 4, .inl (u1.2.2.2.1 4))), (jat 5, .inl (cI, 4, .inl (u1.2.2.2.1 5))), (jat 6, .inl (cI, 4, .inl (u1.2.2.2.1 6))), (jat 7, .inl (cI, 4, .inl (u1.2.2.2.1 7))), (jat 8, .inl (cI, 4, .inl (u1.2.2.2.1 8))), (jat 9, .inl (cI, 4, .inl (u1.2.2.2.1 9))), (jat 10, .inl (cI, 4, .inl (u1.2.2.2.1 10))), (jhs, .inr (2, [.ref jhw, .ref (jas 1), .ref (jas 2), .ref (jas 3), .int (Ss.1 0), .int (Ss.1 1), .int (Ss.1 2), .int (Ss.1 3)])), (jas 1, .inl (cI, 4, .inl (Ss.2.1 1))), (jas 2, .inl (cI, 4, .inl (Ss.2.1 2))), (jas 3, .inl (cI, 4, .inl (Ss.2.1 3))), (jhc, .inr (0, [.ref (jac 0), .int (Sc.1 0)]))]) (As := [.ref jhw]) (rest := []) hC miX4_readInto mjX4_readInto.1 mjX4_readInto.2 wd2_49 (qX4_readInto l D cI cZ cO jhx jax jhw jaw u1.2.1 Sw H.size u4 e5) ⟨Nat.le_of_ble_eq_true rfl, Nat.le_of_ble_eq_true rfl⟩ hP hD hK hZ hS hA [1, 2, 3, 16, 17, 18, 19, 20, 21, 22, 23, 24, 25, 26, 27] [0, 4, 5, 6, 7, 8, 9, 10, 11, 12, 13, 14, 15, 28, 29, 30, 31, 32] [0, 18, 19, 20, 1, 2, 3, 4, 5, 6, 7, 8, 9, 10, 11, 12, 21, 22, 23, 24, 25, 26, 27, 28, 29, 30, 31, 32, 13, 14, 15, 16, 17] rfl (by decide) rfl (by decide) (by decide) (by decide) rfl (va_recv hK hP (ci := 3) (q0 := 1) rfl rfl) hl.1 rfl rfl (Nat.le_of_ble_eq_true rfl) dX7_well_27 (fun H locs hP hD hS => ?_)
    refine lv_pop hx hb dX7_well_30 rfl ?_
    refine lv_aload_n hx hb dX7_well_31 rfl (lv_at hl 0 rfl) ?_
    refine va_get (D := D) (ci := 6) (v := .ref jhs) (C := RX7) (T := TX7) (N := 11) hx hb ht inX7 hown hK hP 0 rfl rfl 3 (by decide) (ht _ wd2_2) (fun _ h9 => h9) rfl dX7_well_32 ?_
    obtain ⟨u6, e7, hf⟩ := bdS hf
    refine k_wVv (ws' := (wX7_well cI cZ jhe jae jhx jht jhw jhs jhd jhc jhr jhg jax jat jaw jas jac Se u4.2.1 u1.2.2 u4.2.2 u6 Sc)) (wr := [(jhe, .inr (6, [.ref jhx, .ref jht, .ref jhw, .ref jhs, .ref jhd, .ref jhc, .ref jhr, .ref jhg, .ref (jae 8), .int (Se.1 0), .long Se.2.2])), (jhx, .inr (3, [.ref (jax 0), .ref (jax 1), .int (u4.2.1.1 0)])), (jax 0, .inl (cI, 64, .inl (u4.2.1.2.1 0))), (jax 1, .inl (cI, 5, .inl (u4.2.1.2.1 1))), (jht, .inr (5, [.int (u1.2.2.1 0), .ref (jat 0), .ref (jat 1), .ref (jat 2), .int (u1.2.2.1 1), .ref (jat 3), .ref (jat 4), .ref (jat 5), .int (u1.2.2.1 2), .int (u1.2.2.1 3), .ref (jat 6), .ref (jat 7), .ref (jat 8), .ref (jat 9), .ref (jat 10)])), (jat 0, .inl (cI, 4, .inl (u1.2.2.2.1 0))), (jat 1, .inl (cI, 4, .inl (u1.2.2.2.1 1))), (jat 2, .inl (cI, 4, .inl (u1.2.2.2.1 2))), (jat 3, .inl (cI, 4, .inl (u1.2.2.2.1 3))), (jat 4, .inl (cI, 4, .inl (u1.2.2.2.1 4))), (jat 5, .inl (cI, 4, .inl (u1.2.2.2.1 5))), (jat 6, .inl (cI, 4, .inl (u1.2.2.2.1 6))), (jat 7, .inl (cI, 4, .inl (u1.2.2.2.1 7))), (jat 8, .inl (cI, 4, .inl (u1.2.2.2.1 8))), (jat 9, .inl (cI, 4, .inl (u1.2.2.2.1 9))), (jat 10, .inl (cI, 4, .inl (u1.2.2.2.1 10))), (jaw 1, .inl (cI, 4, .inl (u4.2.2.2.1 1))), (jaw 2, .inl (cI, 4, .inl (u4.2.2.2.1 2))), (jaw 3, .inl (cI, 4, .inl (u4.2.2.2.1 3))), (jaw 4, .inl (cI, 4, .inl (u4.2.2.2.1 4))), (jaw 5, .inl (cI, 4, .inl (u4.2.2.2.1 5))), (jaw 6, .inl (cI, 4, .inl (u4.2.2.2.1 6))), (jaw 7, .inl (cI, 4, .inl (u4.2.2.2.1 7))), (jaw 8, .inl (cI, 4, .inl (u4.2.2.2.1 8))), (jaw 9, .inl (cI, 4, .inl (u4.2.2.2.1 9))), (jaw 10, .inl (cI, 4, .inl (u4.2.2.2.1 10))), (jhc, .inr (0, [.ref (jac 0), .int (Sc.1 0)]))]) (As := []) (rest := []) hC miX3_begin mjX3_begin.1 mjX3_begin.2 wd2_93 (qX3_begin l D cI cZ cO jhw jaw jhs jas u4.2.2 Ss H.size u6 e7) ⟨Nat.le_of_ble_eq_true rfl, Nat.le_of_ble_eq_true rfl⟩ hP hD hK hZ hS hA [16, 17, 28, 29, 30, 31] [0, 1, 2, 3, 4, 5, 6, 7, 8, 9, 10, 11, 12, 13, 14, 15, 18, 19, 20, 21, 22, 23, 24, 25, 26, 27, 32] [0, 1, 2, 3, 4, 5, 6, 7, 8, 9, 10, 11, 12, 13, 14, 15, 27, 28, 16, 17, 18, 19, 20, 21, 22, 23, 24, 25, 29, 30, 31, 32, 26] rfl (by decide) rfl (by decide) (by decide) (by decide) rfl (va_recv hK hP (ci := 2) (q0 := 28) rfl rfl) hl.1 rfl rfl (Nat.le_of_ble_eq_true rfl) dX7_well_35 (fun H locs hP hD hS => ?_)
    refine lv_aload_n hx hb dX7_well_38 rfl (lv_at hl 0 rfl) ?_
    refine va_get (D := D) (ci := 6) (v := .ref jhc) (C := RX7) (T := TX7) (N := 11) hx hb ht inX7 hown hK hP 0 rfl rfl 5 (by decide) (ht _ wd2_4) (fun _ h9 => h9) rfl dX7_well_39 ?_
    refine lv_iconst (v := (0 : Int32)) hx hb dX7_well_42 rfl ?_
    refine va_put (D := D) (ci := 0) (v := .int (0 : Int32)) (ty := .int) (C := RX0) (T := TX0) (N := 2) hx hb ht inX0 tyX0 tyX0_ok nmX0 hown hK hP hD hS 32 rfl rfl 1 (by decide) (ht _ wd1_178) (fun _ h9 => h9) rfl (tyX0_ok 1 (by decide)) rfl rfl (Nat.le_of_ble_eq_true rfl) dX7_well_43 (fun H locs hP hD hS => ?_)
    have hP : va_P D vwCl (wX7_well cI cZ jhe jae jhx jht jhw jhs jhd jhc jhr jhg jax jat jaw jas jac Se u4.2.1 u1.2.2 u4.2.2 u6 (bI Sc 0 (0 : Int32))) H := hP
    have hD : va_D A (wX7_well cI cZ jhe jae jhx jht jhw jhs jhd jhc jhr jhg jax jat jaw jas jac Se u4.2.1 u1.2.2 u4.2.2 u6 (bI Sc 0 (0 : Int32))) := hD
    refine lv_aload_n hx hb dX7_well_46 rfl (lv_at hl 0 rfl) ?_
    refine lv_iconst (v := (0 : Int32)) hx hb dX7_well_47 rfl ?_
    refine va_put (D := D) (ci := 6) (v := .int (0 : Int32)) (ty := .int) (C := RX7) (T := TX7) (N := 11) hx hb ht inX7 tyX7 tyX7_ok nmX7 hown hK hP hD hS 0 rfl rfl 9 (by decide) (ht _ wd2_8) (fun _ h9 => h9) rfl (tyX7_ok 9 (by decide)) rfl rfl (Nat.le_of_ble_eq_true rfl) dX7_well_48 (fun H locs hP hD hS => ?_)
    have hP : va_P D vwCl (wX7_well cI cZ jhe jae jhx jht jhw jhs jhd jhc jhr jhg jax jat jaw jas jac (bI Se 0 (0 : Int32)) u4.2.1 u1.2.2 u4.2.2 u6 (bI Sc 0 (0 : Int32))) H := hP
    have hD : va_D A (wX7_well cI cZ jhe jae jhx jht jhw jhs jhd jhc jhr jhg jax jat jaw jas jac (bI Se 0 (0 : Int32)) u4.2.1 u1.2.2 u4.2.2 u6 (bI Sc 0 (0 : Int32))) := hD
    refine lv_bipush (v := (100 : Int32)) hx hb dX7_well_51 rfl ?_
    refine lv_aload_n hx hb dX7_well_53 rfl (lv_at hl 0 rfl) ?_
    refine va_get (D := D) (ci := 6) (v := .ref jhw) (C := RX7) (T := TX7) (N := 11) hx hb ht inX7 hown hK hP 0 rfl rfl 2 (by decide) (ht _ wd2_1) (fun _ h9 => h9) rfl dX7_well_54 ?_
    refine va_get (D := D) (ci := 5) (v := .int (u4.2.2.1 0)) (C := RX6) (T := TX6) (N := 15) hx hb ht inX6 hown hK hP 16 rfl rfl 0 (by decide) (ht _ wd1_46) (fun _ h9 => h9) rfl dX7_well_57 ?_
    refine lv_imul hx hb dX7_well_60 ?_
    refine lv_bipush (v := (10 : Int32)) hx hb dX7_well_61 rfl ?_
    refine lv_aload_n hx hb dX7_well_63 rfl (lv_at hl 0 rfl) ?_
    refine va_get (D := D) (ci := 6) (v := .ref jhw) (C := RX7) (T := TX7) (N := 11) hx hb ht inX7 hown hK hP 0 rfl rfl 2 (by decide) (ht _ wd2_1) (fun _ h9 => h9) rfl dX7_well_64 ?_
    refine va_get (D := D) (ci := 5) (v := .int (u4.2.2.1 1)) (C := RX6) (T := TX6) (N := 15) hx hb ht inX6 hown hK hP 16 rfl rfl 4 (by decide) (ht _ wd1_60) (fun _ h9 => h9) rfl dX7_well_67 ?_
    refine lv_imul hx hb dX7_well_70 ?_
    refine lv_iadd hx hb dX7_well_71 ?_
    refine lv_aload_n hx hb dX7_well_72 rfl (lv_at hl 0 rfl) ?_
    refine va_get (D := D) (ci := 6) (v := .ref jhw) (C := RX7) (T := TX7) (N := 11) hx hb ht inX7 hown hK hP 0 rfl rfl 2 (by decide) (ht _ wd2_1) (fun _ h9 => h9) rfl dX7_well_73 ?_
    refine va_get (D := D) (ci := 5) (v := .int (u4.2.2.1 3)) (C := RX6) (T := TX6) (N := 15) hx hb ht inX6 hown hK hP 16 rfl rfl 9 (by decide) (ht _ wd1_78) (fun _ h9 => h9) rfl dX7_well_76 ?_
    refine lv_iadd hx hb dX7_well_79 ?_
    cases hf
    exact W.iret hx hb hr (fun t ht9 hW => ⟨⟨_, (), rfl, rfl, by rw [ht9]; exact hP, va_K.moved hW.alike hK, hD⟩, hS.F ht9⟩) hS.2.2 dX7_well_80
  · have hf := itN c3 hf
    refine lv_bipush (v := (-3 : Int32)) hx hb dX7_well_16 rfl ?_
    cases hf
    exact W.iret hx hb hr (fun t ht9 hW => ⟨⟨_, (), rfl, rfl, by rw [ht9]; exact hP, va_K.moved hW.alike hK, hD⟩, hS.F ht9⟩) hS.2.2 dX7_well_18
abbrev wX7_about (cI cZ : ClassId) (jhe : Nat) (jae : Nat → Nat) (jhx : Nat) (jht : Nat) (jhw : Nat) (jhs : Nat) (jhd : Nat) (jhc : Nat) (jhr : Nat) (jhg : Nat) (jax : Nat → Nat) (jaw : Nat → Nat) (jas : Nat → Nat) (jac : Nat → Nat) (jag : Nat → Nat) (Se : Bk) (Sx : Bk) (Sw : Bk) (Ss : Bk) (Sc : Bk) (Sg : Bk) : va_W := [(jhe, .inr (6, [.ref jhx, .ref jht, .ref jhw, .ref jhs, .ref jhd, .ref jhc, .ref jhr, .ref jhg, .ref (jae 8), .int (Se.1 0), .long Se.2.2])), (jhx, .inr (3, [.ref (jax 0), .ref (jax 1), .int (Sx.1 0)])), (jhw, .inr (5, [.int (Sw.1 0), .ref (jaw 0), .ref (jaw 1), .ref (jaw 2), .int (Sw.1 1), .ref (jaw 3), .ref (jaw 4), .ref (jaw 5), .int (Sw.1 2), .int (Sw.1 3), .ref (jaw 6), .ref (jaw 7), .ref (jaw 8), .ref (jaw 9), .ref (jaw 10)])), (jaw 0, .inl (cI, 4, .inl (Sw.2.1 0))), (jaw 1, .inl (cI, 4, .inl (Sw.2.1 1))), (jaw 2, .inl (cI, 4, .inl (Sw.2.1 2))), (jhs, .inr (2, [.ref jhw, .ref (jas 1), .ref (jas 2), .ref (jas 3), .int (Ss.1 0), .int (Ss.1 1), .int (Ss.1 2), .int (Ss.1 3)])), (jas 1, .inl (cI, 4, .inl (Ss.2.1 1))), (jhc, .inr (0, [.ref (jac 0), .int (Sc.1 0)])), (jhg, .inr (1, [.ref jhw, .ref (jag 1), .ref (jag 2), .int (Sg.1 0)]))]
def fX7_about (Se : Bk) (Sx : Bk) (Sw : Bk) (Ss : Bk) (Sc : Bk) (Sg : Bk) (x1 : Int32) : Option (Int32) := (if x1 = (0 : Int32) then some (Sw.1 0) else (if x1 = (1 : Int32) then some (Sw.1 1) else (if x1 = (2 : Int32) then some (Sw.1 3) else (if x1 = (3 : Int32) then some (Ss.1 2) else (if x1 = (4 : Int32) then some (Ss.1 0) else (if x1 = (5 : Int32) then some (Ss.1 1) else (if x1 = (6 : Int32) then (fX3_estate Sw Ss).bind (fun u2 => some u2) else (if x1 = (7 : Int32) then some (Sc.1 0) else (if x1 = (8 : Int32) then some (Sg.1 0) else (if x1 = (9 : Int32) then some (Sx.1 0) else some (-2 : Int32)))))))))))
theorem miX7_about : MI yX7_about cX7_about 2 (some .int) 1 := ⟨wd1_1, wd2_106, by decide +kernel⟩
theorem mjX7_about : Cond.instanceMethod yX7_about ∈ wT ∧ Cond.selects yX7_about.cls yX7_about yX7_about ∈ wT := ⟨wd2_104, wd2_105⟩
set_option maxHeartbeats 4000000 in
set_option maxRecDepth 100000 in
theorem qX7_about (l : Launch) (D : va_G) (cI cZ cO : ClassId) (jhe : Nat) (jae : Nat → Nat) (jhx : Nat) (jht : Nat) (jhw : Nat) (jhs : Nat) (jhd : Nat) (jhc : Nat) (jhr : Nat) (jhg : Nat) (jax : Nat → Nat) (jaw : Nat → Nat) (jas : Nat → Nat) (jac : Nat → Nat) (jag : Nat → Nat) (Se : Bk) (Sx : Bk) (Sw : Bk) (Ss : Bk) (Sc : Bk) (Sg : Bk) (x1 : Int32) (res : Int32) (hf : fX7_about Se Sx Sw Ss Sc Sg x1 = some res) : Met l yX7_about (Cond.code yX7_about cX7_about 2 (some .int) :: wT) (rmF 2 43) (va_Pc [.ref jhe, .int x1] (cR D (tyL cI cZ cO) (wX7_about cI cZ jhe jae jhx jht jhw jhs jhd jhc jhr jhg jax jaw jas jac jag Se Sx Sw Ss Sc Sg))) (vp_Si (fun r => r = res)) 0 0 (fun _ => False) := by
  refine met_r (by decide) (Nat.le_of_ble_eq_true rfl) ?_
  intro p e s m below meth c hx hb hr hml ht hown hlk ls hl hP hK hZ
  have hS : va_S (fun _ => False) s.heap s.heap [] := va_S.rf
  have hown : s.vm.findClass "EyeDrink" = some m.cls := hown
  have hl : lv_has ls 2 [(0, .ref jhe), (1, .int x1)] := hl
  have hC : CallFix p m c cX7_about 2 s ([.ref jhe, .int x1] : List Value).toArray wT "EyeDrink" := ⟨hx, hb, hml, hown, ht⟩
  unfold fX7_about at hf
  refine lv_iload_n hx hb dX7_about_0 rfl (lv_at hl 1 rfl) ?_
  by_cases c1_0 : x1 = (0 : Int32)
  · have hf := itP c1_0 hf
    refine lv_tableIn (tgt := 56) hx hb dX7_about_1 (by rw [c1_0]; decide) (by rw [c1_0]; decide) (by rw [c1_0]; rfl) (by decide) ?_
    refine lv_aload_n hx hb dX7_about_56 rfl (lv_at hl 0 rfl) ?_
    refine va_get (D := D) (ci := 6) (v := .ref jhw) (C := RX7) (T := TX7) (N := 11) hx hb ht inX7 hown hK hP 0 rfl rfl 2 (by decide) (ht _ wd2_1) (fun _ h9 => h9) rfl dX7_about_57 ?_
    refine va_get (D := D) (ci := 5) (v := .int (Sw.1 0)) (C := RX6) (T := TX6) (N := 15) hx hb ht inX6 hown hK hP 2 rfl rfl 0 (by decide) (ht _ wd1_46) (fun _ h9 => h9) rfl dX7_about_60 ?_
    exact W.iret hx hb hr (fun t ht9 _ => ⟨_, rfl, Option.some.inj hf, ht9⟩) (fun _ h9 => by cases h9) dX7_about_63
  · have hf := itN c1_0 hf
    by_cases c1_1 : x1 = (1 : Int32)
    · have hf := itP c1_1 hf
      refine lv_tableIn (tgt := 64) hx hb dX7_about_1 (by rw [c1_1]; decide) (by rw [c1_1]; decide) (by rw [c1_1]; rfl) (by decide) ?_
      refine lv_aload_n hx hb dX7_about_64 rfl (lv_at hl 0 rfl) ?_
      refine va_get (D := D) (ci := 6) (v := .ref jhw) (C := RX7) (T := TX7) (N := 11) hx hb ht inX7 hown hK hP 0 rfl rfl 2 (by decide) (ht _ wd2_1) (fun _ h9 => h9) rfl dX7_about_65 ?_
      refine va_get (D := D) (ci := 5) (v := .int (Sw.1 1)) (C := RX6) (T := TX6) (N := 15) hx hb ht inX6 hown hK hP 2 rfl rfl 4 (by decide) (ht _ wd1_60) (fun _ h9 => h9) rfl dX7_about_68 ?_
      exact W.iret hx hb hr (fun t ht9 _ => ⟨_, rfl, Option.some.inj hf, ht9⟩) (fun _ h9 => by cases h9) dX7_about_71
    · have hf := itN c1_1 hf
      by_cases c1_2 : x1 = (2 : Int32)
      · have hf := itP c1_2 hf
        refine lv_tableIn (tgt := 72) hx hb dX7_about_1 (by rw [c1_2]; decide) (by rw [c1_2]; decide) (by rw [c1_2]; rfl) (by decide) ?_
        refine lv_aload_n hx hb dX7_about_72 rfl (lv_at hl 0 rfl) ?_
        refine va_get (D := D) (ci := 6) (v := .ref jhw) (C := RX7) (T := TX7) (N := 11) hx hb ht inX7 hown hK hP 0 rfl rfl 2 (by decide) (ht _ wd2_1) (fun _ h9 => h9) rfl dX7_about_73 ?_
        refine va_get (D := D) (ci := 5) (v := .int (Sw.1 3)) (C := RX6) (T := TX6) (N := 15) hx hb ht inX6 hown hK hP 2 rfl rfl 9 (by decide) (ht _ wd1_78) (fun _ h9 => h9) rfl dX7_about_76 ?_
        exact W.iret hx hb hr (fun t ht9 _ => ⟨_, rfl, Option.some.inj hf, ht9⟩) (fun _ h9 => by cases h9) dX7_about_79
      · have hf := itN c1_2 hf
        by_cases c1_3 : x1 = (3 : Int32)
        · have hf := itP c1_3 hf
          refine lv_tableIn (tgt := 80) hx hb dX7_about_1 (by rw [c1_3]; decide) (by rw [c1_3]; decide) (by rw [c1_3]; rfl) (by decide) ?_
          refine lv_aload_n hx hb dX7_about_80 rfl (lv_at hl 0 rfl) ?_
          refine va_get (D := D) (ci := 6) (v := .ref jhs) (C := RX7) (T := TX7) (N := 11) hx hb ht inX7 hown hK hP 0 rfl rfl 3 (by decide) (ht _ wd2_2) (fun _ h9 => h9) rfl dX7_about_81 ?_
          refine va_get (D := D) (ci := 2) (v := .int (Ss.1 2)) (C := RX3) (T := TX3) (N := 8) hx hb ht inX3 hown hK hP 6 rfl rfl 6 (by decide) (ht _ wd1_148) (fun _ h9 => h9) rfl dX7_about_84 ?_
          exact W.iret hx hb hr (fun t ht9 _ => ⟨_, rfl, Option.some.inj hf, ht9⟩) (fun _ h9 => by cases h9) dX7_about_87
        · have hf := itN c1_3 hf
          by_cases c1_4 : x1 = (4 : Int32)
          · have hf := itP c1_4 hf
            refine lv_tableIn (tgt := 88) hx hb dX7_about_1 (by rw [c1_4]; decide) (by rw [c1_4]; decide) (by rw [c1_4]; rfl) (by decide) ?_
            refine lv_aload_n hx hb dX7_about_88 rfl (lv_at hl 0 rfl) ?_
            refine va_get (D := D) (ci := 6) (v := .ref jhs) (C := RX7) (T := TX7) (N := 11) hx hb ht inX7 hown hK hP 0 rfl rfl 3 (by decide) (ht _ wd2_2) (fun _ h9 => h9) rfl dX7_about_89 ?_
            refine va_get (D := D) (ci := 2) (v := .int (Ss.1 0)) (C := RX3) (T := TX3) (N := 8) hx hb ht inX3 hown hK hP 6 rfl rfl 4 (by decide) (ht _ wd1_143) (fun _ h9 => h9) rfl dX7_about_92 ?_
            exact W.iret hx hb hr (fun t ht9 _ => ⟨_, rfl, Option.some.inj hf, ht9⟩) (fun _ h9 => by cases h9) dX7_about_95
          · have hf := itN c1_4 hf
            by_cases c1_5 : x1 = (5 : Int32)
            · have hf := itP c1_5 hf
              refine lv_tableIn (tgt := 96) hx hb dX7_about_1 (by rw [c1_5]; decide) (by rw [c1_5]; decide) (by rw [c1_5]; rfl) (by decide) ?_
              refine lv_aload_n hx hb dX7_about_96 rfl (lv_at hl 0 rfl) ?_
              refine va_get (D := D) (ci := 6) (v := .ref jhs) (C := RX7) (T := TX7) (N := 11) hx hb ht inX7 hown hK hP 0 rfl rfl 3 (by decide) (ht _ wd2_2) (fun _ h9 => h9) rfl dX7_about_97 ?_
              refine va_get (D := D) (ci := 2) (v := .int (Ss.1 1)) (C := RX3) (T := TX3) (N := 8) hx hb ht inX3 hown hK hP 6 rfl rfl 5 (by decide) (ht _ wd1_146) (fun _ h9 => h9) rfl dX7_about_100 ?_
              exact W.iret hx hb hr (fun t ht9 _ => ⟨_, rfl, Option.some.inj hf, ht9⟩) (fun _ h9 => by cases h9) dX7_about_103
            · have hf := itN c1_5 hf
              by_cases c1_6 : x1 = (6 : Int32)
              · have hf := itP c1_6 hf
                refine lv_tableIn (tgt := 104) hx hb dX7_about_1 (by rw [c1_6]; decide) (by rw [c1_6]; decide) (by rw [c1_6]; rfl) (by decide) ?_
                refine lv_aload_n hx hb dX7_about_104 rfl (lv_at hl 0 rfl) ?_
                refine va_get (D := D) (ci := 6) (v := .ref jhs) (C := RX7) (T := TX7) (N := 11) hx hb ht inX7 hown hK hP 0 rfl rfl 3 (by decide) (ht _ wd2_2) (fun _ h9 => h9) rfl dX7_about_105 ?_
                obtain ⟨u2, e3, hf⟩ := bdS hf
                refine k_rV (As := []) (rest := []) hC miX3_estate mjX3_estate.1 mjX3_estate.2 wd2_107 (qX3_estate l D cI cZ cO jhw jaw jhs jas Sw Ss u2 e3) ⟨Nat.le_of_ble_eq_true rfl, Nat.le_of_ble_eq_true rfl⟩ (hP.sub [2, 3, 4, 5, 6, 7] rfl) hK hZ hS (va_recv hK hP (ci := 2) (q0 := 6) rfl rfl) hl.1 rfl rfl (Nat.le_of_ble_eq_true rfl) dX7_about_108 ?_
                exact W.iret hx hb hr (fun t ht9 _ => ⟨_, rfl, Option.some.inj hf, ht9⟩) (fun _ h9 => by cases h9) dX7_about_111
              · have hf := itN c1_6 hf
                by_cases c1_7 : x1 = (7 : Int32)
                · have hf := itP c1_7 hf
                  refine lv_tableIn (tgt := 112) hx hb dX7_about_1 (by rw [c1_7]; decide) (by rw [c1_7]; decide) (by rw [c1_7]; rfl) (by decide) ?_
                  refine lv_aload_n hx hb dX7_about_112 rfl (lv_at hl 0 rfl) ?_
                  refine va_get (D := D) (ci := 6) (v := .ref jhc) (C := RX7) (T := TX7) (N := 11) hx hb ht inX7 hown hK hP 0 rfl rfl 5 (by decide) (ht _ wd2_4) (fun _ h9 => h9) rfl dX7_about_113 ?_
                  refine va_get (D := D) (ci := 0) (v := .int (Sc.1 0)) (C := RX0) (T := TX0) (N := 2) hx hb ht inX0 hown hK hP 8 rfl rfl 1 (by decide) (ht _ wd1_178) (fun _ h9 => h9) rfl dX7_about_116 ?_
                  exact W.iret hx hb hr (fun t ht9 _ => ⟨_, rfl, Option.some.inj hf, ht9⟩) (fun _ h9 => by cases h9) dX7_about_119
                · have hf := itN c1_7 hf
                  by_cases c1_8 : x1 = (8 : Int32)
                  · have hf := itP c1_8 hf
                    refine lv_tableIn (tgt := 120) hx hb dX7_about_1 (by rw [c1_8]; decide) (by rw [c1_8]; decide) (by rw [c1_8]; rfl) (by decide) ?_
                    refine lv_aload_n hx hb dX7_about_120 rfl (lv_at hl 0 rfl) ?_
                    refine va_get (D := D) (ci := 6) (v := .ref jhg) (C := RX7) (T := TX7) (N := 11) hx hb ht inX7 hown hK hP 0 rfl rfl 7 (by decide) (ht _ wd2_6) (fun _ h9 => h9) rfl dX7_about_121 ?_
                    refine va_get (D := D) (ci := 1) (v := .int (Sg.1 0)) (C := RX2) (T := TX2) (N := 4) hx hb ht inX2 hown hK hP 9 rfl rfl 3 (by decide) (ht _ wd1_228) (fun _ h9 => h9) rfl dX7_about_124 ?_
                    exact W.iret hx hb hr (fun t ht9 _ => ⟨_, rfl, Option.some.inj hf, ht9⟩) (fun _ h9 => by cases h9) dX7_about_127
                  · have hf := itN c1_8 hf
                    by_cases c1_9 : x1 = (9 : Int32)
                    · have hf := itP c1_9 hf
                      refine lv_tableIn (tgt := 128) hx hb dX7_about_1 (by rw [c1_9]; decide) (by rw [c1_9]; decide) (by rw [c1_9]; rfl) (by decide) ?_
                      refine lv_aload_n hx hb dX7_about_128 rfl (lv_at hl 0 rfl) ?_
                      refine va_get (D := D) (ci := 6) (v := .ref jhx) (C := RX7) (T := TX7) (N := 11) hx hb ht inX7 hown hK hP 0 rfl rfl 0 (by decide) (ht _ wd1_239) (fun _ h9 => h9) rfl dX7_about_129 ?_
                      refine va_get (D := D) (ci := 3) (v := .int (Sx.1 0)) (C := RX4) (T := TX4) (N := 3) hx hb ht inX4 hown hK hP 1 rfl rfl 2 (by decide) (ht _ wd1_30) (fun _ h9 => h9) rfl dX7_about_132 ?_
                      exact W.iret hx hb hr (fun t ht9 _ => ⟨_, rfl, Option.some.inj hf, ht9⟩) (fun _ h9 => by cases h9) dX7_about_135
                    · have hf := itN c1_9 hf
                      have n0 := lv_neT (a := 0) c1_0 (by decide)
                      have n1 := lv_neT (a := 1) c1_1 (by decide)
                      have n2 := lv_neT (a := 2) c1_2 (by decide)
                      have n3 := lv_neT (a := 3) c1_3 (by decide)
                      have n4 := lv_neT (a := 4) c1_4 (by decide)
                      have n5 := lv_neT (a := 5) c1_5 (by decide)
                      have n6 := lv_neT (a := 6) c1_6 (by decide)
                      have n7 := lv_neT (a := 7) c1_7 (by decide)
                      have n8 := lv_neT (a := 8) c1_8 (by decide)
                      have n9 := lv_neT (a := 9) c1_9 (by decide)
                      refine lv_tableOut (tgt := 136) hx hb dX7_about_1 (by omega) (by decide) ?_
                      refine lv_bipush (v := (-2 : Int32)) hx hb dX7_about_136 rfl ?_
                      exact W.iret hx hb hr (fun t ht9 _ => ⟨_, rfl, Option.some.inj hf, ht9⟩) (fun _ h9 => by cases h9) dX7_about_138
abbrev wX7_thing (cI cZ : ClassId) (jhe : Nat) (jae : Nat → Nat) (jhx : Nat) (jht : Nat) (jhw : Nat) (jhs : Nat) (jhd : Nat) (jhc : Nat) (jhr : Nat) (jhg : Nat) (jaw : Nat → Nat) (jas : Nat → Nat) (Se : Bk) (Sw : Bk) (Ss : Bk) : va_W := [(jhe, .inr (6, [.ref jhx, .ref jht, .ref jhw, .ref jhs, .ref jhd, .ref jhc, .ref jhr, .ref jhg, .ref (jae 8), .int (Se.1 0), .long Se.2.2])), (jhw, .inr (5, [.int (Sw.1 0), .ref (jaw 0), .ref (jaw 1), .ref (jaw 2), .int (Sw.1 1), .ref (jaw 3), .ref (jaw 4), .ref (jaw 5), .int (Sw.1 2), .int (Sw.1 3), .ref (jaw 6), .ref (jaw 7), .ref (jaw 8), .ref (jaw 9), .ref (jaw 10)])), (jaw 0, .inl (cI, 4, .inl (Sw.2.1 0))), (jaw 1, .inl (cI, 4, .inl (Sw.2.1 1))), (jaw 2, .inl (cI, 4, .inl (Sw.2.1 2))), (jhs, .inr (2, [.ref jhw, .ref (jas 1), .ref (jas 2), .ref (jas 3), .int (Ss.1 0), .int (Ss.1 1), .int (Ss.1 2), .int (Ss.1 3)])), (jas 1, .inl (cI, 4, .inl (Ss.2.1 1))), (jas 2, .inl (cI, 4, .inl (Ss.2.1 2))), (jas 3, .inl (cI, 4, .inl (Ss.2.1 3)))]
def fX7_thing (Se : Bk) (Sw : Bk) (Ss : Bk) (x1 : Int32) (x2 : Int32) : Option (Int32) := (if x1 < 0 then some (-1 : Int32) else (if x1 < (Sw.1 0) then (if x2 = (0 : Int32) then inB 4 x1 (some ((Sw.2.1 0) x1.toNatClampNeg)) else (if x2 = (1 : Int32) then inB 4 x1 (some ((Sw.2.1 1) x1.toNatClampNeg)) else (if x2 = (2 : Int32) then inB 4 x1 (some ((Sw.2.1 2) x1.toNatClampNeg)) else (if x2 = (3 : Int32) then inB 4 x1 (some ((Ss.2.1 1) x1.toNatClampNeg)) else (if x2 = (4 : Int32) then (fX3_away Ss x1).bind (fun u8 => some u8) else some (-2 : Int32)))))) else some (-1 : Int32)))
theorem miX7_thing : MI yX7_thing cX7_thing 3 (some .int) 2 := ⟨wd1_1, wd2_122, by decide +kernel⟩
theorem mjX7_thing : Cond.instanceMethod yX7_thing ∈ wT ∧ Cond.selects yX7_thing.cls yX7_thing yX7_thing ∈ wT := ⟨wd2_120, wd2_121⟩
set_option maxHeartbeats 4000000 in
set_option maxRecDepth 100000 in
theorem qX7_thing (l : Launch) (D : va_G) (cI cZ cO : ClassId) (jhe : Nat) (jae : Nat → Nat) (jhx : Nat) (jht : Nat) (jhw : Nat) (jhs : Nat) (jhd : Nat) (jhc : Nat) (jhr : Nat) (jhg : Nat) (jaw : Nat → Nat) (jas : Nat → Nat) (Se : Bk) (Sw : Bk) (Ss : Bk) (x1 : Int32) (x2 : Int32) (res : Int32) (hf : fX7_thing Se Sw Ss x1 x2 = some res) : Met l yX7_thing (Cond.code yX7_thing cX7_thing 3 (some .int) :: wT) (rmF 1 21) (va_Pc [.ref jhe, .int x1, .int x2] (cR D (tyL cI cZ cO) (wX7_thing cI cZ jhe jae jhx jht jhw jhs jhd jhc jhr jhg jaw jas Se Sw Ss))) (vp_Si (fun r => r = res)) 0 0 (fun _ => False) := by
  refine met_r (by decide) (Nat.le_of_ble_eq_true rfl) ?_
  intro p e s m below meth c hx hb hr hml ht hown hlk ls hl hP hK hZ
  have hS : va_S (fun _ => False) s.heap s.heap [] := va_S.rf
  have hown : s.vm.findClass "EyeDrink" = some m.cls := hown
  have hl : lv_has ls 3 [(0, .ref jhe), (1, .int x1), (2, .int x2)] := hl
  have hC : CallFix p m c cX7_thing 3 s ([.ref jhe, .int x1, .int x2] : List Value).toArray wT "EyeDrink" := ⟨hx, hb, hml, hown, ht⟩
  unfold fX7_thing at hf
  refine lv_iload_n hx hb dX7_thing_0 rfl (lv_at hl 1 rfl) ?_
  refine lv_if_lt (tgt := 15) hx hb dX7_thing_1 (by decide) (fun c1 => ?_) (fun c1 => ?_)
  · have hf := itP c1 hf
    refine lv_iconst (v := (-1 : Int32)) hx hb dX7_thing_15 rfl ?_
    exact W.iret hx hb hr (fun t ht9 _ => ⟨_, rfl, Option.some.inj hf, ht9⟩) (fun _ h9 => by cases h9) dX7_thing_16
  · have hf := itN c1 hf
    refine lv_iload_n hx hb dX7_thing_4 rfl (lv_at hl 1 rfl) ?_
    refine lv_aload_n hx hb dX7_thing_5 rfl (lv_at hl 0 rfl) ?_
    refine va_get (D := D) (ci := 6) (v := .ref jhw) (C := RX7) (T := TX7) (N := 11) hx hb ht inX7 hown hK hP 0 rfl rfl 2 (by decide) (ht _ wd2_1) (fun _ h9 => h9) rfl dX7_thing_6 ?_
    refine va_get (D := D) (ci := 5) (v := .int (Sw.1 0)) (C := RX6) (T := TX6) (N := 15) hx hb ht inX6 hown hK hP 1 rfl rfl 0 (by decide) (ht _ wd1_46) (fun _ h9 => h9) rfl dX7_thing_9 ?_
    refine lv_icmp_lt (tgt := 17) hx hb dX7_thing_12 (by decide) (fun c2 => ?_) (fun c2 => ?_)
    · have hf := itP c2 hf
      refine lv_iload_n hx hb dX7_thing_17 rfl (lv_at hl 2 rfl) ?_
      by_cases c3_0 : x2 = (0 : Int32)
      · have hf := itP c3_0 hf
        refine lv_tableIn (tgt := 52) hx hb dX7_thing_18 (by rw [c3_0]; decide) (by rw [c3_0]; decide) (by rw [c3_0]; rfl) (by decide) ?_
        refine lv_aload_n hx hb dX7_thing_52 rfl (lv_at hl 0 rfl) ?_
        refine va_get (D := D) (ci := 6) (v := .ref jhw) (C := RX7) (T := TX7) (N := 11) hx hb ht inX7 hown hK hP 0 rfl rfl 2 (by decide) (ht _ wd2_1) (fun _ h9 => h9) rfl dX7_thing_53 ?_
        refine va_get (D := D) (ci := 5) (v := .ref (jaw 0)) (C := RX6) (T := TX6) (N := 15) hx hb ht inX6 hown hK hP 1 rfl rfl 1 (by decide) (ht _ wd1_51) (fun _ h9 => h9) rfl dX7_thing_56 ?_
        refine lv_iload_n hx hb dX7_thing_59 rfl (lv_at hl 1 rfl) ?_
        obtain ⟨h4, hf⟩ := inB_s hf
        refine va_iald (f := (Sw.2.1 0)) (n := 4) hx hb hK hP 2 0 rfl rfl h4 dX7_thing_60 ?_
        exact W.iret hx hb hr (fun t ht9 _ => ⟨_, rfl, Option.some.inj hf, ht9⟩) (fun _ h9 => by cases h9) dX7_thing_61
      · have hf := itN c3_0 hf
        by_cases c3_1 : x2 = (1 : Int32)
        · have hf := itP c3_1 hf
          refine lv_tableIn (tgt := 62) hx hb dX7_thing_18 (by rw [c3_1]; decide) (by rw [c3_1]; decide) (by rw [c3_1]; rfl) (by decide) ?_
          refine lv_aload_n hx hb dX7_thing_62 rfl (lv_at hl 0 rfl) ?_
          refine va_get (D := D) (ci := 6) (v := .ref jhw) (C := RX7) (T := TX7) (N := 11) hx hb ht inX7 hown hK hP 0 rfl rfl 2 (by decide) (ht _ wd2_1) (fun _ h9 => h9) rfl dX7_thing_63 ?_
          refine va_get (D := D) (ci := 5) (v := .ref (jaw 1)) (C := RX6) (T := TX6) (N := 15) hx hb ht inX6 hown hK hP 1 rfl rfl 2 (by decide) (ht _ wd1_53) (fun _ h9 => h9) rfl dX7_thing_66 ?_
          refine lv_iload_n hx hb dX7_thing_69 rfl (lv_at hl 1 rfl) ?_
          obtain ⟨h5, hf⟩ := inB_s hf
          refine va_iald (f := (Sw.2.1 1)) (n := 4) hx hb hK hP 3 0 rfl rfl h5 dX7_thing_70 ?_
          exact W.iret hx hb hr (fun t ht9 _ => ⟨_, rfl, Option.some.inj hf, ht9⟩) (fun _ h9 => by cases h9) dX7_thing_71
        · have hf := itN c3_1 hf
          by_cases c3_2 : x2 = (2 : Int32)
          · have hf := itP c3_2 hf
            refine lv_tableIn (tgt := 72) hx hb dX7_thing_18 (by rw [c3_2]; decide) (by rw [c3_2]; decide) (by rw [c3_2]; rfl) (by decide) ?_
            refine lv_aload_n hx hb dX7_thing_72 rfl (lv_at hl 0 rfl) ?_
            refine va_get (D := D) (ci := 6) (v := .ref jhw) (C := RX7) (T := TX7) (N := 11) hx hb ht inX7 hown hK hP 0 rfl rfl 2 (by decide) (ht _ wd2_1) (fun _ h9 => h9) rfl dX7_thing_73 ?_
            refine va_get (D := D) (ci := 5) (v := .ref (jaw 2)) (C := RX6) (T := TX6) (N := 15) hx hb ht inX6 hown hK hP 1 rfl rfl 3 (by decide) (ht _ wd1_55) (fun _ h9 => h9) rfl dX7_thing_76 ?_
            refine lv_iload_n hx hb dX7_thing_79 rfl (lv_at hl 1 rfl) ?_
            obtain ⟨h6, hf⟩ := inB_s hf
            refine va_iald (f := (Sw.2.1 2)) (n := 4) hx hb hK hP 4 0 rfl rfl h6 dX7_thing_80 ?_
            exact W.iret hx hb hr (fun t ht9 _ => ⟨_, rfl, Option.some.inj hf, ht9⟩) (fun _ h9 => by cases h9) dX7_thing_81
          · have hf := itN c3_2 hf
            by_cases c3_3 : x2 = (3 : Int32)
            · have hf := itP c3_3 hf
              refine lv_tableIn (tgt := 82) hx hb dX7_thing_18 (by rw [c3_3]; decide) (by rw [c3_3]; decide) (by rw [c3_3]; rfl) (by decide) ?_
              refine lv_aload_n hx hb dX7_thing_82 rfl (lv_at hl 0 rfl) ?_
              refine va_get (D := D) (ci := 6) (v := .ref jhs) (C := RX7) (T := TX7) (N := 11) hx hb ht inX7 hown hK hP 0 rfl rfl 3 (by decide) (ht _ wd2_2) (fun _ h9 => h9) rfl dX7_thing_83 ?_
              refine va_get (D := D) (ci := 2) (v := .ref (jas 1)) (C := RX3) (T := TX3) (N := 8) hx hb ht inX3 hown hK hP 5 rfl rfl 1 (by decide) (ht _ wd1_138) (fun _ h9 => h9) rfl dX7_thing_86 ?_
              refine lv_iload_n hx hb dX7_thing_89 rfl (lv_at hl 1 rfl) ?_
              obtain ⟨h7, hf⟩ := inB_s hf
              refine va_iald (f := (Ss.2.1 1)) (n := 4) hx hb hK hP 6 0 rfl rfl h7 dX7_thing_90 ?_
              exact W.iret hx hb hr (fun t ht9 _ => ⟨_, rfl, Option.some.inj hf, ht9⟩) (fun _ h9 => by cases h9) dX7_thing_91
            · have hf := itN c3_3 hf
              by_cases c3_4 : x2 = (4 : Int32)
              · have hf := itP c3_4 hf
                refine lv_tableIn (tgt := 92) hx hb dX7_thing_18 (by rw [c3_4]; decide) (by rw [c3_4]; decide) (by rw [c3_4]; rfl) (by decide) ?_
                refine lv_aload_n hx hb dX7_thing_92 rfl (lv_at hl 0 rfl) ?_
                refine va_get (D := D) (ci := 6) (v := .ref jhs) (C := RX7) (T := TX7) (N := 11) hx hb ht inX7 hown hK hP 0 rfl rfl 3 (by decide) (ht _ wd2_2) (fun _ h9 => h9) rfl dX7_thing_93 ?_
                refine lv_iload_n hx hb dX7_thing_96 rfl (lv_at hl 1 rfl) ?_
                obtain ⟨u8, e9, hf⟩ := bdS hf
                refine k_rV (As := [.int x1]) (rest := []) hC miX3_away mjX3_away.1 mjX3_away.2 wd2_123 (qX3_away l D cI cZ cO jhs jas jhw Ss x1 u8 e9) ⟨Nat.le_of_ble_eq_true rfl, Nat.le_of_ble_eq_true rfl⟩ (hP.sub [5, 7, 8] rfl) hK hZ hS (va_recv hK hP (ci := 2) (q0 := 5) rfl rfl) hl.1 rfl rfl (Nat.le_of_ble_eq_true rfl) dX7_thing_97 ?_
                exact W.iret hx hb hr (fun t ht9 _ => ⟨_, rfl, Option.some.inj hf, ht9⟩) (fun _ h9 => by cases h9) dX7_thing_100
              · have hf := itN c3_4 hf
                have n0 := lv_neT (a := 0) c3_0 (by decide)
                have n1 := lv_neT (a := 1) c3_1 (by decide)
                have n2 := lv_neT (a := 2) c3_2 (by decide)
                have n3 := lv_neT (a := 3) c3_3 (by decide)
                have n4 := lv_neT (a := 4) c3_4 (by decide)
                refine lv_tableOut (tgt := 101) hx hb dX7_thing_18 (by omega) (by decide) ?_
                refine lv_bipush (v := (-2 : Int32)) hx hb dX7_thing_101 rfl ?_
                exact W.iret hx hb hr (fun t ht9 _ => ⟨_, rfl, Option.some.inj hf, ht9⟩) (fun _ h9 => by cases h9) dX7_thing_103
    · have hf := itN c2 hf
      refine lv_iconst (v := (-1 : Int32)) hx hb dX7_thing_15 rfl ?_
      exact W.iret hx hb hr (fun t ht9 _ => ⟨_, rfl, Option.some.inj hf, ht9⟩) (fun _ h9 => by cases h9) dX7_thing_16
abbrev wX7_question (cI cZ : ClassId) (jhe : Nat) (jae : Nat → Nat) (jhx : Nat) (jht : Nat) (jhw : Nat) (jhs : Nat) (jhd : Nat) (jhc : Nat) (jhr : Nat) (jhg : Nat) (jaw : Nat → Nat) (jas : Nat → Nat) (Se : Bk) (Sw : Bk) (Ss : Bk) : va_W := [(jhe, .inr (6, [.ref jhx, .ref jht, .ref jhw, .ref jhs, .ref jhd, .ref jhc, .ref jhr, .ref jhg, .ref (jae 8), .int (Se.1 0), .long Se.2.2])), (jhw, .inr (5, [.int (Sw.1 0), .ref (jaw 0), .ref (jaw 1), .ref (jaw 2), .int (Sw.1 1), .ref (jaw 3), .ref (jaw 4), .ref (jaw 5), .int (Sw.1 2), .int (Sw.1 3), .ref (jaw 6), .ref (jaw 7), .ref (jaw 8), .ref (jaw 9), .ref (jaw 10)])), (jaw 3, .inl (cI, 4, .inl (Sw.2.1 3))), (jaw 4, .inl (cI, 4, .inl (Sw.2.1 4))), (jaw 5, .inl (cI, 4, .inl (Sw.2.1 5))), (jhs, .inr (2, [.ref jhw, .ref (jas 1), .ref (jas 2), .ref (jas 3), .int (Ss.1 0), .int (Ss.1 1), .int (Ss.1 2), .int (Ss.1 3)]))]
def fX7_question (Se : Bk) (Sw : Bk) (Ss : Bk) (x1 : Int32) (x2 : Int32) : Option (Int32) := (if x1 < 0 then some (-1 : Int32) else (if x1 < (Sw.1 1) then (if x2 = (0 : Int32) then inB 4 x1 (some ((Sw.2.1 3) x1.toNatClampNeg)) else (if x2 = (1 : Int32) then inB 4 x1 (some ((Sw.2.1 4) x1.toNatClampNeg)) else (if x2 = (2 : Int32) then inB 4 x1 (some ((Sw.2.1 5) x1.toNatClampNeg)) else (if x2 = (3 : Int32) then (fX3_knows Ss x1).bind (fun u7 => (if u7 = 0 then some (-9 : Int32) else (fX6_answer Sw x1).bind (fun u10 => some u10))) else some (-2 : Int32))))) else some (-1 : Int32)))
theorem miX7_question : MI yX7_question cX7_question 3 (some .int) 2 := ⟨wd1_1, wd2_130, by decide +kernel⟩
theorem mjX7_question : Cond.instanceMethod yX7_question ∈ wT ∧ Cond.selects yX7_question.cls yX7_question yX7_question ∈ wT := ⟨wd2_128, wd2_129⟩
set_option maxHeartbeats 4000000 in
set_option maxRecDepth 100000 in
theorem qX7_question (l : Launch) (D : va_G) (cI cZ cO : ClassId) (jhe : Nat) (jae : Nat → Nat) (jhx : Nat) (jht : Nat) (jhw : Nat) (jhs : Nat) (jhd : Nat) (jhc : Nat) (jhr : Nat) (jhg : Nat) (jaw : Nat → Nat) (jas : Nat → Nat) (Se : Bk) (Sw : Bk) (Ss : Bk) (x1 : Int32) (x2 : Int32) (res : Int32) (hf : fX7_question Se Sw Ss x1 x2 = some res) : Met l yX7_question (Cond.code yX7_question cX7_question 3 (some .int) :: wT) (rmF 1 21) (va_Pc [.ref jhe, .int x1, .int x2] (cR D (tyL cI cZ cO) (wX7_question cI cZ jhe jae jhx jht jhw jhs jhd jhc jhr jhg jaw jas Se Sw Ss))) (vp_Si (fun r => r = res)) 0 0 (fun _ => False) := by
  refine met_r (by decide) (Nat.le_of_ble_eq_true rfl) ?_
  intro p e s m below meth c hx hb hr hml ht hown hlk ls hl hP hK hZ
  have hS : va_S (fun _ => False) s.heap s.heap [] := va_S.rf
  have hown : s.vm.findClass "EyeDrink" = some m.cls := hown
  have hl : lv_has ls 3 [(0, .ref jhe), (1, .int x1), (2, .int x2)] := hl
  have hC : CallFix p m c cX7_question 3 s ([.ref jhe, .int x1, .int x2] : List Value).toArray wT "EyeDrink" := ⟨hx, hb, hml, hown, ht⟩
  unfold fX7_question at hf
  refine lv_iload_n hx hb dX7_question_0 rfl (lv_at hl 1 rfl) ?_
  refine lv_if_lt (tgt := 15) hx hb dX7_question_1 (by decide) (fun c1 => ?_) (fun c1 => ?_)
  · have hf := itP c1 hf
    refine lv_iconst (v := (-1 : Int32)) hx hb dX7_question_15 rfl ?_
    exact W.iret hx hb hr (fun t ht9 _ => ⟨_, rfl, Option.some.inj hf, ht9⟩) (fun _ h9 => by cases h9) dX7_question_16
  · have hf := itN c1 hf
    refine lv_iload_n hx hb dX7_question_4 rfl (lv_at hl 1 rfl) ?_
    refine lv_aload_n hx hb dX7_question_5 rfl (lv_at hl 0 rfl) ?_
    refine va_get (D := D) (ci := 6) (v := .ref jhw) (C := RX7) (T := TX7) (N := 11) hx hb ht inX7 hown hK hP 0 rfl rfl 2 (by decide) (ht _ wd2_1) (fun _ h9 => h9) rfl dX7_question_6 ?_
    refine va_get (D := D) (ci := 5) (v := .int (Sw.1 1)) (C := RX6) (T := TX6) (N := 15) hx hb ht inX6 hown hK hP 1 rfl rfl 4 (by decide) (ht _ wd1_60) (fun _ h9 => h9) rfl dX7_question_9 ?_
    refine lv_icmp_lt (tgt := 17) hx hb dX7_question_12 (by decide) (fun c2 => ?_) (fun c2 => ?_)
    · have hf := itP c2 hf
      refine lv_iload_n hx hb dX7_question_17 rfl (lv_at hl 2 rfl) ?_
      by_cases c3_0 : x2 = (0 : Int32)
      · have hf := itP c3_0 hf
        refine lv_tableIn (tgt := 48) hx hb dX7_question_18 (by rw [c3_0]; decide) (by rw [c3_0]; decide) (by rw [c3_0]; rfl) (by decide) ?_
        refine lv_aload_n hx hb dX7_question_48 rfl (lv_at hl 0 rfl) ?_
        refine va_get (D := D) (ci := 6) (v := .ref jhw) (C := RX7) (T := TX7) (N := 11) hx hb ht inX7 hown hK hP 0 rfl rfl 2 (by decide) (ht _ wd2_1) (fun _ h9 => h9) rfl dX7_question_49 ?_
        refine va_get (D := D) (ci := 5) (v := .ref (jaw 3)) (C := RX6) (T := TX6) (N := 15) hx hb ht inX6 hown hK hP 1 rfl rfl 5 (by decide) (ht _ wd1_64) (fun _ h9 => h9) rfl dX7_question_52 ?_
        refine lv_iload_n hx hb dX7_question_55 rfl (lv_at hl 1 rfl) ?_
        obtain ⟨h4, hf⟩ := inB_s hf
        refine va_iald (f := (Sw.2.1 3)) (n := 4) hx hb hK hP 2 0 rfl rfl h4 dX7_question_56 ?_
        exact W.iret hx hb hr (fun t ht9 _ => ⟨_, rfl, Option.some.inj hf, ht9⟩) (fun _ h9 => by cases h9) dX7_question_57
      · have hf := itN c3_0 hf
        by_cases c3_1 : x2 = (1 : Int32)
        · have hf := itP c3_1 hf
          refine lv_tableIn (tgt := 58) hx hb dX7_question_18 (by rw [c3_1]; decide) (by rw [c3_1]; decide) (by rw [c3_1]; rfl) (by decide) ?_
          refine lv_aload_n hx hb dX7_question_58 rfl (lv_at hl 0 rfl) ?_
          refine va_get (D := D) (ci := 6) (v := .ref jhw) (C := RX7) (T := TX7) (N := 11) hx hb ht inX7 hown hK hP 0 rfl rfl 2 (by decide) (ht _ wd2_1) (fun _ h9 => h9) rfl dX7_question_59 ?_
          refine va_get (D := D) (ci := 5) (v := .ref (jaw 4)) (C := RX6) (T := TX6) (N := 15) hx hb ht inX6 hown hK hP 1 rfl rfl 6 (by decide) (ht _ wd1_68) (fun _ h9 => h9) rfl dX7_question_62 ?_
          refine lv_iload_n hx hb dX7_question_65 rfl (lv_at hl 1 rfl) ?_
          obtain ⟨h5, hf⟩ := inB_s hf
          refine va_iald (f := (Sw.2.1 4)) (n := 4) hx hb hK hP 3 0 rfl rfl h5 dX7_question_66 ?_
          exact W.iret hx hb hr (fun t ht9 _ => ⟨_, rfl, Option.some.inj hf, ht9⟩) (fun _ h9 => by cases h9) dX7_question_67
        · have hf := itN c3_1 hf
          by_cases c3_2 : x2 = (2 : Int32)
          · have hf := itP c3_2 hf
            refine lv_tableIn (tgt := 68) hx hb dX7_question_18 (by rw [c3_2]; decide) (by rw [c3_2]; decide) (by rw [c3_2]; rfl) (by decide) ?_
            refine lv_aload_n hx hb dX7_question_68 rfl (lv_at hl 0 rfl) ?_
            refine va_get (D := D) (ci := 6) (v := .ref jhw) (C := RX7) (T := TX7) (N := 11) hx hb ht inX7 hown hK hP 0 rfl rfl 2 (by decide) (ht _ wd2_1) (fun _ h9 => h9) rfl dX7_question_69 ?_
            refine va_get (D := D) (ci := 5) (v := .ref (jaw 5)) (C := RX6) (T := TX6) (N := 15) hx hb ht inX6 hown hK hP 1 rfl rfl 7 (by decide) (ht _ wd1_71) (fun _ h9 => h9) rfl dX7_question_72 ?_
            refine lv_iload_n hx hb dX7_question_75 rfl (lv_at hl 1 rfl) ?_
            obtain ⟨h6, hf⟩ := inB_s hf
            refine va_iald (f := (Sw.2.1 5)) (n := 4) hx hb hK hP 4 0 rfl rfl h6 dX7_question_76 ?_
            exact W.iret hx hb hr (fun t ht9 _ => ⟨_, rfl, Option.some.inj hf, ht9⟩) (fun _ h9 => by cases h9) dX7_question_77
          · have hf := itN c3_2 hf
            by_cases c3_3 : x2 = (3 : Int32)
            · have hf := itP c3_3 hf
              refine lv_tableIn (tgt := 78) hx hb dX7_question_18 (by rw [c3_3]; decide) (by rw [c3_3]; decide) (by rw [c3_3]; rfl) (by decide) ?_
              refine lv_aload_n hx hb dX7_question_78 rfl (lv_at hl 0 rfl) ?_
              refine va_get (D := D) (ci := 6) (v := .ref jhs) (C := RX7) (T := TX7) (N := 11) hx hb ht inX7 hown hK hP 0 rfl rfl 3 (by decide) (ht _ wd2_2) (fun _ h9 => h9) rfl dX7_question_79 ?_
              refine lv_iload_n hx hb dX7_question_82 rfl (lv_at hl 1 rfl) ?_
              obtain ⟨u7, e8, hf⟩ := bdS hf
              refine k_rV (As := [.int x1]) (rest := []) hC miX3_knows mjX3_knows.1 mjX3_knows.2 wd2_131 (qX3_knows l D cI cZ cO jhs jas jhw Ss x1 u7 e8) ⟨Nat.le_of_ble_eq_true rfl, Nat.le_of_ble_eq_true rfl⟩ (hP.sub [5] rfl) hK hZ hS (va_recv hK hP (ci := 2) (q0 := 5) rfl rfl) hl.1 rfl rfl (Nat.le_of_ble_eq_true rfl) dX7_question_83 ?_
              refine lv_if_eq (tgt := 100) hx hb dX7_question_86 (by decide) (fun c9 => ?_) (fun c9 => ?_)
              · have hf := itP c9 hf
                refine lv_bipush (v := (-9 : Int32)) hx hb dX7_question_100 rfl ?_
                exact W.iret hx hb hr (fun t ht9 _ => ⟨_, rfl, Option.some.inj hf, ht9⟩) (fun _ h9 => by cases h9) dX7_question_102
              · have hf := itN c9 hf
                refine lv_aload_n hx hb dX7_question_89 rfl (lv_at hl 0 rfl) ?_
                refine va_get (D := D) (ci := 6) (v := .ref jhw) (C := RX7) (T := TX7) (N := 11) hx hb ht inX7 hown hK hP 0 rfl rfl 2 (by decide) (ht _ wd2_1) (fun _ h9 => h9) rfl dX7_question_90 ?_
                refine lv_iload_n hx hb dX7_question_93 rfl (lv_at hl 1 rfl) ?_
                obtain ⟨u10, e11, hf⟩ := bdS hf
                refine k_rV (As := [.int x1]) (rest := []) hC miX6_answer mjX6_answer.1 mjX6_answer.2 wd2_135 (qX6_answer l D cI cZ cO jhw jaw Sw x1 u10 e11) ⟨Nat.le_of_ble_eq_true rfl, Nat.le_of_ble_eq_true rfl⟩ (hP.sub [1] rfl) hK hZ hS (va_recv hK hP (ci := 5) (q0 := 1) rfl rfl) hl.1 rfl rfl (Nat.le_of_ble_eq_true rfl) dX7_question_94 ?_
                refine lv_goto (tgt := 102) hx hb dX7_question_97 (by decide) ?_
                exact W.iret hx hb hr (fun t ht9 _ => ⟨_, rfl, Option.some.inj hf, ht9⟩) (fun _ h9 => by cases h9) dX7_question_102
            · have hf := itN c3_3 hf
              have n0 := lv_neT (a := 0) c3_0 (by decide)
              have n1 := lv_neT (a := 1) c3_1 (by decide)
              have n2 := lv_neT (a := 2) c3_2 (by decide)
              have n3 := lv_neT (a := 3) c3_3 (by decide)
              refine lv_tableOut (tgt := 103) hx hb dX7_question_18 (by omega) (by decide) ?_
              refine lv_bipush (v := (-2 : Int32)) hx hb dX7_question_103 rfl ?_
              exact W.iret hx hb hr (fun t ht9 _ => ⟨_, rfl, Option.some.inj hf, ht9⟩) (fun _ h9 => by cases h9) dX7_question_105
    · have hf := itN c2 hf
      refine lv_iconst (v := (-1 : Int32)) hx hb dX7_question_15 rfl ?_
      exact W.iret hx hb hr (fun t ht9 _ => ⟨_, rfl, Option.some.inj hf, ht9⟩) (fun _ h9 => by cases h9) dX7_question_16
abbrev wX7_deed (cI cZ : ClassId) (jhe : Nat) (jae : Nat → Nat) (jhx : Nat) (jht : Nat) (jhw : Nat) (jhs : Nat) (jhd : Nat) (jhc : Nat) (jhr : Nat) (jhg : Nat) (jaw : Nat → Nat) (jas : Nat → Nat) (Se : Bk) (Sw : Bk) (Ss : Bk) : va_W := [(jhe, .inr (6, [.ref jhx, .ref jht, .ref jhw, .ref jhs, .ref jhd, .ref jhc, .ref jhr, .ref jhg, .ref (jae 8), .int (Se.1 0), .long Se.2.2])), (jhw, .inr (5, [.int (Sw.1 0), .ref (jaw 0), .ref (jaw 1), .ref (jaw 2), .int (Sw.1 1), .ref (jaw 3), .ref (jaw 4), .ref (jaw 5), .int (Sw.1 2), .int (Sw.1 3), .ref (jaw 6), .ref (jaw 7), .ref (jaw 8), .ref (jaw 9), .ref (jaw 10)])), (jaw 6, .inl (cI, 4, .inl (Sw.2.1 6))), (jaw 7, .inl (cI, 4, .inl (Sw.2.1 7))), (jaw 8, .inl (cI, 4, .inl (Sw.2.1 8))), (jaw 9, .inl (cI, 4, .inl (Sw.2.1 9))), (jaw 10, .inl (cI, 4, .inl (Sw.2.1 10))), (jhs, .inr (2, [.ref jhw, .ref (jas 1), .ref (jas 2), .ref (jas 3), .int (Ss.1 0), .int (Ss.1 1), .int (Ss.1 2), .int (Ss.1 3)]))]
def fX7_deed (Se : Bk) (Sw : Bk) (Ss : Bk) (x1 : Int32) (x2 : Int32) : Option (Int32) := (if x1 < 0 then some (-1 : Int32) else (if x1 < (Sw.1 3) then (if x2 = (0 : Int32) then inB 4 x1 (some ((Sw.2.1 6) x1.toNatClampNeg)) else (if x2 = (1 : Int32) then inB 4 x1 (some ((Sw.2.1 7) x1.toNatClampNeg)) else (if x2 = (2 : Int32) then inB 4 x1 (some ((Sw.2.1 8) x1.toNatClampNeg)) else (if x2 = (3 : Int32) then inB 4 x1 (some ((Sw.2.1 9) x1.toNatClampNeg)) else (if x2 = (4 : Int32) then inB 4 x1 (some ((Sw.2.1 10) x1.toNatClampNeg)) else (if x2 = (5 : Int32) then (fX3_hasDone Ss x1).bind (fun u9 => (if u9 = 0 then some (0 : Int32) else some (1 : Int32))) else some (-2 : Int32))))))) else some (-1 : Int32)))
theorem miX7_deed : MI yX7_deed cX7_deed 3 (some .int) 2 := ⟨wd1_1, wd2_142, by decide +kernel⟩
theorem mjX7_deed : Cond.instanceMethod yX7_deed ∈ wT ∧ Cond.selects yX7_deed.cls yX7_deed yX7_deed ∈ wT := ⟨wd2_140, wd2_141⟩
set_option maxHeartbeats 4000000 in
set_option maxRecDepth 100000 in
theorem qX7_deed (l : Launch) (D : va_G) (cI cZ cO : ClassId) (jhe : Nat) (jae : Nat → Nat) (jhx : Nat) (jht : Nat) (jhw : Nat) (jhs : Nat) (jhd : Nat) (jhc : Nat) (jhr : Nat) (jhg : Nat) (jaw : Nat → Nat) (jas : Nat → Nat) (Se : Bk) (Sw : Bk) (Ss : Bk) (x1 : Int32) (x2 : Int32) (res : Int32) (hf : fX7_deed Se Sw Ss x1 x2 = some res) : Met l yX7_deed (Cond.code yX7_deed cX7_deed 3 (some .int) :: wT) (rmF 1 21) (va_Pc [.ref jhe, .int x1, .int x2] (cR D (tyL cI cZ cO) (wX7_deed cI cZ jhe jae jhx jht jhw jhs jhd jhc jhr jhg jaw jas Se Sw Ss))) (vp_Si (fun r => r = res)) 0 0 (fun _ => False) := by
  refine met_r (by decide) (Nat.le_of_ble_eq_true rfl) ?_
  intro p e s m below meth c hx hb hr hml ht hown hlk ls hl hP hK hZ
  have hS : va_S (fun _ => False) s.heap s.heap [] := va_S.rf
  have hown : s.vm.findClass "EyeDrink" = some m.cls := hown
  have hl : lv_has ls 3 [(0, .ref jhe), (1, .int x1), (2, .int x2)] := hl
  have hC : CallFix p m c cX7_deed 3 s ([.ref jhe, .int x1, .int x2] : List Value).toArray wT "EyeDrink" := ⟨hx, hb, hml, hown, ht⟩
  unfold fX7_deed at hf
  refine lv_iload_n hx hb dX7_deed_0 rfl (lv_at hl 1 rfl) ?_
  refine lv_if_lt (tgt := 15) hx hb dX7_deed_1 (by decide) (fun c1 => ?_) (fun c1 => ?_)
  · have hf := itP c1 hf
    refine lv_iconst (v := (-1 : Int32)) hx hb dX7_deed_15 rfl ?_
    exact W.iret hx hb hr (fun t ht9 _ => ⟨_, rfl, Option.some.inj hf, ht9⟩) (fun _ h9 => by cases h9) dX7_deed_16
  · have hf := itN c1 hf
    refine lv_iload_n hx hb dX7_deed_4 rfl (lv_at hl 1 rfl) ?_
    refine lv_aload_n hx hb dX7_deed_5 rfl (lv_at hl 0 rfl) ?_
    refine va_get (D := D) (ci := 6) (v := .ref jhw) (C := RX7) (T := TX7) (N := 11) hx hb ht inX7 hown hK hP 0 rfl rfl 2 (by decide) (ht _ wd2_1) (fun _ h9 => h9) rfl dX7_deed_6 ?_
    refine va_get (D := D) (ci := 5) (v := .int (Sw.1 3)) (C := RX6) (T := TX6) (N := 15) hx hb ht inX6 hown hK hP 1 rfl rfl 9 (by decide) (ht _ wd1_78) (fun _ h9 => h9) rfl dX7_deed_9 ?_
    refine lv_icmp_lt (tgt := 17) hx hb dX7_deed_12 (by decide) (fun c2 => ?_) (fun c2 => ?_)
    · have hf := itP c2 hf
      refine lv_iload_n hx hb dX7_deed_17 rfl (lv_at hl 2 rfl) ?_
      by_cases c3_0 : x2 = (0 : Int32)
      · have hf := itP c3_0 hf
        refine lv_tableIn (tgt := 56) hx hb dX7_deed_18 (by rw [c3_0]; decide) (by rw [c3_0]; decide) (by rw [c3_0]; rfl) (by decide) ?_
        refine lv_aload_n hx hb dX7_deed_56 rfl (lv_at hl 0 rfl) ?_
        refine va_get (D := D) (ci := 6) (v := .ref jhw) (C := RX7) (T := TX7) (N := 11) hx hb ht inX7 hown hK hP 0 rfl rfl 2 (by decide) (ht _ wd2_1) (fun _ h9 => h9) rfl dX7_deed_57 ?_
        refine va_get (D := D) (ci := 5) (v := .ref (jaw 6)) (C := RX6) (T := TX6) (N := 15) hx hb ht inX6 hown hK hP 1 rfl rfl 10 (by decide) (ht _ wd1_83) (fun _ h9 => h9) rfl dX7_deed_60 ?_
        refine lv_iload_n hx hb dX7_deed_63 rfl (lv_at hl 1 rfl) ?_
        obtain ⟨h4, hf⟩ := inB_s hf
        refine va_iald (f := (Sw.2.1 6)) (n := 4) hx hb hK hP 2 0 rfl rfl h4 dX7_deed_64 ?_
        exact W.iret hx hb hr (fun t ht9 _ => ⟨_, rfl, Option.some.inj hf, ht9⟩) (fun _ h9 => by cases h9) dX7_deed_65
      · have hf := itN c3_0 hf
        by_cases c3_1 : x2 = (1 : Int32)
        · have hf := itP c3_1 hf
          refine lv_tableIn (tgt := 66) hx hb dX7_deed_18 (by rw [c3_1]; decide) (by rw [c3_1]; decide) (by rw [c3_1]; rfl) (by decide) ?_
          refine lv_aload_n hx hb dX7_deed_66 rfl (lv_at hl 0 rfl) ?_
          refine va_get (D := D) (ci := 6) (v := .ref jhw) (C := RX7) (T := TX7) (N := 11) hx hb ht inX7 hown hK hP 0 rfl rfl 2 (by decide) (ht _ wd2_1) (fun _ h9 => h9) rfl dX7_deed_67 ?_
          refine va_get (D := D) (ci := 5) (v := .ref (jaw 7)) (C := RX6) (T := TX6) (N := 15) hx hb ht inX6 hown hK hP 1 rfl rfl 11 (by decide) (ht _ wd1_87) (fun _ h9 => h9) rfl dX7_deed_70 ?_
          refine lv_iload_n hx hb dX7_deed_73 rfl (lv_at hl 1 rfl) ?_
          obtain ⟨h5, hf⟩ := inB_s hf
          refine va_iald (f := (Sw.2.1 7)) (n := 4) hx hb hK hP 3 0 rfl rfl h5 dX7_deed_74 ?_
          exact W.iret hx hb hr (fun t ht9 _ => ⟨_, rfl, Option.some.inj hf, ht9⟩) (fun _ h9 => by cases h9) dX7_deed_75
        · have hf := itN c3_1 hf
          by_cases c3_2 : x2 = (2 : Int32)
          · have hf := itP c3_2 hf
            refine lv_tableIn (tgt := 76) hx hb dX7_deed_18 (by rw [c3_2]; decide) (by rw [c3_2]; decide) (by rw [c3_2]; rfl) (by decide) ?_
            refine lv_aload_n hx hb dX7_deed_76 rfl (lv_at hl 0 rfl) ?_
            refine va_get (D := D) (ci := 6) (v := .ref jhw) (C := RX7) (T := TX7) (N := 11) hx hb ht inX7 hown hK hP 0 rfl rfl 2 (by decide) (ht _ wd2_1) (fun _ h9 => h9) rfl dX7_deed_77 ?_
            refine va_get (D := D) (ci := 5) (v := .ref (jaw 8)) (C := RX6) (T := TX6) (N := 15) hx hb ht inX6 hown hK hP 1 rfl rfl 12 (by decide) (ht _ wd1_89) (fun _ h9 => h9) rfl dX7_deed_80 ?_
            refine lv_iload_n hx hb dX7_deed_83 rfl (lv_at hl 1 rfl) ?_
            obtain ⟨h6, hf⟩ := inB_s hf
            refine va_iald (f := (Sw.2.1 8)) (n := 4) hx hb hK hP 4 0 rfl rfl h6 dX7_deed_84 ?_
            exact W.iret hx hb hr (fun t ht9 _ => ⟨_, rfl, Option.some.inj hf, ht9⟩) (fun _ h9 => by cases h9) dX7_deed_85
          · have hf := itN c3_2 hf
            by_cases c3_3 : x2 = (3 : Int32)
            · have hf := itP c3_3 hf
              refine lv_tableIn (tgt := 86) hx hb dX7_deed_18 (by rw [c3_3]; decide) (by rw [c3_3]; decide) (by rw [c3_3]; rfl) (by decide) ?_
              refine lv_aload_n hx hb dX7_deed_86 rfl (lv_at hl 0 rfl) ?_
              refine va_get (D := D) (ci := 6) (v := .ref jhw) (C := RX7) (T := TX7) (N := 11) hx hb ht inX7 hown hK hP 0 rfl rfl 2 (by decide) (ht _ wd2_1) (fun _ h9 => h9) rfl dX7_deed_87 ?_
              refine va_get (D := D) (ci := 5) (v := .ref (jaw 9)) (C := RX6) (T := TX6) (N := 15) hx hb ht inX6 hown hK hP 1 rfl rfl 13 (by decide) (ht _ wd1_92) (fun _ h9 => h9) rfl dX7_deed_90 ?_
              refine lv_iload_n hx hb dX7_deed_93 rfl (lv_at hl 1 rfl) ?_
              obtain ⟨h7, hf⟩ := inB_s hf
              refine va_iald (f := (Sw.2.1 9)) (n := 4) hx hb hK hP 5 0 rfl rfl h7 dX7_deed_94 ?_
              exact W.iret hx hb hr (fun t ht9 _ => ⟨_, rfl, Option.some.inj hf, ht9⟩) (fun _ h9 => by cases h9) dX7_deed_95
            · have hf := itN c3_3 hf
              by_cases c3_4 : x2 = (4 : Int32)
              · have hf := itP c3_4 hf
                refine lv_tableIn (tgt := 96) hx hb dX7_deed_18 (by rw [c3_4]; decide) (by rw [c3_4]; decide) (by rw [c3_4]; rfl) (by decide) ?_
                refine lv_aload_n hx hb dX7_deed_96 rfl (lv_at hl 0 rfl) ?_
                refine va_get (D := D) (ci := 6) (v := .ref jhw) (C := RX7) (T := TX7) (N := 11) hx hb ht inX7 hown hK hP 0 rfl rfl 2 (by decide) (ht _ wd2_1) (fun _ h9 => h9) rfl dX7_deed_97 ?_
                refine va_get (D := D) (ci := 5) (v := .ref (jaw 10)) (C := RX6) (T := TX6) (N := 15) hx hb ht inX6 hown hK hP 1 rfl rfl 14 (by decide) (ht _ wd1_96) (fun _ h9 => h9) rfl dX7_deed_100 ?_
                refine lv_iload_n hx hb dX7_deed_103 rfl (lv_at hl 1 rfl) ?_
                obtain ⟨h8, hf⟩ := inB_s hf
                refine va_iald (f := (Sw.2.1 10)) (n := 4) hx hb hK hP 6 0 rfl rfl h8 dX7_deed_104 ?_
                exact W.iret hx hb hr (fun t ht9 _ => ⟨_, rfl, Option.some.inj hf, ht9⟩) (fun _ h9 => by cases h9) dX7_deed_105
              · have hf := itN c3_4 hf
                by_cases c3_5 : x2 = (5 : Int32)
                · have hf := itP c3_5 hf
                  refine lv_tableIn (tgt := 106) hx hb dX7_deed_18 (by rw [c3_5]; decide) (by rw [c3_5]; decide) (by rw [c3_5]; rfl) (by decide) ?_
                  refine lv_aload_n hx hb dX7_deed_106 rfl (lv_at hl 0 rfl) ?_
                  refine va_get (D := D) (ci := 6) (v := .ref jhs) (C := RX7) (T := TX7) (N := 11) hx hb ht inX7 hown hK hP 0 rfl rfl 3 (by decide) (ht _ wd2_2) (fun _ h9 => h9) rfl dX7_deed_107 ?_
                  refine lv_iload_n hx hb dX7_deed_110 rfl (lv_at hl 1 rfl) ?_
                  obtain ⟨u9, e10, hf⟩ := bdS hf
                  refine k_rV (As := [.int x1]) (rest := []) hC miX3_hasDone mjX3_hasDone.1 mjX3_hasDone.2 wd2_143 (qX3_hasDone l D cI cZ cO jhs jas jhw Ss x1 u9 e10) ⟨Nat.le_of_ble_eq_true rfl, Nat.le_of_ble_eq_true rfl⟩ (hP.sub [7] rfl) hK hZ hS (va_recv hK hP (ci := 2) (q0 := 7) rfl rfl) hl.1 rfl rfl (Nat.le_of_ble_eq_true rfl) dX7_deed_111 ?_
                  refine lv_if_eq (tgt := 121) hx hb dX7_deed_114 (by decide) (fun c11 => ?_) (fun c11 => ?_)
                  · have hf := itP c11 hf
                    refine lv_iconst (v := (0 : Int32)) hx hb dX7_deed_121 rfl ?_
                    exact W.iret hx hb hr (fun t ht9 _ => ⟨_, rfl, Option.some.inj hf, ht9⟩) (fun _ h9 => by cases h9) dX7_deed_122
                  · have hf := itN c11 hf
                    refine lv_iconst (v := (1 : Int32)) hx hb dX7_deed_117 rfl ?_
                    refine lv_goto (tgt := 122) hx hb dX7_deed_118 (by decide) ?_
                    exact W.iret hx hb hr (fun t ht9 _ => ⟨_, rfl, Option.some.inj hf, ht9⟩) (fun _ h9 => by cases h9) dX7_deed_122
                · have hf := itN c3_5 hf
                  have n0 := lv_neT (a := 0) c3_0 (by decide)
                  have n1 := lv_neT (a := 1) c3_1 (by decide)
                  have n2 := lv_neT (a := 2) c3_2 (by decide)
                  have n3 := lv_neT (a := 3) c3_3 (by decide)
                  have n4 := lv_neT (a := 4) c3_4 (by decide)
                  have n5 := lv_neT (a := 5) c3_5 (by decide)
                  refine lv_tableOut (tgt := 123) hx hb dX7_deed_18 (by omega) (by decide) ?_
                  refine lv_bipush (v := (-2 : Int32)) hx hb dX7_deed_123 rfl ?_
                  exact W.iret hx hb hr (fun t ht9 _ => ⟨_, rfl, Option.some.inj hf, ht9⟩) (fun _ h9 => by cases h9) dX7_deed_125
    · have hf := itN c2 hf
      refine lv_iconst (v := (-1 : Int32)) hx hb dX7_deed_15 rfl ?_
      exact W.iret hx hb hr (fun t ht9 _ => ⟨_, rfl, Option.some.inj hf, ht9⟩) (fun _ h9 => by cases h9) dX7_deed_16
abbrev wX7_can (cI cZ : ClassId) (jhe : Nat) (jae : Nat → Nat) (jhx : Nat) (jht : Nat) (jhw : Nat) (jhs : Nat) (jhd : Nat) (jhc : Nat) (jhr : Nat) (jhg : Nat) (jaw : Nat → Nat) (jas : Nat → Nat) (Se : Bk) (Sw : Bk) (Ss : Bk) : va_W := [(jhe, .inr (6, [.ref jhx, .ref jht, .ref jhw, .ref jhs, .ref jhd, .ref jhc, .ref jhr, .ref jhg, .ref (jae 8), .int (Se.1 0), .long Se.2.2])), (jhw, .inr (5, [.int (Sw.1 0), .ref (jaw 0), .ref (jaw 1), .ref (jaw 2), .int (Sw.1 1), .ref (jaw 3), .ref (jaw 4), .ref (jaw 5), .int (Sw.1 2), .int (Sw.1 3), .ref (jaw 6), .ref (jaw 7), .ref (jaw 8), .ref (jaw 9), .ref (jaw 10)])), (jaw 3, .inl (cI, 4, .inl (Sw.2.1 3))), (jaw 4, .inl (cI, 4, .inl (Sw.2.1 4))), (jaw 9, .inl (cI, 4, .inl (Sw.2.1 9))), (jaw 10, .inl (cI, 4, .inl (Sw.2.1 10))), (jhs, .inr (2, [.ref jhw, .ref (jas 1), .ref (jas 2), .ref (jas 3), .int (Ss.1 0), .int (Ss.1 1), .int (Ss.1 2), .int (Ss.1 3)])), (jas 1, .inl (cI, 4, .inl (Ss.2.1 1)))]
def fX7_can (Se : Bk) (Sw : Bk) (Ss : Bk) (x1 : Int32) : Option (Int32) := (if x1 = (0 : Int32) then (fX3_drinkable Sw Ss).bind (fun u2 => some u2) else (if x1 = (1 : Int32) then (fX3_doable Sw Ss).bind (fun u4 => some u4) else some (-2 : Int32)))
theorem miX7_can : MI yX7_can cX7_can 2 (some .int) 1 := ⟨wd1_1, wd2_216, by decide +kernel⟩
theorem mjX7_can : Cond.instanceMethod yX7_can ∈ wT ∧ Cond.selects yX7_can.cls yX7_can yX7_can ∈ wT := ⟨wd2_214, wd2_215⟩
set_option maxHeartbeats 4000000 in
set_option maxRecDepth 100000 in
theorem qX7_can (l : Launch) (D : va_G) (cI cZ cO : ClassId) (jhe : Nat) (jae : Nat → Nat) (jhx : Nat) (jht : Nat) (jhw : Nat) (jhs : Nat) (jhd : Nat) (jhc : Nat) (jhr : Nat) (jhg : Nat) (jaw : Nat → Nat) (jas : Nat → Nat) (Se : Bk) (Sw : Bk) (Ss : Bk) (x1 : Int32) (res : Int32) (hf : fX7_can Se Sw Ss x1 = some res) : Met l yX7_can (Cond.code yX7_can cX7_can 2 (some .int) :: wT) (rmF 3 64) (va_Pc [.ref jhe, .int x1] (cR D (tyL cI cZ cO) (wX7_can cI cZ jhe jae jhx jht jhw jhs jhd jhc jhr jhg jaw jas Se Sw Ss))) (vp_Si (fun r => r = res)) 0 0 (fun _ => False) := by
  refine met_r (by decide) (Nat.le_of_ble_eq_true rfl) ?_
  intro p e s m below meth c hx hb hr hml ht hown hlk ls hl hP hK hZ
  have hS : va_S (fun _ => False) s.heap s.heap [] := va_S.rf
  have hown : s.vm.findClass "EyeDrink" = some m.cls := hown
  have hl : lv_has ls 2 [(0, .ref jhe), (1, .int x1)] := hl
  have hC : CallFix p m c cX7_can 2 s ([.ref jhe, .int x1] : List Value).toArray wT "EyeDrink" := ⟨hx, hb, hml, hown, ht⟩
  unfold fX7_can at hf
  refine lv_iload_n hx hb dX7_can_0 rfl (lv_at hl 1 rfl) ?_
  by_cases c1_0 : x1 = (0 : Int32)
  · have hf := itP c1_0 hf
    refine lv_lookup (off := 27) (tgt := 28) hx hb dX7_can_1 (by decide) (by rw [c1_0]; decide) (by decide) ?_
    refine lv_aload_n hx hb dX7_can_28 rfl (lv_at hl 0 rfl) ?_
    refine va_get (D := D) (ci := 6) (v := .ref jhs) (C := RX7) (T := TX7) (N := 11) hx hb ht inX7 hown hK hP 0 rfl rfl 3 (by decide) (ht _ wd2_2) (fun _ h9 => h9) rfl dX7_can_29 ?_
    obtain ⟨u2, e3, hf⟩ := bdS hf
    refine k_rV (As := []) (rest := []) hC miX3_drinkable mjX3_drinkable.1 mjX3_drinkable.2 wd2_217 (qX3_drinkable l D cI cZ cO jhw jaw jhs jas Sw Ss u2 e3) ⟨Nat.le_of_ble_eq_true rfl, Nat.le_of_ble_eq_true rfl⟩ (hP.sub [1, 2, 3, 6, 7] rfl) hK hZ hS (va_recv hK hP (ci := 2) (q0 := 6) rfl rfl) hl.1 rfl rfl (Nat.le_of_ble_eq_true rfl) dX7_can_32 ?_
    exact W.iret hx hb hr (fun t ht9 _ => ⟨_, rfl, Option.some.inj hf, ht9⟩) (fun _ h9 => by cases h9) dX7_can_35
  · have hf := itN c1_0 hf
    by_cases c1_1 : x1 = (1 : Int32)
    · have hf := itP c1_1 hf
      refine lv_lookup (off := 35) (tgt := 36) hx hb dX7_can_1 (by decide) (by rw [c1_1]; decide) (by decide) ?_
      refine lv_aload_n hx hb dX7_can_36 rfl (lv_at hl 0 rfl) ?_
      refine va_get (D := D) (ci := 6) (v := .ref jhs) (C := RX7) (T := TX7) (N := 11) hx hb ht inX7 hown hK hP 0 rfl rfl 3 (by decide) (ht _ wd2_2) (fun _ h9 => h9) rfl dX7_can_37 ?_
      obtain ⟨u4, e5, hf⟩ := bdS hf
      refine k_rV (As := []) (rest := []) hC miX3_doable mjX3_doable.1 mjX3_doable.2 wd2_222 (qX3_doable l D cI cZ cO jhw jaw jhs jas Sw Ss u4 e5) ⟨Nat.le_of_ble_eq_true rfl, Nat.le_of_ble_eq_true rfl⟩ (hP.sub [1, 4, 5, 6, 7] rfl) hK hZ hS (va_recv hK hP (ci := 2) (q0 := 6) rfl rfl) hl.1 rfl rfl (Nat.le_of_ble_eq_true rfl) dX7_can_40 ?_
      exact W.iret hx hb hr (fun t ht9 _ => ⟨_, rfl, Option.some.inj hf, ht9⟩) (fun _ h9 => by cases h9) dX7_can_43
    · have hf := itN c1_1 hf
      refine lv_lookup (off := 43) (tgt := 44) hx hb dX7_can_1 (by decide) (by show Op.lookupswitch.offset [(0, 27), (1, 35)] 43 _ = 43; rw [lv_osw (k := (0 : Int32)) c1_0 (by decide), lv_osw (k := (1 : Int32)) c1_1 (by decide)]; rfl) (by decide) ?_
      refine lv_bipush (v := (-2 : Int32)) hx hb dX7_can_44 rfl ?_
      exact W.iret hx hb hr (fun t ht9 _ => ⟨_, rfl, Option.some.inj hf, ht9⟩) (fun _ h9 => by cases h9) dX7_can_46
abbrev wX7_greatest (cI cZ : ClassId) (jhe : Nat) (jae : Nat → Nat) (jhx : Nat) (jht : Nat) (jhw : Nat) (jhs : Nat) (jhd : Nat) (jhc : Nat) (jhr : Nat) (jhg : Nat) (jaw : Nat → Nat) (jas : Nat → Nat) (jar : Nat → Nat) (Se : Bk) (Sw : Bk) (Ss : Bk) (Sr : Bk) : va_W := [(jhe, .inr (6, [.ref jhx, .ref jht, .ref jhw, .ref jhs, .ref jhd, .ref jhc, .ref jhr, .ref jhg, .ref (jae 8), .int (Se.1 0), .long Se.2.2])), (jhw, .inr (5, [.int (Sw.1 0), .ref (jaw 0), .ref (jaw 1), .ref (jaw 2), .int (Sw.1 1), .ref (jaw 3), .ref (jaw 4), .ref (jaw 5), .int (Sw.1 2), .int (Sw.1 3), .ref (jaw 6), .ref (jaw 7), .ref (jaw 8), .ref (jaw 9), .ref (jaw 10)])), (jaw 0, .inl (cI, 4, .inl (Sw.2.1 0))), (jaw 1, .inl (cI, 4, .inl (Sw.2.1 1))), (jaw 2, .inl (cI, 4, .inl (Sw.2.1 2))), (jaw 3, .inl (cI, 4, .inl (Sw.2.1 3))), (jaw 4, .inl (cI, 4, .inl (Sw.2.1 4))), (jaw 5, .inl (cI, 4, .inl (Sw.2.1 5))), (jaw 6, .inl (cI, 4, .inl (Sw.2.1 6))), (jaw 7, .inl (cI, 4, .inl (Sw.2.1 7))), (jaw 8, .inl (cI, 4, .inl (Sw.2.1 8))), (jaw 9, .inl (cI, 4, .inl (Sw.2.1 9))), (jaw 10, .inl (cI, 4, .inl (Sw.2.1 10))), (jhs, .inr (2, [.ref jhw, .ref (jas 1), .ref (jas 2), .ref (jas 3), .int (Ss.1 0), .int (Ss.1 1), .int (Ss.1 2), .int (Ss.1 3)])), (jas 1, .inl (cI, 4, .inl (Ss.2.1 1))), (jhr, .inr (4, [.ref jhw, .ref jhs, .ref (jar 2), .ref (jar 3), .ref (jar 4), .ref (jar 5), .int (Sr.1 0), .int (Sr.1 1), .int (Sr.1 2)])), (jar 2, .inl (cI, 1296, .inl (Sr.2.1 2))), (jar 3, .inl (cI, 4, .inl (Sr.2.1 3))), (jar 4, .inl (cI, 4, .inl (Sr.2.1 4)))]
def fX7_greatest (Se : Bk) (Sw : Bk) (Ss : Bk) (Sr : Bk) (x1 : Int32) (x2 : Int32) : Option (Int32 × Bk) := (if x2 < 0 then some ((-2 : Int32), Sr) else (if x2 ≤ (1 : Int32) then (fX5_grow Sw Ss Sr x1 (0 : Int32)).bind (fun u3 => (if x2 = 0 then some (u3.1, u3.2) else (fX5_first Sw Ss u3.2).bind (fun u6 => some (u6.1, u6.2)))) else some ((-2 : Int32), Sr)))
theorem miX7_greatest : MI yX7_greatest cX7_greatest 4 (some .int) 2 := ⟨wd1_1, wd2_234, by decide +kernel⟩
theorem mjX7_greatest : Cond.instanceMethod yX7_greatest ∈ wT ∧ Cond.selects yX7_greatest.cls yX7_greatest yX7_greatest ∈ wT := ⟨wd2_233, ws_5⟩
set_option maxHeartbeats 4000000 in
set_option maxRecDepth 100000 in
theorem qX7_greatest (l : Launch) (D : va_G) (cI cZ cO : ClassId) (jhe : Nat) (jae : Nat → Nat) (jhx : Nat) (jht : Nat) (jhw : Nat) (jhs : Nat) (jhd : Nat) (jhc : Nat) (jhr : Nat) (jhg : Nat) (jaw : Nat → Nat) (jas : Nat → Nat) (jar : Nat → Nat) (Se : Bk) (Sw : Bk) (Ss : Bk) (Sr : Bk) (x1 : Int32) (x2 : Int32) (sz : Nat) (res : Int32 × Bk) (hf : fX7_greatest Se Sw Ss Sr x1 x2 = some res) : Met l yX7_greatest (Cond.code yX7_greatest cX7_greatest 4 (some .int) :: wT) (rmF 5 123) (va_Pc [.ref jhe, .int x1, .int x2] (cW D (tyL cI cZ cO) (wX7_greatest cI cZ jhe jae jhx jht jhw jhs jhd jhc jhr jhg jaw jas jar Se Sw Ss Sr) sz)) (va_Qi (S := Unit) (fun r _ => r = res.1) (fun _ => qW D (tyL cI cZ cO) (va_A (wX7_greatest cI cZ jhe jae jhx jht jhw jhs jhd jhc jhr jhg jaw jas jar Se Sw Ss Sr) sz) (wX7_greatest cI cZ jhe jae jhx jht jhw jhs jhd jhc jhr jhg jaw jas jar Se Sw Ss res.2)) (va_A (wX7_greatest cI cZ jhe jae jhx jht jhw jhs jhd jhc jhr jhg jaw jas jar Se Sw Ss Sr) sz)) 0 0 (va_A (wX7_greatest cI cZ jhe jae jhx jht jhw jhs jhd jhc jhr jhg jaw jas jar Se Sw Ss Sr) sz) := by
  refine met_w (by decide) (Nat.le_of_ble_eq_true rfl) ?_
  intro p e s m below meth c hx hb hr hml ht hown hlk ls hl hsz hP hK hD0 hZ
  subst hsz
  have hD := hD0.self (sz := s.heap.size)
  generalize hAe : va_A (wX7_greatest cI cZ jhe jae jhx jht jhw jhs jhd jhc jhr jhg jaw jas jar Se Sw Ss Sr) s.heap.size = A at hD hZ ⊢
  have hA : ∀ q : Nat, s.heap.size ≤ q → A q := fun q h => by rw [← hAe]; exact Or.inr h
  have hS : va_S A s.heap s.heap [] := va_S.rf
  have hown : s.vm.findClass "EyeDrink" = some m.cls := hown
  have hl : lv_has ls 4 [(0, .ref jhe), (1, .int x1), (2, .int x2)] := hl
  have hC : CallFix p m c cX7_greatest 4 s ([.ref jhe, .int x1, .int x2] : List Value).toArray wT "EyeDrink" := ⟨hx, hb, hml, hown, ht⟩
  unfold fX7_greatest at hf
  suffices hgo : ∀ (H : Heap) (locs : List Loc), va_P D vwCl (wX7_greatest cI cZ jhe jae jhx jht jhw jhs jhd jhc jhr jhg jaw jas jar Se Sw Ss Sr) H → va_S A s.heap H locs → W p l e (rmF 5 123) s m ([.ref jhe, .int x1, .int x2] : List Value).toArray below meth c H locs 0 0 (MQ below (va_Qi (S := Unit) (fun r _ => r = res.1) (fun _ => qW D (tyL cI cZ cO) A (wX7_greatest cI cZ jhe jae jhx jht jhw jhs jhd jhc jhr jhg jaw jas jar Se Sw Ss res.2)) A) ([.ref jhe, .int x1, .int x2] : List Value).toArray s 0 0 A) (F0 m 0 ls []) from hgo s.heap [] hP hS
  intro H locs hP hS
  refine lv_iload_n hx hb dX7_greatest_0 rfl (lv_at hl 2 rfl) ?_
  refine lv_if_lt (tgt := 9) hx hb dX7_greatest_1 (by decide) (fun c1 => ?_) (fun c1 => ?_)
  · have hf := itP c1 hf
    refine lv_bipush (v := (-2 : Int32)) hx hb dX7_greatest_9 rfl ?_
    cases hf
    exact W.iret hx hb hr (fun t ht9 hW => ⟨⟨_, (), rfl, rfl, by rw [ht9]; exact hP, va_K.moved hW.alike hK, hD⟩, hS.F ht9⟩) hS.2.2 dX7_greatest_11
  · have hf := itN c1 hf
    refine lv_iload_n hx hb dX7_greatest_4 rfl (lv_at hl 2 rfl) ?_
    refine lv_iconst (v := (1 : Int32)) hx hb dX7_greatest_5 rfl ?_
    refine lv_icmp_le (tgt := 12) hx hb dX7_greatest_6 (by decide) (fun c2 => ?_) (fun c2 => ?_)
    · have hf := itP c2 hf
      refine lv_aload_n hx hb dX7_greatest_12 rfl (lv_at hl 0 rfl) ?_
      refine va_get (D := D) (ci := 6) (v := .ref jhr) (C := RX7) (T := TX7) (N := 11) hx hb ht inX7 hown hK hP 0 rfl rfl 6 (by decide) (ht _ wd2_5) (fun _ h9 => h9) rfl dX7_greatest_13 ?_
      refine lv_iload_n hx hb dX7_greatest_16 rfl (lv_at hl 1 rfl) ?_
      refine lv_iconst (v := (0 : Int32)) hx hb dX7_greatest_17 rfl ?_
      obtain ⟨u3, e4, hf⟩ := bdS hf
      refine k_wVi (ws' := (wX7_greatest cI cZ jhe jae jhx jht jhw jhs jhd jhc jhr jhg jaw jas jar Se Sw Ss u3.2)) (wr := [(jhe, .inr (6, [.ref jhx, .ref jht, .ref jhw, .ref jhs, .ref jhd, .ref jhc, .ref jhr, .ref jhg, .ref (jae 8), .int (Se.1 0), .long Se.2.2]))]) (As := [.int x1, .int (0 : Int32)]) (rest := []) hC miX5_grow mjX5_grow.1 mjX5_grow.2 wd2_235 (qX5_grow l D cI cZ cO jhw jaw jhs jas jhr jar Sw Ss Sr x1 (0 : Int32) H.size u3 e4) ⟨Nat.le_of_ble_eq_true rfl, Nat.le_of_ble_eq_true rfl⟩ hP hD hK hZ hS hA [1, 2, 3, 4, 5, 6, 7, 8, 9, 10, 11, 12, 13, 14, 15, 16, 17, 18] [0] [0, 1, 2, 3, 4, 5, 6, 7, 8, 9, 10, 11, 12, 13, 14, 15, 16, 17, 18] rfl (by decide) rfl (by decide) (by decide) (by decide) rfl (va_recv hK hP (ci := 4) (q0 := 15) rfl rfl) hl.1 rfl rfl (Nat.le_of_ble_eq_true rfl) dX7_greatest_18 (fun H locs hP hD hS => ?_)
      refine lv_istore_n (lv' := [(3, .int u3.1), (0, .ref jhe), (1, .int x1), (2, .int x2)]) hx hb dX7_greatest_21 rfl hl (by decide) rfl (fun ls hl => ?_)
      refine lv_iload_n hx hb dX7_greatest_22 rfl (lv_at hl 3 rfl) ?_
      refine lv_if_ne (tgt := 30) hx hb dX7_greatest_23 (by decide) (fun c5 => ?_) (fun c5 => ?_)
      · have hf := itN c5 hf
        refine lv_aload_n hx hb dX7_greatest_30 rfl (lv_at hl 1 rfl) ?_
        refine va_get (D := D) (ci := 6) (v := .ref jhr) (C := RX7) (T := TX7) (N := 11) hx hb ht inX7 hown hK hP 0 rfl rfl 6 (by decide) (ht _ wd2_5) (fun _ h9 => h9) rfl dX7_greatest_31 ?_
        obtain ⟨u6, e7, hf⟩ := bdS hf
        refine k_wVi (ws' := (wX7_greatest cI cZ jhe jae jhx jht jhw jhs jhd jhc jhr jhg jaw jas jar Se Sw Ss u6.2)) (wr := [(jhe, .inr (6, [.ref jhx, .ref jht, .ref jhw, .ref jhs, .ref jhd, .ref jhc, .ref jhr, .ref jhg, .ref (jae 8), .int (Se.1 0), .long Se.2.2]))]) (As := []) (rest := []) hC miX5_first mjX5_first.1 mjX5_first.2 wd3_40 (qX5_first l D cI cZ cO jhw jaw jhs jas jhr jar Sw Ss u3.2 H.size u6 e7) ⟨Nat.le_of_ble_eq_true rfl, Nat.le_of_ble_eq_true rfl⟩ hP hD hK hZ hS hA [1, 2, 3, 4, 5, 6, 7, 8, 9, 10, 11, 12, 13, 14, 15, 16, 17, 18] [0] [0, 1, 2, 3, 4, 5, 6, 7, 8, 9, 10, 11, 12, 13, 14, 15, 16, 17, 18] rfl (by decide) rfl (by decide) (by decide) (by decide) rfl (va_recv hK hP (ci := 4) (q0 := 15) rfl rfl) hl.1 rfl rfl (Nat.le_of_ble_eq_true rfl) dX7_greatest_34 (fun H locs hP hD hS => ?_)
        cases hf
        exact W.iret hx hb hr (fun t ht9 hW => ⟨⟨_, (), rfl, rfl, by rw [ht9]; exact hP, va_K.moved hW.alike hK, hD⟩, hS.F ht9⟩) hS.2.2 dX7_greatest_37
      · have hf := itP c5 hf
        refine lv_iload_n hx hb dX7_greatest_26 rfl (lv_at hl 0 rfl) ?_
        refine lv_goto (tgt := 37) hx hb dX7_greatest_27 (by decide) ?_
        cases hf
        exact W.iret hx hb hr (fun t ht9 hW => ⟨⟨_, (), rfl, rfl, by rw [ht9]; exact hP, va_K.moved hW.alike hK, hD⟩, hS.F ht9⟩) hS.2.2 dX7_greatest_37
    · have hf := itN c2 hf
      refine lv_bipush (v := (-2 : Int32)) hx hb dX7_greatest_9 rfl ?_
      cases hf
      exact W.iret hx hb hr (fun t ht9 hW => ⟨⟨_, (), rfl, rfl, by rw [ht9]; exact hP, va_K.moved hW.alike hK, hD⟩, hS.F ht9⟩) hS.2.2 dX7_greatest_11
abbrev wX7_mean (cI cZ : ClassId) (jhe : Nat) (jae : Nat → Nat) (jhx : Nat) (jht : Nat) (jhw : Nat) (jhs : Nat) (jhd : Nat) (jhc : Nat) (jhr : Nat) (jhg : Nat) (jaw : Nat → Nat) (jas : Nat → Nat) (jar : Nat → Nat) (Se : Bk) (Sw : Bk) (Ss : Bk) (Sr : Bk) : va_W := [(jhe, .inr (6, [.ref jhx, .ref jht, .ref jhw, .ref jhs, .ref jhd, .ref jhc, .ref jhr, .ref jhg, .ref (jae 8), .int (Se.1 0), .long Se.2.2])), (jhw, .inr (5, [.int (Sw.1 0), .ref (jaw 0), .ref (jaw 1), .ref (jaw 2), .int (Sw.1 1), .ref (jaw 3), .ref (jaw 4), .ref (jaw 5), .int (Sw.1 2), .int (Sw.1 3), .ref (jaw 6), .ref (jaw 7), .ref (jaw 8), .ref (jaw 9), .ref (jaw 10)])), (jaw 0, .inl (cI, 4, .inl (Sw.2.1 0))), (jaw 1, .inl (cI, 4, .inl (Sw.2.1 1))), (jaw 2, .inl (cI, 4, .inl (Sw.2.1 2))), (jaw 3, .inl (cI, 4, .inl (Sw.2.1 3))), (jaw 4, .inl (cI, 4, .inl (Sw.2.1 4))), (jaw 5, .inl (cI, 4, .inl (Sw.2.1 5))), (jaw 6, .inl (cI, 4, .inl (Sw.2.1 6))), (jaw 7, .inl (cI, 4, .inl (Sw.2.1 7))), (jaw 8, .inl (cI, 4, .inl (Sw.2.1 8))), (jaw 9, .inl (cI, 4, .inl (Sw.2.1 9))), (jaw 10, .inl (cI, 4, .inl (Sw.2.1 10))), (jhs, .inr (2, [.ref jhw, .ref (jas 1), .ref (jas 2), .ref (jas 3), .int (Ss.1 0), .int (Ss.1 1), .int (Ss.1 2), .int (Ss.1 3)])), (jas 1, .inl (cI, 4, .inl (Ss.2.1 1))), (jhr, .inr (4, [.ref jhw, .ref jhs, .ref (jar 2), .ref (jar 3), .ref (jar 4), .ref (jar 5), .int (Sr.1 0), .int (Sr.1 1), .int (Sr.1 2)])), (jar 2, .inl (cI, 1296, .inl (Sr.2.1 2))), (jar 3, .inl (cI, 4, .inl (Sr.2.1 3))), (jar 4, .inl (cI, 4, .inl (Sr.2.1 4)))]
def fX7_mean (Se : Bk) (Sw : Bk) (Ss : Bk) (Sr : Bk) (x1 : Int32) : Option (Int32 × Bk) := (fX7_greatest Se Sw Ss Sr (1 : Int32) x1).bind (fun u1 => some (u1.1, u1.2))
theorem miX7_mean : MI yX7_mean cX7_mean 2 (some .int) 1 := ⟨wd1_1, wd2_230, by decide +kernel⟩
theorem mjX7_mean : Cond.instanceMethod yX7_mean ∈ wT ∧ Cond.selects yX7_mean.cls yX7_mean yX7_mean ∈ wT := ⟨wd2_228, wd2_229⟩
set_option maxHeartbeats 4000000 in
set_option maxRecDepth 100000 in
theorem qX7_mean (l : Launch) (D : va_G) (cI cZ cO : ClassId) (jhe : Nat) (jae : Nat → Nat) (jhx : Nat) (jht : Nat) (jhw : Nat) (jhs : Nat) (jhd : Nat) (jhc : Nat) (jhr : Nat) (jhg : Nat) (jaw : Nat → Nat) (jas : Nat → Nat) (jar : Nat → Nat) (Se : Bk) (Sw : Bk) (Ss : Bk) (Sr : Bk) (x1 : Int32) (sz : Nat) (res : Int32 × Bk) (hf : fX7_mean Se Sw Ss Sr x1 = some res) : Met l yX7_mean (Cond.code yX7_mean cX7_mean 2 (some .int) :: wT) (rmF 6 146) (va_Pc [.ref jhe, .int x1] (cW D (tyL cI cZ cO) (wX7_mean cI cZ jhe jae jhx jht jhw jhs jhd jhc jhr jhg jaw jas jar Se Sw Ss Sr) sz)) (va_Qi (S := Unit) (fun r _ => r = res.1) (fun _ => qW D (tyL cI cZ cO) (va_A (wX7_mean cI cZ jhe jae jhx jht jhw jhs jhd jhc jhr jhg jaw jas jar Se Sw Ss Sr) sz) (wX7_mean cI cZ jhe jae jhx jht jhw jhs jhd jhc jhr jhg jaw jas jar Se Sw Ss res.2)) (va_A (wX7_mean cI cZ jhe jae jhx jht jhw jhs jhd jhc jhr jhg jaw jas jar Se Sw Ss Sr) sz)) 0 0 (va_A (wX7_mean cI cZ jhe jae jhx jht jhw jhs jhd jhc jhr jhg jaw jas jar Se Sw Ss Sr) sz) := by
  refine met_w (by decide) (Nat.le_of_ble_eq_true rfl) ?_
  intro p e s m below meth c hx hb hr hml ht hown hlk ls hl hsz hP hK hD0 hZ
  subst hsz
  have hD := hD0.self (sz := s.heap.size)
  generalize hAe : va_A (wX7_mean cI cZ jhe jae jhx jht jhw jhs jhd jhc jhr jhg jaw jas jar Se Sw Ss Sr) s.heap.size = A at hD hZ ⊢
  have hA : ∀ q : Nat, s.heap.size ≤ q → A q := fun q h => by rw [← hAe]; exact Or.inr h
  have hS : va_S A s.heap s.heap [] := va_S.rf
  have hown : s.vm.findClass "EyeDrink" = some m.cls := hown
  have hl : lv_has ls 2 [(0, .ref jhe), (1, .int x1)] := hl
  have hC : CallFix p m c cX7_mean 2 s ([.ref jhe, .int x1] : List Value).toArray wT "EyeDrink" := ⟨hx, hb, hml, hown, ht⟩
  unfold fX7_mean at hf
  suffices hgo : ∀ (H : Heap) (locs : List Loc), va_P D vwCl (wX7_mean cI cZ jhe jae jhx jht jhw jhs jhd jhc jhr jhg jaw jas jar Se Sw Ss Sr) H → va_S A s.heap H locs → W p l e (rmF 6 146) s m ([.ref jhe, .int x1] : List Value).toArray below meth c H locs 0 0 (MQ below (va_Qi (S := Unit) (fun r _ => r = res.1) (fun _ => qW D (tyL cI cZ cO) A (wX7_mean cI cZ jhe jae jhx jht jhw jhs jhd jhc jhr jhg jaw jas jar Se Sw Ss res.2)) A) ([.ref jhe, .int x1] : List Value).toArray s 0 0 A) (F0 m 0 ls []) from hgo s.heap [] hP hS
  intro H locs hP hS
  refine lv_aload_n hx hb dX7_mean_0 rfl (lv_at hl 0 rfl) ?_
  refine lv_iconst (v := (1 : Int32)) hx hb dX7_mean_1 rfl ?_
  refine lv_iload_n hx hb dX7_mean_2 rfl (lv_at hl 1 rfl) ?_
  obtain ⟨u1, e2, hf⟩ := bdS hf
  refine k_wVi (ws' := (wX7_mean cI cZ jhe jae jhx jht jhw jhs jhd jhc jhr jhg jaw jas jar Se Sw Ss u1.2)) (wr := []) (As := [.int (1 : Int32), .int x1]) (rest := []) hC miX7_greatest mjX7_greatest.1 mjX7_greatest.2 wd2_231 (qX7_greatest l D cI cZ cO jhe jae jhx jht jhw jhs jhd jhc jhr jhg jaw jas jar Se Sw Ss Sr (1 : Int32) x1 H.size u1 e2) ⟨Nat.le_of_ble_eq_true rfl, Nat.le_of_ble_eq_true rfl⟩ hP hD hK hZ hS hA [0, 1, 2, 3, 4, 5, 6, 7, 8, 9, 10, 11, 12, 13, 14, 15, 16, 17, 18] [] [0, 1, 2, 3, 4, 5, 6, 7, 8, 9, 10, 11, 12, 13, 14, 15, 16, 17, 18] rfl (by decide) rfl (by decide) (by decide) (by decide) rfl (va_recv hK hP (ci := 6) (q0 := 0) rfl rfl) hl.1 rfl rfl (Nat.le_of_ble_eq_true rfl) dX7_mean_3 (fun H locs hP hD hS => ?_)
  cases hf
  exact W.iret hx hb hr (fun t ht9 hW => ⟨⟨_, (), rfl, rfl, by rw [ht9]; exact hP, va_K.moved hW.alike hK, hD⟩, hS.F ht9⟩) hS.2.2 dX7_mean_6
abbrev wX7_worst (cI cZ : ClassId) (jhe : Nat) (jae : Nat → Nat) (jhx : Nat) (jht : Nat) (jhw : Nat) (jhs : Nat) (jhd : Nat) (jhc : Nat) (jhr : Nat) (jhg : Nat) (jaw : Nat → Nat) (jas : Nat → Nat) (jar : Nat → Nat) (Se : Bk) (Sw : Bk) (Ss : Bk) (Sr : Bk) : va_W := [(jhe, .inr (6, [.ref jhx, .ref jht, .ref jhw, .ref jhs, .ref jhd, .ref jhc, .ref jhr, .ref jhg, .ref (jae 8), .int (Se.1 0), .long Se.2.2])), (jhw, .inr (5, [.int (Sw.1 0), .ref (jaw 0), .ref (jaw 1), .ref (jaw 2), .int (Sw.1 1), .ref (jaw 3), .ref (jaw 4), .ref (jaw 5), .int (Sw.1 2), .int (Sw.1 3), .ref (jaw 6), .ref (jaw 7), .ref (jaw 8), .ref (jaw 9), .ref (jaw 10)])), (jaw 0, .inl (cI, 4, .inl (Sw.2.1 0))), (jaw 1, .inl (cI, 4, .inl (Sw.2.1 1))), (jaw 2, .inl (cI, 4, .inl (Sw.2.1 2))), (jaw 3, .inl (cI, 4, .inl (Sw.2.1 3))), (jaw 4, .inl (cI, 4, .inl (Sw.2.1 4))), (jaw 5, .inl (cI, 4, .inl (Sw.2.1 5))), (jaw 6, .inl (cI, 4, .inl (Sw.2.1 6))), (jaw 7, .inl (cI, 4, .inl (Sw.2.1 7))), (jaw 8, .inl (cI, 4, .inl (Sw.2.1 8))), (jaw 9, .inl (cI, 4, .inl (Sw.2.1 9))), (jaw 10, .inl (cI, 4, .inl (Sw.2.1 10))), (jhs, .inr (2, [.ref jhw, .ref (jas 1), .ref (jas 2), .ref (jas 3), .int (Ss.1 0), .int (Ss.1 1), .int (Ss.1 2), .int (Ss.1 3)])), (jas 1, .inl (cI, 4, .inl (Ss.2.1 1))), (jhr, .inr (4, [.ref jhw, .ref jhs, .ref (jar 2), .ref (jar 3), .ref (jar 4), .ref (jar 5), .int (Sr.1 0), .int (Sr.1 1), .int (Sr.1 2)])), (jar 2, .inl (cI, 1296, .inl (Sr.2.1 2))), (jar 3, .inl (cI, 4, .inl (Sr.2.1 3))), (jar 4, .inl (cI, 4, .inl (Sr.2.1 4)))]
def fX7_worst (Se : Bk) (Sw : Bk) (Ss : Bk) (Sr : Bk) (x1 : Int32) : Option (Int32 × Bk) := (fX7_greatest Se Sw Ss Sr (0 : Int32) x1).bind (fun u1 => some (u1.1, u1.2))
theorem miX7_worst : MI yX7_worst cX7_worst 2 (some .int) 1 := ⟨wd1_1, wd3_53, by decide +kernel⟩
theorem mjX7_worst : Cond.instanceMethod yX7_worst ∈ wT ∧ Cond.selects yX7_worst.cls yX7_worst yX7_worst ∈ wT := ⟨wd3_51, wd3_52⟩
set_option maxHeartbeats 4000000 in
set_option maxRecDepth 100000 in
theorem qX7_worst (l : Launch) (D : va_G) (cI cZ cO : ClassId) (jhe : Nat) (jae : Nat → Nat) (jhx : Nat) (jht : Nat) (jhw : Nat) (jhs : Nat) (jhd : Nat) (jhc : Nat) (jhr : Nat) (jhg : Nat) (jaw : Nat → Nat) (jas : Nat → Nat) (jar : Nat → Nat) (Se : Bk) (Sw : Bk) (Ss : Bk) (Sr : Bk) (x1 : Int32) (sz : Nat) (res : Int32 × Bk) (hf : fX7_worst Se Sw Ss Sr x1 = some res) : Met l yX7_worst (Cond.code yX7_worst cX7_worst 2 (some .int) :: wT) (rmF 6 146) (va_Pc [.ref jhe, .int x1] (cW D (tyL cI cZ cO) (wX7_worst cI cZ jhe jae jhx jht jhw jhs jhd jhc jhr jhg jaw jas jar Se Sw Ss Sr) sz)) (va_Qi (S := Unit) (fun r _ => r = res.1) (fun _ => qW D (tyL cI cZ cO) (va_A (wX7_worst cI cZ jhe jae jhx jht jhw jhs jhd jhc jhr jhg jaw jas jar Se Sw Ss Sr) sz) (wX7_worst cI cZ jhe jae jhx jht jhw jhs jhd jhc jhr jhg jaw jas jar Se Sw Ss res.2)) (va_A (wX7_worst cI cZ jhe jae jhx jht jhw jhs jhd jhc jhr jhg jaw jas jar Se Sw Ss Sr) sz)) 0 0 (va_A (wX7_worst cI cZ jhe jae jhx jht jhw jhs jhd jhc jhr jhg jaw jas jar Se Sw Ss Sr) sz) := by
  refine met_w (by decide) (Nat.le_of_ble_eq_true rfl) ?_
  intro p e s m below meth c hx hb hr hml ht hown hlk ls hl hsz hP hK hD0 hZ
  subst hsz
  have hD := hD0.self (sz := s.heap.size)
  generalize hAe : va_A (wX7_worst cI cZ jhe jae jhx jht jhw jhs jhd jhc jhr jhg jaw jas jar Se Sw Ss Sr) s.heap.size = A at hD hZ ⊢
  have hA : ∀ q : Nat, s.heap.size ≤ q → A q := fun q h => by rw [← hAe]; exact Or.inr h
  have hS : va_S A s.heap s.heap [] := va_S.rf
  have hown : s.vm.findClass "EyeDrink" = some m.cls := hown
  have hl : lv_has ls 2 [(0, .ref jhe), (1, .int x1)] := hl
  have hC : CallFix p m c cX7_worst 2 s ([.ref jhe, .int x1] : List Value).toArray wT "EyeDrink" := ⟨hx, hb, hml, hown, ht⟩
  unfold fX7_worst at hf
  suffices hgo : ∀ (H : Heap) (locs : List Loc), va_P D vwCl (wX7_worst cI cZ jhe jae jhx jht jhw jhs jhd jhc jhr jhg jaw jas jar Se Sw Ss Sr) H → va_S A s.heap H locs → W p l e (rmF 6 146) s m ([.ref jhe, .int x1] : List Value).toArray below meth c H locs 0 0 (MQ below (va_Qi (S := Unit) (fun r _ => r = res.1) (fun _ => qW D (tyL cI cZ cO) A (wX7_worst cI cZ jhe jae jhx jht jhw jhs jhd jhc jhr jhg jaw jas jar Se Sw Ss res.2)) A) ([.ref jhe, .int x1] : List Value).toArray s 0 0 A) (F0 m 0 ls []) from hgo s.heap [] hP hS
  intro H locs hP hS
  refine lv_aload_n hx hb dX7_worst_0 rfl (lv_at hl 0 rfl) ?_
  refine lv_iconst (v := (0 : Int32)) hx hb dX7_worst_1 rfl ?_
  refine lv_iload_n hx hb dX7_worst_2 rfl (lv_at hl 1 rfl) ?_
  obtain ⟨u1, e2, hf⟩ := bdS hf
  refine k_wVi (ws' := (wX7_worst cI cZ jhe jae jhx jht jhw jhs jhd jhc jhr jhg jaw jas jar Se Sw Ss u1.2)) (wr := []) (As := [.int (0 : Int32), .int x1]) (rest := []) hC miX7_greatest mjX7_greatest.1 mjX7_greatest.2 wd2_231 (qX7_greatest l D cI cZ cO jhe jae jhx jht jhw jhs jhd jhc jhr jhg jaw jas jar Se Sw Ss Sr (0 : Int32) x1 H.size u1 e2) ⟨Nat.le_of_ble_eq_true rfl, Nat.le_of_ble_eq_true rfl⟩ hP hD hK hZ hS hA [0, 1, 2, 3, 4, 5, 6, 7, 8, 9, 10, 11, 12, 13, 14, 15, 16, 17, 18] [] [0, 1, 2, 3, 4, 5, 6, 7, 8, 9, 10, 11, 12, 13, 14, 15, 16, 17, 18] rfl (by decide) rfl (by decide) (by decide) (by decide) rfl (va_recv hK hP (ci := 6) (q0 := 0) rfl rfl) hl.1 rfl rfl (Nat.le_of_ble_eq_true rfl) dX7_worst_3 (fun H locs hP hD hS => ?_)
  cases hf
  exact W.iret hx hb hr (fun t ht9 hW => ⟨⟨_, (), rfl, rfl, by rw [ht9]; exact hP, va_K.moved hW.alike hK, hD⟩, hS.F ht9⟩) hS.2.2 dX7_worst_6
abbrev wX7_regret (cI cZ : ClassId) (jhe : Nat) (jae : Nat → Nat) (jhx : Nat) (jht : Nat) (jhw : Nat) (jhs : Nat) (jhd : Nat) (jhc : Nat) (jhr : Nat) (jhg : Nat) (jaw : Nat → Nat) (jas : Nat → Nat) (jar : Nat → Nat) (Se : Bk) (Sw : Bk) (Ss : Bk) (Sr : Bk) : va_W := [(jhe, .inr (6, [.ref jhx, .ref jht, .ref jhw, .ref jhs, .ref jhd, .ref jhc, .ref jhr, .ref jhg, .ref (jae 8), .int (Se.1 0), .long Se.2.2])), (jhw, .inr (5, [.int (Sw.1 0), .ref (jaw 0), .ref (jaw 1), .ref (jaw 2), .int (Sw.1 1), .ref (jaw 3), .ref (jaw 4), .ref (jaw 5), .int (Sw.1 2), .int (Sw.1 3), .ref (jaw 6), .ref (jaw 7), .ref (jaw 8), .ref (jaw 9), .ref (jaw 10)])), (jaw 0, .inl (cI, 4, .inl (Sw.2.1 0))), (jaw 1, .inl (cI, 4, .inl (Sw.2.1 1))), (jaw 2, .inl (cI, 4, .inl (Sw.2.1 2))), (jaw 3, .inl (cI, 4, .inl (Sw.2.1 3))), (jaw 4, .inl (cI, 4, .inl (Sw.2.1 4))), (jaw 5, .inl (cI, 4, .inl (Sw.2.1 5))), (jaw 6, .inl (cI, 4, .inl (Sw.2.1 6))), (jaw 7, .inl (cI, 4, .inl (Sw.2.1 7))), (jaw 8, .inl (cI, 4, .inl (Sw.2.1 8))), (jaw 9, .inl (cI, 4, .inl (Sw.2.1 9))), (jaw 10, .inl (cI, 4, .inl (Sw.2.1 10))), (jhs, .inr (2, [.ref jhw, .ref (jas 1), .ref (jas 2), .ref (jas 3), .int (Ss.1 0), .int (Ss.1 1), .int (Ss.1 2), .int (Ss.1 3)])), (jas 1, .inl (cI, 4, .inl (Ss.2.1 1))), (jhr, .inr (4, [.ref jhw, .ref jhs, .ref (jar 2), .ref (jar 3), .ref (jar 4), .ref (jar 5), .int (Sr.1 0), .int (Sr.1 1), .int (Sr.1 2)])), (jar 2, .inl (cI, 1296, .inl (Sr.2.1 2))), (jar 3, .inl (cI, 4, .inl (Sr.2.1 3))), (jar 4, .inl (cI, 4, .inl (Sr.2.1 4)))]
def fX7_regret (Se : Bk) (Sw : Bk) (Ss : Bk) (Sr : Bk) (x1 : Int32) : Option (Int32 × Bk) := (fX3_refusalToDrink Sw Ss x1).bind (fun u1 => (if u1 = 0 then (fX5_grow Sw Ss Sr (0 : Int32) (0 : Int32)).bind (fun u4 => (fX5_behindNow Sw Ss u4.2 x1).bind (fun u6 => (fX5_grow Sw Ss u4.2 (0 : Int32) ((1 : Int32) <<< (x1 &&& 31))).bind (fun u8 => some ((if (0 : Int32) < (u8.1 - u6) then (u8.1 - u6) else (0 : Int32)), u8.2)))) else some (u1, Sr)))
theorem miX7_regret : MI yX7_regret cX7_regret 5 (some .int) 1 := ⟨wd1_1, wd3_57, by decide +kernel⟩
theorem mjX7_regret : Cond.instanceMethod yX7_regret ∈ wT ∧ Cond.selects yX7_regret.cls yX7_regret yX7_regret ∈ wT := ⟨wd3_55, wd3_56⟩
set_option maxHeartbeats 4000000 in
set_option maxRecDepth 100000 in
theorem qX7_regret (l : Launch) (D : va_G) (cI cZ cO : ClassId) (jhe : Nat) (jae : Nat → Nat) (jhx : Nat) (jht : Nat) (jhw : Nat) (jhs : Nat) (jhd : Nat) (jhc : Nat) (jhr : Nat) (jhg : Nat) (jaw : Nat → Nat) (jas : Nat → Nat) (jar : Nat → Nat) (Se : Bk) (Sw : Bk) (Ss : Bk) (Sr : Bk) (x1 : Int32) (sz : Nat) (res : Int32 × Bk) (hf : fX7_regret Se Sw Ss Sr x1 = some res) : Met l yX7_regret (Cond.code yX7_regret cX7_regret 5 (some .int) :: wT) (rmF 5 123) (va_Pc [.ref jhe, .int x1] (cW D (tyL cI cZ cO) (wX7_regret cI cZ jhe jae jhx jht jhw jhs jhd jhc jhr jhg jaw jas jar Se Sw Ss Sr) sz)) (va_Qi (S := Unit) (fun r _ => r = res.1) (fun _ => qW D (tyL cI cZ cO) (va_A (wX7_regret cI cZ jhe jae jhx jht jhw jhs jhd jhc jhr jhg jaw jas jar Se Sw Ss Sr) sz) (wX7_regret cI cZ jhe jae jhx jht jhw jhs jhd jhc jhr jhg jaw jas jar Se Sw Ss res.2)) (va_A (wX7_regret cI cZ jhe jae jhx jht jhw jhs jhd jhc jhr jhg jaw jas jar Se Sw Ss Sr) sz)) 0 0 (va_A (wX7_regret cI cZ jhe jae jhx jht jhw jhs jhd jhc jhr jhg jaw jas jar Se Sw Ss Sr) sz) := by
  refine met_w (by decide) (Nat.le_of_ble_eq_true rfl) ?_
  intro p e s m below meth c hx hb hr hml ht hown hlk ls hl hsz hP hK hD0 hZ
  subst hsz
  have hD := hD0.self (sz := s.heap.size)
  generalize hAe : va_A (wX7_regret cI cZ jhe jae jhx jht jhw jhs jhd jhc jhr jhg jaw jas jar Se Sw Ss Sr) s.heap.size = A at hD hZ ⊢
  have hA : ∀ q : Nat, s.heap.size ≤ q → A q := fun q h => by rw [← hAe]; exact Or.inr h
  have hS : va_S A s.heap s.heap [] := va_S.rf
  have hown : s.vm.findClass "EyeDrink" = some m.cls := hown
  have hl : lv_has ls 5 [(0, .ref jhe), (1, .int x1)] := hl
  have hC : CallFix p m c cX7_regret 5 s ([.ref jhe, .int x1] : List Value).toArray wT "EyeDrink" := ⟨hx, hb, hml, hown, ht⟩
  unfold fX7_regret at hf
  suffices hgo : ∀ (H : Heap) (locs : List Loc), va_P D vwCl (wX7_regret cI cZ jhe jae jhx jht jhw jhs jhd jhc jhr jhg jaw jas jar Se Sw Ss Sr) H → va_S A s.heap H locs → W p l e (rmF 5 123) s m ([.ref jhe, .int x1] : List Value).toArray below meth c H locs 0 0 (MQ below (va_Qi (S := Unit) (fun r _ => r = res.1) (fun _ => qW D (tyL cI cZ cO) A (wX7_regret cI cZ jhe jae jhx jht jhw jhs jhd jhc jhr jhg jaw jas jar Se Sw Ss res.2)) A) ([.ref jhe, .int x1] : List Value).toArray s 0 0 A) (F0 m 0 ls []) from hgo s.heap [] hP hS
  intro H locs hP hS
  refine lv_aload_n hx hb dX7_regret_0 rfl (lv_at hl 0 rfl) ?_
  refine va_get (D := D) (ci := 6) (v := .ref jhs) (C := RX7) (T := TX7) (N := 11) hx hb ht inX7 hown hK hP 0 rfl rfl 3 (by decide) (ht _ wd2_2) (fun _ h9 => h9) rfl dX7_regret_1 ?_
  refine lv_iload_n hx hb dX7_regret_4 rfl (lv_at hl 1 rfl) ?_
  obtain ⟨u1, e2, hf⟩ := bdS hf
  refine k_rV (As := [.int x1]) (rest := []) hC miX3_refusalToDrink mjX3_refusalToDrink.1 mjX3_refusalToDrink.2 wd2_151 (qX3_refusalToDrink l D cI cZ cO jhw jaw jhs jas Sw Ss x1 u1 e2) ⟨Nat.le_of_ble_eq_true rfl, Nat.le_of_ble_eq_true rfl⟩ (hP.sub [1, 5, 6, 13, 14] rfl) hK hZ hS (va_recv hK hP (ci := 2) (q0 := 13) rfl rfl) hl.1 rfl rfl (Nat.le_of_ble_eq_true rfl) dX7_regret_5 ?_
  refine lv_istore_n (lv' := [(2, .int u1), (0, .ref jhe), (1, .int x1)]) hx hb dX7_regret_8 rfl hl (by decide) rfl (fun ls hl => ?_)
  refine lv_iload_n hx hb dX7_regret_9 rfl (lv_at hl 0 rfl) ?_
  refine lv_if_eq (tgt := 15) hx hb dX7_regret_10 (by decide) (fun c3 => ?_) (fun c3 => ?_)
  · have hf := itP c3 hf
    refine lv_aload_n hx hb dX7_regret_15 rfl (lv_at hl 1 rfl) ?_
    refine va_get (D := D) (ci := 6) (v := .ref jhr) (C := RX7) (T := TX7) (N := 11) hx hb ht inX7 hown hK hP 0 rfl rfl 6 (by decide) (ht _ wd2_5) (fun _ h9 => h9) rfl dX7_regret_16 ?_
    refine lv_iconst (v := (0 : Int32)) hx hb dX7_regret_19 rfl ?_
    refine lv_iconst (v := (0 : Int32)) hx hb dX7_regret_20 rfl ?_
    obtain ⟨u4, e5, hf⟩ := bdS hf
    refine k_wVi (ws' := (wX7_regret cI cZ jhe jae jhx jht jhw jhs jhd jhc jhr jhg jaw jas jar Se Sw Ss u4.2)) (wr := [(jhe, .inr (6, [.ref jhx, .ref jht, .ref jhw, .ref jhs, .ref jhd, .ref jhc, .ref jhr, .ref jhg, .ref (jae 8), .int (Se.1 0), .long Se.2.2]))]) (As := [.int (0 : Int32), .int (0 : Int32)]) (rest := []) hC miX5_grow mjX5_grow.1 mjX5_grow.2 wd2_235 (qX5_grow l D cI cZ cO jhw jaw jhs jas jhr jar Sw Ss Sr (0 : Int32) (0 : Int32) H.size u4 e5) ⟨Nat.le_of_ble_eq_true rfl, Nat.le_of_ble_eq_true rfl⟩ hP hD hK hZ hS hA [1, 2, 3, 4, 5, 6, 7, 8, 9, 10, 11, 12, 13, 14, 15, 16, 17, 18] [0] [0, 1, 2, 3, 4, 5, 6, 7, 8, 9, 10, 11, 12, 13, 14, 15, 16, 17, 18] rfl (by decide) rfl (by decide) (by decide) (by decide) rfl (va_recv hK hP (ci := 4) (q0 := 15) rfl rfl) hl.1 rfl rfl (Nat.le_of_ble_eq_true rfl) dX7_regret_21 (fun H locs hP hD hS => ?_)
    refine lv_pop hx hb dX7_regret_24 rfl ?_
    refine lv_aload_n hx hb dX7_regret_25 rfl (lv_at hl 1 rfl) ?_
    refine va_get (D := D) (ci := 6) (v := .ref jhr) (C := RX7) (T := TX7) (N := 11) hx hb ht inX7 hown hK hP 0 rfl rfl 6 (by decide) (ht _ wd2_5) (fun _ h9 => h9) rfl dX7_regret_26 ?_
    refine lv_iload_n hx hb dX7_regret_29 rfl (lv_at hl 2 rfl) ?_
    obtain ⟨u6, e7, hf⟩ := bdS hf
    refine k_rV (As := [.int x1]) (rest := []) hC miX5_behindNow mjX5_behindNow.1 mjX5_behindNow.2 wd3_58 (qX5_behindNow l D cI cZ cO jhw jaw jhs jas jhr jar Sw Ss u4.2 x1 u6 e7) ⟨Nat.le_of_ble_eq_true rfl, Nat.le_of_ble_eq_true rfl⟩ (hP.sub [1, 7, 13, 15, 16] rfl) hK hZ hS (va_recv hK hP (ci := 4) (q0 := 15) rfl rfl) hl.1 rfl rfl (Nat.le_of_ble_eq_true rfl) dX7_regret_30 ?_
    refine lv_istore_n (lv' := [(3, .int u6), (2, .int u1), (0, .ref jhe), (1, .int x1)]) hx hb dX7_regret_33 rfl hl (by decide) rfl (fun ls hl => ?_)
    refine lv_aload_n hx hb dX7_regret_34 rfl (lv_at hl 2 rfl) ?_
    refine va_get (D := D) (ci := 6) (v := .ref jhr) (C := RX7) (T := TX7) (N := 11) hx hb ht inX7 hown hK hP 0 rfl rfl 6 (by decide) (ht _ wd2_5) (fun _ h9 => h9) rfl dX7_regret_35 ?_
    refine lv_iconst (v := (0 : Int32)) hx hb dX7_regret_38 rfl ?_
    refine lv_iconst (v := (1 : Int32)) hx hb dX7_regret_39 rfl ?_
    refine lv_iload_n hx hb dX7_regret_40 rfl (lv_at hl 3 rfl) ?_
    refine lv_ishl hx hb dX7_regret_41 ?_
    obtain ⟨u8, e9, hf⟩ := bdS hf
    refine k_wVi (ws' := (wX7_regret cI cZ jhe jae jhx jht jhw jhs jhd jhc jhr jhg jaw jas jar Se Sw Ss u8.2)) (wr := [(jhe, .inr (6, [.ref jhx, .ref jht, .ref jhw, .ref jhs, .ref jhd, .ref jhc, .ref jhr, .ref jhg, .ref (jae 8), .int (Se.1 0), .long Se.2.2]))]) (As := [.int (0 : Int32), .int ((1 : Int32) <<< (x1 &&& 31))]) (rest := []) hC miX5_grow mjX5_grow.1 mjX5_grow.2 wd2_235 (qX5_grow l D cI cZ cO jhw jaw jhs jas jhr jar Sw Ss u4.2 (0 : Int32) ((1 : Int32) <<< (x1 &&& 31)) H.size u8 e9) ⟨Nat.le_of_ble_eq_true rfl, Nat.le_of_ble_eq_true rfl⟩ hP hD hK hZ hS hA [1, 2, 3, 4, 5, 6, 7, 8, 9, 10, 11, 12, 13, 14, 15, 16, 17, 18] [0] [0, 1, 2, 3, 4, 5, 6, 7, 8, 9, 10, 11, 12, 13, 14, 15, 16, 17, 18] rfl (by decide) rfl (by decide) (by decide) (by decide) rfl (va_recv hK hP (ci := 4) (q0 := 15) rfl rfl) hl.1 rfl rfl (Nat.le_of_ble_eq_true rfl) dX7_regret_42 (fun H locs hP hD hS => ?_)
    refine lv_istore (lv' := [(4, .int u8.1), (3, .int u6), (2, .int u1), (0, .ref jhe), (1, .int x1)]) hx hb dX7_regret_45 hl (by decide) rfl (fun ls hl => ?_)
    refine lv_iconst (v := (0 : Int32)) hx hb dX7_regret_47 rfl ?_
    refine lv_iload hx hb dX7_regret_48 (lv_at hl 0 rfl) ?_
    refine lv_iload_n hx hb dX7_regret_50 rfl (lv_at hl 1 rfl) ?_
    refine lv_isub hx hb dX7_regret_51 ?_
    refine va_mmax hx hb (hml.trans hl.1.symm) hown (ht _ wd3_59) (ht _ wd3_38) (ht _ wd1_11) (ht _ wd3_39) (Nat.le_of_ble_eq_true rfl) (Nat.le_of_ble_eq_true rfl) (Nat.zero_le _) (Nat.zero_le _) dX7_regret_52 ?_
    cases hf
    exact W.iret hx hb hr (fun t ht9 hW => ⟨⟨_, (), rfl, rfl, by rw [ht9]; exact hP, va_K.moved hW.alike hK, hD⟩, hS.F ht9⟩) hS.2.2 dX7_regret_55
  · have hf := itN c3 hf
    refine lv_iload_n hx hb dX7_regret_13 rfl (lv_at hl 0 rfl) ?_
    cases hf
    exact W.iret hx hb hr (fun t ht9 hW => ⟨⟨_, (), rfl, rfl, by rw [ht9]; exact hP, va_K.moved hW.alike hK, hD⟩, hS.F ht9⟩) hS.2.2 dX7_regret_14
abbrev wX7_never (cI cZ : ClassId) (jhe : Nat) (jae : Nat → Nat) (jhx : Nat) (jht : Nat) (jhw : Nat) (jhs : Nat) (jhd : Nat) (jhc : Nat) (jhr : Nat) (jhg : Nat) (jaw : Nat → Nat) (jas : Nat → Nat) (jar : Nat → Nat) (Se : Bk) (Sw : Bk) (Ss : Bk) (Sr : Bk) : va_W := [(jhe, .inr (6, [.ref jhx, .ref jht, .ref jhw, .ref jhs, .ref jhd, .ref jhc, .ref jhr, .ref jhg, .ref (jae 8), .int (Se.1 0), .long Se.2.2])), (jhw, .inr (5, [.int (Sw.1 0), .ref (jaw 0), .ref (jaw 1), .ref (jaw 2), .int (Sw.1 1), .ref (jaw 3), .ref (jaw 4), .ref (jaw 5), .int (Sw.1 2), .int (Sw.1 3), .ref (jaw 6), .ref (jaw 7), .ref (jaw 8), .ref (jaw 9), .ref (jaw 10)])), (jaw 0, .inl (cI, 4, .inl (Sw.2.1 0))), (jaw 1, .inl (cI, 4, .inl (Sw.2.1 1))), (jaw 2, .inl (cI, 4, .inl (Sw.2.1 2))), (jaw 3, .inl (cI, 4, .inl (Sw.2.1 3))), (jaw 4, .inl (cI, 4, .inl (Sw.2.1 4))), (jaw 5, .inl (cI, 4, .inl (Sw.2.1 5))), (jaw 6, .inl (cI, 4, .inl (Sw.2.1 6))), (jaw 7, .inl (cI, 4, .inl (Sw.2.1 7))), (jaw 8, .inl (cI, 4, .inl (Sw.2.1 8))), (jaw 9, .inl (cI, 4, .inl (Sw.2.1 9))), (jaw 10, .inl (cI, 4, .inl (Sw.2.1 10))), (jhs, .inr (2, [.ref jhw, .ref (jas 1), .ref (jas 2), .ref (jas 3), .int (Ss.1 0), .int (Ss.1 1), .int (Ss.1 2), .int (Ss.1 3)])), (jas 1, .inl (cI, 4, .inl (Ss.2.1 1))), (jhr, .inr (4, [.ref jhw, .ref jhs, .ref (jar 2), .ref (jar 3), .ref (jar 4), .ref (jar 5), .int (Sr.1 0), .int (Sr.1 1), .int (Sr.1 2)])), (jar 2, .inl (cI, 1296, .inl (Sr.2.1 2))), (jar 3, .inl (cI, 4, .inl (Sr.2.1 3))), (jar 4, .inl (cI, 4, .inl (Sr.2.1 4))), (jar 5, .inl (cI, 4, .inl (Sr.2.1 5)))]
def fX7_never (Se : Bk) (Sw : Bk) (Ss : Bk) (Sr : Bk) : Option (Int32 × Bk) := (fX5_unregretted Sw Ss Sr).bind (fun u1 => some (u1.1, u1.2))
theorem miX7_never : MI yX7_never cX7_never 1 (some .int) 0 := ⟨wd1_1, wd3_63, by decide +kernel⟩
theorem mjX7_never : Cond.instanceMethod yX7_never ∈ wT ∧ Cond.selects yX7_never.cls yX7_never yX7_never ∈ wT := ⟨wd3_61, wd3_62⟩
set_option maxHeartbeats 4000000 in
set_option maxRecDepth 100000 in
theorem qX7_never (l : Launch) (D : va_G) (cI cZ cO : ClassId) (jhe : Nat) (jae : Nat → Nat) (jhx : Nat) (jht : Nat) (jhw : Nat) (jhs : Nat) (jhd : Nat) (jhc : Nat) (jhr : Nat) (jhg : Nat) (jaw : Nat → Nat) (jas : Nat → Nat) (jar : Nat → Nat) (Se : Bk) (Sw : Bk) (Ss : Bk) (Sr : Bk) (sz : Nat) (res : Int32 × Bk) (hf : fX7_never Se Sw Ss Sr = some res) : Met l yX7_never (Cond.code yX7_never cX7_never 1 (some .int) :: wT) (rmF 6 146) (va_Pc [.ref jhe] (cW D (tyL cI cZ cO) (wX7_never cI cZ jhe jae jhx jht jhw jhs jhd jhc jhr jhg jaw jas jar Se Sw Ss Sr) sz)) (va_Qi (S := Unit) (fun r _ => r = res.1) (fun _ => qW D (tyL cI cZ cO) (va_A (wX7_never cI cZ jhe jae jhx jht jhw jhs jhd jhc jhr jhg jaw jas jar Se Sw Ss Sr) sz) (wX7_never cI cZ jhe jae jhx jht jhw jhs jhd jhc jhr jhg jaw jas jar Se Sw Ss res.2)) (va_A (wX7_never cI cZ jhe jae jhx jht jhw jhs jhd jhc jhr jhg jaw jas jar Se Sw Ss Sr) sz)) 0 0 (va_A (wX7_never cI cZ jhe jae jhx jht jhw jhs jhd jhc jhr jhg jaw jas jar Se Sw Ss Sr) sz) := by
  refine met_w (by decide) (Nat.le_of_ble_eq_true rfl) ?_
  intro p e s m below meth c hx hb hr hml ht hown hlk ls hl hsz hP hK hD0 hZ
  subst hsz
  have hD := hD0.self (sz := s.heap.size)
  generalize hAe : va_A (wX7_never cI cZ jhe jae jhx jht jhw jhs jhd jhc jhr jhg jaw jas jar Se Sw Ss Sr) s.heap.size = A at hD hZ ⊢
  have hA : ∀ q : Nat, s.heap.size ≤ q → A q := fun q h => by rw [← hAe]; exact Or.inr h
  have hS : va_S A s.heap s.heap [] := va_S.rf
  have hown : s.vm.findClass "EyeDrink" = some m.cls := hown
  have hl : lv_has ls 1 [(0, .ref jhe)] := hl
  have hC : CallFix p m c cX7_never 1 s ([.ref jhe] : List Value).toArray wT "EyeDrink" := ⟨hx, hb, hml, hown, ht⟩
  unfold fX7_never at hf
  suffices hgo : ∀ (H : Heap) (locs : List Loc), va_P D vwCl (wX7_never cI cZ jhe jae jhx jht jhw jhs jhd jhc jhr jhg jaw jas jar Se Sw Ss Sr) H → va_S A s.heap H locs → W p l e (rmF 6 146) s m ([.ref jhe] : List Value).toArray below meth c H locs 0 0 (MQ below (va_Qi (S := Unit) (fun r _ => r = res.1) (fun _ => qW D (tyL cI cZ cO) A (wX7_never cI cZ jhe jae jhx jht jhw jhs jhd jhc jhr jhg jaw jas jar Se Sw Ss res.2)) A) ([.ref jhe] : List Value).toArray s 0 0 A) (F0 m 0 ls []) from hgo s.heap [] hP hS
  intro H locs hP hS
  refine lv_aload_n hx hb dX7_never_0 rfl (lv_at hl 0 rfl) ?_
  refine va_get (D := D) (ci := 6) (v := .ref jhr) (C := RX7) (T := TX7) (N := 11) hx hb ht inX7 hown hK hP 0 rfl rfl 6 (by decide) (ht _ wd2_5) (fun _ h9 => h9) rfl dX7_never_1 ?_
  obtain ⟨u1, e2, hf⟩ := bdS hf
  refine k_wVi (ws' := (wX7_never cI cZ jhe jae jhx jht jhw jhs jhd jhc jhr jhg jaw jas jar Se Sw Ss u1.2)) (wr := [(jhe, .inr (6, [.ref jhx, .ref jht, .ref jhw, .ref jhs, .ref jhd, .ref jhc, .ref jhr, .ref jhg, .ref (jae 8), .int (Se.1 0), .long Se.2.2]))]) (As := []) (rest := []) hC miX5_unregretted mjX5_unregretted.1 mjX5_unregretted.2 wd3_64 (qX5_unregretted l D cI cZ cO jhw jaw jhs jas jhr jar Sw Ss Sr H.size u1 e2) ⟨Nat.le_of_ble_eq_true rfl, Nat.le_of_ble_eq_true rfl⟩ hP hD hK hZ hS hA [1, 2, 3, 4, 5, 6, 7, 8, 9, 10, 11, 12, 13, 14, 15, 16, 17, 18, 19] [0] [0, 1, 2, 3, 4, 5, 6, 7, 8, 9, 10, 11, 12, 13, 14, 15, 16, 17, 18, 19] rfl (by decide) rfl (by decide) (by decide) (by decide) rfl (va_recv hK hP (ci := 4) (q0 := 15) rfl rfl) hl.1 rfl rfl (Nat.le_of_ble_eq_true rfl) dX7_never_4 (fun H locs hP hD hS => ?_)
  cases hf
  exact W.iret hx hb hr (fun t ht9 hW => ⟨⟨_, (), rfl, rfl, by rw [ht9]; exact hP, va_K.moved hW.alike hK, hD⟩, hS.F ht9⟩) hS.2.2 dX7_never_7
abbrev wX7_shortFor (cI cZ : ClassId) (jhe : Nat) (jae : Nat → Nat) (jhx : Nat) (jht : Nat) (jhw : Nat) (jhs : Nat) (jhd : Nat) (jhc : Nat) (jhr : Nat) (jhg : Nat) (jaw : Nat → Nat) (jas : Nat → Nat) (Se : Bk) (Sw : Bk) (Ss : Bk) : va_W := [(jhe, .inr (6, [.ref jhx, .ref jht, .ref jhw, .ref jhs, .ref jhd, .ref jhc, .ref jhr, .ref jhg, .ref (jae 8), .int (Se.1 0), .long Se.2.2])), (jhw, .inr (5, [.int (Sw.1 0), .ref (jaw 0), .ref (jaw 1), .ref (jaw 2), .int (Sw.1 1), .ref (jaw 3), .ref (jaw 4), .ref (jaw 5), .int (Sw.1 2), .int (Sw.1 3), .ref (jaw 6), .ref (jaw 7), .ref (jaw 8), .ref (jaw 9), .ref (jaw 10)])), (jaw 9, .inl (cI, 4, .inl (Sw.2.1 9))), (jaw 10, .inl (cI, 4, .inl (Sw.2.1 10))), (jhs, .inr (2, [.ref jhw, .ref (jas 1), .ref (jas 2), .ref (jas 3), .int (Ss.1 0), .int (Ss.1 1), .int (Ss.1 2), .int (Ss.1 3)])), (jas 1, .inl (cI, 4, .inl (Ss.2.1 1)))]
def fX7_shortFor (Se : Bk) (Sw : Bk) (Ss : Bk) (x1 : Int32) : Option (Int32) := (if x1 < 0 then some (-2 : Int32) else (if x1 < ((1 : Int32) <<< ((Sw.1 3) &&& 31)) then (fX3_lacking Sw Ss x1).bind (fun u3 => some u3) else some (-2 : Int32)))
theorem miX7_shortFor : MI yX7_shortFor cX7_shortFor 2 (some .int) 1 := ⟨wd1_1, wd3_73, by decide +kernel⟩
theorem mjX7_shortFor : Cond.instanceMethod yX7_shortFor ∈ wT ∧ Cond.selects yX7_shortFor.cls yX7_shortFor yX7_shortFor ∈ wT := ⟨wd3_71, wd3_72⟩
set_option maxHeartbeats 4000000 in
set_option maxRecDepth 100000 in
theorem qX7_shortFor (l : Launch) (D : va_G) (cI cZ cO : ClassId) (jhe : Nat) (jae : Nat → Nat) (jhx : Nat) (jht : Nat) (jhw : Nat) (jhs : Nat) (jhd : Nat) (jhc : Nat) (jhr : Nat) (jhg : Nat) (jaw : Nat → Nat) (jas : Nat → Nat) (Se : Bk) (Sw : Bk) (Ss : Bk) (x1 : Int32) (res : Int32) (hf : fX7_shortFor Se Sw Ss x1 = some res) : Met l yX7_shortFor (Cond.code yX7_shortFor cX7_shortFor 2 (some .int) :: wT) (rmF 2 46) (va_Pc [.ref jhe, .int x1] (cR D (tyL cI cZ cO) (wX7_shortFor cI cZ jhe jae jhx jht jhw jhs jhd jhc jhr jhg jaw jas Se Sw Ss))) (vp_Si (fun r => r = res)) 0 0 (fun _ => False) := by
  refine met_r (by decide) (Nat.le_of_ble_eq_true rfl) ?_
  intro p e s m below meth c hx hb hr hml ht hown hlk ls hl hP hK hZ
  have hS : va_S (fun _ => False) s.heap s.heap [] := va_S.rf
  have hown : s.vm.findClass "EyeDrink" = some m.cls := hown
  have hl : lv_has ls 2 [(0, .ref jhe), (1, .int x1)] := hl
  have hC : CallFix p m c cX7_shortFor 2 s ([.ref jhe, .int x1] : List Value).toArray wT "EyeDrink" := ⟨hx, hb, hml, hown, ht⟩
  unfold fX7_shortFor at hf
  refine lv_iload_n hx hb dX7_shortFor_0 rfl (lv_at hl 1 rfl) ?_
  refine lv_if_lt (tgt := 17) hx hb dX7_shortFor_1 (by decide) (fun c1 => ?_) (fun c1 => ?_)
  · have hf := itP c1 hf
    refine lv_bipush (v := (-2 : Int32)) hx hb dX7_shortFor_17 rfl ?_
    exact W.iret hx hb hr (fun t ht9 _ => ⟨_, rfl, Option.some.inj hf, ht9⟩) (fun _ h9 => by cases h9) dX7_shortFor_19
  · have hf := itN c1 hf
    refine lv_iload_n hx hb dX7_shortFor_4 rfl (lv_at hl 1 rfl) ?_
    refine lv_iconst (v := (1 : Int32)) hx hb dX7_shortFor_5 rfl ?_
    refine lv_aload_n hx hb dX7_shortFor_6 rfl (lv_at hl 0 rfl) ?_
    refine va_get (D := D) (ci := 6) (v := .ref jhw) (C := RX7) (T := TX7) (N := 11) hx hb ht inX7 hown hK hP 0 rfl rfl 2 (by decide) (ht _ wd2_1) (fun _ h9 => h9) rfl dX7_shortFor_7 ?_
    refine va_get (D := D) (ci := 5) (v := .int (Sw.1 3)) (C := RX6) (T := TX6) (N := 15) hx hb ht inX6 hown hK hP 1 rfl rfl 9 (by decide) (ht _ wd1_78) (fun _ h9 => h9) rfl dX7_shortFor_10 ?_
    refine lv_ishl hx hb dX7_shortFor_13 ?_
    refine lv_icmp_lt (tgt := 20) hx hb dX7_shortFor_14 (by decide) (fun c2 => ?_) (fun c2 => ?_)
    · have hf := itP c2 hf
      refine lv_aload_n hx hb dX7_shortFor_20 rfl (lv_at hl 0 rfl) ?_
      refine va_get (D := D) (ci := 6) (v := .ref jhs) (C := RX7) (T := TX7) (N := 11) hx hb ht inX7 hown hK hP 0 rfl rfl 3 (by decide) (ht _ wd2_2) (fun _ h9 => h9) rfl dX7_shortFor_21 ?_
      refine lv_iload_n hx hb dX7_shortFor_24 rfl (lv_at hl 1 rfl) ?_
      obtain ⟨u3, e4, hf⟩ := bdS hf
      refine k_rV (As := [.int x1]) (rest := []) hC miX3_lacking mjX3_lacking.1 mjX3_lacking.2 wd3_74 (qX3_lacking l D cI cZ cO jhw jaw jhs jas Sw Ss x1 u3 e4) ⟨Nat.le_of_ble_eq_true rfl, Nat.le_of_ble_eq_true rfl⟩ (hP.sub [1, 2, 3, 4, 5] rfl) hK hZ hS (va_recv hK hP (ci := 2) (q0 := 4) rfl rfl) hl.1 rfl rfl (Nat.le_of_ble_eq_true rfl) dX7_shortFor_25 ?_
      exact W.iret hx hb hr (fun t ht9 _ => ⟨_, rfl, Option.some.inj hf, ht9⟩) (fun _ h9 => by cases h9) dX7_shortFor_28
    · have hf := itN c2 hf
      refine lv_bipush (v := (-2 : Int32)) hx hb dX7_shortFor_17 rfl ?_
      exact W.iret hx hb hr (fun t ht9 _ => ⟨_, rfl, Option.some.inj hf, ht9⟩) (fun _ h9 => by cases h9) dX7_shortFor_19
def fX7_isFigure (x0 : Int32) : Option (Int32) := (if x0 < 0 then some (0 : Int32) else (if (9 : Int32) < x0 then some (0 : Int32) else some (1 : Int32)))
theorem miX7_isFigure : MI yX7_isFigure cX7_isFigure 1 (some .boolean) 1 := ⟨wd1_1, wd3_84, by decide +kernel⟩
theorem mjX7_isFigure : Cond.static yX7_isFigure ∈ wT := wd3_83
set_option maxHeartbeats 4000000 in
set_option maxRecDepth 100000 in
theorem qX7_isFigure (l : Launch) (x0 : Int32) (res : Int32) (hf : fX7_isFigure x0 = some res) : Met l yX7_isFigure (Cond.code yX7_isFigure cX7_isFigure 1 (some .boolean) :: wT) (rmF 0 0) (va_Pc [.int x0] (fun _ => True)) (vp_Si (fun r => r = res)) 0 0 (fun _ => False) := by
  refine met_p (by decide) (Nat.le_of_ble_eq_true rfl) ?_
  intro p e s m below meth c hx hb hr hml ht hown hlk ls hl
  have hown : s.vm.findClass "EyeDrink" = some m.cls := hown
  have hl : lv_has ls 1 [(0, .int x0)] := hl
  unfold fX7_isFigure at hf
  refine lv_iload_n hx hb dX7_isFigure_0 rfl (lv_at hl 0 rfl) ?_
  refine lv_if_lt (tgt := 14) hx hb dX7_isFigure_1 (by decide) (fun c1 => ?_) (fun c1 => ?_)
  · have hf := itP c1 hf
    refine lv_iconst (v := (0 : Int32)) hx hb dX7_isFigure_14 rfl ?_
    exact W.zret hx hb hr rfl (fun t ht9 _ => ⟨_, rfl, Option.some.inj hf, ht9⟩) (fun _ h9 => by cases h9) dX7_isFigure_15
  · have hf := itN c1 hf
    refine lv_iload_n hx hb dX7_isFigure_4 rfl (lv_at hl 0 rfl) ?_
    refine lv_bipush (v := (9 : Int32)) hx hb dX7_isFigure_5 rfl ?_
    refine lv_icmp_gt (tgt := 14) hx hb dX7_isFigure_7 (by decide) (fun c2 => ?_) (fun c2 => ?_)
    · have hf := itP c2 hf
      refine lv_iconst (v := (0 : Int32)) hx hb dX7_isFigure_14 rfl ?_
      exact W.zret hx hb hr rfl (fun t ht9 _ => ⟨_, rfl, Option.some.inj hf, ht9⟩) (fun _ h9 => by cases h9) dX7_isFigure_15
    · have hf := itN c2 hf
      refine lv_iconst (v := (1 : Int32)) hx hb dX7_isFigure_10 rfl ?_
      refine lv_goto (tgt := 15) hx hb dX7_isFigure_11 (by decide) ?_
      exact W.zret hx hb hr rfl (fun t ht9 _ => ⟨_, rfl, Option.some.inj hf, ht9⟩) (fun _ h9 => by cases h9) dX7_isFigure_15
def fX7_partners (x1 : Int32) (x2 : Int32) (x3 : Int32) (x4 : Int32) : Option (Int32) := (if x1 < (1 : Int32) then some (-2 : Int32) else (if (9 : Int32) < x1 then some (-2 : Int32) else (fX7_isFigure x2).bind (fun u3 => (if u3 = 0 then some (-2 : Int32) else (fX7_isFigure x3).bind (fun u6 => (if u6 = 0 then some (-2 : Int32) else (if x4 < 0 then some (-2 : Int32) else (if x4 ≤ (1 : Int32) then (if x4 = 0 then (fX1_sharesThatSuit x1 x2 x3).bind (fun u14 => some u14) else (fX1_leastShare x1 x2 x3).bind (fun u12 => some u12)) else some (-2 : Int32)))))))))
theorem miX7_partners : MI yX7_partners cX7_partners 5 (some .int) 4 := ⟨wd1_1, wd3_81, by decide +kernel⟩
theorem mjX7_partners : Cond.instanceMethod yX7_partners ∈ wT ∧ Cond.selects yX7_partners.cls yX7_partners yX7_partners ∈ wT := ⟨wd3_79, wd3_80⟩
set_option maxHeartbeats 4000000 in
set_option maxRecDepth 100000 in
theorem qX7_partners (l : Launch) (D : va_G) (cI cZ cO : ClassId) (jhe : Nat) (x1 : Int32) (x2 : Int32) (x3 : Int32) (x4 : Int32) (res : Int32) (hf : fX7_partners x1 x2 x3 x4 = some res) : Met l yX7_partners (Cond.code yX7_partners cX7_partners 5 (some .int) :: wT) (rmF 2 48) (va_Pc [.ref jhe, .int x1, .int x2, .int x3, .int x4] (cR D (tyL cI cZ cO) [])) (vp_Si (fun r => r = res)) 0 0 (fun _ => False) := by
  refine met_r (by decide) (Nat.le_of_ble_eq_true rfl) ?_
  intro p e s m below meth c hx hb hr hml ht hown hlk ls hl hP hK hZ
  have hS : va_S (fun _ => False) s.heap s.heap [] := va_S.rf
  have hown : s.vm.findClass "EyeDrink" = some m.cls := hown
  have hl : lv_has ls 5 [(0, .ref jhe), (1, .int x1), (2, .int x2), (3, .int x3), (4, .int x4)] := hl
  have hC : CallFix p m c cX7_partners 5 s ([.ref jhe, .int x1, .int x2, .int x3, .int x4] : List Value).toArray wT "EyeDrink" := ⟨hx, hb, hml, hown, ht⟩
  unfold fX7_partners at hf
  refine lv_iload_n hx hb dX7_partners_0 rfl (lv_at hl 1 rfl) ?_
  refine lv_iconst (v := (1 : Int32)) hx hb dX7_partners_1 rfl ?_
  refine lv_icmp_lt (tgt := 36) hx hb dX7_partners_2 (by decide) (fun c1 => ?_) (fun c1 => ?_)
  · have hf := itP c1 hf
    refine lv_bipush (v := (-2 : Int32)) hx hb dX7_partners_36 rfl ?_
    exact W.iret hx hb hr (fun t ht9 _ => ⟨_, rfl, Option.some.inj hf, ht9⟩) (fun _ h9 => by cases h9) dX7_partners_38
  · have hf := itN c1 hf
    refine lv_iload_n hx hb dX7_partners_5 rfl (lv_at hl 1 rfl) ?_
    refine lv_bipush (v := (9 : Int32)) hx hb dX7_partners_6 rfl ?_
    refine lv_icmp_gt (tgt := 36) hx hb dX7_partners_8 (by decide) (fun c2 => ?_) (fun c2 => ?_)
    · have hf := itP c2 hf
      refine lv_bipush (v := (-2 : Int32)) hx hb dX7_partners_36 rfl ?_
      exact W.iret hx hb hr (fun t ht9 _ => ⟨_, rfl, Option.some.inj hf, ht9⟩) (fun _ h9 => by cases h9) dX7_partners_38
    · have hf := itN c2 hf
      refine lv_iload_n hx hb dX7_partners_11 rfl (lv_at hl 2 rfl) ?_
      obtain ⟨u3, e4, hf⟩ := bdS hf
      refine k_pS (As := [.int x2]) (rest := []) hC miX7_isFigure mjX7_isFigure wd3_82 (qX7_isFigure l x2 u3 e4) ⟨Nat.le_of_ble_eq_true rfl, Nat.le_of_ble_eq_true rfl⟩ hl.1 rfl rfl (Nat.le_of_ble_eq_true rfl) dX7_partners_12 ?_
      refine lv_if_eq (tgt := 36) hx hb dX7_partners_15 (by decide) (fun c5 => ?_) (fun c5 => ?_)
      · have hf := itP c5 hf
        refine lv_bipush (v := (-2 : Int32)) hx hb dX7_partners_36 rfl ?_
        exact W.iret hx hb hr (fun t ht9 _ => ⟨_, rfl, Option.some.inj hf, ht9⟩) (fun _ h9 => by cases h9) dX7_partners_38
      · have hf := itN c5 hf
        refine lv_iload_n hx hb dX7_partners_18 rfl (lv_at hl 3 rfl) ?_
        obtain ⟨u6, e7, hf⟩ := bdS hf
        refine k_pS (As := [.int x3]) (rest := []) hC miX7_isFigure mjX7_isFigure wd3_82 (qX7_isFigure l x3 u6 e7) ⟨Nat.le_of_ble_eq_true rfl, Nat.le_of_ble_eq_true rfl⟩ hl.1 rfl rfl (Nat.le_of_ble_eq_true rfl) dX7_partners_19 ?_
        refine lv_if_eq (tgt := 36) hx hb dX7_partners_22 (by decide) (fun c8 => ?_) (fun c8 => ?_)
        · have hf := itP c8 hf
          refine lv_bipush (v := (-2 : Int32)) hx hb dX7_partners_36 rfl ?_
          exact W.iret hx hb hr (fun t ht9 _ => ⟨_, rfl, Option.some.inj hf, ht9⟩) (fun _ h9 => by cases h9) dX7_partners_38
        · have hf := itN c8 hf
          refine lv_iload hx hb dX7_partners_25 (lv_at hl 4 rfl) ?_
          refine lv_if_lt (tgt := 36) hx hb dX7_partners_27 (by decide) (fun c9 => ?_) (fun c9 => ?_)
          · have hf := itP c9 hf
            refine lv_bipush (v := (-2 : Int32)) hx hb dX7_partners_36 rfl ?_
            exact W.iret hx hb hr (fun t ht9 _ => ⟨_, rfl, Option.some.inj hf, ht9⟩) (fun _ h9 => by cases h9) dX7_partners_38
          · have hf := itN c9 hf
            refine lv_iload hx hb dX7_partners_30 (lv_at hl 4 rfl) ?_
            refine lv_iconst (v := (1 : Int32)) hx hb dX7_partners_32 rfl ?_
            refine lv_icmp_le (tgt := 39) hx hb dX7_partners_33 (by decide) (fun c10 => ?_) (fun c10 => ?_)
            · have hf := itP c10 hf
              refine lv_iload hx hb dX7_partners_39 (lv_at hl 4 rfl) ?_
              refine lv_if_ne (tgt := 53) hx hb dX7_partners_41 (by decide) (fun c11 => ?_) (fun c11 => ?_)
              · have hf := itN c11 hf
                refine lv_iload_n hx hb dX7_partners_53 rfl (lv_at hl 1 rfl) ?_
                refine lv_iload_n hx hb dX7_partners_54 rfl (lv_at hl 2 rfl) ?_
                refine lv_iload_n hx hb dX7_partners_55 rfl (lv_at hl 3 rfl) ?_
                obtain ⟨u12, e13, hf⟩ := bdS hf
                refine k_pS (As := [.int x1, .int x2, .int x3]) (rest := []) hC miX1_leastShare mjX1_leastShare wd3_91 (qX1_leastShare l x1 x2 x3 u12 e13) ⟨Nat.le_of_ble_eq_true rfl, Nat.le_of_ble_eq_true rfl⟩ hl.1 rfl rfl (Nat.le_of_ble_eq_true rfl) dX7_partners_56 ?_
                exact W.iret hx hb hr (fun t ht9 _ => ⟨_, rfl, Option.some.inj hf, ht9⟩) (fun _ h9 => by cases h9) dX7_partners_59
              · have hf := itP c11 hf
                refine lv_iload_n hx hb dX7_partners_44 rfl (lv_at hl 1 rfl) ?_
                refine lv_iload_n hx hb dX7_partners_45 rfl (lv_at hl 2 rfl) ?_
                refine lv_iload_n hx hb dX7_partners_46 rfl (lv_at hl 3 rfl) ?_
                obtain ⟨u14, e15, hf⟩ := bdS hf
                refine k_pS (As := [.int x1, .int x2, .int x3]) (rest := []) hC miX1_sharesThatSuit mjX1_sharesThatSuit wd3_85 (qX1_sharesThatSuit l x1 x2 x3 u14 e15) ⟨Nat.le_of_ble_eq_true rfl, Nat.le_of_ble_eq_true rfl⟩ hl.1 rfl rfl (Nat.le_of_ble_eq_true rfl) dX7_partners_47 ?_
                refine lv_goto (tgt := 59) hx hb dX7_partners_50 (by decide) ?_
                exact W.iret hx hb hr (fun t ht9 _ => ⟨_, rfl, Option.some.inj hf, ht9⟩) (fun _ h9 => by cases h9) dX7_partners_59
            · have hf := itN c10 hf
              refine lv_bipush (v := (-2 : Int32)) hx hb dX7_partners_36 rfl ?_
              exact W.iret hx hb hr (fun t ht9 _ => ⟨_, rfl, Option.some.inj hf, ht9⟩) (fun _ h9 => by cases h9) dX7_partners_38
def fX7_keeper (x1 : Int32) (x2 : Int32) (x3 : Int32) : Option (Int32) := (if x1 < (1 : Int32) then some (-2 : Int32) else (if (6 : Int32) < x1 then some (-2 : Int32) else (if x2 < 0 then some (-2 : Int32) else inB 7 x1 ((if (tenTo x1.toNatClampNeg) ≤ x2 then some (-2 : Int32) else (if x3 < 0 then some (-2 : Int32) else (if x3 ≤ (1 : Int32) then (fX1_bestToAsk x1 x2).bind (fun u8 => (if x3 = 0 then some u8 else (fX1_brings u8 x1 x2).bind (fun u11 => some u11))) else some (-2 : Int32))))))))
theorem miX7_keeper : MI yX7_keeper cX7_keeper 5 (some .int) 3 := ⟨wd1_1, wd3_97, by decide +kernel⟩
theorem mjX7_keeper : Cond.instanceMethod yX7_keeper ∈ wT ∧ Cond.selects yX7_keeper.cls yX7_keeper yX7_keeper ∈ wT := ⟨wd3_95, wd3_96⟩
set_option maxHeartbeats 4000000 in
set_option maxRecDepth 100000 in
theorem qX7_keeper (l : Launch) (D : va_G) (cI cZ cO : ClassId) (jhe : Nat) (x1 : Int32) (x2 : Int32) (x3 : Int32) (res : Int32) (hf : fX7_keeper x1 x2 x3 = some res) : Met l yX7_keeper (Cond.code yX7_keeper cX7_keeper 5 (some .int) :: wT) (rmF 2 48) (va_Pc [.ref jhe, .int x1, .int x2, .int x3] (cR D (tyL cI cZ cO) [])) (vp_Si (fun r => r = res)) 0 0 (fun _ => False) := by
  refine met_r (by decide) (Nat.le_of_ble_eq_true rfl) ?_
  intro p e s m below meth c hx hb hr hml ht hown hlk ls hl hP hK hZ
  have hS : va_S (fun _ => False) s.heap s.heap [] := va_S.rf
  have hown : s.vm.findClass "EyeDrink" = some m.cls := hown
  have hl : lv_has ls 5 [(0, .ref jhe), (1, .int x1), (2, .int x2), (3, .int x3)] := hl
  have hC : CallFix p m c cX7_keeper 5 s ([.ref jhe, .int x1, .int x2, .int x3] : List Value).toArray wT "EyeDrink" := ⟨hx, hb, hml, hown, ht⟩
  obtain ⟨⟨t3, hz3, hT3⟩, t10, hz10, hT10⟩ := id hZ
  unfold fX7_keeper at hf
  refine lv_iload_n hx hb dX7_keeper_0 rfl (lv_at hl 1 rfl) ?_
  refine lv_iconst (v := (1 : Int32)) hx hb dX7_keeper_1 rfl ?_
  refine lv_icmp_lt (tgt := 33) hx hb dX7_keeper_2 (by decide) (fun c1 => ?_) (fun c1 => ?_)
  · have hf := itP c1 hf
    refine lv_bipush (v := (-2 : Int32)) hx hb dX7_keeper_33 rfl ?_
    exact W.iret hx hb hr (fun t ht9 _ => ⟨_, rfl, Option.some.inj hf, ht9⟩) (fun _ h9 => by cases h9) dX7_keeper_35
  · have hf := itN c1 hf
    refine lv_iload_n hx hb dX7_keeper_5 rfl (lv_at hl 1 rfl) ?_
    refine lv_bipush (v := (6 : Int32)) hx hb dX7_keeper_6 rfl ?_
    refine lv_icmp_gt (tgt := 33) hx hb dX7_keeper_8 (by decide) (fun c2 => ?_) (fun c2 => ?_)
    · have hf := itP c2 hf
      refine lv_bipush (v := (-2 : Int32)) hx hb dX7_keeper_33 rfl ?_
      exact W.iret hx hb hr (fun t ht9 _ => ⟨_, rfl, Option.some.inj hf, ht9⟩) (fun _ h9 => by cases h9) dX7_keeper_35
    · have hf := itN c2 hf
      refine lv_iload_n hx hb dX7_keeper_11 rfl (lv_at hl 2 rfl) ?_
      refine lv_if_lt (tgt := 33) hx hb dX7_keeper_12 (by decide) (fun c3 => ?_) (fun c3 => ?_)
      · have hf := itP c3 hf
        refine lv_bipush (v := (-2 : Int32)) hx hb dX7_keeper_33 rfl ?_
        exact W.iret hx hb hr (fun t ht9 _ => ⟨_, rfl, Option.some.inj hf, ht9⟩) (fun _ h9 => by cases h9) dX7_keeper_35
      · have hf := itN c3 hf
        refine lv_iload_n hx hb dX7_keeper_15 rfl (lv_at hl 2 rfl) ?_
        refine va_gets hx hb hz10 hS hown (ht _ wd3_98) (fun _ h9 => h9) dX7_keeper_16 ?_
        refine lv_iload_n hx hb dX7_keeper_19 rfl (lv_at hl 1 rfl) ?_
        obtain ⟨h4, hf⟩ := inB_s hf
        refine va_ti hx hb hT10 hS h4 rfl dX7_keeper_20 ?_
        refine lv_icmp_ge (tgt := 33) hx hb dX7_keeper_21 (by decide) (fun c5 => ?_) (fun c5 => ?_)
        · have hf := itP c5 hf
          refine lv_bipush (v := (-2 : Int32)) hx hb dX7_keeper_33 rfl ?_
          exact W.iret hx hb hr (fun t ht9 _ => ⟨_, rfl, Option.some.inj hf, ht9⟩) (fun _ h9 => by cases h9) dX7_keeper_35
        · have hf := itN c5 hf
          refine lv_iload_n hx hb dX7_keeper_24 rfl (lv_at hl 3 rfl) ?_
          refine lv_if_lt (tgt := 33) hx hb dX7_keeper_25 (by decide) (fun c6 => ?_) (fun c6 => ?_)
          · have hf := itP c6 hf
            refine lv_bipush (v := (-2 : Int32)) hx hb dX7_keeper_33 rfl ?_
            exact W.iret hx hb hr (fun t ht9 _ => ⟨_, rfl, Option.some.inj hf, ht9⟩) (fun _ h9 => by cases h9) dX7_keeper_35
          · have hf := itN c6 hf
            refine lv_iload_n hx hb dX7_keeper_28 rfl (lv_at hl 3 rfl) ?_
            refine lv_iconst (v := (1 : Int32)) hx hb dX7_keeper_29 rfl ?_
            refine lv_icmp_le (tgt := 36) hx hb dX7_keeper_30 (by decide) (fun c7 => ?_) (fun c7 => ?_)
            · have hf := itP c7 hf
              refine lv_iload_n hx hb dX7_keeper_36 rfl (lv_at hl 1 rfl) ?_
              refine lv_iload_n hx hb dX7_keeper_37 rfl (lv_at hl 2 rfl) ?_
              obtain ⟨u8, e9, hf⟩ := bdS hf
              refine k_pS (As := [.int x1, .int x2]) (rest := []) hC miX1_bestToAsk mjX1_bestToAsk wd3_100 (qX1_bestToAsk l x1 x2 u8 e9) ⟨Nat.le_of_ble_eq_true rfl, Nat.le_of_ble_eq_true rfl⟩ hl.1 rfl rfl (Nat.le_of_ble_eq_true rfl) dX7_keeper_38 ?_
              refine lv_istore (lv' := [(4, .int u8), (0, .ref jhe), (1, .int x1), (2, .int x2), (3, .int x3)]) hx hb dX7_keeper_41 hl (by decide) rfl (fun ls hl => ?_)
              refine lv_iload_n hx hb dX7_keeper_43 rfl (lv_at hl 4 rfl) ?_
              refine lv_if_ne (tgt := 52) hx hb dX7_keeper_44 (by decide) (fun c10 => ?_) (fun c10 => ?_)
              · have hf := itN c10 hf
                refine lv_iload hx hb dX7_keeper_52 (lv_at hl 0 rfl) ?_
                refine lv_iload_n hx hb dX7_keeper_54 rfl (lv_at hl 2 rfl) ?_
                refine lv_iload_n hx hb dX7_keeper_55 rfl (lv_at hl 3 rfl) ?_
                obtain ⟨u11, e12, hf⟩ := bdS hf
                refine k_pS (As := [.int u8, .int x1, .int x2]) (rest := []) hC miX1_brings mjX1_brings wd3_106 (qX1_brings l u8 x1 x2 u11 e12) ⟨Nat.le_of_ble_eq_true rfl, Nat.le_of_ble_eq_true rfl⟩ hl.1 rfl rfl (Nat.le_of_ble_eq_true rfl) dX7_keeper_56 ?_
                exact W.iret hx hb hr (fun t ht9 _ => ⟨_, rfl, Option.some.inj hf, ht9⟩) (fun _ h9 => by cases h9) dX7_keeper_59
              · have hf := itP c10 hf
                refine lv_iload hx hb dX7_keeper_47 (lv_at hl 0 rfl) ?_
                refine lv_goto (tgt := 59) hx hb dX7_keeper_49 (by decide) ?_
                exact W.iret hx hb hr (fun t ht9 _ => ⟨_, rfl, Option.some.inj hf, ht9⟩) (fun _ h9 => by cases h9) dX7_keeper_59
            · have hf := itN c7 hf
              refine lv_bipush (v := (-2 : Int32)) hx hb dX7_keeper_33 rfl ?_
              exact W.iret hx hb hr (fun t ht9 _ => ⟨_, rfl, Option.some.inj hf, ht9⟩) (fun _ h9 => by cases h9) dX7_keeper_35
def fX7_byTurns (x1 : Int32) (x2 : Int32) : Option (Int32) := (fX7_isFigure x1).bind (fun u1 => (if u1 = 0 then some (-2 : Int32) else (if x2 < (1 : Int32) then some (-2 : Int32) else (if x2 ≤ (6 : Int32) then (fX1_agreedByTurns x1 x2).bind (fun u6 => some u6) else some (-2 : Int32)))))
theorem miX7_byTurns : MI yX7_byTurns cX7_byTurns 3 (some .int) 2 := ⟨wd1_1, wd3_110, by decide +kernel⟩
theorem mjX7_byTurns : Cond.instanceMethod yX7_byTurns ∈ wT ∧ Cond.selects yX7_byTurns.cls yX7_byTurns yX7_byTurns ∈ wT := ⟨wd3_108, wd3_109⟩
set_option maxHeartbeats 4000000 in
set_option maxRecDepth 100000 in
theorem qX7_byTurns (l : Launch) (D : va_G) (cI cZ cO : ClassId) (jhe : Nat) (x1 : Int32) (x2 : Int32) (res : Int32) (hf : fX7_byTurns x1 x2 = some res) : Met l yX7_byTurns (Cond.code yX7_byTurns cX7_byTurns 3 (some .int) :: wT) (rmF 2 49) (va_Pc [.ref jhe, .int x1, .int x2] (cR D (tyL cI cZ cO) [])) (vp_Si (fun r => r = res)) 0 0 (fun _ => False) := by
  refine met_r (by decide) (Nat.le_of_ble_eq_true rfl) ?_
  intro p e s m below meth c hx hb hr hml ht hown hlk ls hl hP hK hZ
  have hS : va_S (fun _ => False) s.heap s.heap [] := va_S.rf
  have hown : s.vm.findClass "EyeDrink" = some m.cls := hown
  have hl : lv_has ls 3 [(0, .ref jhe), (1, .int x1), (2, .int x2)] := hl
  have hC : CallFix p m c cX7_byTurns 3 s ([.ref jhe, .int x1, .int x2] : List Value).toArray wT "EyeDrink" := ⟨hx, hb, hml, hown, ht⟩
  unfold fX7_byTurns at hf
  refine lv_iload_n hx hb dX7_byTurns_0 rfl (lv_at hl 1 rfl) ?_
  obtain ⟨u1, e2, hf⟩ := bdS hf
  refine k_pS (As := [.int x1]) (rest := []) hC miX7_isFigure mjX7_isFigure wd3_82 (qX7_isFigure l x1 u1 e2) ⟨Nat.le_of_ble_eq_true rfl, Nat.le_of_ble_eq_true rfl⟩ hl.1 rfl rfl (Nat.le_of_ble_eq_true rfl) dX7_byTurns_1 ?_
  refine lv_if_eq (tgt := 18) hx hb dX7_byTurns_4 (by decide) (fun c3 => ?_) (fun c3 => ?_)
  · have hf := itP c3 hf
    refine lv_bipush (v := (-2 : Int32)) hx hb dX7_byTurns_18 rfl ?_
    exact W.iret hx hb hr (fun t ht9 _ => ⟨_, rfl, Option.some.inj hf, ht9⟩) (fun _ h9 => by cases h9) dX7_byTurns_20
  · have hf := itN c3 hf
    refine lv_iload_n hx hb dX7_byTurns_7 rfl (lv_at hl 2 rfl) ?_
    refine lv_iconst (v := (1 : Int32)) hx hb dX7_byTurns_8 rfl ?_
    refine lv_icmp_lt (tgt := 18) hx hb dX7_byTurns_9 (by decide) (fun c4 => ?_) (fun c4 => ?_)
    · have hf := itP c4 hf
      refine lv_bipush (v := (-2 : Int32)) hx hb dX7_byTurns_18 rfl ?_
      exact W.iret hx hb hr (fun t ht9 _ => ⟨_, rfl, Option.some.inj hf, ht9⟩) (fun _ h9 => by cases h9) dX7_byTurns_20
    · have hf := itN c4 hf
      refine lv_iload_n hx hb dX7_byTurns_12 rfl (lv_at hl 2 rfl) ?_
      refine lv_bipush (v := (6 : Int32)) hx hb dX7_byTurns_13 rfl ?_
      refine lv_icmp_le (tgt := 21) hx hb dX7_byTurns_15 (by decide) (fun c5 => ?_) (fun c5 => ?_)
      · have hf := itP c5 hf
        refine lv_iload_n hx hb dX7_byTurns_21 rfl (lv_at hl 1 rfl) ?_
        refine lv_iload_n hx hb dX7_byTurns_22 rfl (lv_at hl 2 rfl) ?_
        obtain ⟨u6, e7, hf⟩ := bdS hf
        refine k_pS (As := [.int x1, .int x2]) (rest := []) hC miX1_agreedByTurns mjX1_agreedByTurns wd3_111 (qX1_agreedByTurns l x1 x2 u6 e7) ⟨Nat.le_of_ble_eq_true rfl, Nat.le_of_ble_eq_true rfl⟩ hl.1 rfl rfl (Nat.le_of_ble_eq_true rfl) dX7_byTurns_23 ?_
        exact W.iret hx hb hr (fun t ht9 _ => ⟨_, rfl, Option.some.inj hf, ht9⟩) (fun _ h9 => by cases h9) dX7_byTurns_26
      · have hf := itN c5 hf
        refine lv_bipush (v := (-2 : Int32)) hx hb dX7_byTurns_18 rfl ?_
        exact W.iret hx hb hr (fun t ht9 _ => ⟨_, rfl, Option.some.inj hf, ht9⟩) (fun _ h9 => by cases h9) dX7_byTurns_20
abbrev wX7_see (cI cZ : ClassId) (jhe : Nat) (jae : Nat → Nat) (jhx : Nat) (jht : Nat) (jhw : Nat) (jhs : Nat) (jhd : Nat) (jhc : Nat) (jhr : Nat) (jhg : Nat) (jaw : Nat → Nat) (jag : Nat → Nat) (Se : Bk) (Sw : Bk) (Sg : Bk) : va_W := [(jhe, .inr (6, [.ref jhx, .ref jht, .ref jhw, .ref jhs, .ref jhd, .ref jhc, .ref jhr, .ref jhg, .ref (jae 8), .int (Se.1 0), .long Se.2.2])), (jhw, .inr (5, [.int (Sw.1 0), .ref (jaw 0), .ref (jaw 1), .ref (jaw 2), .int (Sw.1 1), .ref (jaw 3), .ref (jaw 4), .ref (jaw 5), .int (Sw.1 2), .int (Sw.1 3), .ref (jaw 6), .ref (jaw 7), .ref (jaw 8), .ref (jaw 9), .ref (jaw 10)])), (jhg, .inr (1, [.ref jhw, .ref (jag 1), .ref (jag 2), .int (Sg.1 0)])), (jag 1, .inl (cI, 6, .inl (Sg.2.1 1))), (jag 2, .inl (cZ, 6, .inl (Sg.2.1 2)))]
def fX7_see (Se : Bk) (Sw : Bk) (Sg : Bk) (x1 : Int32) (x2 : Int32) : Option (Int32 × Bk) := (if x1 < 0 then some ((-1 : Int32), Sg) else (if x1 < (Sw.1 3) then (fX2_add Sg x1 x2).bind (fun u3 => (if u3.1 = 0 then some ((-4 : Int32), u3.2) else some ((u3.2.1 0), u3.2))) else some ((-1 : Int32), Sg)))
theorem miX7_see : MI yX7_see cX7_see 3 (some .int) 2 := ⟨wd1_1, wd3_124, by decide +kernel⟩
theorem mjX7_see : Cond.instanceMethod yX7_see ∈ wT ∧ Cond.selects yX7_see.cls yX7_see yX7_see ∈ wT := ⟨wd3_122, wd3_123⟩
set_option maxHeartbeats 4000000 in
set_option maxRecDepth 100000 in
theorem qX7_see (l : Launch) (D : va_G) (cI cZ cO : ClassId) (jhe : Nat) (jae : Nat → Nat) (jhx : Nat) (jht : Nat) (jhw : Nat) (jhs : Nat) (jhd : Nat) (jhc : Nat) (jhr : Nat) (jhg : Nat) (jaw : Nat → Nat) (jag : Nat → Nat) (Se : Bk) (Sw : Bk) (Sg : Bk) (x1 : Int32) (x2 : Int32) (sz : Nat) (res : Int32 × Bk) (hf : fX7_see Se Sw Sg x1 x2 = some res) : Met l yX7_see (Cond.code yX7_see cX7_see 3 (some .int) :: wT) (rmF 1 22) (va_Pc [.ref jhe, .int x1, .int x2] (cW D (tyL cI cZ cO) (wX7_see cI cZ jhe jae jhx jht jhw jhs jhd jhc jhr jhg jaw jag Se Sw Sg) sz)) (va_Qi (S := Unit) (fun r _ => r = res.1) (fun _ => qW D (tyL cI cZ cO) (va_A (wX7_see cI cZ jhe jae jhx jht jhw jhs jhd jhc jhr jhg jaw jag Se Sw Sg) sz) (wX7_see cI cZ jhe jae jhx jht jhw jhs jhd jhc jhr jhg jaw jag Se Sw res.2)) (va_A (wX7_see cI cZ jhe jae jhx jht jhw jhs jhd jhc jhr jhg jaw jag Se Sw Sg) sz)) 0 0 (va_A (wX7_see cI cZ jhe jae jhx jht jhw jhs jhd jhc jhr jhg jaw jag Se Sw Sg) sz) := by
  refine met_w (by decide) (Nat.le_of_ble_eq_true rfl) ?_
  intro p e s m below meth c hx hb hr hml ht hown hlk ls hl hsz hP hK hD0 hZ
  subst hsz
  have hD := hD0.self (sz := s.heap.size)
  generalize hAe : va_A (wX7_see cI cZ jhe jae jhx jht jhw jhs jhd jhc jhr jhg jaw jag Se Sw Sg) s.heap.size = A at hD hZ ⊢
  have hA : ∀ q : Nat, s.heap.size ≤ q → A q := fun q h => by rw [← hAe]; exact Or.inr h
  have hS : va_S A s.heap s.heap [] := va_S.rf
  have hown : s.vm.findClass "EyeDrink" = some m.cls := hown
  have hl : lv_has ls 3 [(0, .ref jhe), (1, .int x1), (2, .int x2)] := hl
  have hC : CallFix p m c cX7_see 3 s ([.ref jhe, .int x1, .int x2] : List Value).toArray wT "EyeDrink" := ⟨hx, hb, hml, hown, ht⟩
  unfold fX7_see at hf
  suffices hgo : ∀ (H : Heap) (locs : List Loc), va_P D vwCl (wX7_see cI cZ jhe jae jhx jht jhw jhs jhd jhc jhr jhg jaw jag Se Sw Sg) H → va_S A s.heap H locs → W p l e (rmF 1 22) s m ([.ref jhe, .int x1, .int x2] : List Value).toArray below meth c H locs 0 0 (MQ below (va_Qi (S := Unit) (fun r _ => r = res.1) (fun _ => qW D (tyL cI cZ cO) A (wX7_see cI cZ jhe jae jhx jht jhw jhs jhd jhc jhr jhg jaw jag Se Sw res.2)) A) ([.ref jhe, .int x1, .int x2] : List Value).toArray s 0 0 A) (F0 m 0 ls []) from hgo s.heap [] hP hS
  intro H locs hP hS
  refine lv_iload_n hx hb dX7_see_0 rfl (lv_at hl 1 rfl) ?_
  refine lv_if_lt (tgt := 15) hx hb dX7_see_1 (by decide) (fun c1 => ?_) (fun c1 => ?_)
  · have hf := itP c1 hf
    refine lv_iconst (v := (-1 : Int32)) hx hb dX7_see_15 rfl ?_
    cases hf
    exact W.iret hx hb hr (fun t ht9 hW => ⟨⟨_, (), rfl, rfl, by rw [ht9]; exact hP, va_K.moved hW.alike hK, hD⟩, hS.F ht9⟩) hS.2.2 dX7_see_16
  · have hf := itN c1 hf
    refine lv_iload_n hx hb dX7_see_4 rfl (lv_at hl 1 rfl) ?_
    refine lv_aload_n hx hb dX7_see_5 rfl (lv_at hl 0 rfl) ?_
    refine va_get (D := D) (ci := 6) (v := .ref jhw) (C := RX7) (T := TX7) (N := 11) hx hb ht inX7 hown hK hP 0 rfl rfl 2 (by decide) (ht _ wd2_1) (fun _ h9 => h9) rfl dX7_see_6 ?_
    refine va_get (D := D) (ci := 5) (v := .int (Sw.1 3)) (C := RX6) (T := TX6) (N := 15) hx hb ht inX6 hown hK hP 1 rfl rfl 9 (by decide) (ht _ wd1_78) (fun _ h9 => h9) rfl dX7_see_9 ?_
    refine lv_icmp_lt (tgt := 17) hx hb dX7_see_12 (by decide) (fun c2 => ?_) (fun c2 => ?_)
    · have hf := itP c2 hf
      refine lv_aload_n hx hb dX7_see_17 rfl (lv_at hl 0 rfl) ?_
      refine va_get (D := D) (ci := 6) (v := .ref jhg) (C := RX7) (T := TX7) (N := 11) hx hb ht inX7 hown hK hP 0 rfl rfl 7 (by decide) (ht _ wd2_6) (fun _ h9 => h9) rfl dX7_see_18 ?_
      refine lv_iload_n hx hb dX7_see_21 rfl (lv_at hl 1 rfl) ?_
      refine lv_iload_n hx hb dX7_see_22 rfl (lv_at hl 2 rfl) ?_
      obtain ⟨u3, e4, hf⟩ := bdS hf
      refine k_wVi (ws' := (wX7_see cI cZ jhe jae jhx jht jhw jhs jhd jhc jhr jhg jaw jag Se Sw u3.2)) (wr := [(jhe, .inr (6, [.ref jhx, .ref jht, .ref jhw, .ref jhs, .ref jhd, .ref jhc, .ref jhr, .ref jhg, .ref (jae 8), .int (Se.1 0), .long Se.2.2])), (jhw, .inr (5, [.int (Sw.1 0), .ref (jaw 0), .ref (jaw 1), .ref (jaw 2), .int (Sw.1 1), .ref (jaw 3), .ref (jaw 4), .ref (jaw 5), .int (Sw.1 2), .int (Sw.1 3), .ref (jaw 6), .ref (jaw 7), .ref (jaw 8), .ref (jaw 9), .ref (jaw 10)]))]) (As := [.int x1, .int x2]) (rest := []) hC miX2_add mjX2_add.1 mjX2_add.2 wd3_125 (qX2_add l D cI cZ cO jhg jag jhw Sg x1 x2 H.size u3 e4) ⟨Nat.le_of_ble_eq_true rfl, Nat.le_of_ble_eq_true rfl⟩ hP hD hK hZ hS hA [2, 3, 4] [0, 1] [0, 1, 2, 3, 4] rfl (by decide) rfl (by decide) (by decide) (by decide) rfl (va_recv hK hP (ci := 1) (q0 := 2) rfl rfl) hl.1 rfl rfl (Nat.le_of_ble_eq_true rfl) dX7_see_23 (fun H locs hP hD hS => ?_)
      refine lv_if_eq (tgt := 39) hx hb dX7_see_26 (by decide) (fun c5 => ?_) (fun c5 => ?_)
      · have hf := itP c5 hf
        refine lv_bipush (v := (-4 : Int32)) hx hb dX7_see_39 rfl ?_
        cases hf
        exact W.iret hx hb hr (fun t ht9 hW => ⟨⟨_, (), rfl, rfl, by rw [ht9]; exact hP, va_K.moved hW.alike hK, hD⟩, hS.F ht9⟩) hS.2.2 dX7_see_41
      · have hf := itN c5 hf
        refine lv_aload_n hx hb dX7_see_29 rfl (lv_at hl 0 rfl) ?_
        refine va_get (D := D) (ci := 6) (v := .ref jhg) (C := RX7) (T := TX7) (N := 11) hx hb ht inX7 hown hK hP 0 rfl rfl 7 (by decide) (ht _ wd2_6) (fun _ h9 => h9) rfl dX7_see_30 ?_
        refine va_get (D := D) (ci := 1) (v := .int (u3.2.1 0)) (C := RX2) (T := TX2) (N := 4) hx hb ht inX2 hown hK hP 2 rfl rfl 3 (by decide) (ht _ wd1_228) (fun _ h9 => h9) rfl dX7_see_33 ?_
        refine lv_goto (tgt := 41) hx hb dX7_see_36 (by decide) ?_
        cases hf
        exact W.iret hx hb hr (fun t ht9 hW => ⟨⟨_, (), rfl, rfl, by rw [ht9]; exact hP, va_K.moved hW.alike hK, hD⟩, hS.F ht9⟩) hS.2.2 dX7_see_41
    · have hf := itN c2 hf
      refine lv_iconst (v := (-1 : Int32)) hx hb dX7_see_15 rfl ?_
      cases hf
      exact W.iret hx hb hr (fun t ht9 hW => ⟨⟨_, (), rfl, rfl, by rw [ht9]; exact hP, va_K.moved hW.alike hK, hD⟩, hS.F ht9⟩) hS.2.2 dX7_see_16
abbrev wX7_unsee (cI cZ : ClassId) (jhe : Nat) (jae : Nat → Nat) (jhx : Nat) (jht : Nat) (jhw : Nat) (jhs : Nat) (jhd : Nat) (jhc : Nat) (jhr : Nat) (jhg : Nat) (jag : Nat → Nat) (Se : Bk) (Sg : Bk) : va_W := [(jhe, .inr (6, [.ref jhx, .ref jht, .ref jhw, .ref jhs, .ref jhd, .ref jhc, .ref jhr, .ref jhg, .ref (jae 8), .int (Se.1 0), .long Se.2.2])), (jhg, .inr (1, [.ref jhw, .ref (jag 1), .ref (jag 2), .int (Sg.1 0)]))]
def fX7_unsee (Se : Bk) (Sg : Bk) : Option (Int32 × Bk) := some ((Sg.1 0), (bI Sg 0 (0 : Int32)))
theorem miX7_unsee : MI yX7_unsee cX7_unsee 2 (some .int) 0 := ⟨wd1_1, wd3_132, by decide +kernel⟩
theorem mjX7_unsee : Cond.instanceMethod yX7_unsee ∈ wT ∧ Cond.selects yX7_unsee.cls yX7_unsee yX7_unsee ∈ wT := ⟨wd3_130, wd3_131⟩
set_option maxHeartbeats 4000000 in
set_option maxRecDepth 100000 in
theorem qX7_unsee (l : Launch) (D : va_G) (cI cZ cO : ClassId) (jhe : Nat) (jae : Nat → Nat) (jhx : Nat) (jht : Nat) (jhw : Nat) (jhs : Nat) (jhd : Nat) (jhc : Nat) (jhr : Nat) (jhg : Nat) (jag : Nat → Nat) (Se : Bk) (Sg : Bk) (sz : Nat) (res : Int32 × Bk) (hf : fX7_unsee Se Sg = some res) : Met l yX7_unsee (Cond.code yX7_unsee cX7_unsee 2 (some .int) :: wT) (rmF 0 0) (va_Pc [.ref jhe] (cW D (tyL cI cZ cO) (wX7_unsee cI cZ jhe jae jhx jht jhw jhs jhd jhc jhr jhg jag Se Sg) sz)) (va_Qi (S := Unit) (fun r _ => r = res.1) (fun _ => qW D (tyL cI cZ cO) (va_A (wX7_unsee cI cZ jhe jae jhx jht jhw jhs jhd jhc jhr jhg jag Se Sg) sz) (wX7_unsee cI cZ jhe jae jhx jht jhw jhs jhd jhc jhr jhg jag Se res.2)) (va_A (wX7_unsee cI cZ jhe jae jhx jht jhw jhs jhd jhc jhr jhg jag Se Sg) sz)) 0 0 (va_A (wX7_unsee cI cZ jhe jae jhx jht jhw jhs jhd jhc jhr jhg jag Se Sg) sz) := by
  refine met_w (by decide) (Nat.le_of_ble_eq_true rfl) ?_
  intro p e s m below meth c hx hb hr hml ht hown hlk ls hl hsz hP hK hD0 hZ
  subst hsz
  have hD := hD0.self (sz := s.heap.size)
  generalize hAe : va_A (wX7_unsee cI cZ jhe jae jhx jht jhw jhs jhd jhc jhr jhg jag Se Sg) s.heap.size = A at hD hZ ⊢
  have hA : ∀ q : Nat, s.heap.size ≤ q → A q := fun q h => by rw [← hAe]; exact Or.inr h
  have hS : va_S A s.heap s.heap [] := va_S.rf
  have hown : s.vm.findClass "EyeDrink" = some m.cls := hown
  have hl : lv_has ls 2 [(0, .ref jhe)] := hl
  unfold fX7_unsee at hf
  suffices hgo : ∀ (H : Heap) (locs : List Loc), va_P D vwCl (wX7_unsee cI cZ jhe jae jhx jht jhw jhs jhd jhc jhr jhg jag Se Sg) H → va_S A s.heap H locs → W p l e (rmF 0 0) s m ([.ref jhe] : List Value).toArray below meth c H locs 0 0 (MQ below (va_Qi (S := Unit) (fun r _ => r = res.1) (fun _ => qW D (tyL cI cZ cO) A (wX7_unsee cI cZ jhe jae jhx jht jhw jhs jhd jhc jhr jhg jag Se res.2)) A) ([.ref jhe] : List Value).toArray s 0 0 A) (F0 m 0 ls []) from hgo s.heap [] hP hS
  intro H locs hP hS
  refine lv_aload_n hx hb dX7_unsee_0 rfl (lv_at hl 0 rfl) ?_
  refine va_get (D := D) (ci := 6) (v := .ref jhg) (C := RX7) (T := TX7) (N := 11) hx hb ht inX7 hown hK hP 0 rfl rfl 7 (by decide) (ht _ wd2_6) (fun _ h9 => h9) rfl dX7_unsee_1 ?_
  refine va_get (D := D) (ci := 1) (v := .int (Sg.1 0)) (C := RX2) (T := TX2) (N := 4) hx hb ht inX2 hown hK hP 1 rfl rfl 3 (by decide) (ht _ wd1_228) (fun _ h9 => h9) rfl dX7_unsee_4 ?_
  refine lv_istore_n (lv' := [(1, .int (Sg.1 0)), (0, .ref jhe)]) hx hb dX7_unsee_7 rfl hl (by decide) rfl (fun ls hl => ?_)
  refine lv_aload_n hx hb dX7_unsee_8 rfl (lv_at hl 1 rfl) ?_
  refine va_get (D := D) (ci := 6) (v := .ref jhg) (C := RX7) (T := TX7) (N := 11) hx hb ht inX7 hown hK hP 0 rfl rfl 7 (by decide) (ht _ wd2_6) (fun _ h9 => h9) rfl dX7_unsee_9 ?_
  refine lv_iconst (v := (0 : Int32)) hx hb dX7_unsee_12 rfl ?_
  refine va_put (D := D) (ci := 1) (v := .int (0 : Int32)) (ty := .int) (C := RX2) (T := TX2) (N := 4) hx hb ht inX2 tyX2 tyX2_ok nmX2 hown hK hP hD hS 1 rfl rfl 3 (by decide) (ht _ wd1_228) (fun _ h9 => h9) rfl (tyX2_ok 3 (by decide)) rfl rfl (Nat.le_of_ble_eq_true rfl) dX7_unsee_13 (fun H locs hP hD hS => ?_)
  have hP : va_P D vwCl (wX7_unsee cI cZ jhe jae jhx jht jhw jhs jhd jhc jhr jhg jag Se (bI Sg 0 (0 : Int32))) H := hP
  have hD : va_D A (wX7_unsee cI cZ jhe jae jhx jht jhw jhs jhd jhc jhr jhg jag Se (bI Sg 0 (0 : Int32))) := hD
  refine lv_iload_n hx hb dX7_unsee_16 rfl (lv_at hl 0 rfl) ?_
  cases hf
  exact W.iret hx hb hr (fun t ht9 hW => ⟨⟨_, (), rfl, rfl, by rw [ht9]; exact hP, va_K.moved hW.alike hK, hD⟩, hS.F ht9⟩) hS.2.2 dX7_unsee_17
abbrev wX7_knew (cI cZ : ClassId) (jhe : Nat) (jae : Nat → Nat) (jhx : Nat) (jht : Nat) (jhw : Nat) (jhs : Nat) (jhd : Nat) (jhc : Nat) (jhr : Nat) (jhg : Nat) (jaw : Nat → Nat) (jag : Nat → Nat) (Se : Bk) (Sw : Bk) (Sg : Bk) : va_W := [(jhe, .inr (6, [.ref jhx, .ref jht, .ref jhw, .ref jhs, .ref jhd, .ref jhc, .ref jhr, .ref jhg, .ref (jae 8), .int (Se.1 0), .long Se.2.2])), (jhw, .inr (5, [.int (Sw.1 0), .ref (jaw 0), .ref (jaw 1), .ref (jaw 2), .int (Sw.1 1), .ref (jaw 3), .ref (jaw 4), .ref (jaw 5), .int (Sw.1 2), .int (Sw.1 3), .ref (jaw 6), .ref (jaw 7), .ref (jaw 8), .ref (jaw 9), .ref (jaw 10)])), (jaw 6, .inl (cI, 4, .inl (Sw.2.1 6))), (jaw 7, .inl (cI, 4, .inl (Sw.2.1 7))), (jhg, .inr (1, [.ref jhw, .ref (jag 1), .ref (jag 2), .int (Sg.1 0)])), (jag 1, .inl (cI, 6, .inl (Sg.2.1 1))), (jag 2, .inl (cZ, 6, .inl (Sg.2.1 2)))]
def fX7_knew (Se : Bk) (Sw : Bk) (Sg : Bk) (x1 : Int32) : Option (Int32) := (if x1 = (0 : Int32) then (fX2_ways Sw Sg).bind (fun u2 => some u2) else (if x1 = (1 : Int32) then (fX2_leastWay Sw Sg).bind (fun u4 => some u4) else (if x1 = (2 : Int32) then (fX2_onesInAllWays Sw Sg).bind (fun u6 => some u6) else some (-2 : Int32))))
theorem miX7_knew : MI yX7_knew cX7_knew 2 (some .int) 1 := ⟨wd1_1, wd3_136, by decide +kernel⟩
theorem mjX7_knew : Cond.instanceMethod yX7_knew ∈ wT ∧ Cond.selects yX7_knew.cls yX7_knew yX7_knew ∈ wT := ⟨wd3_134, wd3_135⟩
set_option maxHeartbeats 4000000 in
set_option maxRecDepth 100000 in
theorem qX7_knew (l : Launch) (D : va_G) (cI cZ cO : ClassId) (jhe : Nat) (jae : Nat → Nat) (jhx : Nat) (jht : Nat) (jhw : Nat) (jhs : Nat) (jhd : Nat) (jhc : Nat) (jhr : Nat) (jhg : Nat) (jaw : Nat → Nat) (jag : Nat → Nat) (Se : Bk) (Sw : Bk) (Sg : Bk) (x1 : Int32) (res : Int32) (hf : fX7_knew Se Sw Sg x1 = some res) : Met l yX7_knew (Cond.code yX7_knew cX7_knew 2 (some .int) :: wT) (rmF 3 68) (va_Pc [.ref jhe, .int x1] (cR D (tyL cI cZ cO) (wX7_knew cI cZ jhe jae jhx jht jhw jhs jhd jhc jhr jhg jaw jag Se Sw Sg))) (vp_Si (fun r => r = res)) 0 0 (fun _ => False) := by
  refine met_r (by decide) (Nat.le_of_ble_eq_true rfl) ?_
  intro p e s m below meth c hx hb hr hml ht hown hlk ls hl hP hK hZ
  have hS : va_S (fun _ => False) s.heap s.heap [] := va_S.rf
  have hown : s.vm.findClass "EyeDrink" = some m.cls := hown
  have hl : lv_has ls 2 [(0, .ref jhe), (1, .int x1)] := hl
  have hC : CallFix p m c cX7_knew 2 s ([.ref jhe, .int x1] : List Value).toArray wT "EyeDrink" := ⟨hx, hb, hml, hown, ht⟩
  unfold fX7_knew at hf
  refine lv_iload_n hx hb dX7_knew_0 rfl (lv_at hl 1 rfl) ?_
  by_cases c1_0 : x1 = (0 : Int32)
  · have hf := itP c1_0 hf
    refine lv_tableIn (tgt := 28) hx hb dX7_knew_1 (by rw [c1_0]; decide) (by rw [c1_0]; decide) (by rw [c1_0]; rfl) (by decide) ?_
    refine lv_aload_n hx hb dX7_knew_28 rfl (lv_at hl 0 rfl) ?_
    refine va_get (D := D) (ci := 6) (v := .ref jhg) (C := RX7) (T := TX7) (N := 11) hx hb ht inX7 hown hK hP 0 rfl rfl 7 (by decide) (ht _ wd2_6) (fun _ h9 => h9) rfl dX7_knew_29 ?_
    obtain ⟨u2, e3, hf⟩ := bdS hf
    refine k_rV (As := []) (rest := []) hC miX2_ways mjX2_ways.1 mjX2_ways.2 wd3_137 (qX2_ways l D cI cZ cO jhw jaw jhg jag Sw Sg u2 e3) ⟨Nat.le_of_ble_eq_true rfl, Nat.le_of_ble_eq_true rfl⟩ (hP.sub [1, 2, 3, 4, 5, 6] rfl) hK hZ hS (va_recv hK hP (ci := 1) (q0 := 4) rfl rfl) hl.1 rfl rfl (Nat.le_of_ble_eq_true rfl) dX7_knew_32 ?_
    exact W.iret hx hb hr (fun t ht9 _ => ⟨_, rfl, Option.some.inj hf, ht9⟩) (fun _ h9 => by cases h9) dX7_knew_35
  · have hf := itN c1_0 hf
    by_cases c1_1 : x1 = (1 : Int32)
    · have hf := itP c1_1 hf
      refine lv_tableIn (tgt := 36) hx hb dX7_knew_1 (by rw [c1_1]; decide) (by rw [c1_1]; decide) (by rw [c1_1]; rfl) (by decide) ?_
      refine lv_aload_n hx hb dX7_knew_36 rfl (lv_at hl 0 rfl) ?_
      refine va_get (D := D) (ci := 6) (v := .ref jhg) (C := RX7) (T := TX7) (N := 11) hx hb ht inX7 hown hK hP 0 rfl rfl 7 (by decide) (ht _ wd2_6) (fun _ h9 => h9) rfl dX7_knew_37 ?_
      obtain ⟨u4, e5, hf⟩ := bdS hf
      refine k_rV (As := []) (rest := []) hC miX2_leastWay mjX2_leastWay.1 mjX2_leastWay.2 wd3_145 (qX2_leastWay l D cI cZ cO jhw jaw jhg jag Sw Sg u4 e5) ⟨Nat.le_of_ble_eq_true rfl, Nat.le_of_ble_eq_true rfl⟩ (hP.sub [1, 2, 3, 4, 5, 6] rfl) hK hZ hS (va_recv hK hP (ci := 1) (q0 := 4) rfl rfl) hl.1 rfl rfl (Nat.le_of_ble_eq_true rfl) dX7_knew_40 ?_
      exact W.iret hx hb hr (fun t ht9 _ => ⟨_, rfl, Option.some.inj hf, ht9⟩) (fun _ h9 => by cases h9) dX7_knew_43
    · have hf := itN c1_1 hf
      by_cases c1_2 : x1 = (2 : Int32)
      · have hf := itP c1_2 hf
        refine lv_tableIn (tgt := 44) hx hb dX7_knew_1 (by rw [c1_2]; decide) (by rw [c1_2]; decide) (by rw [c1_2]; rfl) (by decide) ?_
        refine lv_aload_n hx hb dX7_knew_44 rfl (lv_at hl 0 rfl) ?_
        refine va_get (D := D) (ci := 6) (v := .ref jhg) (C := RX7) (T := TX7) (N := 11) hx hb ht inX7 hown hK hP 0 rfl rfl 7 (by decide) (ht _ wd2_6) (fun _ h9 => h9) rfl dX7_knew_45 ?_
        obtain ⟨u6, e7, hf⟩ := bdS hf
        refine k_rV (As := []) (rest := []) hC miX2_onesInAllWays mjX2_onesInAllWays.1 mjX2_onesInAllWays.2 wd3_149 (qX2_onesInAllWays l D cI cZ cO jhw jaw jhg jag Sw Sg u6 e7) ⟨Nat.le_of_ble_eq_true rfl, Nat.le_of_ble_eq_true rfl⟩ (hP.sub [1, 2, 3, 4, 5, 6] rfl) hK hZ hS (va_recv hK hP (ci := 1) (q0 := 4) rfl rfl) hl.1 rfl rfl (Nat.le_of_ble_eq_true rfl) dX7_knew_48 ?_
        exact W.iret hx hb hr (fun t ht9 _ => ⟨_, rfl, Option.some.inj hf, ht9⟩) (fun _ h9 => by cases h9) dX7_knew_51
      · have hf := itN c1_2 hf
        have n0 := lv_neT (a := 0) c1_0 (by decide)
        have n1 := lv_neT (a := 1) c1_1 (by decide)
        have n2 := lv_neT (a := 2) c1_2 (by decide)
        refine lv_tableOut (tgt := 52) hx hb dX7_knew_1 (by omega) (by decide) ?_
        refine lv_bipush (v := (-2 : Int32)) hx hb dX7_knew_52 rfl ?_
        exact W.iret hx hb hr (fun t ht9 _ => ⟨_, rfl, Option.some.inj hf, ht9⟩) (fun _ h9 => by cases h9) dX7_knew_54
abbrev wX7_seed (cI cZ : ClassId) (jhe : Nat) (jae : Nat → Nat) (jhx : Nat) (jht : Nat) (jhw : Nat) (jhs : Nat) (jhd : Nat) (jhc : Nat) (jhr : Nat) (jhg : Nat) (Se : Bk) : va_W := [(jhe, .inr (6, [.ref jhx, .ref jht, .ref jhw, .ref jhs, .ref jhd, .ref jhc, .ref jhr, .ref jhg, .ref (jae 8), .int (Se.1 0), .long Se.2.2]))]
def fX7_seed (Se : Bk) (x1 : Int64) : Option (Int64 × Bk) := some (Se.2.2, (bJ Se x1))
theorem miX7_seed : MI yX7_seed cX7_seed 5 (some .long) 1 := ⟨wd1_1, wd3_157, by decide +kernel⟩
theorem mjX7_seed : Cond.instanceMethod yX7_seed ∈ wT ∧ Cond.selects yX7_seed.cls yX7_seed yX7_seed ∈ wT := ⟨wd3_155, wd3_156⟩
set_option maxHeartbeats 4000000 in
set_option maxRecDepth 100000 in
theorem qX7_seed (l : Launch) (D : va_G) (cI cZ cO : ClassId) (jhe : Nat) (jae : Nat → Nat) (jhx : Nat) (jht : Nat) (jhw : Nat) (jhs : Nat) (jhd : Nat) (jhc : Nat) (jhr : Nat) (jhg : Nat) (Se : Bk) (x1 : Int64) (sz : Nat) (res : Int64 × Bk) (hf : fX7_seed Se x1 = some res) : Met l yX7_seed (Cond.code yX7_seed cX7_seed 5 (some .long) :: wT) (rmF 0 0) (va_Pc [.ref jhe, .long x1] (cW D (tyL cI cZ cO) (wX7_seed cI cZ jhe jae jhx jht jhw jhs jhd jhc jhr jhg Se) sz)) (va_Ql (S := Unit) (fun r _ => r = res.1) (fun _ => qW D (tyL cI cZ cO) (va_A (wX7_seed cI cZ jhe jae jhx jht jhw jhs jhd jhc jhr jhg Se) sz) (wX7_seed cI cZ jhe jae jhx jht jhw jhs jhd jhc jhr jhg res.2)) (va_A (wX7_seed cI cZ jhe jae jhx jht jhw jhs jhd jhc jhr jhg Se) sz)) 0 0 (va_A (wX7_seed cI cZ jhe jae jhx jht jhw jhs jhd jhc jhr jhg Se) sz) := by
  refine met_w (by decide) (Nat.le_of_ble_eq_true rfl) ?_
  intro p e s m below meth c hx hb hr hml ht hown hlk ls hl hsz hP hK hD0 hZ
  subst hsz
  have hD := hD0.self (sz := s.heap.size)
  generalize hAe : va_A (wX7_seed cI cZ jhe jae jhx jht jhw jhs jhd jhc jhr jhg Se) s.heap.size = A at hD hZ ⊢
  have hA : ∀ q : Nat, s.heap.size ≤ q → A q := fun q h => by rw [← hAe]; exact Or.inr h
  have hS : va_S A s.heap s.heap [] := va_S.rf
  have hown : s.vm.findClass "EyeDrink" = some m.cls := hown
  have hl : lv_has ls 5 [(0, .ref jhe), (1, .long x1)] := hl
  unfold fX7_seed at hf
  suffices hgo : ∀ (H : Heap) (locs : List Loc), va_P D vwCl (wX7_seed cI cZ jhe jae jhx jht jhw jhs jhd jhc jhr jhg Se) H → va_S A s.heap H locs → W p l e (rmF 0 0) s m ([.ref jhe, .long x1] : List Value).toArray below meth c H locs 0 0 (MQ below (va_Ql (S := Unit) (fun r _ => r = res.1) (fun _ => qW D (tyL cI cZ cO) A (wX7_seed cI cZ jhe jae jhx jht jhw jhs jhd jhc jhr jhg res.2)) A) ([.ref jhe, .long x1] : List Value).toArray s 0 0 A) (F0 m 0 ls []) from hgo s.heap [] hP hS
  intro H locs hP hS
  refine lv_aload_n hx hb dX7_seed_0 rfl (lv_at hl 0 rfl) ?_
  refine va_get (D := D) (ci := 6) (v := .long Se.2.2) (C := RX7) (T := TX7) (N := 11) hx hb ht inX7 hown hK hP 0 rfl rfl 10 (by decide) (ht _ wd2_9) (fun _ h9 => h9) rfl dX7_seed_1 ?_
  refine lv_lstore_n (lv' := [(3, .long Se.2.2), (0, .ref jhe), (1, .long x1)]) hx hb dX7_seed_4 rfl hl (by decide) rfl (fun ls hl => ?_)
  refine lv_aload_n hx hb dX7_seed_5 rfl (lv_at hl 1 rfl) ?_
  refine lv_lload_n hx hb dX7_seed_6 rfl (lv_at hl 2 rfl) ?_
  refine va_put (D := D) (ci := 6) (v := .long x1) (ty := .long) (C := RX7) (T := TX7) (N := 11) hx hb ht inX7 tyX7 tyX7_ok nmX7 hown hK hP hD hS 0 rfl rfl 10 (by decide) (ht _ wd2_9) (fun _ h9 => h9) rfl (tyX7_ok 10 (by decide)) rfl rfl (Nat.le_of_ble_eq_true rfl) dX7_seed_7 (fun H locs hP hD hS => ?_)
  have hP : va_P D vwCl (wX7_seed cI cZ jhe jae jhx jht jhw jhs jhd jhc jhr jhg (bJ Se x1)) H := hP
  have hD : va_D A (wX7_seed cI cZ jhe jae jhx jht jhw jhs jhd jhc jhr jhg (bJ Se x1)) := hD
  refine lv_lload_n hx hb dX7_seed_10 rfl (lv_at hl 0 rfl) ?_
  cases hf
  exact W.lret hx hb hr (fun t ht9 hW => ⟨⟨_, (), rfl, rfl, by rw [ht9]; exact hP, va_K.moved hW.alike hK, hD⟩, hS.F ht9⟩) hS.2.2 dX7_seed_11
abbrev wX7_drinkers (cI cZ : ClassId) (jhe : Nat) (jae : Nat → Nat) (jhx : Nat) (jht : Nat) (jhw : Nat) (jhs : Nat) (jhd : Nat) (jhc : Nat) (jhr : Nat) (jhg : Nat) (jaw : Nat → Nat) (jas : Nat → Nat) (jad : Nat → Nat) (Se : Bk) (Sw : Bk) (Ss : Bk) (Sd : Bk) : va_W := [(jhe, .inr (6, [.ref jhx, .ref jht, .ref jhw, .ref jhs, .ref jhd, .ref jhc, .ref jhr, .ref jhg, .ref (jae 8), .int (Se.1 0), .long Se.2.2])), (jhw, .inr (5, [.int (Sw.1 0), .ref (jaw 0), .ref (jaw 1), .ref (jaw 2), .int (Sw.1 1), .ref (jaw 3), .ref (jaw 4), .ref (jaw 5), .int (Sw.1 2), .int (Sw.1 3), .ref (jaw 6), .ref (jaw 7), .ref (jaw 8), .ref (jaw 9), .ref (jaw 10)])), (jaw 0, .inl (cI, 4, .inl (Sw.2.1 0))), (jaw 1, .inl (cI, 4, .inl (Sw.2.1 1))), (jaw 2, .inl (cI, 4, .inl (Sw.2.1 2))), (jaw 3, .inl (cI, 4, .inl (Sw.2.1 3))), (jaw 4, .inl (cI, 4, .inl (Sw.2.1 4))), (jaw 6, .inl (cI, 4, .inl (Sw.2.1 6))), (jaw 7, .inl (cI, 4, .inl (Sw.2.1 7))), (jaw 8, .inl (cI, 4, .inl (Sw.2.1 8))), (jaw 9, .inl (cI, 4, .inl (Sw.2.1 9))), (jaw 10, .inl (cI, 4, .inl (Sw.2.1 10))), (jhs, .inr (2, [.ref jhw, .ref (jas 1), .ref (jas 2), .ref (jas 3), .int (Ss.1 0), .int (Ss.1 1), .int (Ss.1 2), .int (Ss.1 3)])), (jas 1, .inl (cI, 4, .inl (Ss.2.1 1))), (jas 2, .inl (cI, 4, .inl (Ss.2.1 2))), (jas 3, .inl (cI, 4, .inl (Ss.2.1 3))), (jhd, .inr (2, [.ref jhw, .ref (jad 1), .ref (jad 2), .ref (jad 3), .int (Sd.1 0), .int (Sd.1 1), .int (Sd.1 2), .int (Sd.1 3)])), (jad 1, .inl (cI, 4, .inl (Sd.2.1 1))), (jad 2, .inl (cI, 4, .inl (Sd.2.1 2))), (jad 3, .inl (cI, 4, .inl (Sd.2.1 3)))]
def sX7_drinkers_27 (Sw : Bk) (Ss : Bk) (x1 : Int32) (k27 : Int32 → Bk → Bk → Option (Int32 × Bk × Bk)) (x2 : Int32) (Se : Bk) (Sd : Bk) : Option (Int32 × Bk × Bk) := (if x1 ≤ x2 then (fX3_estate Sw Sd).bind (fun u2 => some (u2, Se, Sd)) else nmV ((Se.2.2 * (6364136223846793005 : Int64)) + (1442695040888963407 : Int64)) (fun v4 => (fX3_tryChoice Sw Sd (((v4.toUInt64 >>> ((33 : Int32).toInt64.toUInt64 &&& Int64.toUInt64 63)).toInt64).toInt32 &&& (7 : Int32))).bind (fun u5 => (fX3_passDay Sw (bA (bA (bO Sd u5) 1 (u5.2.1 1)) 2 (u5.2.1 2))).bind (fun u7 => k27 (x2 + (1 : Int32)) (bJ Se v4) u7.2))))
def fX7_drinkers (Se : Bk) (Sw : Bk) (Ss : Bk) (Sd : Bk) (x1 : Int32) : Option (Int32 × Bk × Bk) := (if x1 < (1 : Int32) then some ((-2 : Int32), Se, Sd) else (if x1 ≤ (30 : Int32) then (fX3_copyFrom Sd Ss).bind (fun u11 => lk3 (sX7_drinkers_27 Sw Ss x1) 1000 (0 : Int32) Se u11) else some ((-2 : Int32), Se, Sd)))
theorem miX7_drinkers : MI yX7_drinkers cX7_drinkers 3 (some .int) 1 := ⟨wd1_1, wd3_161, by decide +kernel⟩
theorem mjX7_drinkers : Cond.instanceMethod yX7_drinkers ∈ wT ∧ Cond.selects yX7_drinkers.cls yX7_drinkers yX7_drinkers ∈ wT := ⟨wd3_159, wd3_160⟩
set_option maxHeartbeats 4000000 in
set_option maxRecDepth 100000 in
theorem qX7_drinkers (l : Launch) (D : va_G) (cI cZ cO : ClassId) (jhe : Nat) (jae : Nat → Nat) (jhx : Nat) (jht : Nat) (jhw : Nat) (jhs : Nat) (jhd : Nat) (jhc : Nat) (jhr : Nat) (jhg : Nat) (jaw : Nat → Nat) (jas : Nat → Nat) (jad : Nat → Nat) (Se : Bk) (Sw : Bk) (Ss : Bk) (Sd : Bk) (x1 : Int32) (sz : Nat) (res : Int32 × Bk × Bk) (hf : fX7_drinkers Se Sw Ss Sd x1 = some res) : Met l yX7_drinkers (Cond.code yX7_drinkers cX7_drinkers 3 (some .int) :: wT) (rmF 3 65) (va_Pc [.ref jhe, .int x1] (cW D (tyL cI cZ cO) (wX7_drinkers cI cZ jhe jae jhx jht jhw jhs jhd jhc jhr jhg jaw jas jad Se Sw Ss Sd) sz)) (va_Qi (S := Unit) (fun r _ => r = res.1) (fun _ => qW D (tyL cI cZ cO) (va_A (wX7_drinkers cI cZ jhe jae jhx jht jhw jhs jhd jhc jhr jhg jaw jas jad Se Sw Ss Sd) sz) (wX7_drinkers cI cZ jhe jae jhx jht jhw jhs jhd jhc jhr jhg jaw jas jad res.2.1 Sw Ss res.2.2)) (va_A (wX7_drinkers cI cZ jhe jae jhx jht jhw jhs jhd jhc jhr jhg jaw jas jad Se Sw Ss Sd) sz)) 0 0 (va_A (wX7_drinkers cI cZ jhe jae jhx jht jhw jhs jhd jhc jhr jhg jaw jas jad Se Sw Ss Sd) sz) := by
  refine met_w (by decide) (Nat.le_of_ble_eq_true rfl) ?_
  intro p e s m below meth c hx hb hr hml ht hown hlk ls hl hsz hP hK hD0 hZ
  subst hsz
  have hD := hD0.self (sz := s.heap.size)
  generalize hAe : va_A (wX7_drinkers cI cZ jhe jae jhx jht jhw jhs jhd jhc jhr jhg jaw jas jad Se Sw Ss Sd) s.heap.size = A at hD hZ ⊢
  have hA : ∀ q : Nat, s.heap.size ≤ q → A q := fun q h => by rw [← hAe]; exact Or.inr h
  have hS : va_S A s.heap s.heap [] := va_S.rf
  have hown : s.vm.findClass "EyeDrink" = some m.cls := hown
  have hl : lv_has ls 3 [(0, .ref jhe), (1, .int x1)] := hl
  have hC : CallFix p m c cX7_drinkers 3 s ([.ref jhe, .int x1] : List Value).toArray wT "EyeDrink" := ⟨hx, hb, hml, hown, ht⟩
  unfold fX7_drinkers at hf
  suffices hgo : ∀ (H : Heap) (locs : List Loc), va_P D vwCl (wX7_drinkers cI cZ jhe jae jhx jht jhw jhs jhd jhc jhr jhg jaw jas jad Se Sw Ss Sd) H → va_S A s.heap H locs → W p l e (rmF 3 65) s m ([.ref jhe, .int x1] : List Value).toArray below meth c H locs 0 0 (MQ below (va_Qi (S := Unit) (fun r _ => r = res.1) (fun _ => qW D (tyL cI cZ cO) A (wX7_drinkers cI cZ jhe jae jhx jht jhw jhs jhd jhc jhr jhg jaw jas jad res.2.1 Sw Ss res.2.2)) A) ([.ref jhe, .int x1] : List Value).toArray s 0 0 A) (F0 m 0 ls []) from hgo s.heap [] hP hS
  have hj27 : ∀ (x2 : Int32) (Se : Bk) (Sd : Bk), lk3 (sX7_drinkers_27 Sw Ss x1) 1000 x2 Se Sd = some res → ∀ (H : Heap) (locs : List Loc) (ls : Array Slot), va_P D vwCl (wX7_drinkers cI cZ jhe jae jhx jht jhw jhs jhd jhc jhr jhg jaw jas jad Se Sw Ss Sd) H → va_D A (wX7_drinkers cI cZ jhe jae jhx jht jhw jhs jhd jhc jhr jhg jaw jas jad Se Sw Ss Sd) → va_S A s.heap H locs → lv_has ls 3 [(0, .ref jhe), (1, .int x1), (2, .int x2)] → W p l e (rmF 3 65) s m ([.ref jhe, .int x1] : List Value).toArray below meth c H locs 0 0 (MQ below (va_Qi (S := Unit) (fun r _ => r = res.1) (fun _ => qW D (tyL cI cZ cO) A (wX7_drinkers cI cZ jhe jae jhx jht jhw jhs jhd jhc jhr jhg jaw jas jad res.2.1 Sw Ss res.2.2)) A) ([.ref jhe, .int x1] : List Value).toArray s 0 0 A) (F0 m 27 ls []) := by
    refine lk3_w (fun (x2 : Int32) (Se : Bk) (Sd : Bk) => ∀ (H : Heap) (locs : List Loc) (ls : Array Slot), va_P D vwCl (wX7_drinkers cI cZ jhe jae jhx jht jhw jhs jhd jhc jhr jhg jaw jas jad Se Sw Ss Sd) H → va_D A (wX7_drinkers cI cZ jhe jae jhx jht jhw jhs jhd jhc jhr jhg jaw jas jad Se Sw Ss Sd) → va_S A s.heap H locs → lv_has ls 3 [(0, .ref jhe), (1, .int x1), (2, .int x2)] → W p l e (rmF 3 65) s m ([.ref jhe, .int x1] : List Value).toArray below meth c H locs 0 0 (MQ below (va_Qi (S := Unit) (fun r _ => r = res.1) (fun _ => qW D (tyL cI cZ cO) A (wX7_drinkers cI cZ jhe jae jhx jht jhw jhs jhd jhc jhr jhg jaw jas jad res.2.1 Sw Ss res.2.2)) A) ([.ref jhe, .int x1] : List Value).toArray s 0 0 A) (F0 m 27 ls [])) ?_ 1000
    intro k27 hk27 x2 Se Sd hf H locs ls hP hD hS hl
    unfold sX7_drinkers_27 at hf
    refine lv_iload_n hx hb dX7_drinkers_27 rfl (lv_at hl 2 rfl) ?_
    refine lv_iload_n hx hb dX7_drinkers_28 rfl (lv_at hl 1 rfl) ?_
    refine lv_icmp_ge (tgt := 80) hx hb dX7_drinkers_29 (by decide) (fun c1 => ?_) (fun c1 => ?_)
    · have hf := itP c1 hf
      refine lv_aload_n hx hb dX7_drinkers_80 rfl (lv_at hl 0 rfl) ?_
      refine va_get (D := D) (ci := 6) (v := .ref jhd) (C := RX7) (T := TX7) (N := 11) hx hb ht inX7 hown hK hP 0 rfl rfl 4 (by decide) (ht _ wd2_3) (fun _ h9 => h9) rfl dX7_drinkers_81 ?_
      obtain ⟨u2, e3, hf⟩ := bdS hf
      refine k_rV (As := []) (rest := []) hC miX3_estate mjX3_estate.1 mjX3_estate.2 wd2_107 (qX3_estate l D cI cZ cO jhw jaw jhd jad Sw Sd u2 e3) ⟨Nat.le_of_ble_eq_true rfl, Nat.le_of_ble_eq_true rfl⟩ (hP.sub [1, 2, 3, 4, 16, 17] rfl) hK hZ hS (va_recv hK hP (ci := 2) (q0 := 16) rfl rfl) hl.1 rfl rfl (Nat.le_of_ble_eq_true rfl) dX7_drinkers_84 ?_
      cases hf
      exact W.iret hx hb hr (fun t ht9 hW => ⟨⟨_, (), rfl, rfl, by rw [ht9]; exact hP, va_K.moved hW.alike hK, hD⟩, hS.F ht9⟩) hS.2.2 dX7_drinkers_87
    · have hf := itN c1 hf
      refine lv_aload_n hx hb dX7_drinkers_32 rfl (lv_at hl 0 rfl) ?_
      refine lv_aload_n hx hb dX7_drinkers_33 rfl (lv_at hl 0 rfl) ?_
      refine va_get (D := D) (ci := 6) (v := .long Se.2.2) (C := RX7) (T := TX7) (N := 11) hx hb ht inX7 hown hK hP 0 rfl rfl 10 (by decide) (ht _ wd2_9) (fun _ h9 => h9) rfl dX7_drinkers_34 ?_
      refine lv_ldc2 hx hb hown (ht _ wd3_163) dX7_drinkers_37 ?_
      refine lv_lmul hx hb dX7_drinkers_40 ?_
      refine lv_ldc2 hx hb hown (ht _ wd3_164) dX7_drinkers_41 ?_
      refine lv_ladd hx hb dX7_drinkers_44 ?_
      obtain ⟨v4, ev4, hf⟩ := nmV_s hf
      rw [← ev4]
      refine va_put (D := D) (ci := 6) (v := .long v4) (ty := .long) (C := RX7) (T := TX7) (N := 11) hx hb ht inX7 tyX7 tyX7_ok nmX7 hown hK hP hD hS 0 rfl rfl 10 (by decide) (ht _ wd2_9) (fun _ h9 => h9) rfl (tyX7_ok 10 (by decide)) rfl rfl (Nat.le_of_ble_eq_true rfl) dX7_drinkers_45 (fun H locs hP hD hS => ?_)
      have hP : va_P D vwCl (wX7_drinkers cI cZ jhe jae jhx jht jhw jhs jhd jhc jhr jhg jaw jas jad (bJ Se v4) Sw Ss Sd) H := hP
      have hD : va_D A (wX7_drinkers cI cZ jhe jae jhx jht jhw jhs jhd jhc jhr jhg jaw jas jad (bJ Se v4) Sw Ss Sd) := hD
      refine lv_aload_n hx hb dX7_drinkers_48 rfl (lv_at hl 0 rfl) ?_
      refine va_get (D := D) (ci := 6) (v := .ref jhd) (C := RX7) (T := TX7) (N := 11) hx hb ht inX7 hown hK hP 0 rfl rfl 4 (by decide) (ht _ wd2_3) (fun _ h9 => h9) rfl dX7_drinkers_49 ?_
      refine lv_aload_n hx hb dX7_drinkers_52 rfl (lv_at hl 0 rfl) ?_
      refine va_get (D := D) (ci := 6) (v := .long v4) (C := RX7) (T := TX7) (N := 11) hx hb ht inX7 hown hK hP 0 rfl rfl 10 (by decide) (ht _ wd2_9) (fun _ h9 => h9) rfl dX7_drinkers_53 ?_
      refine lv_bipush (v := (33 : Int32)) hx hb dX7_drinkers_56 rfl ?_
      refine lv_lushr hx hb dX7_drinkers_58 rfl ?_
      refine lv_l2i hx hb dX7_drinkers_59 rfl ?_
      refine lv_bipush (v := (7 : Int32)) hx hb dX7_drinkers_60 rfl ?_
      refine lv_iand hx hb dX7_drinkers_62 ?_
      obtain ⟨u5, e6, hf⟩ := bdS hf
      refine k_wVv (ws' := (wX7_drinkers cI cZ jhe jae jhx jht jhw jhs jhd jhc jhr jhg jaw jas jad (bJ Se v4) Sw Ss (bA (bA (bO Sd u5) 1 (u5.2.1 1)) 2 (u5.2.1 2)))) (wr := [(jhe, .inr (6, [.ref jhx, .ref jht, .ref jhw, .ref jhs, .ref jhd, .ref jhc, .ref jhr, .ref jhg, .ref (jae 8), .int ((bJ Se v4).1 0), .long (bJ Se v4).2.2])), (jaw 0, .inl (cI, 4, .inl (Sw.2.1 0))), (jaw 1, .inl (cI, 4, .inl (Sw.2.1 1))), (jhs, .inr (2, [.ref jhw, .ref (jas 1), .ref (jas 2), .ref (jas 3), .int (Ss.1 0), .int (Ss.1 1), .int (Ss.1 2), .int (Ss.1 3)])), (jas 1, .inl (cI, 4, .inl (Ss.2.1 1))), (jas 2, .inl (cI, 4, .inl (Ss.2.1 2))), (jas 3, .inl (cI, 4, .inl (Ss.2.1 3))), (jad 3, .inl (cI, 4, .inl ((bA (bA (bO Sd u5) 1 (u5.2.1 1)) 2 (u5.2.1 2)).2.1 3)))]) (As := [.int (((v4.toUInt64 >>> ((33 : Int32).toInt64.toUInt64 &&& Int64.toUInt64 63)).toInt64).toInt32 &&& (7 : Int32))]) (rest := []) hC miX3_tryChoice mjX3_tryChoice.1 mjX3_tryChoice.2 wd3_165 (qX3_tryChoice l D cI cZ cO jhw jaw jhd jad Sw Sd (((v4.toUInt64 >>> ((33 : Int32).toInt64.toUInt64 &&& Int64.toUInt64 63)).toInt64).toInt32 &&& (7 : Int32)) H.size u5 e6) ⟨Nat.le_of_ble_eq_true rfl, Nat.le_of_ble_eq_true rfl⟩ hP hD hK hZ hS hA [1, 4, 5, 6, 7, 8, 9, 10, 11, 16, 17, 18] [0, 2, 3, 12, 13, 14, 15, 19] [0, 8, 1, 2, 9, 10, 11, 12, 13, 14, 15, 16, 3, 4, 5, 6, 17, 18, 19, 7] rfl (by decide) rfl (by decide) (by decide) (by decide) rfl (va_recv hK hP (ci := 2) (q0 := 16) rfl rfl) hl.1 rfl rfl (Nat.le_of_ble_eq_true rfl) dX7_drinkers_63 (fun H locs hP hD hS => ?_)
      refine lv_aload_n hx hb dX7_drinkers_66 rfl (lv_at hl 0 rfl) ?_
      refine va_get (D := D) (ci := 6) (v := .ref jhd) (C := RX7) (T := TX7) (N := 11) hx hb ht inX7 hown hK hP 0 rfl rfl 4 (by decide) (ht _ wd2_3) (fun _ h9 => h9) rfl dX7_drinkers_67 ?_
      obtain ⟨u7, e8, hf⟩ := bdS hf
      refine k_wVi (ws' := (wX7_drinkers cI cZ jhe jae jhx jht jhw jhs jhd jhc jhr jhg jaw jas jad (bJ Se v4) Sw Ss u7.2)) (wr := [(jhe, .inr (6, [.ref jhx, .ref jht, .ref jhw, .ref jhs, .ref jhd, .ref jhc, .ref jhr, .ref jhg, .ref (jae 8), .int ((bJ Se v4).1 0), .long (bJ Se v4).2.2])), (jaw 0, .inl (cI, 4, .inl (Sw.2.1 0))), (jaw 1, .inl (cI, 4, .inl (Sw.2.1 1))), (jaw 3, .inl (cI, 4, .inl (Sw.2.1 3))), (jaw 4, .inl (cI, 4, .inl (Sw.2.1 4))), (jaw 6, .inl (cI, 4, .inl (Sw.2.1 6))), (jaw 7, .inl (cI, 4, .inl (Sw.2.1 7))), (jaw 8, .inl (cI, 4, .inl (Sw.2.1 8))), (jaw 9, .inl (cI, 4, .inl (Sw.2.1 9))), (jaw 10, .inl (cI, 4, .inl (Sw.2.1 10))), (jhs, .inr (2, [.ref jhw, .ref (jas 1), .ref (jas 2), .ref (jas 3), .int (Ss.1 0), .int (Ss.1 1), .int (Ss.1 2), .int (Ss.1 3)])), (jas 1, .inl (cI, 4, .inl (Ss.2.1 1))), (jas 2, .inl (cI, 4, .inl (Ss.2.1 2))), (jas 3, .inl (cI, 4, .inl (Ss.2.1 3)))]) (As := []) (rest := []) hC miX3_passDay mjX3_passDay.1 mjX3_passDay.2 wd2_198 (qX3_passDay l D cI cZ cO jhw jaw jhd jad Sw (bA (bA (bO Sd u5) 1 (u5.2.1 1)) 2 (u5.2.1 2)) H.size u7 e8) ⟨Nat.le_of_ble_eq_true rfl, Nat.le_of_ble_eq_true rfl⟩ hP hD hK hZ hS hA [1, 4, 16, 17, 18, 19] [0, 2, 3, 5, 6, 7, 8, 9, 10, 11, 12, 13, 14, 15] [0, 14, 1, 2, 15, 3, 4, 5, 6, 7, 8, 9, 10, 11, 12, 13, 16, 17, 18, 19] rfl (by decide) rfl (by decide) (by decide) (by decide) rfl (va_recv hK hP (ci := 2) (q0 := 16) rfl rfl) hl.1 rfl rfl (Nat.le_of_ble_eq_true rfl) dX7_drinkers_70 (fun H locs hP hD hS => ?_)
      refine lv_pop hx hb dX7_drinkers_73 rfl ?_
      refine lv_iinc (v := (x2 + (1 : Int32))) (lv' := [(2, .int (x2 + (1 : Int32))), (0, .ref jhe), (1, .int x1)]) hx hb dX7_drinkers_74 hl (k := 2) rfl rfl (by decide) rfl (fun ls hl => ?_)
      refine lv_goto (tgt := 27) hx hb dX7_drinkers_77 (by decide) ?_
      exact hk27 (x2 + (1 : Int32)) (bJ Se v4) u7.2 hf _ _ _ hP hD hS (lv_sub hl [1, 2, 0] rfl)
  intro H locs hP hS
  refine lv_iload_n hx hb dX7_drinkers_0 rfl (lv_at hl 1 rfl) ?_
  refine lv_iconst (v := (1 : Int32)) hx hb dX7_drinkers_1 rfl ?_
  refine lv_icmp_lt (tgt := 11) hx hb dX7_drinkers_2 (by decide) (fun c9 => ?_) (fun c9 => ?_)
  · have hf := itP c9 hf
    refine lv_bipush (v := (-2 : Int32)) hx hb dX7_drinkers_11 rfl ?_
    cases hf
    exact W.iret hx hb hr (fun t ht9 hW => ⟨⟨_, (), rfl, rfl, by rw [ht9]; exact hP, va_K.moved hW.alike hK, hD⟩, hS.F ht9⟩) hS.2.2 dX7_drinkers_13
  · have hf := itN c9 hf
    refine lv_iload_n hx hb dX7_drinkers_5 rfl (lv_at hl 1 rfl) ?_
    refine lv_bipush (v := (30 : Int32)) hx hb dX7_drinkers_6 rfl ?_
    refine lv_icmp_le (tgt := 14) hx hb dX7_drinkers_8 (by decide) (fun c10 => ?_) (fun c10 => ?_)
    · have hf := itP c10 hf
      refine lv_aload_n hx hb dX7_drinkers_14 rfl (lv_at hl 0 rfl) ?_
      refine va_get (D := D) (ci := 6) (v := .ref jhd) (C := RX7) (T := TX7) (N := 11) hx hb ht inX7 hown hK hP 0 rfl rfl 4 (by decide) (ht _ wd2_3) (fun _ h9 => h9) rfl dX7_drinkers_15 ?_
      refine lv_aload_n hx hb dX7_drinkers_18 rfl (lv_at hl 0 rfl) ?_
      refine va_get (D := D) (ci := 6) (v := .ref jhs) (C := RX7) (T := TX7) (N := 11) hx hb ht inX7 hown hK hP 0 rfl rfl 3 (by decide) (ht _ wd2_2) (fun _ h9 => h9) rfl dX7_drinkers_19 ?_
      obtain ⟨u11, e12, hf⟩ := bdS hf
      refine k_wVv (ws' := (wX7_drinkers cI cZ jhe jae jhx jht jhw jhs jhd jhc jhr jhg jaw jas jad Se Sw Ss u11)) (wr := [(jhe, .inr (6, [.ref jhx, .ref jht, .ref jhw, .ref jhs, .ref jhd, .ref jhc, .ref jhr, .ref jhg, .ref (jae 8), .int (Se.1 0), .long Se.2.2])), (jhw, .inr (5, [.int (Sw.1 0), .ref (jaw 0), .ref (jaw 1), .ref (jaw 2), .int (Sw.1 1), .ref (jaw 3), .ref (jaw 4), .ref (jaw 5), .int (Sw.1 2), .int (Sw.1 3), .ref (jaw 6), .ref (jaw 7), .ref (jaw 8), .ref (jaw 9), .ref (jaw 10)])), (jaw 0, .inl (cI, 4, .inl (Sw.2.1 0))), (jaw 1, .inl (cI, 4, .inl (Sw.2.1 1))), (jaw 2, .inl (cI, 4, .inl (Sw.2.1 2))), (jaw 3, .inl (cI, 4, .inl (Sw.2.1 3))), (jaw 4, .inl (cI, 4, .inl (Sw.2.1 4))), (jaw 6, .inl (cI, 4, .inl (Sw.2.1 6))), (jaw 7, .inl (cI, 4, .inl (Sw.2.1 7))), (jaw 8, .inl (cI, 4, .inl (Sw.2.1 8))), (jaw 9, .inl (cI, 4, .inl (Sw.2.1 9))), (jaw 10, .inl (cI, 4, .inl (Sw.2.1 10)))]) (As := [.ref jhs]) (rest := []) hC miX3_copyFrom mjX3_copyFrom.1 mjX3_copyFrom.2 wd3_162 (qX3_copyFrom l D cI cZ cO jhd jad jhw jhs jas Sd Ss H.size u11 e12) ⟨Nat.le_of_ble_eq_true rfl, Nat.le_of_ble_eq_true rfl⟩ hP hD hK hZ hS hA [16, 17, 18, 19, 12, 13, 14, 15] [0, 1, 2, 3, 4, 5, 6, 7, 8, 9, 10, 11] [0, 1, 2, 3, 4, 5, 6, 7, 8, 9, 10, 11, 16, 17, 18, 19, 12, 13, 14, 15] rfl (by decide) rfl (by decide) (by decide) (by decide) rfl (va_recv hK hP (ci := 2) (q0 := 16) rfl rfl) hl.1 rfl rfl (Nat.le_of_ble_eq_true rfl) dX7_drinkers_22 (fun H locs hP hD hS => ?_)
      refine lv_iconst (v := (0 : Int32)) hx hb dX7_drinkers_25 rfl ?_
      refine lv_istore_n (lv' := [(2, .int (0 : Int32)), (0, .ref jhe), (1, .int x1)]) hx hb dX7_drinkers_26 rfl hl (by decide) rfl (fun ls hl => ?_)
      exact hj27 (0 : Int32) Se u11 hf _ _ _ hP hD hS (lv_sub hl [1, 2, 0] rfl)
    · have hf := itN c10 hf
      refine lv_bipush (v := (-2 : Int32)) hx hb dX7_drinkers_11 rfl ?_
      cases hf
      exact W.iret hx hb hr (fun t ht9 hW => ⟨⟨_, (), rfl, rfl, by rw [ht9]; exact hP, va_K.moved hW.alike hK, hD⟩, hS.F ht9⟩) hS.2.2 dX7_drinkers_13
