abbrev wX8_goDay (cI cZ : ClassId) (jhm : Nat) (jam : Nat → Nat) (jhp : Nat) (np : Nat) (Sm : Bk) (P : (Nat → Int32)) : va_W := [(jhm, .inr (7, [.int (Sm.1 0), .ref (jam 0), .int (Sm.1 1), .int (Sm.1 2), .int (Sm.1 3), .int (Sm.1 4), .int (Sm.1 5), .ref (jam 1), .ref (jam 2), .ref (jam 3), .int (Sm.1 6), .int (Sm.1 7), .int (Sm.1 8), .ref (jam 4), .ref (jam 5), .ref (jam 6), .ref (jam 7), .ref (jam 8), .ref (jam 9), .int (Sm.1 9), .ref (jam 10), .ref (jam 11), .int (Sm.1 10), .ref (jam 12), .ref (jam 13), .long Sm.2.2, .ref (jam 14), .ref (jam 15), .int (Sm.1 11), .int (Sm.1 12), .int (Sm.1 13)])), (jam 1, .inl (cI, 12, .inl (Sm.2.1 1))), (jhp, .inl (cI, np, .inl P))]
def gX8_goDay_62 (Sm : Bk) (np : Nat) (k4 : Int32 → Int32 → (Nat → Int32) → Option (Int32 × (Nat → Int32))) (x2 : Int32) (x3 : Int32) (P : (Nat → Int32)) (y0 : Int32) : Option (Int32 × (Nat → Int32)) := inB np x3 (nmV ((P x3.toNatClampNeg) + y0) (fun v2 => inB np x3 (nmV x3.toNatClampNeg (fun j4 => inB np ((4 : Int32) + x3) (nmV ((upd P j4 v2) ((4 : Int32) + x3).toNatClampNeg) (fun v6 => inB np ((8 : Int32) + x3) (nmV ((8 : Int32) + x3).toNatClampNeg (fun j8 => inB np ((4 : Int32) + x3) (nmV ((4 : Int32) + x3).toNatClampNeg (fun j10 => k4 (x2 + y0) (x3 + (1 : Int32)) (upd (upd (upd P j4 v2) j8 v6) j10 (0 : Int32))))))))))))
def gX8_goDay_61 (Sm : Bk) (np : Nat) (k4 : Int32 → Int32 → (Nat → Int32) → Option (Int32 × (Nat → Int32))) (x2 : Int32) (x3 : Int32) (P : (Nat → Int32)) : Option (Int32 × (Nat → Int32)) := gX8_goDay_62 Sm np k4 x2 x3 P (0 : Int32)
def sX8_goDay_4 (Sm : Bk) (np : Nat) (k4 : Int32 → Int32 → (Nat → Int32) → Option (Int32 × (Nat → Int32))) (x2 : Int32) (x3 : Int32) (P : (Nat → Int32)) : Option (Int32 × (Nat → Int32)) := (if (Sm.1 3) ≤ x3 then inB np (14 : Int32) (nmV ((P (14 : Int32).toNatClampNeg) + (1 : Int32)) (fun v13 => inB np (14 : Int32) (nmV (14 : Int32).toNatClampNeg (fun j15 => some (x2, (upd P j15 v13)))))) else inB 12 (((3 : Int32) * x3) + (2 : Int32)) ((if ((Sm.2.1 1) (((3 : Int32) * x3) + (2 : Int32)).toNatClampNeg) = (1 : Int32) then inB np ((8 : Int32) + x3) (gX8_goDay_62 Sm np k4 x2 x3 P (P ((8 : Int32) + x3).toNatClampNeg)) else inB 12 (((3 : Int32) * x3) + (2 : Int32)) ((if ((Sm.2.1 1) (((3 : Int32) * x3) + (2 : Int32)).toNatClampNeg) = (2 : Int32) then inB np x3 ((if (9 : Int32) ≤ (P x3.toNatClampNeg) then gX8_goDay_61 Sm np k4 x2 x3 P else gX8_goDay_62 Sm np k4 x2 x3 P (1 : Int32))) else gX8_goDay_61 Sm np k4 x2 x3 P)))))
def fX8_goDay (Sm : Bk) (P : (Nat → Int32)) (np : Nat) : Option (Int32 × (Nat → Int32)) := lk3 (sX8_goDay_4 Sm np) 1000 (0 : Int32) (0 : Int32) P
theorem miX8_goDay : MI yX8_goDay cX8_goDay 5 (some .int) 1 := ⟨wd1_8, wd4_159, by decide +kernel⟩
theorem mjX8_goDay : Cond.instanceMethod yX8_goDay ∈ wT ∧ Cond.selects yX8_goDay.cls yX8_goDay yX8_goDay ∈ wT := ⟨wd4_158, ws_29⟩
set_option maxHeartbeats 4000000 in
set_option maxRecDepth 100000 in
theorem qX8_goDay (l : Launch) (D : va_G) (cI cZ cO : ClassId) (jhm : Nat) (jam : Nat → Nat) (jhp : Nat) (np : Nat) (Sm : Bk) (P : (Nat → Int32)) (sz : Nat) (res : Int32 × (Nat → Int32)) (hf : fX8_goDay Sm P np = some res) : Met l yX8_goDay (Cond.code yX8_goDay cX8_goDay 5 (some .int) :: wT) (rmF 0 0) (va_Pc [.ref jhm, .ref jhp] (cW D (tyL cI cZ cO) (wX8_goDay cI cZ jhm jam jhp np Sm P) sz)) (va_Qi (S := Unit) (fun r _ => r = res.1) (fun _ => qW D (tyL cI cZ cO) (va_A (wX8_goDay cI cZ jhm jam jhp np Sm P) sz) (wX8_goDay cI cZ jhm jam jhp np Sm res.2)) (va_A (wX8_goDay cI cZ jhm jam jhp np Sm P) sz)) 0 0 (va_A (wX8_goDay cI cZ jhm jam jhp np Sm P) sz) := by
  refine met_w (by decide) (Nat.le_of_ble_eq_true rfl) ?_
  intro p e s m below meth c hx hb hr hml ht hown hlk ls hl hsz hP hK hD0 hZ
  subst hsz
  have hD := hD0.self (sz := s.heap.size)
  generalize hAe : va_A (wX8_goDay cI cZ jhm jam jhp np Sm P) s.heap.size = A at hD hZ ⊢
  have hA : ∀ q : Nat, s.heap.size ≤ q → A q := fun q h => by rw [← hAe]; exact Or.inr h
  have hS : va_S A s.heap s.heap [] := va_S.rf
  have hown : s.vm.findClass "EyeDrinkModel" = some m.cls := hown
  have hl : lv_has ls 5 [(0, .ref jhm), (1, .ref jhp)] := hl
  unfold fX8_goDay at hf
  suffices hgo : ∀ (H : Heap) (locs : List Loc), va_P D vwCl (wX8_goDay cI cZ jhm jam jhp np Sm P) H → va_S A s.heap H locs → W p l e (rmF 0 0) s m ([.ref jhm, .ref jhp] : List Value).toArray below meth c H locs 0 0 (MQ below (va_Qi (S := Unit) (fun r _ => r = res.1) (fun _ => qW D (tyL cI cZ cO) A (wX8_goDay cI cZ jhm jam jhp np Sm res.2)) A) ([.ref jhm, .ref jhp] : List Value).toArray s 0 0 A) (F0 m 0 ls []) from hgo s.heap [] hP hS
  have hj4 : ∀ (x2 : Int32) (x3 : Int32) (P : (Nat → Int32)), lk3 (sX8_goDay_4 Sm np) 1000 x2 x3 P = some res → ∀ (H : Heap) (locs : List Loc) (ls : Array Slot), va_P D vwCl (wX8_goDay cI cZ jhm jam jhp np Sm P) H → va_D A (wX8_goDay cI cZ jhm jam jhp np Sm P) → va_S A s.heap H locs → lv_has ls 5 [(0, .ref jhm), (1, .ref jhp), (2, .int x2), (3, .int x3)] → W p l e (rmF 0 0) s m ([.ref jhm, .ref jhp] : List Value).toArray below meth c H locs 0 0 (MQ below (va_Qi (S := Unit) (fun r _ => r = res.1) (fun _ => qW D (tyL cI cZ cO) A (wX8_goDay cI cZ jhm jam jhp np Sm res.2)) A) ([.ref jhm, .ref jhp] : List Value).toArray s 0 0 A) (F0 m 4 ls []) := by
    refine lk3_w (fun (x2 : Int32) (x3 : Int32) (P : (Nat → Int32)) => ∀ (H : Heap) (locs : List Loc) (ls : Array Slot), va_P D vwCl (wX8_goDay cI cZ jhm jam jhp np Sm P) H → va_D A (wX8_goDay cI cZ jhm jam jhp np Sm P) → va_S A s.heap H locs → lv_has ls 5 [(0, .ref jhm), (1, .ref jhp), (2, .int x2), (3, .int x3)] → W p l e (rmF 0 0) s m ([.ref jhm, .ref jhp] : List Value).toArray below meth c H locs 0 0 (MQ below (va_Qi (S := Unit) (fun r _ => r = res.1) (fun _ => qW D (tyL cI cZ cO) A (wX8_goDay cI cZ jhm jam jhp np Sm res.2)) A) ([.ref jhm, .ref jhp] : List Value).toArray s 0 0 A) (F0 m 4 ls [])) ?_ 1000
    intro k4 hk4 x2 x3 P hf H locs ls hP hD hS hl
    unfold sX8_goDay_4 at hf
    have hj62 : ∀ (x2 : Int32) (x3 : Int32) (P : (Nat → Int32)) (y0 : Int32), gX8_goDay_62 Sm np k4 x2 x3 P y0 = some res → ∀ (H : Heap) (locs : List Loc) (ls : Array Slot), va_P D vwCl (wX8_goDay cI cZ jhm jam jhp np Sm P) H → va_D A (wX8_goDay cI cZ jhm jam jhp np Sm P) → va_S A s.heap H locs → lv_has ls 5 [(0, .ref jhm), (1, .ref jhp), (2, .int x2), (3, .int x3)] → W p l e (rmF 0 0) s m ([.ref jhm, .ref jhp] : List Value).toArray below meth c H locs 0 0 (MQ below (va_Qi (S := Unit) (fun r _ => r = res.1) (fun _ => qW D (tyL cI cZ cO) A (wX8_goDay cI cZ jhm jam jhp np Sm res.2)) A) ([.ref jhm, .ref jhp] : List Value).toArray s 0 0 A) (F0 m 62 ls [.int y0]) := by
      intro x2 x3 P y0 hf H locs ls hP hD hS hl
      unfold gX8_goDay_62 at hf
      refine lv_istore (lv' := [(4, .int y0), (0, .ref jhm), (1, .ref jhp), (2, .int x2), (3, .int x3)]) hx hb dX8_goDay_62 hl (by decide) rfl (fun ls hl => ?_)
      refine lv_aload_n hx hb dX8_goDay_64 rfl (lv_at hl 2 rfl) ?_
      refine lv_iload_n hx hb dX8_goDay_65 rfl (lv_at hl 4 rfl) ?_
      refine lv_dup2_11 hx hb dX8_goDay_66 rfl rfl ?_
      obtain ⟨h1, hf⟩ := inB_s hf
      refine va_iald (f := P) (n := np) hx hb hK hP 2 0 rfl rfl h1 dX8_goDay_67 ?_
      refine lv_iload hx hb dX8_goDay_68 (lv_at hl 0 rfl) ?_
      refine lv_iadd hx hb dX8_goDay_70 ?_
      obtain ⟨v2, ev2, hf⟩ := nmV_s hf
      rw [← ev2]
      obtain ⟨h3, hf⟩ := inB_s hf
      obtain ⟨j4, ej4, hf⟩ := nmV_s hf
      refine va_iast (f := P) (n := np) hx hb hK hP hD hS 2 0 rfl rfl h3 dX8_goDay_71 (fun H locs hP hD hS => ?_)
      rw [← ej4] at hP hD
      have hP : va_P D vwCl (wX8_goDay cI cZ jhm jam jhp np Sm (upd P j4 v2)) H := hP
      have hD : va_D A (wX8_goDay cI cZ jhm jam jhp np Sm (upd P j4 v2)) := hD
      refine lv_iload_n hx hb dX8_goDay_72 rfl (lv_at hl 3 rfl) ?_
      refine lv_iload hx hb dX8_goDay_73 (lv_at hl 0 rfl) ?_
      refine lv_iadd hx hb dX8_goDay_75 ?_
      refine lv_istore_n (lv' := [(2, .int (x2 + y0)), (4, .int y0), (0, .ref jhm), (1, .ref jhp), (3, .int x3)]) hx hb dX8_goDay_76 rfl hl (by decide) rfl (fun ls hl => ?_)
      refine lv_aload_n hx hb dX8_goDay_77 rfl (lv_at hl 3 rfl) ?_
      refine lv_bipush (v := (8 : Int32)) hx hb dX8_goDay_78 rfl ?_
      refine lv_iload_n hx hb dX8_goDay_80 rfl (lv_at hl 4 rfl) ?_
      refine lv_iadd hx hb dX8_goDay_81 ?_
      refine lv_aload_n hx hb dX8_goDay_82 rfl (lv_at hl 3 rfl) ?_
      refine lv_iconst (v := (4 : Int32)) hx hb dX8_goDay_83 rfl ?_
      refine lv_iload_n hx hb dX8_goDay_84 rfl (lv_at hl 4 rfl) ?_
      refine lv_iadd hx hb dX8_goDay_85 ?_
      obtain ⟨h5, hf⟩ := inB_s hf
      refine va_iald (f := (upd P j4 v2)) (n := np) hx hb hK hP 2 0 rfl rfl h5 dX8_goDay_86 ?_
      obtain ⟨v6, ev6, hf⟩ := nmV_s hf
      rw [← ev6]
      obtain ⟨h7, hf⟩ := inB_s hf
      obtain ⟨j8, ej8, hf⟩ := nmV_s hf
      refine va_iast (f := (upd P j4 v2)) (n := np) hx hb hK hP hD hS 2 0 rfl rfl h7 dX8_goDay_87 (fun H locs hP hD hS => ?_)
      rw [← ej8] at hP hD
      have hP : va_P D vwCl (wX8_goDay cI cZ jhm jam jhp np Sm (upd (upd P j4 v2) j8 v6)) H := hP
      have hD : va_D A (wX8_goDay cI cZ jhm jam jhp np Sm (upd (upd P j4 v2) j8 v6)) := hD
      refine lv_aload_n hx hb dX8_goDay_88 rfl (lv_at hl 3 rfl) ?_
      refine lv_iconst (v := (4 : Int32)) hx hb dX8_goDay_89 rfl ?_
      refine lv_iload_n hx hb dX8_goDay_90 rfl (lv_at hl 4 rfl) ?_
      refine lv_iadd hx hb dX8_goDay_91 ?_
      refine lv_iconst (v := (0 : Int32)) hx hb dX8_goDay_92 rfl ?_
      obtain ⟨h9, hf⟩ := inB_s hf
      obtain ⟨j10, ej10, hf⟩ := nmV_s hf
      refine va_iast (f := (upd (upd P j4 v2) j8 v6)) (n := np) hx hb hK hP hD hS 2 0 rfl rfl h9 dX8_goDay_93 (fun H locs hP hD hS => ?_)
      rw [← ej10] at hP hD
      have hP : va_P D vwCl (wX8_goDay cI cZ jhm jam jhp np Sm (upd (upd (upd P j4 v2) j8 v6) j10 (0 : Int32))) H := hP
      have hD : va_D A (wX8_goDay cI cZ jhm jam jhp np Sm (upd (upd (upd P j4 v2) j8 v6) j10 (0 : Int32))) := hD
      refine lv_iinc (v := (x3 + (1 : Int32))) (lv' := [(3, .int (x3 + (1 : Int32))), (2, .int (x2 + y0)), (4, .int y0), (0, .ref jhm), (1, .ref jhp)]) hx hb dX8_goDay_94 hl (k := 4) rfl rfl (by decide) rfl (fun ls hl => ?_)
      refine lv_goto (tgt := 4) hx hb dX8_goDay_97 (by decide) ?_
      exact hk4 (x2 + y0) (x3 + (1 : Int32)) (upd (upd (upd P j4 v2) j8 v6) j10 (0 : Int32)) hf _ _ _ hP hD hS (lv_sub hl [3, 4, 1, 0] rfl)
    have hj61 : ∀ (x2 : Int32) (x3 : Int32) (P : (Nat → Int32)), gX8_goDay_61 Sm np k4 x2 x3 P = some res → ∀ (H : Heap) (locs : List Loc) (ls : Array Slot), va_P D vwCl (wX8_goDay cI cZ jhm jam jhp np Sm P) H → va_D A (wX8_goDay cI cZ jhm jam jhp np Sm P) → va_S A s.heap H locs → lv_has ls 5 [(0, .ref jhm), (1, .ref jhp), (2, .int x2), (3, .int x3)] → W p l e (rmF 0 0) s m ([.ref jhm, .ref jhp] : List Value).toArray below meth c H locs 0 0 (MQ below (va_Qi (S := Unit) (fun r _ => r = res.1) (fun _ => qW D (tyL cI cZ cO) A (wX8_goDay cI cZ jhm jam jhp np Sm res.2)) A) ([.ref jhm, .ref jhp] : List Value).toArray s 0 0 A) (F0 m 61 ls []) := by
      intro x2 x3 P hf H locs ls hP hD hS hl
      unfold gX8_goDay_61 at hf
      refine lv_iconst (v := (0 : Int32)) hx hb dX8_goDay_61 rfl ?_
      exact hj62 x2 x3 P (0 : Int32) hf _ _ _ hP hD hS (lv_sub hl [0, 1, 2, 3] rfl)
    refine lv_iload_n hx hb dX8_goDay_4 rfl (lv_at hl 3 rfl) ?_
    refine lv_aload_n hx hb dX8_goDay_5 rfl (lv_at hl 0 rfl) ?_
    refine va_get (D := D) (ci := 7) (v := .int (Sm.1 3)) (C := RX8) (T := TX8) (N := 31) hx hb ht inX8 hown hK hP 0 rfl rfl 4 (by decide) (ht _ wd3_189) (fun _ h9 => h9) rfl dX8_goDay_6 ?_
    refine lv_icmp_ge (tgt := 100) hx hb dX8_goDay_9 (by decide) (fun c11 => ?_) (fun c11 => ?_)
    · have hf := itP c11 hf
      refine lv_aload_n hx hb dX8_goDay_100 rfl (lv_at hl 1 rfl) ?_
      refine lv_bipush (v := (14 : Int32)) hx hb dX8_goDay_101 rfl ?_
      refine lv_dup2_11 hx hb dX8_goDay_103 rfl rfl ?_
      obtain ⟨h12, hf⟩ := inB_s hf
      refine va_iald (f := P) (n := np) hx hb hK hP 2 0 rfl rfl h12 dX8_goDay_104 ?_
      refine lv_iconst (v := (1 : Int32)) hx hb dX8_goDay_105 rfl ?_
      refine lv_iadd hx hb dX8_goDay_106 ?_
      obtain ⟨v13, ev13, hf⟩ := nmV_s hf
      rw [← ev13]
      obtain ⟨h14, hf⟩ := inB_s hf
      obtain ⟨j15, ej15, hf⟩ := nmV_s hf
      refine va_iast (f := P) (n := np) hx hb hK hP hD hS 2 0 rfl rfl h14 dX8_goDay_107 (fun H locs hP hD hS => ?_)
      rw [← ej15] at hP hD
      have hP : va_P D vwCl (wX8_goDay cI cZ jhm jam jhp np Sm (upd P j15 v13)) H := hP
      have hD : va_D A (wX8_goDay cI cZ jhm jam jhp np Sm (upd P j15 v13)) := hD
      refine lv_iload_n hx hb dX8_goDay_108 rfl (lv_at hl 2 rfl) ?_
      cases hf
      exact W.iret hx hb hr (fun t ht9 hW => ⟨⟨_, (), rfl, rfl, by rw [ht9]; exact hP, va_K.moved hW.alike hK, hD⟩, hS.F ht9⟩) hS.2.2 dX8_goDay_109
    · have hf := itN c11 hf
      refine lv_aload_n hx hb dX8_goDay_12 rfl (lv_at hl 0 rfl) ?_
      refine va_get (D := D) (ci := 7) (v := .ref (jam 1)) (C := RX8) (T := TX8) (N := 31) hx hb ht inX8 hown hK hP 0 rfl rfl 7 (by decide) (ht _ wd3_192) (fun _ h9 => h9) rfl dX8_goDay_13 ?_
      refine lv_iconst (v := (3 : Int32)) hx hb dX8_goDay_16 rfl ?_
      refine lv_iload_n hx hb dX8_goDay_17 rfl (lv_at hl 3 rfl) ?_
      refine lv_imul hx hb dX8_goDay_18 ?_
      refine lv_iconst (v := (2 : Int32)) hx hb dX8_goDay_19 rfl ?_
      refine lv_iadd hx hb dX8_goDay_20 ?_
      obtain ⟨h16, hf⟩ := inB_s hf
      refine va_iald (f := (Sm.2.1 1)) (n := 12) hx hb hK hP 1 0 rfl rfl h16 dX8_goDay_21 ?_
      refine lv_iconst (v := (1 : Int32)) hx hb dX8_goDay_22 rfl ?_
      refine lv_icmp_ne (tgt := 35) hx hb dX8_goDay_23 (by decide) (fun c17 => ?_) (fun c17 => ?_)
      · have hf := itN c17 hf
        refine lv_aload_n hx hb dX8_goDay_35 rfl (lv_at hl 0 rfl) ?_
        refine va_get (D := D) (ci := 7) (v := .ref (jam 1)) (C := RX8) (T := TX8) (N := 31) hx hb ht inX8 hown hK hP 0 rfl rfl 7 (by decide) (ht _ wd3_192) (fun _ h9 => h9) rfl dX8_goDay_36 ?_
        refine lv_iconst (v := (3 : Int32)) hx hb dX8_goDay_39 rfl ?_
        refine lv_iload_n hx hb dX8_goDay_40 rfl (lv_at hl 3 rfl) ?_
        refine lv_imul hx hb dX8_goDay_41 ?_
        refine lv_iconst (v := (2 : Int32)) hx hb dX8_goDay_42 rfl ?_
        refine lv_iadd hx hb dX8_goDay_43 ?_
        obtain ⟨h18, hf⟩ := inB_s hf
        refine va_iald (f := (Sm.2.1 1)) (n := 12) hx hb hK hP 1 0 rfl rfl h18 dX8_goDay_44 ?_
        refine lv_iconst (v := (2 : Int32)) hx hb dX8_goDay_45 rfl ?_
        refine lv_icmp_ne (tgt := 61) hx hb dX8_goDay_46 (by decide) (fun c19 => ?_) (fun c19 => ?_)
        · have hf := itN c19 hf
          exact hj61 x2 x3 P hf _ _ _ hP hD hS (lv_sub hl [0, 1, 2, 3] rfl)
        · have hf := itP c19 hf
          refine lv_aload_n hx hb dX8_goDay_49 rfl (lv_at hl 1 rfl) ?_
          refine lv_iload_n hx hb dX8_goDay_50 rfl (lv_at hl 3 rfl) ?_
          obtain ⟨h20, hf⟩ := inB_s hf
          refine va_iald (f := P) (n := np) hx hb hK hP 2 0 rfl rfl h20 dX8_goDay_51 ?_
          refine lv_bipush (v := (9 : Int32)) hx hb dX8_goDay_52 rfl ?_
          refine lv_icmp_ge (tgt := 61) hx hb dX8_goDay_54 (by decide) (fun c21 => ?_) (fun c21 => ?_)
          · have hf := itP c21 hf
            exact hj61 x2 x3 P hf _ _ _ hP hD hS (lv_sub hl [0, 1, 2, 3] rfl)
          · have hf := itN c21 hf
            refine lv_iconst (v := (1 : Int32)) hx hb dX8_goDay_57 rfl ?_
            refine lv_goto (tgt := 62) hx hb dX8_goDay_58 (by decide) ?_
            exact hj62 x2 x3 P (1 : Int32) hf _ _ _ hP hD hS (lv_sub hl [0, 1, 2, 3] rfl)
      · have hf := itP c17 hf
        refine lv_aload_n hx hb dX8_goDay_26 rfl (lv_at hl 1 rfl) ?_
        refine lv_bipush (v := (8 : Int32)) hx hb dX8_goDay_27 rfl ?_
        refine lv_iload_n hx hb dX8_goDay_29 rfl (lv_at hl 3 rfl) ?_
        refine lv_iadd hx hb dX8_goDay_30 ?_
        obtain ⟨h22, hf⟩ := inB_s hf
        refine va_iald (f := P) (n := np) hx hb hK hP 2 0 rfl rfl h22 dX8_goDay_31 ?_
        refine lv_goto (tgt := 62) hx hb dX8_goDay_32 (by decide) ?_
        exact hj62 x2 x3 P (P ((8 : Int32) + x3).toNatClampNeg) hf _ _ _ hP hD hS (lv_sub hl [0, 1, 2, 3] rfl)
  intro H locs hP hS
  refine lv_iconst (v := (0 : Int32)) hx hb dX8_goDay_0 rfl ?_
  refine lv_istore_n (lv' := [(2, .int (0 : Int32)), (0, .ref jhm), (1, .ref jhp)]) hx hb dX8_goDay_1 rfl hl (by decide) rfl (fun ls hl => ?_)
  refine lv_iconst (v := (0 : Int32)) hx hb dX8_goDay_2 rfl ?_
  refine lv_istore_n (lv' := [(3, .int (0 : Int32)), (2, .int (0 : Int32)), (0, .ref jhm), (1, .ref jhp)]) hx hb dX8_goDay_3 rfl hl (by decide) rfl (fun ls hl => ?_)
  exact hj4 (0 : Int32) (0 : Int32) P hf _ _ _ hP hD hS (lv_sub hl [2, 3, 1, 0] rfl)
abbrev wX8_drink (cI cZ : ClassId) (jhm : Nat) (jam : Nat → Nat) (Sm : Bk) : va_W := [(jhm, .inr (7, [.int (Sm.1 0), .ref (jam 0), .int (Sm.1 1), .int (Sm.1 2), .int (Sm.1 3), .int (Sm.1 4), .int (Sm.1 5), .ref (jam 1), .ref (jam 2), .ref (jam 3), .int (Sm.1 6), .int (Sm.1 7), .int (Sm.1 8), .ref (jam 4), .ref (jam 5), .ref (jam 6), .ref (jam 7), .ref (jam 8), .ref (jam 9), .int (Sm.1 9), .ref (jam 10), .ref (jam 11), .int (Sm.1 10), .ref (jam 12), .ref (jam 13), .long Sm.2.2, .ref (jam 14), .ref (jam 15), .int (Sm.1 11), .int (Sm.1 12), .int (Sm.1 13)])), (jam 2, .inl (cI, 16, .inl (Sm.2.1 2))), (jam 7, .inl (cI, 16, .inl (Sm.2.1 7))), (jam 9, .inl (cI, 224, .inl (Sm.2.1 9)))]
def fX8_drink (Sm : Bk) (x1 : Int32) : Option (Int32 × Bk) := (fX8_noQuestion (bI Sm 0 (0 : Int32)) x1).bind (fun u1 => (if u1 = 0 then (fX8_noDrink (bI Sm 0 (0 : Int32)) (Sm.2.1 7) 16 x1).bind (fun u4 => (if u4 = 0 then (fX8_note (bI Sm 0 (0 : Int32))).bind (fun u7 => (fX8_goDrink (bA (bA (bO (bI Sm 0 (0 : Int32)) u7) 7 (u7.2.1 7)) 9 (u7.2.1 9)) (u7.2.1 7) 16 x1).bind (fun u9 => inB 16 (((4 : Int32) * x1) + (2 : Int32)) (some (((Sm.2.1 2) (((4 : Int32) * x1) + (2 : Int32)).toNatClampNeg), (bA (bA (bA (bO (bI Sm 0 (0 : Int32)) u7) 7 (u7.2.1 7)) 9 (u7.2.1 9)) 7 u9))))) else some (u4, (bI Sm 0 (0 : Int32))))) else some ((-1 : Int32), (bI Sm 0 (0 : Int32)))))
theorem miX8_drink : MI yX8_drink cX8_drink 3 (some .int) 1 := ⟨wd1_8, wd4_123, by decide +kernel⟩
theorem mjX8_drink : Cond.instanceMethod yX8_drink ∈ wT ∧ Cond.selects yX8_drink.cls yX8_drink yX8_drink ∈ wT := ⟨wd4_121, wd4_122⟩
set_option maxHeartbeats 4000000 in
set_option maxRecDepth 100000 in
theorem qX8_drink (l : Launch) (D : va_G) (cI cZ cO : ClassId) (jhm : Nat) (jam : Nat → Nat) (Sm : Bk) (x1 : Int32) (sz : Nat) (res : Int32 × Bk) (hf : fX8_drink Sm x1 = some res) : Met l yX8_drink (Cond.code yX8_drink cX8_drink 3 (some .int) :: wT) (rmF 2 46) (va_Pc [.ref jhm, .int x1] (cW D (tyL cI cZ cO) (wX8_drink cI cZ jhm jam Sm) sz)) (va_Qi (S := Unit) (fun r _ => r = res.1) (fun _ => qW D (tyL cI cZ cO) (va_A (wX8_drink cI cZ jhm jam Sm) sz) (wX8_drink cI cZ jhm jam res.2)) (va_A (wX8_drink cI cZ jhm jam Sm) sz)) 0 0 (va_A (wX8_drink cI cZ jhm jam Sm) sz) := by
  refine met_w (by decide) (Nat.le_of_ble_eq_true rfl) ?_
  intro p e s m below meth c hx hb hr hml ht hown hlk ls hl hsz hP hK hD0 hZ
  subst hsz
  have hD := hD0.self (sz := s.heap.size)
  generalize hAe : va_A (wX8_drink cI cZ jhm jam Sm) s.heap.size = A at hD hZ ⊢
  have hA : ∀ q : Nat, s.heap.size ≤ q → A q := fun q h => by rw [← hAe]; exact Or.inr h
  have hS : va_S A s.heap s.heap [] := va_S.rf
  have hown : s.vm.findClass "EyeDrinkModel" = some m.cls := hown
  have hl : lv_has ls 3 [(0, .ref jhm), (1, .int x1)] := hl
  have hC : CallFix p m c cX8_drink 3 s ([.ref jhm, .int x1] : List Value).toArray wT "EyeDrinkModel" := ⟨hx, hb, hml, hown, ht⟩
  unfold fX8_drink at hf
  suffices hgo : ∀ (H : Heap) (locs : List Loc), va_P D vwCl (wX8_drink cI cZ jhm jam Sm) H → va_S A s.heap H locs → W p l e (rmF 2 46) s m ([.ref jhm, .int x1] : List Value).toArray below meth c H locs 0 0 (MQ below (va_Qi (S := Unit) (fun r _ => r = res.1) (fun _ => qW D (tyL cI cZ cO) A (wX8_drink cI cZ jhm jam res.2)) A) ([.ref jhm, .int x1] : List Value).toArray s 0 0 A) (F0 m 0 ls []) from hgo s.heap [] hP hS
  intro H locs hP hS
  refine lv_aload_n hx hb dX8_drink_0 rfl (lv_at hl 0 rfl) ?_
  refine lv_iconst (v := (0 : Int32)) hx hb dX8_drink_1 rfl ?_
  refine va_put (D := D) (ci := 7) (v := .int (0 : Int32)) (ty := .int) (C := RX8) (T := TX8) (N := 31) hx hb ht inX8 tyX8 tyX8_ok nmX8 hown hK hP hD hS 0 rfl rfl 0 (by decide) (ht _ wd3_185) (fun _ h9 => h9) rfl (tyX8_ok 0 (by decide)) rfl rfl (Nat.le_of_ble_eq_true rfl) dX8_drink_2 (fun H locs hP hD hS => ?_)
  have hP : va_P D vwCl (wX8_drink cI cZ jhm jam (bI Sm 0 (0 : Int32))) H := hP
  have hD : va_D A (wX8_drink cI cZ jhm jam (bI Sm 0 (0 : Int32))) := hD
  refine lv_aload_n hx hb dX8_drink_5 rfl (lv_at hl 0 rfl) ?_
  refine lv_iload_n hx hb dX8_drink_6 rfl (lv_at hl 1 rfl) ?_
  obtain ⟨u1, e2, hf⟩ := bdS hf
  refine k_rV (As := [.int x1]) (rest := []) hC miX8_noQuestion mjX8_noQuestion.1 mjX8_noQuestion.2 wd4_104 (qX8_noQuestion l D cI cZ cO jhm jam (bI Sm 0 (0 : Int32)) x1 u1 e2) ⟨Nat.le_of_ble_eq_true rfl, Nat.le_of_ble_eq_true rfl⟩ (hP.sub [0] rfl) hK hZ hS (va_recv hK hP (ci := 7) (q0 := 0) rfl rfl) hl.1 rfl rfl (Nat.le_of_ble_eq_true rfl) dX8_drink_7 ?_
  refine lv_if_eq (tgt := 15) hx hb dX8_drink_10 (by decide) (fun c3 => ?_) (fun c3 => ?_)
  · have hf := itP c3 hf
    refine lv_aload_n hx hb dX8_drink_15 rfl (lv_at hl 0 rfl) ?_
    refine lv_aload_n hx hb dX8_drink_16 rfl (lv_at hl 0 rfl) ?_
    refine va_get (D := D) (ci := 7) (v := .ref (jam 7)) (C := RX8) (T := TX8) (N := 31) hx hb ht inX8 hown hK hP 0 rfl rfl 16 (by decide) (ht _ wd3_201) (fun _ h9 => h9) rfl dX8_drink_17 ?_
    refine lv_iload_n hx hb dX8_drink_20 rfl (lv_at hl 1 rfl) ?_
    obtain ⟨u4, e5, hf⟩ := bdS hf
    refine k_rV (As := [.ref (jam 7), .int x1]) (rest := []) hC miX8_noDrink mjX8_noDrink.1 mjX8_noDrink.2 wd4_124 (qX8_noDrink l D cI cZ cO jhm jam (jam 7) (16) (bI Sm 0 (0 : Int32)) (Sm.2.1 7) x1 u4 e5) ⟨Nat.le_of_ble_eq_true rfl, Nat.le_of_ble_eq_true rfl⟩ (hP.sub [0, 1, 2] rfl) hK hZ hS (va_recv hK hP (ci := 7) (q0 := 0) rfl rfl) hl.1 rfl rfl (Nat.le_of_ble_eq_true rfl) dX8_drink_21 ?_
    refine lv_istore_n (lv' := [(2, .int u4), (0, .ref jhm), (1, .int x1)]) hx hb dX8_drink_24 rfl hl (by decide) rfl (fun ls hl => ?_)
    refine lv_iload_n hx hb dX8_drink_25 rfl (lv_at hl 0 rfl) ?_
    refine lv_if_eq (tgt := 31) hx hb dX8_drink_26 (by decide) (fun c6 => ?_) (fun c6 => ?_)
    · have hf := itP c6 hf
      refine lv_aload_n hx hb dX8_drink_31 rfl (lv_at hl 1 rfl) ?_
      obtain ⟨u7, e8, hf⟩ := bdS hf
      refine k_wVv (ws' := (wX8_drink cI cZ jhm jam (bA (bA (bO (bI Sm 0 (0 : Int32)) u7) 7 (u7.2.1 7)) 9 (u7.2.1 9)))) (wr := [(jam 2, .inl (cI, 16, .inl ((bA (bA (bO (bI Sm 0 (0 : Int32)) u7) 7 (u7.2.1 7)) 9 (u7.2.1 9)).2.1 2)))]) (As := []) (rest := []) hC miX8_note mjX8_note.1 mjX8_note.2 wd4_128 (qX8_note l D cI cZ cO jhm jam (bI Sm 0 (0 : Int32)) H.size u7 e8) ⟨Nat.le_of_ble_eq_true rfl, Nat.le_of_ble_eq_true rfl⟩ hP hD hK hZ hS hA [0, 2, 3] [1] [1, 0, 2, 3] rfl (by decide) rfl (by decide) (by decide) (by decide) rfl (va_recv hK hP (ci := 7) (q0 := 0) rfl rfl) hl.1 rfl rfl (Nat.le_of_ble_eq_true rfl) dX8_drink_32 (fun H locs hP hD hS => ?_)
      refine lv_aload_n hx hb dX8_drink_35 rfl (lv_at hl 1 rfl) ?_
      refine lv_aload_n hx hb dX8_drink_36 rfl (lv_at hl 1 rfl) ?_
      refine va_get (D := D) (ci := 7) (v := .ref (jam 7)) (C := RX8) (T := TX8) (N := 31) hx hb ht inX8 hown hK hP 0 rfl rfl 16 (by decide) (ht _ wd3_201) (fun _ h9 => h9) rfl dX8_drink_37 ?_
      refine lv_iload_n hx hb dX8_drink_40 rfl (lv_at hl 2 rfl) ?_
      obtain ⟨u9, e10, hf⟩ := bdS hf
      refine k_wVv (ws' := (wX8_drink cI cZ jhm jam (bA (bA (bA (bO (bI Sm 0 (0 : Int32)) u7) 7 (u7.2.1 7)) 9 (u7.2.1 9)) 7 u9))) (wr := [(jam 9, .inl (cI, 224, .inl ((bA (bA (bA (bO (bI Sm 0 (0 : Int32)) u7) 7 (u7.2.1 7)) 9 (u7.2.1 9)) 7 u9).2.1 9)))]) (As := [.ref (jam 7), .int x1]) (rest := []) hC miX8_goDrink mjX8_goDrink.1 mjX8_goDrink.2 wd4_132 (qX8_goDrink l D cI cZ cO jhm jam (jam 7) (16) (bA (bA (bO (bI Sm 0 (0 : Int32)) u7) 7 (u7.2.1 7)) 9 (u7.2.1 9)) (u7.2.1 7) x1 H.size u9 e10) ⟨Nat.le_of_ble_eq_true rfl, Nat.le_of_ble_eq_true rfl⟩ hP hD hK hZ hS hA [0, 1, 2] [3] [1, 2, 3, 0] rfl (by decide) rfl (by decide) (by decide) (by decide) rfl (va_recv hK hP (ci := 7) (q0 := 0) rfl rfl) hl.1 rfl rfl (Nat.le_of_ble_eq_true rfl) dX8_drink_41 (fun H locs hP hD hS => ?_)
      refine lv_aload_n hx hb dX8_drink_44 rfl (lv_at hl 1 rfl) ?_
      refine va_get (D := D) (ci := 7) (v := .ref (jam 2)) (C := RX8) (T := TX8) (N := 31) hx hb ht inX8 hown hK hP 0 rfl rfl 8 (by decide) (ht _ wd3_193) (fun _ h9 => h9) rfl dX8_drink_45 ?_
      refine lv_iconst (v := (4 : Int32)) hx hb dX8_drink_48 rfl ?_
      refine lv_iload_n hx hb dX8_drink_49 rfl (lv_at hl 2 rfl) ?_
      refine lv_imul hx hb dX8_drink_50 ?_
      refine lv_iconst (v := (2 : Int32)) hx hb dX8_drink_51 rfl ?_
      refine lv_iadd hx hb dX8_drink_52 ?_
      obtain ⟨h11, hf⟩ := inB_s hf
      refine va_iald (f := (Sm.2.1 2)) (n := 16) hx hb hK hP 1 0 rfl rfl h11 dX8_drink_53 ?_
      cases hf
      exact W.iret hx hb hr (fun t ht9 hW => ⟨⟨_, (), rfl, rfl, by rw [ht9]; exact hP, va_K.moved hW.alike hK, hD⟩, hS.F ht9⟩) hS.2.2 dX8_drink_54
    · have hf := itN c6 hf
      refine lv_iload_n hx hb dX8_drink_29 rfl (lv_at hl 0 rfl) ?_
      cases hf
      exact W.iret hx hb hr (fun t ht9 hW => ⟨⟨_, (), rfl, rfl, by rw [ht9]; exact hP, va_K.moved hW.alike hK, hD⟩, hS.F ht9⟩) hS.2.2 dX8_drink_30
  · have hf := itN c3 hf
    refine lv_iconst (v := (-1 : Int32)) hx hb dX8_drink_13 rfl ?_
    cases hf
    exact W.iret hx hb hr (fun t ht9 hW => ⟨⟨_, (), rfl, rfl, by rw [ht9]; exact hP, va_K.moved hW.alike hK, hD⟩, hS.F ht9⟩) hS.2.2 dX8_drink_14
abbrev wX8_act (cI cZ : ClassId) (jhm : Nat) (jam : Nat → Nat) (Sm : Bk) : va_W := [(jhm, .inr (7, [.int (Sm.1 0), .ref (jam 0), .int (Sm.1 1), .int (Sm.1 2), .int (Sm.1 3), .int (Sm.1 4), .int (Sm.1 5), .ref (jam 1), .ref (jam 2), .ref (jam 3), .int (Sm.1 6), .int (Sm.1 7), .int (Sm.1 8), .ref (jam 4), .ref (jam 5), .ref (jam 6), .ref (jam 7), .ref (jam 8), .ref (jam 9), .int (Sm.1 9), .ref (jam 10), .ref (jam 11), .int (Sm.1 10), .ref (jam 12), .ref (jam 13), .long Sm.2.2, .ref (jam 14), .ref (jam 15), .int (Sm.1 11), .int (Sm.1 12), .int (Sm.1 13)])), (jam 1, .inl (cI, 12, .inl (Sm.2.1 1))), (jam 2, .inl (cI, 16, .inl (Sm.2.1 2))), (jam 3, .inl (cI, 20, .inl (Sm.2.1 3))), (jam 7, .inl (cI, 16, .inl (Sm.2.1 7))), (jam 9, .inl (cI, 224, .inl (Sm.2.1 9)))]
def fX8_act (Sm : Bk) (x1 : Int32) : Option (Int32 × Bk) := (fX8_noDeed (bI Sm 0 (0 : Int32)) x1).bind (fun u1 => (if u1 = 0 then (fX8_noAct (bI Sm 0 (0 : Int32)) (Sm.2.1 7) 16 x1).bind (fun u4 => (if u4 = 0 then (fX8_note (bI Sm 0 (0 : Int32))).bind (fun u7 => (fX8_goAct (bA (bA (bO (bI Sm 0 (0 : Int32)) u7) 7 (u7.2.1 7)) 9 (u7.2.1 9)) (u7.2.1 7) 16 x1).bind (fun u9 => (fX8_estateOf (bA (bA (bA (bO (bI Sm 0 (0 : Int32)) u7) 7 (u7.2.1 7)) 9 (u7.2.1 9)) 7 u9) u9 16).bind (fun u11 => some (u11, (bA (bA (bA (bO (bI Sm 0 (0 : Int32)) u7) 7 (u7.2.1 7)) 9 (u7.2.1 9)) 7 u9))))) else some (u4, (bI Sm 0 (0 : Int32))))) else some ((-1 : Int32), (bI Sm 0 (0 : Int32)))))
theorem miX8_act : MI yX8_act cX8_act 3 (some .int) 1 := ⟨wd1_8, wd4_143, by decide +kernel⟩
theorem mjX8_act : Cond.instanceMethod yX8_act ∈ wT ∧ Cond.selects yX8_act.cls yX8_act yX8_act ∈ wT := ⟨wd4_141, wd4_142⟩
set_option maxHeartbeats 4000000 in
set_option maxRecDepth 100000 in
theorem qX8_act (l : Launch) (D : va_G) (cI cZ cO : ClassId) (jhm : Nat) (jam : Nat → Nat) (Sm : Bk) (x1 : Int32) (sz : Nat) (res : Int32 × Bk) (hf : fX8_act Sm x1 = some res) : Met l yX8_act (Cond.code yX8_act cX8_act 3 (some .int) :: wT) (rmF 2 46) (va_Pc [.ref jhm, .int x1] (cW D (tyL cI cZ cO) (wX8_act cI cZ jhm jam Sm) sz)) (va_Qi (S := Unit) (fun r _ => r = res.1) (fun _ => qW D (tyL cI cZ cO) (va_A (wX8_act cI cZ jhm jam Sm) sz) (wX8_act cI cZ jhm jam res.2)) (va_A (wX8_act cI cZ jhm jam Sm) sz)) 0 0 (va_A (wX8_act cI cZ jhm jam Sm) sz) := by
  refine met_w (by decide) (Nat.le_of_ble_eq_true rfl) ?_
  intro p e s m below meth c hx hb hr hml ht hown hlk ls hl hsz hP hK hD0 hZ
  subst hsz
  have hD := hD0.self (sz := s.heap.size)
  generalize hAe : va_A (wX8_act cI cZ jhm jam Sm) s.heap.size = A at hD hZ ⊢
  have hA : ∀ q : Nat, s.heap.size ≤ q → A q := fun q h => by rw [← hAe]; exact Or.inr h
  have hS : va_S A s.heap s.heap [] := va_S.rf
  have hown : s.vm.findClass "EyeDrinkModel" = some m.cls := hown
  have hl : lv_has ls 3 [(0, .ref jhm), (1, .int x1)] := hl
  have hC : CallFix p m c cX8_act 3 s ([.ref jhm, .int x1] : List Value).toArray wT "EyeDrinkModel" := ⟨hx, hb, hml, hown, ht⟩
  unfold fX8_act at hf
  suffices hgo : ∀ (H : Heap) (locs : List Loc), va_P D vwCl (wX8_act cI cZ jhm jam Sm) H → va_S A s.heap H locs → W p l e (rmF 2 46) s m ([.ref jhm, .int x1] : List Value).toArray below meth c H locs 0 0 (MQ below (va_Qi (S := Unit) (fun r _ => r = res.1) (fun _ => qW D (tyL cI cZ cO) A (wX8_act cI cZ jhm jam res.2)) A) ([.ref jhm, .int x1] : List Value).toArray s 0 0 A) (F0 m 0 ls []) from hgo s.heap [] hP hS
  intro H locs hP hS
  refine lv_aload_n hx hb dX8_act_0 rfl (lv_at hl 0 rfl) ?_
  refine lv_iconst (v := (0 : Int32)) hx hb dX8_act_1 rfl ?_
  refine va_put (D := D) (ci := 7) (v := .int (0 : Int32)) (ty := .int) (C := RX8) (T := TX8) (N := 31) hx hb ht inX8 tyX8 tyX8_ok nmX8 hown hK hP hD hS 0 rfl rfl 0 (by decide) (ht _ wd3_185) (fun _ h9 => h9) rfl (tyX8_ok 0 (by decide)) rfl rfl (Nat.le_of_ble_eq_true rfl) dX8_act_2 (fun H locs hP hD hS => ?_)
  have hP : va_P D vwCl (wX8_act cI cZ jhm jam (bI Sm 0 (0 : Int32))) H := hP
  have hD : va_D A (wX8_act cI cZ jhm jam (bI Sm 0 (0 : Int32))) := hD
  refine lv_aload_n hx hb dX8_act_5 rfl (lv_at hl 0 rfl) ?_
  refine lv_iload_n hx hb dX8_act_6 rfl (lv_at hl 1 rfl) ?_
  obtain ⟨u1, e2, hf⟩ := bdS hf
  refine k_rV (As := [.int x1]) (rest := []) hC miX8_noDeed mjX8_noDeed.1 mjX8_noDeed.2 wd4_115 (qX8_noDeed l D cI cZ cO jhm jam (bI Sm 0 (0 : Int32)) x1 u1 e2) ⟨Nat.le_of_ble_eq_true rfl, Nat.le_of_ble_eq_true rfl⟩ (hP.sub [0] rfl) hK hZ hS (va_recv hK hP (ci := 7) (q0 := 0) rfl rfl) hl.1 rfl rfl (Nat.le_of_ble_eq_true rfl) dX8_act_7 ?_
  refine lv_if_eq (tgt := 15) hx hb dX8_act_10 (by decide) (fun c3 => ?_) (fun c3 => ?_)
  · have hf := itP c3 hf
    refine lv_aload_n hx hb dX8_act_15 rfl (lv_at hl 0 rfl) ?_
    refine lv_aload_n hx hb dX8_act_16 rfl (lv_at hl 0 rfl) ?_
    refine va_get (D := D) (ci := 7) (v := .ref (jam 7)) (C := RX8) (T := TX8) (N := 31) hx hb ht inX8 hown hK hP 0 rfl rfl 16 (by decide) (ht _ wd3_201) (fun _ h9 => h9) rfl dX8_act_17 ?_
    refine lv_iload_n hx hb dX8_act_20 rfl (lv_at hl 1 rfl) ?_
    obtain ⟨u4, e5, hf⟩ := bdS hf
    refine k_rV (As := [.ref (jam 7), .int x1]) (rest := []) hC miX8_noAct mjX8_noAct.1 mjX8_noAct.2 wd4_144 (qX8_noAct l D cI cZ cO jhm jam (jam 7) (16) (bI Sm 0 (0 : Int32)) (Sm.2.1 7) x1 u4 e5) ⟨Nat.le_of_ble_eq_true rfl, Nat.le_of_ble_eq_true rfl⟩ (hP.sub [0, 3, 4] rfl) hK hZ hS (va_recv hK hP (ci := 7) (q0 := 0) rfl rfl) hl.1 rfl rfl (Nat.le_of_ble_eq_true rfl) dX8_act_21 ?_
    refine lv_istore_n (lv' := [(2, .int u4), (0, .ref jhm), (1, .int x1)]) hx hb dX8_act_24 rfl hl (by decide) rfl (fun ls hl => ?_)
    refine lv_iload_n hx hb dX8_act_25 rfl (lv_at hl 0 rfl) ?_
    refine lv_if_eq (tgt := 31) hx hb dX8_act_26 (by decide) (fun c6 => ?_) (fun c6 => ?_)
    · have hf := itP c6 hf
      refine lv_aload_n hx hb dX8_act_31 rfl (lv_at hl 1 rfl) ?_
      obtain ⟨u7, e8, hf⟩ := bdS hf
      refine k_wVv (ws' := (wX8_act cI cZ jhm jam (bA (bA (bO (bI Sm 0 (0 : Int32)) u7) 7 (u7.2.1 7)) 9 (u7.2.1 9)))) (wr := [(jam 1, .inl (cI, 12, .inl ((bA (bA (bO (bI Sm 0 (0 : Int32)) u7) 7 (u7.2.1 7)) 9 (u7.2.1 9)).2.1 1))), (jam 2, .inl (cI, 16, .inl ((bA (bA (bO (bI Sm 0 (0 : Int32)) u7) 7 (u7.2.1 7)) 9 (u7.2.1 9)).2.1 2))), (jam 3, .inl (cI, 20, .inl ((bA (bA (bO (bI Sm 0 (0 : Int32)) u7) 7 (u7.2.1 7)) 9 (u7.2.1 9)).2.1 3)))]) (As := []) (rest := []) hC miX8_note mjX8_note.1 mjX8_note.2 wd4_128 (qX8_note l D cI cZ cO jhm jam (bI Sm 0 (0 : Int32)) H.size u7 e8) ⟨Nat.le_of_ble_eq_true rfl, Nat.le_of_ble_eq_true rfl⟩ hP hD hK hZ hS hA [0, 4, 5] [1, 2, 3] [3, 0, 1, 2, 4, 5] rfl (by decide) rfl (by decide) (by decide) (by decide) rfl (va_recv hK hP (ci := 7) (q0 := 0) rfl rfl) hl.1 rfl rfl (Nat.le_of_ble_eq_true rfl) dX8_act_32 (fun H locs hP hD hS => ?_)
      refine lv_aload_n hx hb dX8_act_35 rfl (lv_at hl 1 rfl) ?_
      refine lv_aload_n hx hb dX8_act_36 rfl (lv_at hl 1 rfl) ?_
      refine va_get (D := D) (ci := 7) (v := .ref (jam 7)) (C := RX8) (T := TX8) (N := 31) hx hb ht inX8 hown hK hP 0 rfl rfl 16 (by decide) (ht _ wd3_201) (fun _ h9 => h9) rfl dX8_act_37 ?_
      refine lv_iload_n hx hb dX8_act_40 rfl (lv_at hl 2 rfl) ?_
      obtain ⟨u9, e10, hf⟩ := bdS hf
      refine k_wVv (ws' := (wX8_act cI cZ jhm jam (bA (bA (bA (bO (bI Sm 0 (0 : Int32)) u7) 7 (u7.2.1 7)) 9 (u7.2.1 9)) 7 u9))) (wr := [(jam 1, .inl (cI, 12, .inl ((bA (bA (bA (bO (bI Sm 0 (0 : Int32)) u7) 7 (u7.2.1 7)) 9 (u7.2.1 9)) 7 u9).2.1 1))), (jam 9, .inl (cI, 224, .inl ((bA (bA (bA (bO (bI Sm 0 (0 : Int32)) u7) 7 (u7.2.1 7)) 9 (u7.2.1 9)) 7 u9).2.1 9)))]) (As := [.ref (jam 7), .int x1]) (rest := []) hC miX8_goAct mjX8_goAct.1 mjX8_goAct.2 wd4_148 (qX8_goAct l D cI cZ cO jhm jam (jam 7) (16) (bA (bA (bO (bI Sm 0 (0 : Int32)) u7) 7 (u7.2.1 7)) 9 (u7.2.1 9)) (u7.2.1 7) x1 H.size u9 e10) ⟨Nat.le_of_ble_eq_true rfl, Nat.le_of_ble_eq_true rfl⟩ hP hD hK hZ hS hA [0, 2, 3, 4] [1, 5] [2, 0, 3, 4, 5, 1] rfl (by decide) rfl (by decide) (by decide) (by decide) rfl (va_recv hK hP (ci := 7) (q0 := 0) rfl rfl) hl.1 rfl rfl (Nat.le_of_ble_eq_true rfl) dX8_act_41 (fun H locs hP hD hS => ?_)
      refine lv_aload_n hx hb dX8_act_44 rfl (lv_at hl 1 rfl) ?_
      refine lv_aload_n hx hb dX8_act_45 rfl (lv_at hl 1 rfl) ?_
      refine va_get (D := D) (ci := 7) (v := .ref (jam 7)) (C := RX8) (T := TX8) (N := 31) hx hb ht inX8 hown hK hP 0 rfl rfl 16 (by decide) (ht _ wd3_201) (fun _ h9 => h9) rfl dX8_act_46 ?_
      obtain ⟨u11, e12, hf⟩ := bdS hf
      refine k_rV (As := [.ref (jam 7)]) (rest := []) hC miX8_estateOf mjX8_estateOf.1 mjX8_estateOf.2 wd4_87 (qX8_estateOf l D cI cZ cO jhm jam (jam 7) (16) (bA (bA (bA (bO (bI Sm 0 (0 : Int32)) u7) 7 (u7.2.1 7)) 9 (u7.2.1 9)) 7 u9) u9 u11 e12) ⟨Nat.le_of_ble_eq_true rfl, Nat.le_of_ble_eq_true rfl⟩ (hP.sub [0, 1, 4] rfl) hK hZ hS (va_recv hK hP (ci := 7) (q0 := 0) rfl rfl) hl.1 rfl rfl (Nat.le_of_ble_eq_true rfl) dX8_act_49 ?_
      cases hf
      exact W.iret hx hb hr (fun t ht9 hW => ⟨⟨_, (), rfl, rfl, by rw [ht9]; exact hP, va_K.moved hW.alike hK, hD⟩, hS.F ht9⟩) hS.2.2 dX8_act_52
    · have hf := itN c6 hf
      refine lv_iload_n hx hb dX8_act_29 rfl (lv_at hl 0 rfl) ?_
      cases hf
      exact W.iret hx hb hr (fun t ht9 hW => ⟨⟨_, (), rfl, rfl, by rw [ht9]; exact hP, va_K.moved hW.alike hK, hD⟩, hS.F ht9⟩) hS.2.2 dX8_act_30
  · have hf := itN c3 hf
    refine lv_iconst (v := (-1 : Int32)) hx hb dX8_act_13 rfl ?_
    cases hf
    exact W.iret hx hb hr (fun t ht9 hW => ⟨⟨_, (), rfl, rfl, by rw [ht9]; exact hP, va_K.moved hW.alike hK, hD⟩, hS.F ht9⟩) hS.2.2 dX8_act_14
abbrev wX8_day (cI cZ : ClassId) (jhm : Nat) (jam : Nat → Nat) (Sm : Bk) : va_W := [(jhm, .inr (7, [.int (Sm.1 0), .ref (jam 0), .int (Sm.1 1), .int (Sm.1 2), .int (Sm.1 3), .int (Sm.1 4), .int (Sm.1 5), .ref (jam 1), .ref (jam 2), .ref (jam 3), .int (Sm.1 6), .int (Sm.1 7), .int (Sm.1 8), .ref (jam 4), .ref (jam 5), .ref (jam 6), .ref (jam 7), .ref (jam 8), .ref (jam 9), .int (Sm.1 9), .ref (jam 10), .ref (jam 11), .int (Sm.1 10), .ref (jam 12), .ref (jam 13), .long Sm.2.2, .ref (jam 14), .ref (jam 15), .int (Sm.1 11), .int (Sm.1 12), .int (Sm.1 13)])), (jam 1, .inl (cI, 12, .inl (Sm.2.1 1))), (jam 7, .inl (cI, 16, .inl (Sm.2.1 7))), (jam 9, .inl (cI, 224, .inl (Sm.2.1 9)))]
def fX8_day (Sm : Bk) : Option (Int32 × Bk) := (fX8_note (bI Sm 0 (0 : Int32))).bind (fun u1 => (fX8_goDay (bA (bA (bO (bI Sm 0 (0 : Int32)) u1) 7 (u1.2.1 7)) 9 (u1.2.1 9)) (u1.2.1 7) 16).bind (fun u3 => some (u3.1, (bA (bA (bA (bO (bI Sm 0 (0 : Int32)) u1) 7 (u1.2.1 7)) 9 (u1.2.1 9)) 7 u3.2))))
theorem miX8_day : MI yX8_day cX8_day 1 (some .int) 0 := ⟨wd1_8, wd4_155, by decide +kernel⟩
theorem mjX8_day : Cond.instanceMethod yX8_day ∈ wT ∧ Cond.selects yX8_day.cls yX8_day yX8_day ∈ wT := ⟨wd4_153, wd4_154⟩
set_option maxHeartbeats 4000000 in
set_option maxRecDepth 100000 in
theorem qX8_day (l : Launch) (D : va_G) (cI cZ cO : ClassId) (jhm : Nat) (jam : Nat → Nat) (Sm : Bk) (sz : Nat) (res : Int32 × Bk) (hf : fX8_day Sm = some res) : Met l yX8_day (Cond.code yX8_day cX8_day 1 (some .int) :: wT) (rmF 1 24) (va_Pc [.ref jhm] (cW D (tyL cI cZ cO) (wX8_day cI cZ jhm jam Sm) sz)) (va_Qi (S := Unit) (fun r _ => r = res.1) (fun _ => qW D (tyL cI cZ cO) (va_A (wX8_day cI cZ jhm jam Sm) sz) (wX8_day cI cZ jhm jam res.2)) (va_A (wX8_day cI cZ jhm jam Sm) sz)) 0 0 (va_A (wX8_day cI cZ jhm jam Sm) sz) := by
  refine met_w (by decide) (Nat.le_of_ble_eq_true rfl) ?_
  intro p e s m below meth c hx hb hr hml ht hown hlk ls hl hsz hP hK hD0 hZ
  subst hsz
  have hD := hD0.self (sz := s.heap.size)
  generalize hAe : va_A (wX8_day cI cZ jhm jam Sm) s.heap.size = A at hD hZ ⊢
  have hA : ∀ q : Nat, s.heap.size ≤ q → A q := fun q h => by rw [← hAe]; exact Or.inr h
  have hS : va_S A s.heap s.heap [] := va_S.rf
  have hown : s.vm.findClass "EyeDrinkModel" = some m.cls := hown
  have hl : lv_has ls 1 [(0, .ref jhm)] := hl
  have hC : CallFix p m c cX8_day 1 s ([.ref jhm] : List Value).toArray wT "EyeDrinkModel" := ⟨hx, hb, hml, hown, ht⟩
  unfold fX8_day at hf
  suffices hgo : ∀ (H : Heap) (locs : List Loc), va_P D vwCl (wX8_day cI cZ jhm jam Sm) H → va_S A s.heap H locs → W p l e (rmF 1 24) s m ([.ref jhm] : List Value).toArray below meth c H locs 0 0 (MQ below (va_Qi (S := Unit) (fun r _ => r = res.1) (fun _ => qW D (tyL cI cZ cO) A (wX8_day cI cZ jhm jam res.2)) A) ([.ref jhm] : List Value).toArray s 0 0 A) (F0 m 0 ls []) from hgo s.heap [] hP hS
  intro H locs hP hS
  refine lv_aload_n hx hb dX8_day_0 rfl (lv_at hl 0 rfl) ?_
  refine lv_iconst (v := (0 : Int32)) hx hb dX8_day_1 rfl ?_
  refine va_put (D := D) (ci := 7) (v := .int (0 : Int32)) (ty := .int) (C := RX8) (T := TX8) (N := 31) hx hb ht inX8 tyX8 tyX8_ok nmX8 hown hK hP hD hS 0 rfl rfl 0 (by decide) (ht _ wd3_185) (fun _ h9 => h9) rfl (tyX8_ok 0 (by decide)) rfl rfl (Nat.le_of_ble_eq_true rfl) dX8_day_2 (fun H locs hP hD hS => ?_)
  have hP : va_P D vwCl (wX8_day cI cZ jhm jam (bI Sm 0 (0 : Int32))) H := hP
  have hD : va_D A (wX8_day cI cZ jhm jam (bI Sm 0 (0 : Int32))) := hD
  refine lv_aload_n hx hb dX8_day_5 rfl (lv_at hl 0 rfl) ?_
  obtain ⟨u1, e2, hf⟩ := bdS hf
  refine k_wVv (ws' := (wX8_day cI cZ jhm jam (bA (bA (bO (bI Sm 0 (0 : Int32)) u1) 7 (u1.2.1 7)) 9 (u1.2.1 9)))) (wr := [(jam 1, .inl (cI, 12, .inl ((bA (bA (bO (bI Sm 0 (0 : Int32)) u1) 7 (u1.2.1 7)) 9 (u1.2.1 9)).2.1 1)))]) (As := []) (rest := []) hC miX8_note mjX8_note.1 mjX8_note.2 wd4_128 (qX8_note l D cI cZ cO jhm jam (bI Sm 0 (0 : Int32)) H.size u1 e2) ⟨Nat.le_of_ble_eq_true rfl, Nat.le_of_ble_eq_true rfl⟩ hP hD hK hZ hS hA [0, 2, 3] [1] [1, 0, 2, 3] rfl (by decide) rfl (by decide) (by decide) (by decide) rfl (va_recv hK hP (ci := 7) (q0 := 0) rfl rfl) hl.1 rfl rfl (Nat.le_of_ble_eq_true rfl) dX8_day_6 (fun H locs hP hD hS => ?_)
  refine lv_aload_n hx hb dX8_day_9 rfl (lv_at hl 0 rfl) ?_
  refine lv_aload_n hx hb dX8_day_10 rfl (lv_at hl 0 rfl) ?_
  refine va_get (D := D) (ci := 7) (v := .ref (jam 7)) (C := RX8) (T := TX8) (N := 31) hx hb ht inX8 hown hK hP 0 rfl rfl 16 (by decide) (ht _ wd3_201) (fun _ h9 => h9) rfl dX8_day_11 ?_
  obtain ⟨u3, e4, hf⟩ := bdS hf
  refine k_wVi (ws' := (wX8_day cI cZ jhm jam (bA (bA (bA (bO (bI Sm 0 (0 : Int32)) u1) 7 (u1.2.1 7)) 9 (u1.2.1 9)) 7 u3.2))) (wr := [(jam 9, .inl (cI, 224, .inl ((bA (bA (bA (bO (bI Sm 0 (0 : Int32)) u1) 7 (u1.2.1 7)) 9 (u1.2.1 9)) 7 u3.2).2.1 9)))]) (As := [.ref (jam 7)]) (rest := []) hC miX8_goDay mjX8_goDay.1 mjX8_goDay.2 wd4_156 (qX8_goDay l D cI cZ cO jhm jam (jam 7) (16) (bA (bA (bO (bI Sm 0 (0 : Int32)) u1) 7 (u1.2.1 7)) 9 (u1.2.1 9)) (u1.2.1 7) H.size u3 e4) ⟨Nat.le_of_ble_eq_true rfl, Nat.le_of_ble_eq_true rfl⟩ hP hD hK hZ hS hA [0, 1, 2] [3] [1, 2, 3, 0] rfl (by decide) rfl (by decide) (by decide) (by decide) rfl (va_recv hK hP (ci := 7) (q0 := 0) rfl rfl) hl.1 rfl rfl (Nat.le_of_ble_eq_true rfl) dX8_day_14 (fun H locs hP hD hS => ?_)
  cases hf
  exact W.iret hx hb hr (fun t ht9 hW => ⟨⟨_, (), rfl, rfl, by rw [ht9]; exact hP, va_K.moved hW.alike hK, hD⟩, hS.F ht9⟩) hS.2.2 dX8_day_17
abbrev wX8_undo (cI cZ : ClassId) (jhm : Nat) (jam : Nat → Nat) (Sm : Bk) : va_W := [(jhm, .inr (7, [.int (Sm.1 0), .ref (jam 0), .int (Sm.1 1), .int (Sm.1 2), .int (Sm.1 3), .int (Sm.1 4), .int (Sm.1 5), .ref (jam 1), .ref (jam 2), .ref (jam 3), .int (Sm.1 6), .int (Sm.1 7), .int (Sm.1 8), .ref (jam 4), .ref (jam 5), .ref (jam 6), .ref (jam 7), .ref (jam 8), .ref (jam 9), .int (Sm.1 9), .ref (jam 10), .ref (jam 11), .int (Sm.1 10), .ref (jam 12), .ref (jam 13), .long Sm.2.2, .ref (jam 14), .ref (jam 15), .int (Sm.1 11), .int (Sm.1 12), .int (Sm.1 13)])), (jam 7, .inl (cI, 16, .inl (Sm.2.1 7))), (jam 9, .inl (cI, 224, .inl (Sm.2.1 9)))]
def sX8_undo_27 (k27 : Int32 → Bk → Option (Int32 × Bk)) (x1 : Int32) (Sm : Bk) : Option (Int32 × Bk) := (if (16 : Int32) ≤ x1 then some ((Sm.1 9), Sm) else inB 224 (((16 : Int32) * (Sm.1 9)) + x1) (nmV ((Sm.2.1 9) (((16 : Int32) * (Sm.1 9)) + x1).toNatClampNeg) (fun v3 => inB 16 x1 (nmV x1.toNatClampNeg (fun j5 => k27 (x1 + (1 : Int32)) (bW Sm 7 j5 v3))))))
def fX8_undo (Sm : Bk) : Option (Int32 × Bk) := (if (Sm.1 9) = 0 then some ((-3 : Int32), (bI Sm 0 (0 : Int32))) else nmV ((Sm.1 9) - (1 : Int32)) (fun v7 => lk2 (sX8_undo_27 ) 1000 (0 : Int32) (bI (bI Sm 0 (0 : Int32)) 9 v7)))
theorem miX8_undo : MI yX8_undo cX8_undo 2 (some .int) 0 := ⟨wd1_8, wd4_163, by decide +kernel⟩
theorem mjX8_undo : Cond.instanceMethod yX8_undo ∈ wT ∧ Cond.selects yX8_undo.cls yX8_undo yX8_undo ∈ wT := ⟨wd4_161, wd4_162⟩
set_option maxHeartbeats 4000000 in
set_option maxRecDepth 100000 in
theorem qX8_undo (l : Launch) (D : va_G) (cI cZ cO : ClassId) (jhm : Nat) (jam : Nat → Nat) (Sm : Bk) (sz : Nat) (res : Int32 × Bk) (hf : fX8_undo Sm = some res) : Met l yX8_undo (Cond.code yX8_undo cX8_undo 2 (some .int) :: wT) (rmF 0 0) (va_Pc [.ref jhm] (cW D (tyL cI cZ cO) (wX8_undo cI cZ jhm jam Sm) sz)) (va_Qi (S := Unit) (fun r _ => r = res.1) (fun _ => qW D (tyL cI cZ cO) (va_A (wX8_undo cI cZ jhm jam Sm) sz) (wX8_undo cI cZ jhm jam res.2)) (va_A (wX8_undo cI cZ jhm jam Sm) sz)) 0 0 (va_A (wX8_undo cI cZ jhm jam Sm) sz) := by
  refine met_w (by decide) (Nat.le_of_ble_eq_true rfl) ?_
  intro p e s m below meth c hx hb hr hml ht hown hlk ls hl hsz hP hK hD0 hZ
  subst hsz
  have hD := hD0.self (sz := s.heap.size)
  generalize hAe : va_A (wX8_undo cI cZ jhm jam Sm) s.heap.size = A at hD hZ ⊢
  have hA : ∀ q : Nat, s.heap.size ≤ q → A q := fun q h => by rw [← hAe]; exact Or.inr h
  have hS : va_S A s.heap s.heap [] := va_S.rf
  have hown : s.vm.findClass "EyeDrinkModel" = some m.cls := hown
  have hl : lv_has ls 2 [(0, .ref jhm)] := hl
  unfold fX8_undo at hf
  suffices hgo : ∀ (H : Heap) (locs : List Loc), va_P D vwCl (wX8_undo cI cZ jhm jam Sm) H → va_S A s.heap H locs → W p l e (rmF 0 0) s m ([.ref jhm] : List Value).toArray below meth c H locs 0 0 (MQ below (va_Qi (S := Unit) (fun r _ => r = res.1) (fun _ => qW D (tyL cI cZ cO) A (wX8_undo cI cZ jhm jam res.2)) A) ([.ref jhm] : List Value).toArray s 0 0 A) (F0 m 0 ls []) from hgo s.heap [] hP hS
  have hj27 : ∀ (x1 : Int32) (Sm : Bk), lk2 (sX8_undo_27 ) 1000 x1 Sm = some res → ∀ (H : Heap) (locs : List Loc) (ls : Array Slot), va_P D vwCl (wX8_undo cI cZ jhm jam Sm) H → va_D A (wX8_undo cI cZ jhm jam Sm) → va_S A s.heap H locs → lv_has ls 2 [(0, .ref jhm), (1, .int x1)] → W p l e (rmF 0 0) s m ([.ref jhm] : List Value).toArray below meth c H locs 0 0 (MQ below (va_Qi (S := Unit) (fun r _ => r = res.1) (fun _ => qW D (tyL cI cZ cO) A (wX8_undo cI cZ jhm jam res.2)) A) ([.ref jhm] : List Value).toArray s 0 0 A) (F0 m 27 ls []) := by
    refine lk2_w (fun (x1 : Int32) (Sm : Bk) => ∀ (H : Heap) (locs : List Loc) (ls : Array Slot), va_P D vwCl (wX8_undo cI cZ jhm jam Sm) H → va_D A (wX8_undo cI cZ jhm jam Sm) → va_S A s.heap H locs → lv_has ls 2 [(0, .ref jhm), (1, .int x1)] → W p l e (rmF 0 0) s m ([.ref jhm] : List Value).toArray below meth c H locs 0 0 (MQ below (va_Qi (S := Unit) (fun r _ => r = res.1) (fun _ => qW D (tyL cI cZ cO) A (wX8_undo cI cZ jhm jam res.2)) A) ([.ref jhm] : List Value).toArray s 0 0 A) (F0 m 27 ls [])) ?_ 1000
    intro k27 hk27 x1 Sm hf H locs ls hP hD hS hl
    unfold sX8_undo_27 at hf
    refine lv_iload_n hx hb dX8_undo_27 rfl (lv_at hl 1 rfl) ?_
    refine lv_bipush (v := (16 : Int32)) hx hb dX8_undo_28 rfl ?_
    refine lv_icmp_ge (tgt := 59) hx hb dX8_undo_30 (by decide) (fun c1 => ?_) (fun c1 => ?_)
    · have hf := itP c1 hf
      refine lv_aload_n hx hb dX8_undo_59 rfl (lv_at hl 0 rfl) ?_
      refine va_get (D := D) (ci := 7) (v := .int (Sm.1 9)) (C := RX8) (T := TX8) (N := 31) hx hb ht inX8 hown hK hP 0 rfl rfl 19 (by decide) (ht _ wd3_204) (fun _ h9 => h9) rfl dX8_undo_60 ?_
      cases hf
      exact W.iret hx hb hr (fun t ht9 hW => ⟨⟨_, (), rfl, rfl, by rw [ht9]; exact hP, va_K.moved hW.alike hK, hD⟩, hS.F ht9⟩) hS.2.2 dX8_undo_63
    · have hf := itN c1 hf
      refine lv_aload_n hx hb dX8_undo_33 rfl (lv_at hl 0 rfl) ?_
      refine va_get (D := D) (ci := 7) (v := .ref (jam 7)) (C := RX8) (T := TX8) (N := 31) hx hb ht inX8 hown hK hP 0 rfl rfl 16 (by decide) (ht _ wd3_201) (fun _ h9 => h9) rfl dX8_undo_34 ?_
      refine lv_iload_n hx hb dX8_undo_37 rfl (lv_at hl 1 rfl) ?_
      refine lv_aload_n hx hb dX8_undo_38 rfl (lv_at hl 0 rfl) ?_
      refine va_get (D := D) (ci := 7) (v := .ref (jam 9)) (C := RX8) (T := TX8) (N := 31) hx hb ht inX8 hown hK hP 0 rfl rfl 18 (by decide) (ht _ wd3_203) (fun _ h9 => h9) rfl dX8_undo_39 ?_
      refine lv_bipush (v := (16 : Int32)) hx hb dX8_undo_42 rfl ?_
      refine lv_aload_n hx hb dX8_undo_44 rfl (lv_at hl 0 rfl) ?_
      refine va_get (D := D) (ci := 7) (v := .int (Sm.1 9)) (C := RX8) (T := TX8) (N := 31) hx hb ht inX8 hown hK hP 0 rfl rfl 19 (by decide) (ht _ wd3_204) (fun _ h9 => h9) rfl dX8_undo_45 ?_
      refine lv_imul hx hb dX8_undo_48 ?_
      refine lv_iload_n hx hb dX8_undo_49 rfl (lv_at hl 1 rfl) ?_
      refine lv_iadd hx hb dX8_undo_50 ?_
      obtain ⟨h2, hf⟩ := inB_s hf
      refine va_iald (f := (Sm.2.1 9)) (n := 224) hx hb hK hP 2 0 rfl rfl h2 dX8_undo_51 ?_
      obtain ⟨v3, ev3, hf⟩ := nmV_s hf
      rw [← ev3]
      obtain ⟨h4, hf⟩ := inB_s hf
      obtain ⟨j5, ej5, hf⟩ := nmV_s hf
      refine va_iast (f := (Sm.2.1 7)) (n := 16) hx hb hK hP hD hS 1 0 rfl rfl h4 dX8_undo_52 (fun H locs hP hD hS => ?_)
      rw [← ej5] at hP hD
      have hP : va_P D vwCl (wX8_undo cI cZ jhm jam (bW Sm 7 j5 v3)) H := hP
      have hD : va_D A (wX8_undo cI cZ jhm jam (bW Sm 7 j5 v3)) := hD
      refine lv_iinc (v := (x1 + (1 : Int32))) (lv' := [(1, .int (x1 + (1 : Int32))), (0, .ref jhm)]) hx hb dX8_undo_53 hl (k := 1) rfl rfl (by decide) rfl (fun ls hl => ?_)
      refine lv_goto (tgt := 27) hx hb dX8_undo_56 (by decide) ?_
      exact hk27 (x1 + (1 : Int32)) (bW Sm 7 j5 v3) hf _ _ _ hP hD hS (lv_sub hl [1, 0] rfl)
  intro H locs hP hS
  refine lv_aload_n hx hb dX8_undo_0 rfl (lv_at hl 0 rfl) ?_
  refine lv_iconst (v := (0 : Int32)) hx hb dX8_undo_1 rfl ?_
  refine va_put (D := D) (ci := 7) (v := .int (0 : Int32)) (ty := .int) (C := RX8) (T := TX8) (N := 31) hx hb ht inX8 tyX8 tyX8_ok nmX8 hown hK hP hD hS 0 rfl rfl 0 (by decide) (ht _ wd3_185) (fun _ h9 => h9) rfl (tyX8_ok 0 (by decide)) rfl rfl (Nat.le_of_ble_eq_true rfl) dX8_undo_2 (fun H locs hP hD hS => ?_)
  have hP : va_P D vwCl (wX8_undo cI cZ jhm jam (bI Sm 0 (0 : Int32))) H := hP
  have hD : va_D A (wX8_undo cI cZ jhm jam (bI Sm 0 (0 : Int32))) := hD
  refine lv_aload_n hx hb dX8_undo_5 rfl (lv_at hl 0 rfl) ?_
  refine va_get (D := D) (ci := 7) (v := .int (Sm.1 9)) (C := RX8) (T := TX8) (N := 31) hx hb ht inX8 hown hK hP 0 rfl rfl 19 (by decide) (ht _ wd3_204) (fun _ h9 => h9) rfl dX8_undo_6 ?_
  refine lv_if_ne (tgt := 15) hx hb dX8_undo_9 (by decide) (fun c6 => ?_) (fun c6 => ?_)
  · have hf := itN c6 hf
    refine lv_aload_n hx hb dX8_undo_15 rfl (lv_at hl 0 rfl) ?_
    refine lv_dup hx hb dX8_undo_16 rfl ?_
    refine va_get (D := D) (ci := 7) (v := .int (Sm.1 9)) (C := RX8) (T := TX8) (N := 31) hx hb ht inX8 hown hK hP 0 rfl rfl 19 (by decide) (ht _ wd3_204) (fun _ h9 => h9) rfl dX8_undo_17 ?_
    refine lv_iconst (v := (1 : Int32)) hx hb dX8_undo_20 rfl ?_
    refine lv_isub hx hb dX8_undo_21 ?_
    obtain ⟨v7, ev7, hf⟩ := nmV_s hf
    rw [← ev7]
    refine va_put (D := D) (ci := 7) (v := .int v7) (ty := .int) (C := RX8) (T := TX8) (N := 31) hx hb ht inX8 tyX8 tyX8_ok nmX8 hown hK hP hD hS 0 rfl rfl 19 (by decide) (ht _ wd3_204) (fun _ h9 => h9) rfl (tyX8_ok 19 (by decide)) rfl rfl (Nat.le_of_ble_eq_true rfl) dX8_undo_22 (fun H locs hP hD hS => ?_)
    have hP : va_P D vwCl (wX8_undo cI cZ jhm jam (bI (bI Sm 0 (0 : Int32)) 9 v7)) H := hP
    have hD : va_D A (wX8_undo cI cZ jhm jam (bI (bI Sm 0 (0 : Int32)) 9 v7)) := hD
    refine lv_iconst (v := (0 : Int32)) hx hb dX8_undo_25 rfl ?_
    refine lv_istore_n (lv' := [(1, .int (0 : Int32)), (0, .ref jhm)]) hx hb dX8_undo_26 rfl hl (by decide) rfl (fun ls hl => ?_)
    exact hj27 (0 : Int32) (bI (bI Sm 0 (0 : Int32)) 9 v7) hf _ _ _ hP hD hS (lv_sub hl [1, 0] rfl)
  · have hf := itP c6 hf
    refine lv_bipush (v := (-3 : Int32)) hx hb dX8_undo_12 rfl ?_
    cases hf
    exact W.iret hx hb hr (fun t ht9 hW => ⟨⟨_, (), rfl, rfl, by rw [ht9]; exact hP, va_K.moved hW.alike hK, hD⟩, hS.F ht9⟩) hS.2.2 dX8_undo_14
abbrev wX8_canDrink (cI cZ : ClassId) (jhm : Nat) (jam : Nat → Nat) (Sm : Bk) : va_W := [(jhm, .inr (7, [.int (Sm.1 0), .ref (jam 0), .int (Sm.1 1), .int (Sm.1 2), .int (Sm.1 3), .int (Sm.1 4), .int (Sm.1 5), .ref (jam 1), .ref (jam 2), .ref (jam 3), .int (Sm.1 6), .int (Sm.1 7), .int (Sm.1 8), .ref (jam 4), .ref (jam 5), .ref (jam 6), .ref (jam 7), .ref (jam 8), .ref (jam 9), .int (Sm.1 9), .ref (jam 10), .ref (jam 11), .int (Sm.1 10), .ref (jam 12), .ref (jam 13), .long Sm.2.2, .ref (jam 14), .ref (jam 15), .int (Sm.1 11), .int (Sm.1 12), .int (Sm.1 13)])), (jam 2, .inl (cI, 16, .inl (Sm.2.1 2))), (jam 7, .inl (cI, 16, .inl (Sm.2.1 7)))]
def gX8_canDrink_32 (Sm : Bk) (k4 : Int32 → Int32 → Option (Int32)) (x2 : Int32) (y0 : Int32) (y1 : Int32) : Option (Int32) := k4 (y0 ||| y1) (x2 + (1 : Int32))
def sX8_canDrink_4 (Sm : Bk) (k4 : Int32 → Int32 → Option (Int32)) (x1 : Int32) (x2 : Int32) : Option (Int32) := (if (Sm.1 4) ≤ x2 then some x1 else (fX8_noDrink Sm (Sm.2.1 7) 16 x2).bind (fun u2 => (if u2 = 0 then gX8_canDrink_32 Sm k4 x2 x1 ((1 : Int32) <<< (x2 &&& 31)) else gX8_canDrink_32 Sm k4 x2 x1 (0 : Int32))))
def fX8_canDrink (Sm : Bk) : Option (Int32) := lk2 (sX8_canDrink_4 Sm) 1000 (0 : Int32) (0 : Int32)
theorem miX8_canDrink : MI yX8_canDrink cX8_canDrink 3 (some .int) 0 := ⟨wd1_8, wd4_171, by decide +kernel⟩
theorem mjX8_canDrink : Cond.instanceMethod yX8_canDrink ∈ wT ∧ Cond.selects yX8_canDrink.cls yX8_canDrink yX8_canDrink ∈ wT := ⟨wd4_170, ws_30⟩
set_option maxHeartbeats 4000000 in
set_option maxRecDepth 100000 in
theorem qX8_canDrink (l : Launch) (D : va_G) (cI cZ cO : ClassId) (jhm : Nat) (jam : Nat → Nat) (Sm : Bk) (res : Int32) (hf : fX8_canDrink Sm = some res) : Met l yX8_canDrink (Cond.code yX8_canDrink cX8_canDrink 3 (some .int) :: wT) (rmF 2 43) (va_Pc [.ref jhm] (cR D (tyL cI cZ cO) (wX8_canDrink cI cZ jhm jam Sm))) (vp_Si (fun r => r = res)) 0 0 (fun _ => False) := by
  refine met_r (by decide) (Nat.le_of_ble_eq_true rfl) ?_
  intro p e s m below meth c hx hb hr hml ht hown hlk ls hl hP hK hZ
  have hS : va_S (fun _ => False) s.heap s.heap [] := va_S.rf
  have hown : s.vm.findClass "EyeDrinkModel" = some m.cls := hown
  have hl : lv_has ls 3 [(0, .ref jhm)] := hl
  have hC : CallFix p m c cX8_canDrink 3 s ([.ref jhm] : List Value).toArray wT "EyeDrinkModel" := ⟨hx, hb, hml, hown, ht⟩
  unfold fX8_canDrink at hf
  have hj4 : ∀ (x1 : Int32) (x2 : Int32), lk2 (sX8_canDrink_4 Sm) 1000 x1 x2 = some res → ∀ (ls : Array Slot), lv_has ls 3 [(0, .ref jhm), (1, .int x1), (2, .int x2)] → W p l e (rmF 2 43) s m ([.ref jhm] : List Value).toArray below meth c s.heap [] 0 0 (MQ below (vp_Si (fun r => r = res)) ([.ref jhm] : List Value).toArray s 0 0 (fun _ => False)) (F0 m 4 ls []) := by
    refine lk2_w (fun (x1 : Int32) (x2 : Int32) => ∀ (ls : Array Slot), lv_has ls 3 [(0, .ref jhm), (1, .int x1), (2, .int x2)] → W p l e (rmF 2 43) s m ([.ref jhm] : List Value).toArray below meth c s.heap [] 0 0 (MQ below (vp_Si (fun r => r = res)) ([.ref jhm] : List Value).toArray s 0 0 (fun _ => False)) (F0 m 4 ls [])) ?_ 1000
    intro k4 hk4 x1 x2 hf ls hl
    unfold sX8_canDrink_4 at hf
    have hj32 : ∀ (x2 : Int32) (y0 : Int32) (y1 : Int32), gX8_canDrink_32 Sm k4 x2 y0 y1 = some res → ∀ (ls : Array Slot), lv_has ls 3 [(0, .ref jhm), (2, .int x2)] → W p l e (rmF 2 43) s m ([.ref jhm] : List Value).toArray below meth c s.heap [] 0 0 (MQ below (vp_Si (fun r => r = res)) ([.ref jhm] : List Value).toArray s 0 0 (fun _ => False)) (F0 m 32 ls [.int y1, .int y0]) := by
      intro x2 y0 y1 hf ls hl
      unfold gX8_canDrink_32 at hf
      refine lv_ior hx hb dX8_canDrink_32 ?_
      refine lv_istore_n (lv' := [(1, .int (y0 ||| y1)), (0, .ref jhm), (2, .int x2)]) hx hb dX8_canDrink_33 rfl hl (by decide) rfl (fun ls hl => ?_)
      refine lv_iinc (v := (x2 + (1 : Int32))) (lv' := [(2, .int (x2 + (1 : Int32))), (1, .int (y0 ||| y1)), (0, .ref jhm)]) hx hb dX8_canDrink_34 hl (k := 2) rfl rfl (by decide) rfl (fun ls hl => ?_)
      refine lv_goto (tgt := 4) hx hb dX8_canDrink_37 (by decide) ?_
      exact hk4 (y0 ||| y1) (x2 + (1 : Int32)) hf _ (lv_sub hl [2, 1, 0] rfl)
    refine lv_iload_n hx hb dX8_canDrink_4 rfl (lv_at hl 2 rfl) ?_
    refine lv_aload_n hx hb dX8_canDrink_5 rfl (lv_at hl 0 rfl) ?_
    refine va_get (D := D) (ci := 7) (v := .int (Sm.1 4)) (C := RX8) (T := TX8) (N := 31) hx hb ht inX8 hown hK hP 0 rfl rfl 5 (by decide) (ht _ wd3_190) (fun _ h9 => h9) rfl dX8_canDrink_6 ?_
    refine lv_icmp_ge (tgt := 40) hx hb dX8_canDrink_9 (by decide) (fun c1 => ?_) (fun c1 => ?_)
    · have hf := itP c1 hf
      refine lv_iload_n hx hb dX8_canDrink_40 rfl (lv_at hl 1 rfl) ?_
      exact W.iret hx hb hr (fun t ht9 _ => ⟨_, rfl, Option.some.inj hf, ht9⟩) (fun _ h9 => by cases h9) dX8_canDrink_41
    · have hf := itN c1 hf
      refine lv_iload_n hx hb dX8_canDrink_12 rfl (lv_at hl 1 rfl) ?_
      refine lv_aload_n hx hb dX8_canDrink_13 rfl (lv_at hl 0 rfl) ?_
      refine lv_aload_n hx hb dX8_canDrink_14 rfl (lv_at hl 0 rfl) ?_
      refine va_get (D := D) (ci := 7) (v := .ref (jam 7)) (C := RX8) (T := TX8) (N := 31) hx hb ht inX8 hown hK hP 0 rfl rfl 16 (by decide) (ht _ wd3_201) (fun _ h9 => h9) rfl dX8_canDrink_15 ?_
      refine lv_iload_n hx hb dX8_canDrink_18 rfl (lv_at hl 2 rfl) ?_
      obtain ⟨u2, e3, hf⟩ := bdS hf
      refine k_rV (As := [.ref (jam 7), .int x2]) (rest := [.int x1]) hC miX8_noDrink mjX8_noDrink.1 mjX8_noDrink.2 wd4_124 (qX8_noDrink l D cI cZ cO jhm jam (jam 7) (16) Sm (Sm.2.1 7) x2 u2 e3) ⟨Nat.le_of_ble_eq_true rfl, Nat.le_of_ble_eq_true rfl⟩ (hP.sub [0, 1, 2] rfl) hK hZ hS (va_recv hK hP (ci := 7) (q0 := 0) rfl rfl) hl.1 rfl rfl (Nat.le_of_ble_eq_true rfl) dX8_canDrink_19 ?_
      refine lv_if_ne (tgt := 31) hx hb dX8_canDrink_22 (by decide) (fun c4 => ?_) (fun c4 => ?_)
      · have hf := itN c4 hf
        refine lv_iconst (v := (0 : Int32)) hx hb dX8_canDrink_31 rfl ?_
        exact hj32 x2 x1 (0 : Int32) hf _ (lv_sub hl [0, 2] rfl)
      · have hf := itP c4 hf
        refine lv_iconst (v := (1 : Int32)) hx hb dX8_canDrink_25 rfl ?_
        refine lv_iload_n hx hb dX8_canDrink_26 rfl (lv_at hl 2 rfl) ?_
        refine lv_ishl hx hb dX8_canDrink_27 ?_
        refine lv_goto (tgt := 32) hx hb dX8_canDrink_28 (by decide) ?_
        exact hj32 x2 x1 ((1 : Int32) <<< (x2 &&& 31)) hf _ (lv_sub hl [0, 2] rfl)
  refine lv_iconst (v := (0 : Int32)) hx hb dX8_canDrink_0 rfl ?_
  refine lv_istore_n (lv' := [(1, .int (0 : Int32)), (0, .ref jhm)]) hx hb dX8_canDrink_1 rfl hl (by decide) rfl (fun ls hl => ?_)
  refine lv_iconst (v := (0 : Int32)) hx hb dX8_canDrink_2 rfl ?_
  refine lv_istore_n (lv' := [(2, .int (0 : Int32)), (1, .int (0 : Int32)), (0, .ref jhm)]) hx hb dX8_canDrink_3 rfl hl (by decide) rfl (fun ls hl => ?_)
  exact hj4 (0 : Int32) (0 : Int32) hf _ (lv_sub hl [2, 1, 0] rfl)
abbrev wX8_can (cI cZ : ClassId) (jhm : Nat) (jam : Nat → Nat) (Sm : Bk) : va_W := [(jhm, .inr (7, [.int (Sm.1 0), .ref (jam 0), .int (Sm.1 1), .int (Sm.1 2), .int (Sm.1 3), .int (Sm.1 4), .int (Sm.1 5), .ref (jam 1), .ref (jam 2), .ref (jam 3), .int (Sm.1 6), .int (Sm.1 7), .int (Sm.1 8), .ref (jam 4), .ref (jam 5), .ref (jam 6), .ref (jam 7), .ref (jam 8), .ref (jam 9), .int (Sm.1 9), .ref (jam 10), .ref (jam 11), .int (Sm.1 10), .ref (jam 12), .ref (jam 13), .long Sm.2.2, .ref (jam 14), .ref (jam 15), .int (Sm.1 11), .int (Sm.1 12), .int (Sm.1 13)])), (jam 2, .inl (cI, 16, .inl (Sm.2.1 2))), (jam 3, .inl (cI, 20, .inl (Sm.2.1 3))), (jam 7, .inl (cI, 16, .inl (Sm.2.1 7)))]
def gX8_can_50 (x1 : Int32) (k22 : Int32 → Int32 → Bk → Option (Int32 × Bk)) (x3 : Int32) (Sm : Bk) (y0 : Int32) (y1 : Int32) : Option (Int32 × Bk) := k22 (y0 ||| y1) (x3 + (1 : Int32)) Sm
def sX8_can_22 (x1 : Int32) (k22 : Int32 → Int32 → Bk → Option (Int32 × Bk)) (x2 : Int32) (x3 : Int32) (Sm : Bk) : Option (Int32 × Bk) := (if (Sm.1 5) ≤ x3 then (if x1 = 0 then (fX8_canDrink Sm).bind (fun u3 => some (u3, Sm)) else some (x2, Sm)) else (fX8_noAct Sm (Sm.2.1 7) 16 x3).bind (fun u5 => (if u5 = 0 then gX8_can_50 x1 k22 x3 Sm x2 ((1 : Int32) <<< (x3 &&& 31)) else gX8_can_50 x1 k22 x3 Sm x2 (0 : Int32))))
def fX8_can (Sm : Bk) (x1 : Int32) : Option (Int32 × Bk) := (fX8_in x1.toInt64 (0 : Int64) (1 : Int64)).bind (fun u8 => (if u8 = 0 then some ((-2 : Int32), (bI Sm 0 (0 : Int32))) else lk3 (sX8_can_22 x1) 1000 (0 : Int32) (0 : Int32) (bI Sm 0 (0 : Int32))))
theorem miX8_can : MI yX8_can cX8_can 4 (some .int) 1 := ⟨wd1_8, wd4_167, by decide +kernel⟩
theorem mjX8_can : Cond.instanceMethod yX8_can ∈ wT ∧ Cond.selects yX8_can.cls yX8_can yX8_can ∈ wT := ⟨wd4_165, wd4_166⟩
set_option maxHeartbeats 4000000 in
set_option maxRecDepth 100000 in
theorem qX8_can (l : Launch) (D : va_G) (cI cZ cO : ClassId) (jhm : Nat) (jam : Nat → Nat) (Sm : Bk) (x1 : Int32) (sz : Nat) (res : Int32 × Bk) (hf : fX8_can Sm x1 = some res) : Met l yX8_can (Cond.code yX8_can cX8_can 4 (some .int) :: wT) (rmF 3 65) (va_Pc [.ref jhm, .int x1] (cW D (tyL cI cZ cO) (wX8_can cI cZ jhm jam Sm) sz)) (va_Qi (S := Unit) (fun r _ => r = res.1) (fun _ => qW D (tyL cI cZ cO) (va_A (wX8_can cI cZ jhm jam Sm) sz) (wX8_can cI cZ jhm jam res.2)) (va_A (wX8_can cI cZ jhm jam Sm) sz)) 0 0 (va_A (wX8_can cI cZ jhm jam Sm) sz) := by
  refine met_w (by decide) (Nat.le_of_ble_eq_true rfl) ?_
  intro p e s m below meth c hx hb hr hml ht hown hlk ls hl hsz hP hK hD0 hZ
  subst hsz
  have hD := hD0.self (sz := s.heap.size)
  generalize hAe : va_A (wX8_can cI cZ jhm jam Sm) s.heap.size = A at hD hZ ⊢
  have hA : ∀ q : Nat, s.heap.size ≤ q → A q := fun q h => by rw [← hAe]; exact Or.inr h
  have hS : va_S A s.heap s.heap [] := va_S.rf
  have hown : s.vm.findClass "EyeDrinkModel" = some m.cls := hown
  have hl : lv_has ls 4 [(0, .ref jhm), (1, .int x1)] := hl
  have hC : CallFix p m c cX8_can 4 s ([.ref jhm, .int x1] : List Value).toArray wT "EyeDrinkModel" := ⟨hx, hb, hml, hown, ht⟩
  unfold fX8_can at hf
  suffices hgo : ∀ (H : Heap) (locs : List Loc), va_P D vwCl (wX8_can cI cZ jhm jam Sm) H → va_S A s.heap H locs → W p l e (rmF 3 65) s m ([.ref jhm, .int x1] : List Value).toArray below meth c H locs 0 0 (MQ below (va_Qi (S := Unit) (fun r _ => r = res.1) (fun _ => qW D (tyL cI cZ cO) A (wX8_can cI cZ jhm jam res.2)) A) ([.ref jhm, .int x1] : List Value).toArray s 0 0 A) (F0 m 0 ls []) from hgo s.heap [] hP hS
  have hj22 : ∀ (x2 : Int32) (x3 : Int32) (Sm : Bk), lk3 (sX8_can_22 x1) 1000 x2 x3 Sm = some res → ∀ (H : Heap) (locs : List Loc) (ls : Array Slot), va_P D vwCl (wX8_can cI cZ jhm jam Sm) H → va_D A (wX8_can cI cZ jhm jam Sm) → va_S A s.heap H locs → lv_has ls 4 [(0, .ref jhm), (1, .int x1), (2, .int x2), (3, .int x3)] → W p l e (rmF 3 65) s m ([.ref jhm, .int x1] : List Value).toArray below meth c H locs 0 0 (MQ below (va_Qi (S := Unit) (fun r _ => r = res.1) (fun _ => qW D (tyL cI cZ cO) A (wX8_can cI cZ jhm jam res.2)) A) ([.ref jhm, .int x1] : List Value).toArray s 0 0 A) (F0 m 22 ls []) := by
    refine lk3_w (fun (x2 : Int32) (x3 : Int32) (Sm : Bk) => ∀ (H : Heap) (locs : List Loc) (ls : Array Slot), va_P D vwCl (wX8_can cI cZ jhm jam Sm) H → va_D A (wX8_can cI cZ jhm jam Sm) → va_S A s.heap H locs → lv_has ls 4 [(0, .ref jhm), (1, .int x1), (2, .int x2), (3, .int x3)] → W p l e (rmF 3 65) s m ([.ref jhm, .int x1] : List Value).toArray below meth c H locs 0 0 (MQ below (va_Qi (S := Unit) (fun r _ => r = res.1) (fun _ => qW D (tyL cI cZ cO) A (wX8_can cI cZ jhm jam res.2)) A) ([.ref jhm, .int x1] : List Value).toArray s 0 0 A) (F0 m 22 ls [])) ?_ 1000
    intro k22 hk22 x2 x3 Sm hf H locs ls hP hD hS hl
    unfold sX8_can_22 at hf
    have hj50 : ∀ (x3 : Int32) (Sm : Bk) (y0 : Int32) (y1 : Int32), gX8_can_50 x1 k22 x3 Sm y0 y1 = some res → ∀ (H : Heap) (locs : List Loc) (ls : Array Slot), va_P D vwCl (wX8_can cI cZ jhm jam Sm) H → va_D A (wX8_can cI cZ jhm jam Sm) → va_S A s.heap H locs → lv_has ls 4 [(0, .ref jhm), (1, .int x1), (3, .int x3)] → W p l e (rmF 3 65) s m ([.ref jhm, .int x1] : List Value).toArray below meth c H locs 0 0 (MQ below (va_Qi (S := Unit) (fun r _ => r = res.1) (fun _ => qW D (tyL cI cZ cO) A (wX8_can cI cZ jhm jam res.2)) A) ([.ref jhm, .int x1] : List Value).toArray s 0 0 A) (F0 m 50 ls [.int y1, .int y0]) := by
      intro x3 Sm y0 y1 hf H locs ls hP hD hS hl
      unfold gX8_can_50 at hf
      refine lv_ior hx hb dX8_can_50 ?_
      refine lv_istore_n (lv' := [(2, .int (y0 ||| y1)), (0, .ref jhm), (1, .int x1), (3, .int x3)]) hx hb dX8_can_51 rfl hl (by decide) rfl (fun ls hl => ?_)
      refine lv_iinc (v := (x3 + (1 : Int32))) (lv' := [(3, .int (x3 + (1 : Int32))), (2, .int (y0 ||| y1)), (0, .ref jhm), (1, .int x1)]) hx hb dX8_can_52 hl (k := 3) rfl rfl (by decide) rfl (fun ls hl => ?_)
      refine lv_goto (tgt := 22) hx hb dX8_can_55 (by decide) ?_
      exact hk22 (y0 ||| y1) (x3 + (1 : Int32)) Sm hf _ _ _ hP hD hS (lv_sub hl [2, 3, 1, 0] rfl)
    refine lv_iload_n hx hb dX8_can_22 rfl (lv_at hl 3 rfl) ?_
    refine lv_aload_n hx hb dX8_can_23 rfl (lv_at hl 0 rfl) ?_
    refine va_get (D := D) (ci := 7) (v := .int (Sm.1 5)) (C := RX8) (T := TX8) (N := 31) hx hb ht inX8 hown hK hP 0 rfl rfl 6 (by decide) (ht _ wd3_191) (fun _ h9 => h9) rfl dX8_can_24 ?_
    refine lv_icmp_ge (tgt := 58) hx hb dX8_can_27 (by decide) (fun c1 => ?_) (fun c1 => ?_)
    · have hf := itP c1 hf
      refine lv_iload_n hx hb dX8_can_58 rfl (lv_at hl 1 rfl) ?_
      refine lv_if_ne (tgt := 69) hx hb dX8_can_59 (by decide) (fun c2 => ?_) (fun c2 => ?_)
      · have hf := itN c2 hf
        refine lv_iload_n hx hb dX8_can_69 rfl (lv_at hl 2 rfl) ?_
        cases hf
        exact W.iret hx hb hr (fun t ht9 hW => ⟨⟨_, (), rfl, rfl, by rw [ht9]; exact hP, va_K.moved hW.alike hK, hD⟩, hS.F ht9⟩) hS.2.2 dX8_can_70
      · have hf := itP c2 hf
        refine lv_aload_n hx hb dX8_can_62 rfl (lv_at hl 0 rfl) ?_
        obtain ⟨u3, e4, hf⟩ := bdS hf
        refine k_rV (As := []) (rest := []) hC miX8_canDrink mjX8_canDrink.1 mjX8_canDrink.2 wd4_168 (qX8_canDrink l D cI cZ cO jhm jam Sm u3 e4) ⟨Nat.le_of_ble_eq_true rfl, Nat.le_of_ble_eq_true rfl⟩ (hP.sub [0, 1, 3] rfl) hK hZ hS (va_recv hK hP (ci := 7) (q0 := 0) rfl rfl) hl.1 rfl rfl (Nat.le_of_ble_eq_true rfl) dX8_can_63 ?_
        refine lv_goto (tgt := 70) hx hb dX8_can_66 (by decide) ?_
        cases hf
        exact W.iret hx hb hr (fun t ht9 hW => ⟨⟨_, (), rfl, rfl, by rw [ht9]; exact hP, va_K.moved hW.alike hK, hD⟩, hS.F ht9⟩) hS.2.2 dX8_can_70
    · have hf := itN c1 hf
      refine lv_iload_n hx hb dX8_can_30 rfl (lv_at hl 2 rfl) ?_
      refine lv_aload_n hx hb dX8_can_31 rfl (lv_at hl 0 rfl) ?_
      refine lv_aload_n hx hb dX8_can_32 rfl (lv_at hl 0 rfl) ?_
      refine va_get (D := D) (ci := 7) (v := .ref (jam 7)) (C := RX8) (T := TX8) (N := 31) hx hb ht inX8 hown hK hP 0 rfl rfl 16 (by decide) (ht _ wd3_201) (fun _ h9 => h9) rfl dX8_can_33 ?_
      refine lv_iload_n hx hb dX8_can_36 rfl (lv_at hl 3 rfl) ?_
      obtain ⟨u5, e6, hf⟩ := bdS hf
      refine k_rV (As := [.ref (jam 7), .int x3]) (rest := [.int x2]) hC miX8_noAct mjX8_noAct.1 mjX8_noAct.2 wd4_144 (qX8_noAct l D cI cZ cO jhm jam (jam 7) (16) Sm (Sm.2.1 7) x3 u5 e6) ⟨Nat.le_of_ble_eq_true rfl, Nat.le_of_ble_eq_true rfl⟩ (hP.sub [0, 2, 3] rfl) hK hZ hS (va_recv hK hP (ci := 7) (q0 := 0) rfl rfl) hl.1 rfl rfl (Nat.le_of_ble_eq_true rfl) dX8_can_37 ?_
      refine lv_if_ne (tgt := 49) hx hb dX8_can_40 (by decide) (fun c7 => ?_) (fun c7 => ?_)
      · have hf := itN c7 hf
        refine lv_iconst (v := (0 : Int32)) hx hb dX8_can_49 rfl ?_
        exact hj50 x3 Sm x2 (0 : Int32) hf _ _ _ hP hD hS (lv_sub hl [0, 1, 3] rfl)
      · have hf := itP c7 hf
        refine lv_iconst (v := (1 : Int32)) hx hb dX8_can_43 rfl ?_
        refine lv_iload_n hx hb dX8_can_44 rfl (lv_at hl 3 rfl) ?_
        refine lv_ishl hx hb dX8_can_45 ?_
        refine lv_goto (tgt := 50) hx hb dX8_can_46 (by decide) ?_
        exact hj50 x3 Sm x2 ((1 : Int32) <<< (x3 &&& 31)) hf _ _ _ hP hD hS (lv_sub hl [0, 1, 3] rfl)
  intro H locs hP hS
  refine lv_aload_n hx hb dX8_can_0 rfl (lv_at hl 0 rfl) ?_
  refine lv_iconst (v := (0 : Int32)) hx hb dX8_can_1 rfl ?_
  refine va_put (D := D) (ci := 7) (v := .int (0 : Int32)) (ty := .int) (C := RX8) (T := TX8) (N := 31) hx hb ht inX8 tyX8 tyX8_ok nmX8 hown hK hP hD hS 0 rfl rfl 0 (by decide) (ht _ wd3_185) (fun _ h9 => h9) rfl (tyX8_ok 0 (by decide)) rfl rfl (Nat.le_of_ble_eq_true rfl) dX8_can_2 (fun H locs hP hD hS => ?_)
  have hP : va_P D vwCl (wX8_can cI cZ jhm jam (bI Sm 0 (0 : Int32))) H := hP
  have hD : va_D A (wX8_can cI cZ jhm jam (bI Sm 0 (0 : Int32))) := hD
  refine lv_iload_n hx hb dX8_can_5 rfl (lv_at hl 1 rfl) ?_
  refine lv_i2l hx hb dX8_can_6 rfl ?_
  refine lv_lconst (v := 0) hx hb dX8_can_7 rfl ?_
  refine lv_lconst (v := 1) hx hb dX8_can_8 rfl ?_
  obtain ⟨u8, e9, hf⟩ := bdS hf
  refine k_pS (As := [.long x1.toInt64, .long (0 : Int64), .long (1 : Int64)]) (rest := []) hC miX8_in mjX8_in wd4_44 (qX8_in l x1.toInt64 (0 : Int64) (1 : Int64) u8 e9) ⟨Nat.le_of_ble_eq_true rfl, Nat.le_of_ble_eq_true rfl⟩ hl.1 rfl rfl (Nat.le_of_ble_eq_true rfl) dX8_can_9 ?_
  refine lv_if_ne (tgt := 18) hx hb dX8_can_12 (by decide) (fun c10 => ?_) (fun c10 => ?_)
  · have hf := itN c10 hf
    refine lv_iconst (v := (0 : Int32)) hx hb dX8_can_18 rfl ?_
    refine lv_istore_n (lv' := [(2, .int (0 : Int32)), (0, .ref jhm), (1, .int x1)]) hx hb dX8_can_19 rfl hl (by decide) rfl (fun ls hl => ?_)
    refine lv_iconst (v := (0 : Int32)) hx hb dX8_can_20 rfl ?_
    refine lv_istore_n (lv' := [(3, .int (0 : Int32)), (2, .int (0 : Int32)), (0, .ref jhm), (1, .int x1)]) hx hb dX8_can_21 rfl hl (by decide) rfl (fun ls hl => ?_)
    exact hj22 (0 : Int32) (0 : Int32) (bI Sm 0 (0 : Int32)) hf _ _ _ hP hD hS (lv_sub hl [2, 3, 1, 0] rfl)
  · have hf := itP c10 hf
    refine lv_bipush (v := (-2 : Int32)) hx hb dX8_can_15 rfl ?_
    cases hf
    exact W.iret hx hb hr (fun t ht9 hW => ⟨⟨_, (), rfl, rfl, by rw [ht9]; exact hP, va_K.moved hW.alike hK, hD⟩, hS.F ht9⟩) hS.2.2 dX8_can_17
def sX8_three_4 (x0 : Int32) (k4 : Int32 → Int32 → Option (Int32)) (x1 : Int32) (x2 : Int32) : Option (Int32) := (if x0 ≤ x2 then some x1 else k4 (x1 * (3 : Int32)) (x2 + (1 : Int32)))
def fX8_three (x0 : Int32) : Option (Int32) := lk2 (sX8_three_4 x0) 1000 (1 : Int32) (0 : Int32)
theorem miX8_three : MI yX8_three cX8_three 3 (some .int) 1 := ⟨wd1_8, wd4_190, by decide +kernel⟩
theorem mjX8_three : Cond.static yX8_three ∈ wT := wd4_189
set_option maxHeartbeats 4000000 in
set_option maxRecDepth 100000 in
theorem qX8_three (l : Launch) (x0 : Int32) (res : Int32) (hf : fX8_three x0 = some res) : Met l yX8_three (Cond.code yX8_three cX8_three 3 (some .int) :: wT) (rmF 0 0) (va_Pc [.int x0] (fun _ => True)) (vp_Si (fun r => r = res)) 0 0 (fun _ => False) := by
  refine met_p (by decide) (Nat.le_of_ble_eq_true rfl) ?_
  intro p e s m below meth c hx hb hr hml ht hown hlk ls hl
  have hown : s.vm.findClass "EyeDrinkModel" = some m.cls := hown
  have hl : lv_has ls 3 [(0, .int x0)] := hl
  unfold fX8_three at hf
  have hj4 : ∀ (x1 : Int32) (x2 : Int32), lk2 (sX8_three_4 x0) 1000 x1 x2 = some res → ∀ (ls : Array Slot), lv_has ls 3 [(0, .int x0), (1, .int x1), (2, .int x2)] → W p l e (rmF 0 0) s m ([.int x0] : List Value).toArray below meth c s.heap [] 0 0 (MQ below (vp_Si (fun r => r = res)) ([.int x0] : List Value).toArray s 0 0 (fun _ => False)) (F0 m 4 ls []) := by
    refine lk2_w (fun (x1 : Int32) (x2 : Int32) => ∀ (ls : Array Slot), lv_has ls 3 [(0, .int x0), (1, .int x1), (2, .int x2)] → W p l e (rmF 0 0) s m ([.int x0] : List Value).toArray below meth c s.heap [] 0 0 (MQ below (vp_Si (fun r => r = res)) ([.int x0] : List Value).toArray s 0 0 (fun _ => False)) (F0 m 4 ls [])) ?_ 1000
    intro k4 hk4 x1 x2 hf ls hl
    unfold sX8_three_4 at hf
    refine lv_iload_n hx hb dX8_three_4 rfl (lv_at hl 2 rfl) ?_
    refine lv_iload_n hx hb dX8_three_5 rfl (lv_at hl 0 rfl) ?_
    refine lv_icmp_ge (tgt := 19) hx hb dX8_three_6 (by decide) (fun c1 => ?_) (fun c1 => ?_)
    · have hf := itP c1 hf
      refine lv_iload_n hx hb dX8_three_19 rfl (lv_at hl 1 rfl) ?_
      exact W.iret hx hb hr (fun t ht9 _ => ⟨_, rfl, Option.some.inj hf, ht9⟩) (fun _ h9 => by cases h9) dX8_three_20
    · have hf := itN c1 hf
      refine lv_iload_n hx hb dX8_three_9 rfl (lv_at hl 1 rfl) ?_
      refine lv_iconst (v := (3 : Int32)) hx hb dX8_three_10 rfl ?_
      refine lv_imul hx hb dX8_three_11 ?_
      refine lv_istore_n (lv' := [(1, .int (x1 * (3 : Int32))), (0, .int x0), (2, .int x2)]) hx hb dX8_three_12 rfl hl (by decide) rfl (fun ls hl => ?_)
      refine lv_iinc (v := (x2 + (1 : Int32))) (lv' := [(2, .int (x2 + (1 : Int32))), (1, .int (x1 * (3 : Int32))), (0, .int x0)]) hx hb dX8_three_13 hl (k := 2) rfl rfl (by decide) rfl (fun ls hl => ?_)
      refine lv_goto (tgt := 4) hx hb dX8_three_16 (by decide) ?_
      exact hk4 (x1 * (3 : Int32)) (x2 + (1 : Int32)) hf _ (lv_sub hl [2, 1, 0] rfl)
  refine lv_iconst (v := (1 : Int32)) hx hb dX8_three_0 rfl ?_
  refine lv_istore_n (lv' := [(1, .int (1 : Int32)), (0, .int x0)]) hx hb dX8_three_1 rfl hl (by decide) rfl (fun ls hl => ?_)
  refine lv_iconst (v := (0 : Int32)) hx hb dX8_three_2 rfl ?_
  refine lv_istore_n (lv' := [(2, .int (0 : Int32)), (1, .int (1 : Int32)), (0, .int x0)]) hx hb dX8_three_3 rfl hl (by decide) rfl (fun ls hl => ?_)
  exact hj4 (1 : Int32) (0 : Int32) hf _ (lv_sub hl [2, 1, 0] rfl)
def sX8_ten_4 (x0 : Int32) (k4 : Int32 → Int32 → Option (Int32)) (x1 : Int32) (x2 : Int32) : Option (Int32) := (if x0 ≤ x2 then some x1 else k4 (x1 * (10 : Int32)) (x2 + (1 : Int32)))
def fX8_ten (x0 : Int32) : Option (Int32) := lk2 (sX8_ten_4 x0) 1000 (1 : Int32) (0 : Int32)
theorem miX8_ten : MI yX8_ten cX8_ten 3 (some .int) 1 := ⟨wd1_8, wd4_215, by decide +kernel⟩
theorem mjX8_ten : Cond.static yX8_ten ∈ wT := wd4_214
set_option maxHeartbeats 4000000 in
set_option maxRecDepth 100000 in
theorem qX8_ten (l : Launch) (x0 : Int32) (res : Int32) (hf : fX8_ten x0 = some res) : Met l yX8_ten (Cond.code yX8_ten cX8_ten 3 (some .int) :: wT) (rmF 0 0) (va_Pc [.int x0] (fun _ => True)) (vp_Si (fun r => r = res)) 0 0 (fun _ => False) := by
  refine met_p (by decide) (Nat.le_of_ble_eq_true rfl) ?_
  intro p e s m below meth c hx hb hr hml ht hown hlk ls hl
  have hown : s.vm.findClass "EyeDrinkModel" = some m.cls := hown
  have hl : lv_has ls 3 [(0, .int x0)] := hl
  unfold fX8_ten at hf
  have hj4 : ∀ (x1 : Int32) (x2 : Int32), lk2 (sX8_ten_4 x0) 1000 x1 x2 = some res → ∀ (ls : Array Slot), lv_has ls 3 [(0, .int x0), (1, .int x1), (2, .int x2)] → W p l e (rmF 0 0) s m ([.int x0] : List Value).toArray below meth c s.heap [] 0 0 (MQ below (vp_Si (fun r => r = res)) ([.int x0] : List Value).toArray s 0 0 (fun _ => False)) (F0 m 4 ls []) := by
    refine lk2_w (fun (x1 : Int32) (x2 : Int32) => ∀ (ls : Array Slot), lv_has ls 3 [(0, .int x0), (1, .int x1), (2, .int x2)] → W p l e (rmF 0 0) s m ([.int x0] : List Value).toArray below meth c s.heap [] 0 0 (MQ below (vp_Si (fun r => r = res)) ([.int x0] : List Value).toArray s 0 0 (fun _ => False)) (F0 m 4 ls [])) ?_ 1000
    intro k4 hk4 x1 x2 hf ls hl
    unfold sX8_ten_4 at hf
    refine lv_iload_n hx hb dX8_ten_4 rfl (lv_at hl 2 rfl) ?_
    refine lv_iload_n hx hb dX8_ten_5 rfl (lv_at hl 0 rfl) ?_
    refine lv_icmp_ge (tgt := 20) hx hb dX8_ten_6 (by decide) (fun c1 => ?_) (fun c1 => ?_)
    · have hf := itP c1 hf
      refine lv_iload_n hx hb dX8_ten_20 rfl (lv_at hl 1 rfl) ?_
      exact W.iret hx hb hr (fun t ht9 _ => ⟨_, rfl, Option.some.inj hf, ht9⟩) (fun _ h9 => by cases h9) dX8_ten_21
    · have hf := itN c1 hf
      refine lv_iload_n hx hb dX8_ten_9 rfl (lv_at hl 1 rfl) ?_
      refine lv_bipush (v := (10 : Int32)) hx hb dX8_ten_10 rfl ?_
      refine lv_imul hx hb dX8_ten_12 ?_
      refine lv_istore_n (lv' := [(1, .int (x1 * (10 : Int32))), (0, .int x0), (2, .int x2)]) hx hb dX8_ten_13 rfl hl (by decide) rfl (fun ls hl => ?_)
      refine lv_iinc (v := (x2 + (1 : Int32))) (lv' := [(2, .int (x2 + (1 : Int32))), (1, .int (x1 * (10 : Int32))), (0, .int x0)]) hx hb dX8_ten_14 hl (k := 2) rfl rfl (by decide) rfl (fun ls hl => ?_)
      refine lv_goto (tgt := 4) hx hb dX8_ten_17 (by decide) ?_
      exact hk4 (x1 * (10 : Int32)) (x2 + (1 : Int32)) hf _ (lv_sub hl [2, 1, 0] rfl)
  refine lv_iconst (v := (1 : Int32)) hx hb dX8_ten_0 rfl ?_
  refine lv_istore_n (lv' := [(1, .int (1 : Int32)), (0, .int x0)]) hx hb dX8_ten_1 rfl hl (by decide) rfl (fun ls hl => ?_)
  refine lv_iconst (v := (0 : Int32)) hx hb dX8_ten_2 rfl ?_
  refine lv_istore_n (lv' := [(2, .int (0 : Int32)), (1, .int (1 : Int32)), (0, .int x0)]) hx hb dX8_ten_3 rfl hl (by decide) rfl (fun ls hl => ?_)
  exact hj4 (1 : Int32) (0 : Int32) hf _ (lv_sub hl [2, 1, 0] rfl)
def fX8_knows (x0 : Int32) (x1 : Int32) : Option (Int32) := (fX8_three x1).bind (fun u1 => nzA u1 (some ((x0 / u1) - (x0 / u1) / (3 : Int32) * (3 : Int32))))
theorem miX8_knows : MI yX8_knows cX8_knows 2 (some .int) 2 := ⟨wd1_8, wd4_193, by decide +kernel⟩
theorem mjX8_knows : Cond.static yX8_knows ∈ wT := wd4_192
set_option maxHeartbeats 4000000 in
set_option maxRecDepth 100000 in
theorem qX8_knows (l : Launch) (x0 : Int32) (x1 : Int32) (res : Int32) (hf : fX8_knows x0 x1 = some res) : Met l yX8_knows (Cond.code yX8_knows cX8_knows 2 (some .int) :: wT) (rmF 1 22) (va_Pc [.int x0, .int x1] (fun _ => True)) (vp_Si (fun r => r = res)) 0 0 (fun _ => False) := by
  refine met_p (by decide) (Nat.le_of_ble_eq_true rfl) ?_
  intro p e s m below meth c hx hb hr hml ht hown hlk ls hl
  have hown : s.vm.findClass "EyeDrinkModel" = some m.cls := hown
  have hl : lv_has ls 2 [(0, .int x0), (1, .int x1)] := hl
  have hC : CallFix p m c cX8_knows 2 s ([.int x0, .int x1] : List Value).toArray wT "EyeDrinkModel" := ⟨hx, hb, hml, hown, ht⟩
  unfold fX8_knows at hf
  refine lv_iload_n hx hb dX8_knows_0 rfl (lv_at hl 0 rfl) ?_
  refine lv_iload_n hx hb dX8_knows_1 rfl (lv_at hl 1 rfl) ?_
  obtain ⟨u1, e2, hf⟩ := bdS hf
  refine k_pS (As := [.int x1]) (rest := [.int x0]) hC miX8_three mjX8_three wd4_188 (qX8_three l x1 u1 e2) ⟨Nat.le_of_ble_eq_true rfl, Nat.le_of_ble_eq_true rfl⟩ hl.1 rfl rfl (Nat.le_of_ble_eq_true rfl) dX8_knows_2 ?_
  obtain ⟨z3, hf⟩ := nzA_s hf
  refine lv_idiv hx hb dX8_knows_5 z3 ?_
  refine lv_iconst (v := (3 : Int32)) hx hb dX8_knows_6 rfl ?_
  refine lv_irem hx hb dX8_knows_7 (by decide) ?_
  exact W.iret hx hb hr (fun t ht9 _ => ⟨_, rfl, Option.some.inj hf, ht9⟩) (fun _ h9 => by cases h9) dX8_knows_8
abbrev wX8_codeNow (cI cZ : ClassId) (jhm : Nat) (jam : Nat → Nat) (Sm : Bk) : va_W := [(jhm, .inr (7, [.int (Sm.1 0), .ref (jam 0), .int (Sm.1 1), .int (Sm.1 2), .int (Sm.1 3), .int (Sm.1 4), .int (Sm.1 5), .ref (jam 1), .ref (jam 2), .ref (jam 3), .int (Sm.1 6), .int (Sm.1 7), .int (Sm.1 8), .ref (jam 4), .ref (jam 5), .ref (jam 6), .ref (jam 7), .ref (jam 8), .ref (jam 9), .int (Sm.1 9), .ref (jam 10), .ref (jam 11), .int (Sm.1 10), .ref (jam 12), .ref (jam 13), .long Sm.2.2, .ref (jam 14), .ref (jam 15), .int (Sm.1 11), .int (Sm.1 12), .int (Sm.1 13)])), (jam 2, .inl (cI, 16, .inl (Sm.2.1 2))), (jam 7, .inl (cI, 16, .inl (Sm.2.1 7)))]
def gX8_codeNow_48 (Sm : Bk) (k4 : Int32 → Int32 → Option (Int32)) (x2 : Int32) (y0 : Int32) (y1 : Int32) : Option (Int32) := k4 (y0 + y1) (x2 + (1 : Int32))
def sX8_codeNow_4 (Sm : Bk) (k4 : Int32 → Int32 → Option (Int32)) (x1 : Int32) (x2 : Int32) : Option (Int32) := (if (Sm.1 4) ≤ x2 then some x1 else inB 16 (12 : Int32) ((fX8_has ((Sm.2.1 7) (12 : Int32).toNatClampNeg) x2).bind (fun u3 => (if u3 = 0 then gX8_codeNow_48 Sm k4 x2 x1 (0 : Int32) else (fX8_three x2).bind (fun u6 => inB 16 (((4 : Int32) * x2) + (2 : Int32)) (gX8_codeNow_48 Sm k4 x2 x1 (u6 * ((1 : Int32) + ((Sm.2.1 2) (((4 : Int32) * x2) + (2 : Int32)).toNatClampNeg)))))))))
def fX8_codeNow (Sm : Bk) : Option (Int32) := lk2 (sX8_codeNow_4 Sm) 1000 (0 : Int32) (0 : Int32)
theorem miX8_codeNow : MI yX8_codeNow cX8_codeNow 3 (some .int) 0 := ⟨wd1_8, wd4_187, by decide +kernel⟩
theorem mjX8_codeNow : Cond.instanceMethod yX8_codeNow ∈ wT ∧ Cond.selects yX8_codeNow.cls yX8_codeNow yX8_codeNow ∈ wT := ⟨wd4_186, ws_33⟩
set_option maxHeartbeats 4000000 in
set_option maxRecDepth 100000 in
theorem qX8_codeNow (l : Launch) (D : va_G) (cI cZ cO : ClassId) (jhm : Nat) (jam : Nat → Nat) (Sm : Bk) (res : Int32) (hf : fX8_codeNow Sm = some res) : Met l yX8_codeNow (Cond.code yX8_codeNow cX8_codeNow 3 (some .int) :: wT) (rmF 1 22) (va_Pc [.ref jhm] (cR D (tyL cI cZ cO) (wX8_codeNow cI cZ jhm jam Sm))) (vp_Si (fun r => r = res)) 0 0 (fun _ => False) := by
  refine met_r (by decide) (Nat.le_of_ble_eq_true rfl) ?_
  intro p e s m below meth c hx hb hr hml ht hown hlk ls hl hP hK hZ
  have hS : va_S (fun _ => False) s.heap s.heap [] := va_S.rf
  have hown : s.vm.findClass "EyeDrinkModel" = some m.cls := hown
  have hl : lv_has ls 3 [(0, .ref jhm)] := hl
  have hC : CallFix p m c cX8_codeNow 3 s ([.ref jhm] : List Value).toArray wT "EyeDrinkModel" := ⟨hx, hb, hml, hown, ht⟩
  unfold fX8_codeNow at hf
  have hj4 : ∀ (x1 : Int32) (x2 : Int32), lk2 (sX8_codeNow_4 Sm) 1000 x1 x2 = some res → ∀ (ls : Array Slot), lv_has ls 3 [(0, .ref jhm), (1, .int x1), (2, .int x2)] → W p l e (rmF 1 22) s m ([.ref jhm] : List Value).toArray below meth c s.heap [] 0 0 (MQ below (vp_Si (fun r => r = res)) ([.ref jhm] : List Value).toArray s 0 0 (fun _ => False)) (F0 m 4 ls []) := by
    refine lk2_w (fun (x1 : Int32) (x2 : Int32) => ∀ (ls : Array Slot), lv_has ls 3 [(0, .ref jhm), (1, .int x1), (2, .int x2)] → W p l e (rmF 1 22) s m ([.ref jhm] : List Value).toArray below meth c s.heap [] 0 0 (MQ below (vp_Si (fun r => r = res)) ([.ref jhm] : List Value).toArray s 0 0 (fun _ => False)) (F0 m 4 ls [])) ?_ 1000
    intro k4 hk4 x1 x2 hf ls hl
    unfold sX8_codeNow_4 at hf
    have hj48 : ∀ (x2 : Int32) (y0 : Int32) (y1 : Int32), gX8_codeNow_48 Sm k4 x2 y0 y1 = some res → ∀ (ls : Array Slot), lv_has ls 3 [(0, .ref jhm), (2, .int x2)] → W p l e (rmF 1 22) s m ([.ref jhm] : List Value).toArray below meth c s.heap [] 0 0 (MQ below (vp_Si (fun r => r = res)) ([.ref jhm] : List Value).toArray s 0 0 (fun _ => False)) (F0 m 48 ls [.int y1, .int y0]) := by
      intro x2 y0 y1 hf ls hl
      unfold gX8_codeNow_48 at hf
      refine lv_iadd hx hb dX8_codeNow_48 ?_
      refine lv_istore_n (lv' := [(1, .int (y0 + y1)), (0, .ref jhm), (2, .int x2)]) hx hb dX8_codeNow_49 rfl hl (by decide) rfl (fun ls hl => ?_)
      refine lv_iinc (v := (x2 + (1 : Int32))) (lv' := [(2, .int (x2 + (1 : Int32))), (1, .int (y0 + y1)), (0, .ref jhm)]) hx hb dX8_codeNow_50 hl (k := 2) rfl rfl (by decide) rfl (fun ls hl => ?_)
      refine lv_goto (tgt := 4) hx hb dX8_codeNow_53 (by decide) ?_
      exact hk4 (y0 + y1) (x2 + (1 : Int32)) hf _ (lv_sub hl [2, 1, 0] rfl)
    refine lv_iload_n hx hb dX8_codeNow_4 rfl (lv_at hl 2 rfl) ?_
    refine lv_aload_n hx hb dX8_codeNow_5 rfl (lv_at hl 0 rfl) ?_
    refine va_get (D := D) (ci := 7) (v := .int (Sm.1 4)) (C := RX8) (T := TX8) (N := 31) hx hb ht inX8 hown hK hP 0 rfl rfl 5 (by decide) (ht _ wd3_190) (fun _ h9 => h9) rfl dX8_codeNow_6 ?_
    refine lv_icmp_ge (tgt := 56) hx hb dX8_codeNow_9 (by decide) (fun c1 => ?_) (fun c1 => ?_)
    · have hf := itP c1 hf
      refine lv_iload_n hx hb dX8_codeNow_56 rfl (lv_at hl 1 rfl) ?_
      exact W.iret hx hb hr (fun t ht9 _ => ⟨_, rfl, Option.some.inj hf, ht9⟩) (fun _ h9 => by cases h9) dX8_codeNow_57
    · have hf := itN c1 hf
      refine lv_iload_n hx hb dX8_codeNow_12 rfl (lv_at hl 1 rfl) ?_
      refine lv_aload_n hx hb dX8_codeNow_13 rfl (lv_at hl 0 rfl) ?_
      refine va_get (D := D) (ci := 7) (v := .ref (jam 7)) (C := RX8) (T := TX8) (N := 31) hx hb ht inX8 hown hK hP 0 rfl rfl 16 (by decide) (ht _ wd3_201) (fun _ h9 => h9) rfl dX8_codeNow_14 ?_
      refine lv_bipush (v := (12 : Int32)) hx hb dX8_codeNow_17 rfl ?_
      obtain ⟨h2, hf⟩ := inB_s hf
      refine va_iald (f := (Sm.2.1 7)) (n := 16) hx hb hK hP 2 0 rfl rfl h2 dX8_codeNow_19 ?_
      refine lv_iload_n hx hb dX8_codeNow_20 rfl (lv_at hl 2 rfl) ?_
      obtain ⟨u3, e4, hf⟩ := bdS hf
      refine k_pS (As := [.int ((Sm.2.1 7) (12 : Int32).toNatClampNeg), .int x2]) (rest := [.int x1]) hC miX8_has mjX8_has wd4_108 (qX8_has l ((Sm.2.1 7) (12 : Int32).toNatClampNeg) x2 u3 e4) ⟨Nat.le_of_ble_eq_true rfl, Nat.le_of_ble_eq_true rfl⟩ hl.1 rfl rfl (Nat.le_of_ble_eq_true rfl) dX8_codeNow_21 ?_
      refine lv_if_eq (tgt := 47) hx hb dX8_codeNow_24 (by decide) (fun c5 => ?_) (fun c5 => ?_)
      · have hf := itP c5 hf
        refine lv_iconst (v := (0 : Int32)) hx hb dX8_codeNow_47 rfl ?_
        exact hj48 x2 x1 (0 : Int32) hf _ (lv_sub hl [0, 2] rfl)
      · have hf := itN c5 hf
        refine lv_iload_n hx hb dX8_codeNow_27 rfl (lv_at hl 2 rfl) ?_
        obtain ⟨u6, e7, hf⟩ := bdS hf
        refine k_pS (As := [.int x2]) (rest := [.int x1]) hC miX8_three mjX8_three wd4_188 (qX8_three l x2 u6 e7) ⟨Nat.le_of_ble_eq_true rfl, Nat.le_of_ble_eq_true rfl⟩ hl.1 rfl rfl (Nat.le_of_ble_eq_true rfl) dX8_codeNow_28 ?_
        refine lv_iconst (v := (1 : Int32)) hx hb dX8_codeNow_31 rfl ?_
        refine lv_aload_n hx hb dX8_codeNow_32 rfl (lv_at hl 0 rfl) ?_
        refine va_get (D := D) (ci := 7) (v := .ref (jam 2)) (C := RX8) (T := TX8) (N := 31) hx hb ht inX8 hown hK hP 0 rfl rfl 8 (by decide) (ht _ wd3_193) (fun _ h9 => h9) rfl dX8_codeNow_33 ?_
        refine lv_iconst (v := (4 : Int32)) hx hb dX8_codeNow_36 rfl ?_
        refine lv_iload_n hx hb dX8_codeNow_37 rfl (lv_at hl 2 rfl) ?_
        refine lv_imul hx hb dX8_codeNow_38 ?_
        refine lv_iconst (v := (2 : Int32)) hx hb dX8_codeNow_39 rfl ?_
        refine lv_iadd hx hb dX8_codeNow_40 ?_
        obtain ⟨h8, hf⟩ := inB_s hf
        refine va_iald (f := (Sm.2.1 2)) (n := 16) hx hb hK hP 1 0 rfl rfl h8 dX8_codeNow_41 ?_
        refine lv_iadd hx hb dX8_codeNow_42 ?_
        refine lv_imul hx hb dX8_codeNow_43 ?_
        refine lv_goto (tgt := 48) hx hb dX8_codeNow_44 (by decide) ?_
        exact hj48 x2 x1 (u6 * ((1 : Int32) + ((Sm.2.1 2) (((4 : Int32) * x2) + (2 : Int32)).toNatClampNeg))) hf _ (lv_sub hl [0, 2] rfl)
  refine lv_iconst (v := (0 : Int32)) hx hb dX8_codeNow_0 rfl ?_
  refine lv_istore_n (lv' := [(1, .int (0 : Int32)), (0, .ref jhm)]) hx hb dX8_codeNow_1 rfl hl (by decide) rfl (fun ls hl => ?_)
  refine lv_iconst (v := (0 : Int32)) hx hb dX8_codeNow_2 rfl ?_
  refine lv_istore_n (lv' := [(2, .int (0 : Int32)), (1, .int (0 : Int32)), (0, .ref jhm)]) hx hb dX8_codeNow_3 rfl hl (by decide) rfl (fun ls hl => ?_)
  exact hj4 (0 : Int32) (0 : Int32) hf _ (lv_sub hl [2, 1, 0] rfl)
abbrev wX8_knownBy (cI cZ : ClassId) (jhm : Nat) (jam : Nat → Nat) (Sm : Bk) : va_W := [(jhm, .inr (7, [.int (Sm.1 0), .ref (jam 0), .int (Sm.1 1), .int (Sm.1 2), .int (Sm.1 3), .int (Sm.1 4), .int (Sm.1 5), .ref (jam 1), .ref (jam 2), .ref (jam 3), .int (Sm.1 6), .int (Sm.1 7), .int (Sm.1 8), .ref (jam 4), .ref (jam 5), .ref (jam 6), .ref (jam 7), .ref (jam 8), .ref (jam 9), .int (Sm.1 9), .ref (jam 10), .ref (jam 11), .int (Sm.1 10), .ref (jam 12), .ref (jam 13), .long Sm.2.2, .ref (jam 14), .ref (jam 15), .int (Sm.1 11), .int (Sm.1 12), .int (Sm.1 13)]))]
def gX8_knownBy_28 (Sm : Bk) (x1 : Int32) (k4 : Int32 → Int32 → Option (Int32)) (x3 : Int32) (y0 : Int32) (y1 : Int32) : Option (Int32) := k4 (y0 ||| y1) (x3 + (1 : Int32))
def sX8_knownBy_4 (Sm : Bk) (x1 : Int32) (k4 : Int32 → Int32 → Option (Int32)) (x2 : Int32) (x3 : Int32) : Option (Int32) := (if (Sm.1 4) ≤ x3 then some x2 else (fX8_knows x1 x3).bind (fun u2 => (if u2 = 0 then gX8_knownBy_28 Sm x1 k4 x3 x2 (0 : Int32) else gX8_knownBy_28 Sm x1 k4 x3 x2 ((1 : Int32) <<< (x3 &&& 31)))))
def fX8_knownBy (Sm : Bk) (x1 : Int32) : Option (Int32) := lk2 (sX8_knownBy_4 Sm x1) 1000 (0 : Int32) (0 : Int32)
theorem miX8_knownBy : MI yX8_knownBy cX8_knownBy 4 (some .int) 1 := ⟨wd1_8, wd4_197, by decide +kernel⟩
theorem mjX8_knownBy : Cond.instanceMethod yX8_knownBy ∈ wT ∧ Cond.selects yX8_knownBy.cls yX8_knownBy yX8_knownBy ∈ wT := ⟨wd4_196, ws_34⟩
set_option maxHeartbeats 4000000 in
set_option maxRecDepth 100000 in
theorem qX8_knownBy (l : Launch) (D : va_G) (cI cZ cO : ClassId) (jhm : Nat) (jam : Nat → Nat) (Sm : Bk) (x1 : Int32) (res : Int32) (hf : fX8_knownBy Sm x1 = some res) : Met l yX8_knownBy (Cond.code yX8_knownBy cX8_knownBy 4 (some .int) :: wT) (rmF 2 43) (va_Pc [.ref jhm, .int x1] (cR D (tyL cI cZ cO) (wX8_knownBy cI cZ jhm jam Sm))) (vp_Si (fun r => r = res)) 0 0 (fun _ => False) := by
  refine met_r (by decide) (Nat.le_of_ble_eq_true rfl) ?_
  intro p e s m below meth c hx hb hr hml ht hown hlk ls hl hP hK hZ
  have hS : va_S (fun _ => False) s.heap s.heap [] := va_S.rf
  have hown : s.vm.findClass "EyeDrinkModel" = some m.cls := hown
  have hl : lv_has ls 4 [(0, .ref jhm), (1, .int x1)] := hl
  have hC : CallFix p m c cX8_knownBy 4 s ([.ref jhm, .int x1] : List Value).toArray wT "EyeDrinkModel" := ⟨hx, hb, hml, hown, ht⟩
  unfold fX8_knownBy at hf
  have hj4 : ∀ (x2 : Int32) (x3 : Int32), lk2 (sX8_knownBy_4 Sm x1) 1000 x2 x3 = some res → ∀ (ls : Array Slot), lv_has ls 4 [(0, .ref jhm), (1, .int x1), (2, .int x2), (3, .int x3)] → W p l e (rmF 2 43) s m ([.ref jhm, .int x1] : List Value).toArray below meth c s.heap [] 0 0 (MQ below (vp_Si (fun r => r = res)) ([.ref jhm, .int x1] : List Value).toArray s 0 0 (fun _ => False)) (F0 m 4 ls []) := by
    refine lk2_w (fun (x2 : Int32) (x3 : Int32) => ∀ (ls : Array Slot), lv_has ls 4 [(0, .ref jhm), (1, .int x1), (2, .int x2), (3, .int x3)] → W p l e (rmF 2 43) s m ([.ref jhm, .int x1] : List Value).toArray below meth c s.heap [] 0 0 (MQ below (vp_Si (fun r => r = res)) ([.ref jhm, .int x1] : List Value).toArray s 0 0 (fun _ => False)) (F0 m 4 ls [])) ?_ 1000
    intro k4 hk4 x2 x3 hf ls hl
    unfold sX8_knownBy_4 at hf
    have hj28 : ∀ (x3 : Int32) (y0 : Int32) (y1 : Int32), gX8_knownBy_28 Sm x1 k4 x3 y0 y1 = some res → ∀ (ls : Array Slot), lv_has ls 4 [(0, .ref jhm), (1, .int x1), (3, .int x3)] → W p l e (rmF 2 43) s m ([.ref jhm, .int x1] : List Value).toArray below meth c s.heap [] 0 0 (MQ below (vp_Si (fun r => r = res)) ([.ref jhm, .int x1] : List Value).toArray s 0 0 (fun _ => False)) (F0 m 28 ls [.int y1, .int y0]) := by
      intro x3 y0 y1 hf ls hl
      unfold gX8_knownBy_28 at hf
      refine lv_ior hx hb dX8_knownBy_28 ?_
      refine lv_istore_n (lv' := [(2, .int (y0 ||| y1)), (0, .ref jhm), (1, .int x1), (3, .int x3)]) hx hb dX8_knownBy_29 rfl hl (by decide) rfl (fun ls hl => ?_)
      refine lv_iinc (v := (x3 + (1 : Int32))) (lv' := [(3, .int (x3 + (1 : Int32))), (2, .int (y0 ||| y1)), (0, .ref jhm), (1, .int x1)]) hx hb dX8_knownBy_30 hl (k := 3) rfl rfl (by decide) rfl (fun ls hl => ?_)
      refine lv_goto (tgt := 4) hx hb dX8_knownBy_33 (by decide) ?_
      exact hk4 (y0 ||| y1) (x3 + (1 : Int32)) hf _ (lv_sub hl [2, 3, 1, 0] rfl)
    refine lv_iload_n hx hb dX8_knownBy_4 rfl (lv_at hl 3 rfl) ?_
    refine lv_aload_n hx hb dX8_knownBy_5 rfl (lv_at hl 0 rfl) ?_
    refine va_get (D := D) (ci := 7) (v := .int (Sm.1 4)) (C := RX8) (T := TX8) (N := 31) hx hb ht inX8 hown hK hP 0 rfl rfl 5 (by decide) (ht _ wd3_190) (fun _ h9 => h9) rfl dX8_knownBy_6 ?_
    refine lv_icmp_ge (tgt := 36) hx hb dX8_knownBy_9 (by decide) (fun c1 => ?_) (fun c1 => ?_)
    · have hf := itP c1 hf
      refine lv_iload_n hx hb dX8_knownBy_36 rfl (lv_at hl 2 rfl) ?_
      exact W.iret hx hb hr (fun t ht9 _ => ⟨_, rfl, Option.some.inj hf, ht9⟩) (fun _ h9 => by cases h9) dX8_knownBy_37
    · have hf := itN c1 hf
      refine lv_iload_n hx hb dX8_knownBy_12 rfl (lv_at hl 2 rfl) ?_
      refine lv_iload_n hx hb dX8_knownBy_13 rfl (lv_at hl 1 rfl) ?_
      refine lv_iload_n hx hb dX8_knownBy_14 rfl (lv_at hl 3 rfl) ?_
      obtain ⟨u2, e3, hf⟩ := bdS hf
      refine k_pS (As := [.int x1, .int x3]) (rest := [.int x2]) hC miX8_knows mjX8_knows wd4_191 (qX8_knows l x1 x3 u2 e3) ⟨Nat.le_of_ble_eq_true rfl, Nat.le_of_ble_eq_true rfl⟩ hl.1 rfl rfl (Nat.le_of_ble_eq_true rfl) dX8_knownBy_15 ?_
      refine lv_if_ne (tgt := 25) hx hb dX8_knownBy_18 (by decide) (fun c4 => ?_) (fun c4 => ?_)
      · have hf := itN c4 hf
        refine lv_iconst (v := (1 : Int32)) hx hb dX8_knownBy_25 rfl ?_
        refine lv_iload_n hx hb dX8_knownBy_26 rfl (lv_at hl 3 rfl) ?_
        refine lv_ishl hx hb dX8_knownBy_27 ?_
        exact hj28 x3 x2 ((1 : Int32) <<< (x3 &&& 31)) hf _ (lv_sub hl [0, 1, 3] rfl)
      · have hf := itP c4 hf
        refine lv_iconst (v := (0 : Int32)) hx hb dX8_knownBy_21 rfl ?_
        refine lv_goto (tgt := 28) hx hb dX8_knownBy_22 (by decide) ?_
        exact hj28 x3 x2 (0 : Int32) hf _ (lv_sub hl [0, 1, 3] rfl)
  refine lv_iconst (v := (0 : Int32)) hx hb dX8_knownBy_0 rfl ?_
  refine lv_istore_n (lv' := [(2, .int (0 : Int32)), (0, .ref jhm), (1, .int x1)]) hx hb dX8_knownBy_1 rfl hl (by decide) rfl (fun ls hl => ?_)
  refine lv_iconst (v := (0 : Int32)) hx hb dX8_knownBy_2 rfl ?_
  refine lv_istore_n (lv' := [(3, .int (0 : Int32)), (2, .int (0 : Int32)), (0, .ref jhm), (1, .int x1)]) hx hb dX8_knownBy_3 rfl hl (by decide) rfl (fun ls hl => ?_)
  exact hj4 (0 : Int32) (0 : Int32) hf _ (lv_sub hl [2, 3, 1, 0] rfl)
abbrev wX8_layThere (cI cZ : ClassId) (jhm : Nat) (jam : Nat → Nat) (Sm : Bk) : va_W := [(jhm, .inr (7, [.int (Sm.1 0), .ref (jam 0), .int (Sm.1 1), .int (Sm.1 2), .int (Sm.1 3), .int (Sm.1 4), .int (Sm.1 5), .ref (jam 1), .ref (jam 2), .ref (jam 3), .int (Sm.1 6), .int (Sm.1 7), .int (Sm.1 8), .ref (jam 4), .ref (jam 5), .ref (jam 6), .ref (jam 7), .ref (jam 8), .ref (jam 9), .int (Sm.1 9), .ref (jam 10), .ref (jam 11), .int (Sm.1 10), .ref (jam 12), .ref (jam 13), .long Sm.2.2, .ref (jam 14), .ref (jam 15), .int (Sm.1 11), .int (Sm.1 12), .int (Sm.1 13)])), (jam 2, .inl (cI, 16, .inl (Sm.2.1 2))), (jam 3, .inl (cI, 20, .inl (Sm.2.1 3))), (jam 7, .inl (cI, 16, .inl (Sm.2.1 7))), (jam 15, .inl (cI, 4, .inl (Sm.2.1 15)))]
def gX8_layThere_167 (x1 : Int32) (x2 : Int32) (k107 : Int32 → Bk → Option (Bk)) (x4 : Int32) (Sm : Bk) (y1 : Int32) (y2 : Int32) (y3 : Int32) : Option (Bk) := nmV (y2 - y3) (fun v1 => inB 4 y1 (nmV y1.toNatClampNeg (fun j3 => k107 (x4 + (1 : Int32)) (bW Sm 15 j3 v1))))
def sX8_layThere_107 (x1 : Int32) (x2 : Int32) (k107 : Int32 → Bk → Option (Bk)) (x4 : Int32) (Sm : Bk) : Option (Bk) := (if (Sm.1 5) ≤ x4 then some Sm else inB 20 (((5 : Int32) * x4) + (3 : Int32)) (inB 4 ((Sm.2.1 3) (((5 : Int32) * x4) + (3 : Int32)).toNatClampNeg) (inB 16 (13 : Int32) ((fX8_has (x2 &&& (((Sm.2.1 7) (13 : Int32).toNatClampNeg) ^^^ (-1 : Int32))) x4).bind (fun u8 => (if u8 = 0 then gX8_layThere_167 x1 x2 k107 x4 Sm ((Sm.2.1 3) (((5 : Int32) * x4) + (3 : Int32)).toNatClampNeg) ((Sm.2.1 15) ((Sm.2.1 3) (((5 : Int32) * x4) + (3 : Int32)).toNatClampNeg).toNatClampNeg) (0 : Int32) else inB 20 (((5 : Int32) * x4) + (4 : Int32)) (gX8_layThere_167 x1 x2 k107 x4 Sm ((Sm.2.1 3) (((5 : Int32) * x4) + (3 : Int32)).toNatClampNeg) ((Sm.2.1 15) ((Sm.2.1 3) (((5 : Int32) * x4) + (3 : Int32)).toNatClampNeg).toNatClampNeg) ((Sm.2.1 3) (((5 : Int32) * x4) + (4 : Int32)).toNatClampNeg))))))))
def gX8_layThere_96 (x1 : Int32) (x2 : Int32) (k48 : Int32 → Int32 → Bk → Option (Bk)) (x3 : Int32) (x4 : Int32) (Sm : Bk) (y1 : Int32) (y2 : Int32) (y3 : Int32) : Option (Bk) := nmV (y2 - y3) (fun v12 => inB 4 y1 (nmV y1.toNatClampNeg (fun j14 => k48 x3 (x4 + (1 : Int32)) (bW Sm 15 j14 v12))))
def sX8_layThere_48 (x1 : Int32) (x2 : Int32) (k48 : Int32 → Int32 → Bk → Option (Bk)) (x3 : Int32) (x4 : Int32) (Sm : Bk) : Option (Bk) := (if (Sm.1 4) ≤ x4 then lk2 (sX8_layThere_107 x1 x2) 1000 (0 : Int32) Sm else inB 16 ((4 : Int32) * x4) (inB 4 ((Sm.2.1 2) ((4 : Int32) * x4).toNatClampNeg) ((fX8_has x3 x4).bind (fun u18 => (if u18 = 0 then gX8_layThere_96 x1 x2 k48 x3 x4 Sm ((Sm.2.1 2) ((4 : Int32) * x4).toNatClampNeg) ((Sm.2.1 15) ((Sm.2.1 2) ((4 : Int32) * x4).toNatClampNeg).toNatClampNeg) (0 : Int32) else inB 16 (((4 : Int32) * x4) + (1 : Int32)) (gX8_layThere_96 x1 x2 k48 x3 x4 Sm ((Sm.2.1 2) ((4 : Int32) * x4).toNatClampNeg) ((Sm.2.1 15) ((Sm.2.1 2) ((4 : Int32) * x4).toNatClampNeg).toNatClampNeg) ((Sm.2.1 2) (((4 : Int32) * x4) + (1 : Int32)).toNatClampNeg)))))))
def sX8_layThere_19 (x1 : Int32) (x2 : Int32) (k19 : Int32 → Int32 → Bk → Option (Bk)) (x3 : Int32) (x4 : Int32) (Sm : Bk) : Option (Bk) := (if (4 : Int32) ≤ x4 then lk3 (sX8_layThere_48 x1 x2) 1000 x3 (0 : Int32) Sm else inB 16 x4 (nmV ((Sm.2.1 7) x4.toNatClampNeg) (fun v24 => inB 4 x4 (nmV x4.toNatClampNeg (fun j26 => k19 x3 (x4 + (1 : Int32)) (bW Sm 15 j26 v24))))))
def fX8_layThere (Sm : Bk) (x1 : Int32) (x2 : Int32) : Option (Bk) := (fX8_knownBy Sm x1).bind (fun u27 => inB 16 (12 : Int32) (lk3 (sX8_layThere_19 x1 x2) 1000 (u27 &&& (((Sm.2.1 7) (12 : Int32).toNatClampNeg) ^^^ (-1 : Int32))) (0 : Int32) Sm))
theorem miX8_layThere : MI yX8_layThere cX8_layThere 5 none 2 := ⟨wd1_8, wd4_208, by decide +kernel⟩
theorem mjX8_layThere : Cond.instanceMethod yX8_layThere ∈ wT ∧ Cond.selects yX8_layThere.cls yX8_layThere yX8_layThere ∈ wT := ⟨wd4_207, ws_36⟩
set_option maxHeartbeats 4000000 in
set_option maxRecDepth 100000 in
theorem qX8_layThere (l : Launch) (D : va_G) (cI cZ cO : ClassId) (jhm : Nat) (jam : Nat → Nat) (Sm : Bk) (x1 : Int32) (x2 : Int32) (sz : Nat) (res : Bk) (hf : fX8_layThere Sm x1 x2 = some res) : Met l yX8_layThere (Cond.code yX8_layThere cX8_layThere 5 none :: wT) (rmF 3 66) (va_Pc [.ref jhm, .int x1, .int x2] (cW D (tyL cI cZ cO) (wX8_layThere cI cZ jhm jam Sm) sz)) (va_Qv (S := Unit) (fun _ => True) (fun _ => qW D (tyL cI cZ cO) (va_A (wX8_layThere cI cZ jhm jam Sm) sz) (wX8_layThere cI cZ jhm jam res)) (va_A (wX8_layThere cI cZ jhm jam Sm) sz)) 0 0 (va_A (wX8_layThere cI cZ jhm jam Sm) sz) := by
  refine met_w (by decide) (Nat.le_of_ble_eq_true rfl) ?_
  intro p e s m below meth c hx hb hr hml ht hown hlk ls hl hsz hP hK hD0 hZ
  subst hsz
  have hD := hD0.self (sz := s.heap.size)
  generalize hAe : va_A (wX8_layThere cI cZ jhm jam Sm) s.heap.size = A at hD hZ ⊢
  have hA : ∀ q : Nat, s.heap.size ≤ q → A q := fun q h => by rw [← hAe]; exact Or.inr h
  have hS : va_S A s.heap s.heap [] := va_S.rf
  have hown : s.vm.findClass "EyeDrinkModel" = some m.cls := hown
  have hl : lv_has ls 5 [(0, .ref jhm), (1, .int x1), (2, .int x2)] := hl
  have hC : CallFix p m c cX8_layThere 5 s ([.ref jhm, .int x1, .int x2] : List Value).toArray wT "EyeDrinkModel" := ⟨hx, hb, hml, hown, ht⟩
  unfold fX8_layThere at hf
  suffices hgo : ∀ (H : Heap) (locs : List Loc), va_P D vwCl (wX8_layThere cI cZ jhm jam Sm) H → va_S A s.heap H locs → W p l e (rmF 3 66) s m ([.ref jhm, .int x1, .int x2] : List Value).toArray below meth c H locs 0 0 (MQ below (va_Qv (S := Unit) (fun _ => True) (fun _ => qW D (tyL cI cZ cO) A (wX8_layThere cI cZ jhm jam res)) A) ([.ref jhm, .int x1, .int x2] : List Value).toArray s 0 0 A) (F0 m 0 ls []) from hgo s.heap [] hP hS
  have hj107 : ∀ (x4 : Int32) (Sm : Bk), lk2 (sX8_layThere_107 x1 x2) 1000 x4 Sm = some res → ∀ (H : Heap) (locs : List Loc) (ls : Array Slot), va_P D vwCl (wX8_layThere cI cZ jhm jam Sm) H → va_D A (wX8_layThere cI cZ jhm jam Sm) → va_S A s.heap H locs → lv_has ls 5 [(0, .ref jhm), (2, .int x2), (4, .int x4)] → W p l e (rmF 3 66) s m ([.ref jhm, .int x1, .int x2] : List Value).toArray below meth c H locs 0 0 (MQ below (va_Qv (S := Unit) (fun _ => True) (fun _ => qW D (tyL cI cZ cO) A (wX8_layThere cI cZ jhm jam res)) A) ([.ref jhm, .int x1, .int x2] : List Value).toArray s 0 0 A) (F0 m 107 ls []) := by
    refine lk2_w (fun (x4 : Int32) (Sm : Bk) => ∀ (H : Heap) (locs : List Loc) (ls : Array Slot), va_P D vwCl (wX8_layThere cI cZ jhm jam Sm) H → va_D A (wX8_layThere cI cZ jhm jam Sm) → va_S A s.heap H locs → lv_has ls 5 [(0, .ref jhm), (2, .int x2), (4, .int x4)] → W p l e (rmF 3 66) s m ([.ref jhm, .int x1, .int x2] : List Value).toArray below meth c H locs 0 0 (MQ below (va_Qv (S := Unit) (fun _ => True) (fun _ => qW D (tyL cI cZ cO) A (wX8_layThere cI cZ jhm jam res)) A) ([.ref jhm, .int x1, .int x2] : List Value).toArray s 0 0 A) (F0 m 107 ls [])) ?_ 1000
    intro k107 hk107 x4 Sm hf H locs ls hP hD hS hl
    unfold sX8_layThere_107 at hf
    have hj167 : ∀ (x4 : Int32) (Sm : Bk) (y1 : Int32) (y2 : Int32) (y3 : Int32), gX8_layThere_167 x1 x2 k107 x4 Sm y1 y2 y3 = some res → ∀ (H : Heap) (locs : List Loc) (ls : Array Slot), va_P D vwCl (wX8_layThere cI cZ jhm jam Sm) H → va_D A (wX8_layThere cI cZ jhm jam Sm) → va_S A s.heap H locs → lv_has ls 5 [(0, .ref jhm), (2, .int x2), (4, .int x4)] → W p l e (rmF 3 66) s m ([.ref jhm, .int x1, .int x2] : List Value).toArray below meth c H locs 0 0 (MQ below (va_Qv (S := Unit) (fun _ => True) (fun _ => qW D (tyL cI cZ cO) A (wX8_layThere cI cZ jhm jam res)) A) ([.ref jhm, .int x1, .int x2] : List Value).toArray s 0 0 A) (F0 m 167 ls [.int y3, .int y2, .int y1, .ref (jam 15)]) := by
      intro x4 Sm y1 y2 y3 hf H locs ls hP hD hS hl
      unfold gX8_layThere_167 at hf
      refine lv_isub hx hb dX8_layThere_167 ?_
      obtain ⟨v1, ev1, hf⟩ := nmV_s hf
      rw [← ev1]
      obtain ⟨h2, hf⟩ := inB_s hf
      obtain ⟨j3, ej3, hf⟩ := nmV_s hf
      refine va_iast (f := (Sm.2.1 15)) (n := 4) hx hb hK hP hD hS 4 0 rfl rfl h2 dX8_layThere_168 (fun H locs hP hD hS => ?_)
      rw [← ej3] at hP hD
      have hP : va_P D vwCl (wX8_layThere cI cZ jhm jam (bW Sm 15 j3 v1)) H := hP
      have hD : va_D A (wX8_layThere cI cZ jhm jam (bW Sm 15 j3 v1)) := hD
      refine lv_iinc (v := (x4 + (1 : Int32))) (lv' := [(4, .int (x4 + (1 : Int32))), (0, .ref jhm), (2, .int x2)]) hx hb dX8_layThere_169 hl (k := 2) rfl rfl (by decide) rfl (fun ls hl => ?_)
      refine lv_goto (tgt := 107) hx hb dX8_layThere_172 (by decide) ?_
      exact hk107 (x4 + (1 : Int32)) (bW Sm 15 j3 v1) hf _ _ _ hP hD hS (lv_sub hl [1, 2, 0] rfl)
    refine lv_iload hx hb dX8_layThere_107 (lv_at hl 2 rfl) ?_
    refine lv_aload_n hx hb dX8_layThere_109 rfl (lv_at hl 0 rfl) ?_
    refine va_get (D := D) (ci := 7) (v := .int (Sm.1 5)) (C := RX8) (T := TX8) (N := 31) hx hb ht inX8 hown hK hP 0 rfl rfl 6 (by decide) (ht _ wd3_191) (fun _ h9 => h9) rfl dX8_layThere_110 ?_
    refine lv_icmp_ge (tgt := 175) hx hb dX8_layThere_113 (by decide) (fun c4 => ?_) (fun c4 => ?_)
    · have hf := itP c4 hf
      cases hf
      exact W.vret hx hb hr (fun t ht9 hW => ⟨⟨(), rfl, trivial, by rw [ht9]; exact hP, va_K.moved hW.alike hK, hD⟩, hS.F ht9⟩) hS.2.2 dX8_layThere_175
    · have hf := itN c4 hf
      refine lv_aload_n hx hb dX8_layThere_116 rfl (lv_at hl 0 rfl) ?_
      refine va_get (D := D) (ci := 7) (v := .ref (jam 15)) (C := RX8) (T := TX8) (N := 31) hx hb ht inX8 hown hK hP 0 rfl rfl 27 (by decide) (ht _ wd3_212) (fun _ h9 => h9) rfl dX8_layThere_117 ?_
      refine lv_aload_n hx hb dX8_layThere_120 rfl (lv_at hl 0 rfl) ?_
      refine va_get (D := D) (ci := 7) (v := .ref (jam 3)) (C := RX8) (T := TX8) (N := 31) hx hb ht inX8 hown hK hP 0 rfl rfl 9 (by decide) (ht _ wd3_194) (fun _ h9 => h9) rfl dX8_layThere_121 ?_
      refine lv_iconst (v := (5 : Int32)) hx hb dX8_layThere_124 rfl ?_
      refine lv_iload hx hb dX8_layThere_125 (lv_at hl 2 rfl) ?_
      refine lv_imul hx hb dX8_layThere_127 ?_
      refine lv_iconst (v := (3 : Int32)) hx hb dX8_layThere_128 rfl ?_
      refine lv_iadd hx hb dX8_layThere_129 ?_
      obtain ⟨h5, hf⟩ := inB_s hf
      refine va_iald (f := (Sm.2.1 3)) (n := 20) hx hb hK hP 2 0 rfl rfl h5 dX8_layThere_130 ?_
      refine lv_dup2_11 hx hb dX8_layThere_131 rfl rfl ?_
      obtain ⟨h6, hf⟩ := inB_s hf
      refine va_iald (f := (Sm.2.1 15)) (n := 4) hx hb hK hP 4 0 rfl rfl h6 dX8_layThere_132 ?_
      refine lv_iload_n hx hb dX8_layThere_133 rfl (lv_at hl 1 rfl) ?_
      refine lv_aload_n hx hb dX8_layThere_134 rfl (lv_at hl 0 rfl) ?_
      refine va_get (D := D) (ci := 7) (v := .ref (jam 7)) (C := RX8) (T := TX8) (N := 31) hx hb ht inX8 hown hK hP 0 rfl rfl 16 (by decide) (ht _ wd3_201) (fun _ h9 => h9) rfl dX8_layThere_135 ?_
      refine lv_bipush (v := (13 : Int32)) hx hb dX8_layThere_138 rfl ?_
      obtain ⟨h7, hf⟩ := inB_s hf
      refine va_iald (f := (Sm.2.1 7)) (n := 16) hx hb hK hP 3 0 rfl rfl h7 dX8_layThere_140 ?_
      refine lv_iconst (v := (-1 : Int32)) hx hb dX8_layThere_141 rfl ?_
      refine lv_ixor hx hb dX8_layThere_142 ?_
      refine lv_iand hx hb dX8_layThere_143 ?_
      refine lv_iload hx hb dX8_layThere_144 (lv_at hl 2 rfl) ?_
      obtain ⟨u8, e9, hf⟩ := bdS hf
      refine k_pS (As := [.int (x2 &&& (((Sm.2.1 7) (13 : Int32).toNatClampNeg) ^^^ (-1 : Int32))), .int x4]) (rest := [.int ((Sm.2.1 15) ((Sm.2.1 3) (((5 : Int32) * x4) + (3 : Int32)).toNatClampNeg).toNatClampNeg), .int ((Sm.2.1 3) (((5 : Int32) * x4) + (3 : Int32)).toNatClampNeg), .ref (jam 15)]) hC miX8_has mjX8_has wd4_108 (qX8_has l (x2 &&& (((Sm.2.1 7) (13 : Int32).toNatClampNeg) ^^^ (-1 : Int32))) x4 u8 e9) ⟨Nat.le_of_ble_eq_true rfl, Nat.le_of_ble_eq_true rfl⟩ hl.1 rfl rfl (Nat.le_of_ble_eq_true rfl) dX8_layThere_146 ?_
      refine lv_if_eq (tgt := 166) hx hb dX8_layThere_149 (by decide) (fun c10 => ?_) (fun c10 => ?_)
      · have hf := itP c10 hf
        refine lv_iconst (v := (0 : Int32)) hx hb dX8_layThere_166 rfl ?_
        exact hj167 x4 Sm ((Sm.2.1 3) (((5 : Int32) * x4) + (3 : Int32)).toNatClampNeg) ((Sm.2.1 15) ((Sm.2.1 3) (((5 : Int32) * x4) + (3 : Int32)).toNatClampNeg).toNatClampNeg) (0 : Int32) hf _ _ _ hP hD hS (lv_sub hl [0, 1, 2] rfl)
      · have hf := itN c10 hf
        refine lv_aload_n hx hb dX8_layThere_152 rfl (lv_at hl 0 rfl) ?_
        refine va_get (D := D) (ci := 7) (v := .ref (jam 3)) (C := RX8) (T := TX8) (N := 31) hx hb ht inX8 hown hK hP 0 rfl rfl 9 (by decide) (ht _ wd3_194) (fun _ h9 => h9) rfl dX8_layThere_153 ?_
        refine lv_iconst (v := (5 : Int32)) hx hb dX8_layThere_156 rfl ?_
        refine lv_iload hx hb dX8_layThere_157 (lv_at hl 2 rfl) ?_
        refine lv_imul hx hb dX8_layThere_159 ?_
        refine lv_iconst (v := (4 : Int32)) hx hb dX8_layThere_160 rfl ?_
        refine lv_iadd hx hb dX8_layThere_161 ?_
        obtain ⟨h11, hf⟩ := inB_s hf
        refine va_iald (f := (Sm.2.1 3)) (n := 20) hx hb hK hP 2 0 rfl rfl h11 dX8_layThere_162 ?_
        refine lv_goto (tgt := 167) hx hb dX8_layThere_163 (by decide) ?_
        exact hj167 x4 Sm ((Sm.2.1 3) (((5 : Int32) * x4) + (3 : Int32)).toNatClampNeg) ((Sm.2.1 15) ((Sm.2.1 3) (((5 : Int32) * x4) + (3 : Int32)).toNatClampNeg).toNatClampNeg) ((Sm.2.1 3) (((5 : Int32) * x4) + (4 : Int32)).toNatClampNeg) hf _ _ _ hP hD hS (lv_sub hl [0, 1, 2] rfl)
  have hj48 : ∀ (x3 : Int32) (x4 : Int32) (Sm : Bk), lk3 (sX8_layThere_48 x1 x2) 1000 x3 x4 Sm = some res → ∀ (H : Heap) (locs : List Loc) (ls : Array Slot), va_P D vwCl (wX8_layThere cI cZ jhm jam Sm) H → va_D A (wX8_layThere cI cZ jhm jam Sm) → va_S A s.heap H locs → lv_has ls 5 [(0, .ref jhm), (2, .int x2), (3, .int x3), (4, .int x4)] → W p l e (rmF 3 66) s m ([.ref jhm, .int x1, .int x2] : List Value).toArray below meth c H locs 0 0 (MQ below (va_Qv (S := Unit) (fun _ => True) (fun _ => qW D (tyL cI cZ cO) A (wX8_layThere cI cZ jhm jam res)) A) ([.ref jhm, .int x1, .int x2] : List Value).toArray s 0 0 A) (F0 m 48 ls []) := by
    refine lk3_w (fun (x3 : Int32) (x4 : Int32) (Sm : Bk) => ∀ (H : Heap) (locs : List Loc) (ls : Array Slot), va_P D vwCl (wX8_layThere cI cZ jhm jam Sm) H → va_D A (wX8_layThere cI cZ jhm jam Sm) → va_S A s.heap H locs → lv_has ls 5 [(0, .ref jhm), (2, .int x2), (3, .int x3), (4, .int x4)] → W p l e (rmF 3 66) s m ([.ref jhm, .int x1, .int x2] : List Value).toArray below meth c H locs 0 0 (MQ below (va_Qv (S := Unit) (fun _ => True) (fun _ => qW D (tyL cI cZ cO) A (wX8_layThere cI cZ jhm jam res)) A) ([.ref jhm, .int x1, .int x2] : List Value).toArray s 0 0 A) (F0 m 48 ls [])) ?_ 1000
    intro k48 hk48 x3 x4 Sm hf H locs ls hP hD hS hl
    unfold sX8_layThere_48 at hf
    have hj96 : ∀ (x3 : Int32) (x4 : Int32) (Sm : Bk) (y1 : Int32) (y2 : Int32) (y3 : Int32), gX8_layThere_96 x1 x2 k48 x3 x4 Sm y1 y2 y3 = some res → ∀ (H : Heap) (locs : List Loc) (ls : Array Slot), va_P D vwCl (wX8_layThere cI cZ jhm jam Sm) H → va_D A (wX8_layThere cI cZ jhm jam Sm) → va_S A s.heap H locs → lv_has ls 5 [(0, .ref jhm), (2, .int x2), (3, .int x3), (4, .int x4)] → W p l e (rmF 3 66) s m ([.ref jhm, .int x1, .int x2] : List Value).toArray below meth c H locs 0 0 (MQ below (va_Qv (S := Unit) (fun _ => True) (fun _ => qW D (tyL cI cZ cO) A (wX8_layThere cI cZ jhm jam res)) A) ([.ref jhm, .int x1, .int x2] : List Value).toArray s 0 0 A) (F0 m 96 ls [.int y3, .int y2, .int y1, .ref (jam 15)]) := by
      intro x3 x4 Sm y1 y2 y3 hf H locs ls hP hD hS hl
      unfold gX8_layThere_96 at hf
      refine lv_isub hx hb dX8_layThere_96 ?_
      obtain ⟨v12, ev12, hf⟩ := nmV_s hf
      rw [← ev12]
      obtain ⟨h13, hf⟩ := inB_s hf
      obtain ⟨j14, ej14, hf⟩ := nmV_s hf
      refine va_iast (f := (Sm.2.1 15)) (n := 4) hx hb hK hP hD hS 4 0 rfl rfl h13 dX8_layThere_97 (fun H locs hP hD hS => ?_)
      rw [← ej14] at hP hD
      have hP : va_P D vwCl (wX8_layThere cI cZ jhm jam (bW Sm 15 j14 v12)) H := hP
      have hD : va_D A (wX8_layThere cI cZ jhm jam (bW Sm 15 j14 v12)) := hD
      refine lv_iinc (v := (x4 + (1 : Int32))) (lv' := [(4, .int (x4 + (1 : Int32))), (0, .ref jhm), (2, .int x2), (3, .int x3)]) hx hb dX8_layThere_98 hl (k := 3) rfl rfl (by decide) rfl (fun ls hl => ?_)
      refine lv_goto (tgt := 48) hx hb dX8_layThere_101 (by decide) ?_
      exact hk48 x3 (x4 + (1 : Int32)) (bW Sm 15 j14 v12) hf _ _ _ hP hD hS (lv_sub hl [1, 2, 3, 0] rfl)
    refine lv_iload hx hb dX8_layThere_48 (lv_at hl 3 rfl) ?_
    refine lv_aload_n hx hb dX8_layThere_50 rfl (lv_at hl 0 rfl) ?_
    refine va_get (D := D) (ci := 7) (v := .int (Sm.1 4)) (C := RX8) (T := TX8) (N := 31) hx hb ht inX8 hown hK hP 0 rfl rfl 5 (by decide) (ht _ wd3_190) (fun _ h9 => h9) rfl dX8_layThere_51 ?_
    refine lv_icmp_ge (tgt := 104) hx hb dX8_layThere_54 (by decide) (fun c15 => ?_) (fun c15 => ?_)
    · have hf := itP c15 hf
      refine lv_iconst (v := (0 : Int32)) hx hb dX8_layThere_104 rfl ?_
      refine lv_istore (lv' := [(4, .int (0 : Int32)), (0, .ref jhm), (2, .int x2), (3, .int x3)]) hx hb dX8_layThere_105 hl (by decide) rfl (fun ls hl => ?_)
      exact hj107 (0 : Int32) Sm hf _ _ _ hP hD hS (lv_sub hl [1, 2, 0] rfl)
    · have hf := itN c15 hf
      refine lv_aload_n hx hb dX8_layThere_57 rfl (lv_at hl 0 rfl) ?_
      refine va_get (D := D) (ci := 7) (v := .ref (jam 15)) (C := RX8) (T := TX8) (N := 31) hx hb ht inX8 hown hK hP 0 rfl rfl 27 (by decide) (ht _ wd3_212) (fun _ h9 => h9) rfl dX8_layThere_58 ?_
      refine lv_aload_n hx hb dX8_layThere_61 rfl (lv_at hl 0 rfl) ?_
      refine va_get (D := D) (ci := 7) (v := .ref (jam 2)) (C := RX8) (T := TX8) (N := 31) hx hb ht inX8 hown hK hP 0 rfl rfl 8 (by decide) (ht _ wd3_193) (fun _ h9 => h9) rfl dX8_layThere_62 ?_
      refine lv_iconst (v := (4 : Int32)) hx hb dX8_layThere_65 rfl ?_
      refine lv_iload hx hb dX8_layThere_66 (lv_at hl 3 rfl) ?_
      refine lv_imul hx hb dX8_layThere_68 ?_
      obtain ⟨h16, hf⟩ := inB_s hf
      refine va_iald (f := (Sm.2.1 2)) (n := 16) hx hb hK hP 1 0 rfl rfl h16 dX8_layThere_69 ?_
      refine lv_dup2_11 hx hb dX8_layThere_70 rfl rfl ?_
      obtain ⟨h17, hf⟩ := inB_s hf
      refine va_iald (f := (Sm.2.1 15)) (n := 4) hx hb hK hP 4 0 rfl rfl h17 dX8_layThere_71 ?_
      refine lv_iload_n hx hb dX8_layThere_72 rfl (lv_at hl 2 rfl) ?_
      refine lv_iload hx hb dX8_layThere_73 (lv_at hl 3 rfl) ?_
      obtain ⟨u18, e19, hf⟩ := bdS hf
      refine k_pS (As := [.int x3, .int x4]) (rest := [.int ((Sm.2.1 15) ((Sm.2.1 2) ((4 : Int32) * x4).toNatClampNeg).toNatClampNeg), .int ((Sm.2.1 2) ((4 : Int32) * x4).toNatClampNeg), .ref (jam 15)]) hC miX8_has mjX8_has wd4_108 (qX8_has l x3 x4 u18 e19) ⟨Nat.le_of_ble_eq_true rfl, Nat.le_of_ble_eq_true rfl⟩ hl.1 rfl rfl (Nat.le_of_ble_eq_true rfl) dX8_layThere_75 ?_
      refine lv_if_eq (tgt := 95) hx hb dX8_layThere_78 (by decide) (fun c20 => ?_) (fun c20 => ?_)
      · have hf := itP c20 hf
        refine lv_iconst (v := (0 : Int32)) hx hb dX8_layThere_95 rfl ?_
        exact hj96 x3 x4 Sm ((Sm.2.1 2) ((4 : Int32) * x4).toNatClampNeg) ((Sm.2.1 15) ((Sm.2.1 2) ((4 : Int32) * x4).toNatClampNeg).toNatClampNeg) (0 : Int32) hf _ _ _ hP hD hS (lv_sub hl [0, 1, 2, 3] rfl)
      · have hf := itN c20 hf
        refine lv_aload_n hx hb dX8_layThere_81 rfl (lv_at hl 0 rfl) ?_
        refine va_get (D := D) (ci := 7) (v := .ref (jam 2)) (C := RX8) (T := TX8) (N := 31) hx hb ht inX8 hown hK hP 0 rfl rfl 8 (by decide) (ht _ wd3_193) (fun _ h9 => h9) rfl dX8_layThere_82 ?_
        refine lv_iconst (v := (4 : Int32)) hx hb dX8_layThere_85 rfl ?_
        refine lv_iload hx hb dX8_layThere_86 (lv_at hl 3 rfl) ?_
        refine lv_imul hx hb dX8_layThere_88 ?_
        refine lv_iconst (v := (1 : Int32)) hx hb dX8_layThere_89 rfl ?_
        refine lv_iadd hx hb dX8_layThere_90 ?_
        obtain ⟨h21, hf⟩ := inB_s hf
        refine va_iald (f := (Sm.2.1 2)) (n := 16) hx hb hK hP 1 0 rfl rfl h21 dX8_layThere_91 ?_
        refine lv_goto (tgt := 96) hx hb dX8_layThere_92 (by decide) ?_
        exact hj96 x3 x4 Sm ((Sm.2.1 2) ((4 : Int32) * x4).toNatClampNeg) ((Sm.2.1 15) ((Sm.2.1 2) ((4 : Int32) * x4).toNatClampNeg).toNatClampNeg) ((Sm.2.1 2) (((4 : Int32) * x4) + (1 : Int32)).toNatClampNeg) hf _ _ _ hP hD hS (lv_sub hl [0, 1, 2, 3] rfl)
  have hj19 : ∀ (x3 : Int32) (x4 : Int32) (Sm : Bk), lk3 (sX8_layThere_19 x1 x2) 1000 x3 x4 Sm = some res → ∀ (H : Heap) (locs : List Loc) (ls : Array Slot), va_P D vwCl (wX8_layThere cI cZ jhm jam Sm) H → va_D A (wX8_layThere cI cZ jhm jam Sm) → va_S A s.heap H locs → lv_has ls 5 [(0, .ref jhm), (2, .int x2), (3, .int x3), (4, .int x4)] → W p l e (rmF 3 66) s m ([.ref jhm, .int x1, .int x2] : List Value).toArray below meth c H locs 0 0 (MQ below (va_Qv (S := Unit) (fun _ => True) (fun _ => qW D (tyL cI cZ cO) A (wX8_layThere cI cZ jhm jam res)) A) ([.ref jhm, .int x1, .int x2] : List Value).toArray s 0 0 A) (F0 m 19 ls []) := by
    refine lk3_w (fun (x3 : Int32) (x4 : Int32) (Sm : Bk) => ∀ (H : Heap) (locs : List Loc) (ls : Array Slot), va_P D vwCl (wX8_layThere cI cZ jhm jam Sm) H → va_D A (wX8_layThere cI cZ jhm jam Sm) → va_S A s.heap H locs → lv_has ls 5 [(0, .ref jhm), (2, .int x2), (3, .int x3), (4, .int x4)] → W p l e (rmF 3 66) s m ([.ref jhm, .int x1, .int x2] : List Value).toArray below meth c H locs 0 0 (MQ below (va_Qv (S := Unit) (fun _ => True) (fun _ => qW D (tyL cI cZ cO) A (wX8_layThere cI cZ jhm jam res)) A) ([.ref jhm, .int x1, .int x2] : List Value).toArray s 0 0 A) (F0 m 19 ls [])) ?_ 1000
    intro k19 hk19 x3 x4 Sm hf H locs ls hP hD hS hl
    unfold sX8_layThere_19 at hf
    refine lv_iload hx hb dX8_layThere_19 (lv_at hl 3 rfl) ?_
    refine lv_iconst (v := (4 : Int32)) hx hb dX8_layThere_21 rfl ?_
    refine lv_icmp_ge (tgt := 45) hx hb dX8_layThere_22 (by decide) (fun c22 => ?_) (fun c22 => ?_)
    · have hf := itP c22 hf
      refine lv_iconst (v := (0 : Int32)) hx hb dX8_layThere_45 rfl ?_
      refine lv_istore (lv' := [(4, .int (0 : Int32)), (0, .ref jhm), (2, .int x2), (3, .int x3)]) hx hb dX8_layThere_46 hl (by decide) rfl (fun ls hl => ?_)
      exact hj48 x3 (0 : Int32) Sm hf _ _ _ hP hD hS (lv_sub hl [1, 2, 3, 0] rfl)
    · have hf := itN c22 hf
      refine lv_aload_n hx hb dX8_layThere_25 rfl (lv_at hl 0 rfl) ?_
      refine va_get (D := D) (ci := 7) (v := .ref (jam 15)) (C := RX8) (T := TX8) (N := 31) hx hb ht inX8 hown hK hP 0 rfl rfl 27 (by decide) (ht _ wd3_212) (fun _ h9 => h9) rfl dX8_layThere_26 ?_
      refine lv_iload hx hb dX8_layThere_29 (lv_at hl 3 rfl) ?_
      refine lv_aload_n hx hb dX8_layThere_31 rfl (lv_at hl 0 rfl) ?_
      refine va_get (D := D) (ci := 7) (v := .ref (jam 7)) (C := RX8) (T := TX8) (N := 31) hx hb ht inX8 hown hK hP 0 rfl rfl 16 (by decide) (ht _ wd3_201) (fun _ h9 => h9) rfl dX8_layThere_32 ?_
      refine lv_iload hx hb dX8_layThere_35 (lv_at hl 3 rfl) ?_
      obtain ⟨h23, hf⟩ := inB_s hf
      refine va_iald (f := (Sm.2.1 7)) (n := 16) hx hb hK hP 3 0 rfl rfl h23 dX8_layThere_37 ?_
      obtain ⟨v24, ev24, hf⟩ := nmV_s hf
      rw [← ev24]
      obtain ⟨h25, hf⟩ := inB_s hf
      obtain ⟨j26, ej26, hf⟩ := nmV_s hf
      refine va_iast (f := (Sm.2.1 15)) (n := 4) hx hb hK hP hD hS 4 0 rfl rfl h25 dX8_layThere_38 (fun H locs hP hD hS => ?_)
      rw [← ej26] at hP hD
      have hP : va_P D vwCl (wX8_layThere cI cZ jhm jam (bW Sm 15 j26 v24)) H := hP
      have hD : va_D A (wX8_layThere cI cZ jhm jam (bW Sm 15 j26 v24)) := hD
      refine lv_iinc (v := (x4 + (1 : Int32))) (lv' := [(4, .int (x4 + (1 : Int32))), (0, .ref jhm), (2, .int x2), (3, .int x3)]) hx hb dX8_layThere_39 hl (k := 3) rfl rfl (by decide) rfl (fun ls hl => ?_)
      refine lv_goto (tgt := 19) hx hb dX8_layThere_42 (by decide) ?_
      exact hk19 x3 (x4 + (1 : Int32)) (bW Sm 15 j26 v24) hf _ _ _ hP hD hS (lv_sub hl [1, 2, 3, 0] rfl)
  intro H locs hP hS
  refine lv_aload_n hx hb dX8_layThere_0 rfl (lv_at hl 0 rfl) ?_
  refine lv_iload_n hx hb dX8_layThere_1 rfl (lv_at hl 1 rfl) ?_
  obtain ⟨u27, e28, hf⟩ := bdS hf
  refine k_rV (As := [.int x1]) (rest := []) hC miX8_knownBy mjX8_knownBy.1 mjX8_knownBy.2 wd4_194 (qX8_knownBy l D cI cZ cO jhm jam Sm x1 u27 e28) ⟨Nat.le_of_ble_eq_true rfl, Nat.le_of_ble_eq_true rfl⟩ (hP.sub [0] rfl) hK hZ hS (va_recv hK hP (ci := 7) (q0 := 0) rfl rfl) hl.1 rfl rfl (Nat.le_of_ble_eq_true rfl) dX8_layThere_2 ?_
  refine lv_aload_n hx hb dX8_layThere_5 rfl (lv_at hl 0 rfl) ?_
  refine va_get (D := D) (ci := 7) (v := .ref (jam 7)) (C := RX8) (T := TX8) (N := 31) hx hb ht inX8 hown hK hP 0 rfl rfl 16 (by decide) (ht _ wd3_201) (fun _ h9 => h9) rfl dX8_layThere_6 ?_
  refine lv_bipush (v := (12 : Int32)) hx hb dX8_layThere_9 rfl ?_
  obtain ⟨h29, hf⟩ := inB_s hf
  refine va_iald (f := (Sm.2.1 7)) (n := 16) hx hb hK hP 3 0 rfl rfl h29 dX8_layThere_11 ?_
  refine lv_iconst (v := (-1 : Int32)) hx hb dX8_layThere_12 rfl ?_
  refine lv_ixor hx hb dX8_layThere_13 ?_
  refine lv_iand hx hb dX8_layThere_14 ?_
  refine lv_istore_n (lv' := [(3, .int (u27 &&& (((Sm.2.1 7) (12 : Int32).toNatClampNeg) ^^^ (-1 : Int32)))), (0, .ref jhm), (1, .int x1), (2, .int x2)]) hx hb dX8_layThere_15 rfl hl (by decide) rfl (fun ls hl => ?_)
  refine lv_iconst (v := (0 : Int32)) hx hb dX8_layThere_16 rfl ?_
  refine lv_istore (lv' := [(4, .int (0 : Int32)), (3, .int (u27 &&& (((Sm.2.1 7) (12 : Int32).toNatClampNeg) ^^^ (-1 : Int32)))), (0, .ref jhm), (1, .int x1), (2, .int x2)]) hx hb dX8_layThere_17 hl (by decide) rfl (fun ls hl => ?_)
  exact hj19 (u27 &&& (((Sm.2.1 7) (12 : Int32).toNatClampNeg) ^^^ (-1 : Int32))) (0 : Int32) Sm hf _ _ _ hP hD hS (lv_sub hl [2, 4, 1, 0] rfl)
abbrev wX8_winsBy (cI cZ : ClassId) (jhm : Nat) (jam : Nat → Nat) (Sm : Bk) : va_W := [(jhm, .inr (7, [.int (Sm.1 0), .ref (jam 0), .int (Sm.1 1), .int (Sm.1 2), .int (Sm.1 3), .int (Sm.1 4), .int (Sm.1 5), .ref (jam 1), .ref (jam 2), .ref (jam 3), .int (Sm.1 6), .int (Sm.1 7), .int (Sm.1 8), .ref (jam 4), .ref (jam 5), .ref (jam 6), .ref (jam 7), .ref (jam 8), .ref (jam 9), .int (Sm.1 9), .ref (jam 10), .ref (jam 11), .int (Sm.1 10), .ref (jam 12), .ref (jam 13), .long Sm.2.2, .ref (jam 14), .ref (jam 15), .int (Sm.1 11), .int (Sm.1 12), .int (Sm.1 13)])), (jam 3, .inl (cI, 20, .inl (Sm.2.1 3))), (jam 7, .inl (cI, 16, .inl (Sm.2.1 7)))]
def gX8_winsBy_106 (Sm : Bk) (x1 : Int32) (x2 : Int32) (x3 : Int32) (k6 : Int32 → Int32 → Option (Int32)) (x5 : Int32) (y0 : Int32) (y1 : Int32) : Option (Int32) := k6 (y0 + y1) (x5 + (1 : Int32))
def gX8_winsBy_52 (Sm : Bk) (x1 : Int32) (x2 : Int32) (x3 : Int32) (k6 : Int32 → Int32 → Option (Int32)) (x4 : Int32) (x5 : Int32) (y0 : Int32) : Option (Int32) := (if y0 = 0 then gX8_winsBy_106 Sm x1 x2 x3 k6 x5 x4 (0 : Int32) else inB 20 (((5 : Int32) * x5) + (1 : Int32)) ((if ((Sm.2.1 3) (((5 : Int32) * x5) + (1 : Int32)).toNatClampNeg) = x3 then inB 20 (((5 : Int32) * x5) + (2 : Int32)) (gX8_winsBy_106 Sm x1 x2 x3 k6 x5 x4 ((Sm.2.1 3) (((5 : Int32) * x5) + (2 : Int32)).toNatClampNeg)) else inB 20 (((5 : Int32) * x5) + (2 : Int32)) (gX8_winsBy_106 Sm x1 x2 x3 k6 x5 x4 (-((Sm.2.1 3) (((5 : Int32) * x5) + (2 : Int32)).toNatClampNeg))))))
def gX8_winsBy_51 (Sm : Bk) (x1 : Int32) (x2 : Int32) (x3 : Int32) (k6 : Int32 → Int32 → Option (Int32)) (x4 : Int32) (x5 : Int32) : Option (Int32) := gX8_winsBy_52 Sm x1 x2 x3 k6 x4 x5 (0 : Int32)
def sX8_winsBy_6 (Sm : Bk) (x1 : Int32) (x2 : Int32) (x3 : Int32) (k6 : Int32 → Int32 → Option (Int32)) (x4 : Int32) (x5 : Int32) : Option (Int32) := (if (Sm.1 5) ≤ x5 then some x4 else inB 16 (13 : Int32) ((fX8_has (x1 &&& (((Sm.2.1 7) (13 : Int32).toNatClampNeg) ^^^ (-1 : Int32))) x5).bind (fun u8 => (if u8 = 0 then gX8_winsBy_51 Sm x1 x2 x3 k6 x4 x5 else inB 20 ((5 : Int32) * x5) ((if ((Sm.2.1 3) ((5 : Int32) * x5).toNatClampNeg) = x2 then gX8_winsBy_52 Sm x1 x2 x3 k6 x4 x5 (1 : Int32) else gX8_winsBy_51 Sm x1 x2 x3 k6 x4 x5))))))
def fX8_winsBy (Sm : Bk) (x1 : Int32) (x2 : Int32) (x3 : Int32) : Option (Int32) := lk2 (sX8_winsBy_6 Sm x1 x2 x3) 1000 (0 : Int32) (0 : Int32)
theorem miX8_winsBy : MI yX8_winsBy cX8_winsBy 7 (some .int) 3 := ⟨wd1_8, wd4_219, by decide +kernel⟩
theorem mjX8_winsBy : Cond.instanceMethod yX8_winsBy ∈ wT ∧ Cond.selects yX8_winsBy.cls yX8_winsBy yX8_winsBy ∈ wT := ⟨wd4_218, ws_38⟩
set_option maxHeartbeats 4000000 in
set_option maxRecDepth 100000 in
theorem qX8_winsBy (l : Launch) (D : va_G) (cI cZ cO : ClassId) (jhm : Nat) (jam : Nat → Nat) (Sm : Bk) (x1 : Int32) (x2 : Int32) (x3 : Int32) (res : Int32) (hf : fX8_winsBy Sm x1 x2 x3 = some res) : Met l yX8_winsBy (Cond.code yX8_winsBy cX8_winsBy 7 (some .int) :: wT) (rmF 1 21) (va_Pc [.ref jhm, .int x1, .int x2, .int x3] (cR D (tyL cI cZ cO) (wX8_winsBy cI cZ jhm jam Sm))) (vp_Si (fun r => r = res)) 0 0 (fun _ => False) := by
  refine met_r (by decide) (Nat.le_of_ble_eq_true rfl) ?_
  intro p e s m below meth c hx hb hr hml ht hown hlk ls hl hP hK hZ
  have hS : va_S (fun _ => False) s.heap s.heap [] := va_S.rf
  have hown : s.vm.findClass "EyeDrinkModel" = some m.cls := hown
  have hl : lv_has ls 7 [(0, .ref jhm), (1, .int x1), (2, .int x2), (3, .int x3)] := hl
  have hC : CallFix p m c cX8_winsBy 7 s ([.ref jhm, .int x1, .int x2, .int x3] : List Value).toArray wT "EyeDrinkModel" := ⟨hx, hb, hml, hown, ht⟩
  unfold fX8_winsBy at hf
  have hj6 : ∀ (x4 : Int32) (x5 : Int32), lk2 (sX8_winsBy_6 Sm x1 x2 x3) 1000 x4 x5 = some res → ∀ (ls : Array Slot), lv_has ls 7 [(0, .ref jhm), (1, .int x1), (2, .int x2), (3, .int x3), (4, .int x4), (5, .int x5)] → W p l e (rmF 1 21) s m ([.ref jhm, .int x1, .int x2, .int x3] : List Value).toArray below meth c s.heap [] 0 0 (MQ below (vp_Si (fun r => r = res)) ([.ref jhm, .int x1, .int x2, .int x3] : List Value).toArray s 0 0 (fun _ => False)) (F0 m 6 ls []) := by
    refine lk2_w (fun (x4 : Int32) (x5 : Int32) => ∀ (ls : Array Slot), lv_has ls 7 [(0, .ref jhm), (1, .int x1), (2, .int x2), (3, .int x3), (4, .int x4), (5, .int x5)] → W p l e (rmF 1 21) s m ([.ref jhm, .int x1, .int x2, .int x3] : List Value).toArray below meth c s.heap [] 0 0 (MQ below (vp_Si (fun r => r = res)) ([.ref jhm, .int x1, .int x2, .int x3] : List Value).toArray s 0 0 (fun _ => False)) (F0 m 6 ls [])) ?_ 1000
    intro k6 hk6 x4 x5 hf ls hl
    unfold sX8_winsBy_6 at hf
    have hj106 : ∀ (x5 : Int32) (y0 : Int32) (y1 : Int32), gX8_winsBy_106 Sm x1 x2 x3 k6 x5 y0 y1 = some res → ∀ (ls : Array Slot), lv_has ls 7 [(0, .ref jhm), (1, .int x1), (2, .int x2), (3, .int x3), (5, .int x5)] → W p l e (rmF 1 21) s m ([.ref jhm, .int x1, .int x2, .int x3] : List Value).toArray below meth c s.heap [] 0 0 (MQ below (vp_Si (fun r => r = res)) ([.ref jhm, .int x1, .int x2, .int x3] : List Value).toArray s 0 0 (fun _ => False)) (F0 m 106 ls [.int y1, .int y0]) := by
      intro x5 y0 y1 hf ls hl
      unfold gX8_winsBy_106 at hf
      refine lv_iadd hx hb dX8_winsBy_106 ?_
      refine lv_istore (lv' := [(4, .int (y0 + y1)), (0, .ref jhm), (1, .int x1), (2, .int x2), (3, .int x3), (5, .int x5)]) hx hb dX8_winsBy_107 hl (by decide) rfl (fun ls hl => ?_)
      refine lv_iinc (v := (x5 + (1 : Int32))) (lv' := [(5, .int (x5 + (1 : Int32))), (4, .int (y0 + y1)), (0, .ref jhm), (1, .int x1), (2, .int x2), (3, .int x3)]) hx hb dX8_winsBy_109 hl (k := 5) rfl rfl (by decide) rfl (fun ls hl => ?_)
      refine lv_goto (tgt := 6) hx hb dX8_winsBy_112 (by decide) ?_
      exact hk6 (y0 + y1) (x5 + (1 : Int32)) hf _ (lv_sub hl [2, 3, 4, 5, 1, 0] rfl)
    have hj52 : ∀ (x4 : Int32) (x5 : Int32) (y0 : Int32), gX8_winsBy_52 Sm x1 x2 x3 k6 x4 x5 y0 = some res → ∀ (ls : Array Slot), lv_has ls 7 [(0, .ref jhm), (1, .int x1), (2, .int x2), (3, .int x3), (4, .int x4), (5, .int x5)] → W p l e (rmF 1 21) s m ([.ref jhm, .int x1, .int x2, .int x3] : List Value).toArray below meth c s.heap [] 0 0 (MQ below (vp_Si (fun r => r = res)) ([.ref jhm, .int x1, .int x2, .int x3] : List Value).toArray s 0 0 (fun _ => False)) (F0 m 52 ls [.int y0]) := by
      intro x4 x5 y0 hf ls hl
      unfold gX8_winsBy_52 at hf
      refine lv_istore (lv' := [(6, .int y0), (0, .ref jhm), (1, .int x1), (2, .int x2), (3, .int x3), (4, .int x4), (5, .int x5)]) hx hb dX8_winsBy_52 hl (by decide) rfl (fun ls hl => ?_)
      refine lv_iload hx hb dX8_winsBy_54 (lv_at hl 5 rfl) ?_
      refine lv_iload hx hb dX8_winsBy_56 (lv_at hl 0 rfl) ?_
      refine lv_if_ne (tgt := 65) hx hb dX8_winsBy_58 (by decide) (fun c1 => ?_) (fun c1 => ?_)
      · have hf := itN c1 hf
        refine lv_aload_n hx hb dX8_winsBy_65 rfl (lv_at hl 1 rfl) ?_
        refine va_get (D := D) (ci := 7) (v := .ref (jam 3)) (C := RX8) (T := TX8) (N := 31) hx hb ht inX8 hown hK hP 0 rfl rfl 9 (by decide) (ht _ wd3_194) (fun _ h9 => h9) rfl dX8_winsBy_66 ?_
        refine lv_iconst (v := (5 : Int32)) hx hb dX8_winsBy_69 rfl ?_
        refine lv_iload hx hb dX8_winsBy_70 (lv_at hl 6 rfl) ?_
        refine lv_imul hx hb dX8_winsBy_72 ?_
        refine lv_iconst (v := (1 : Int32)) hx hb dX8_winsBy_73 rfl ?_
        refine lv_iadd hx hb dX8_winsBy_74 ?_
        obtain ⟨h2, hf⟩ := inB_s hf
        refine va_iald (f := (Sm.2.1 3)) (n := 20) hx hb hK hP 1 0 rfl rfl h2 dX8_winsBy_75 ?_
        refine lv_iload_n hx hb dX8_winsBy_76 rfl (lv_at hl 4 rfl) ?_
        refine lv_icmp_ne (tgt := 94) hx hb dX8_winsBy_77 (by decide) (fun c3 => ?_) (fun c3 => ?_)
        · have hf := itN c3 hf
          refine lv_aload_n hx hb dX8_winsBy_94 rfl (lv_at hl 1 rfl) ?_
          refine va_get (D := D) (ci := 7) (v := .ref (jam 3)) (C := RX8) (T := TX8) (N := 31) hx hb ht inX8 hown hK hP 0 rfl rfl 9 (by decide) (ht _ wd3_194) (fun _ h9 => h9) rfl dX8_winsBy_95 ?_
          refine lv_iconst (v := (5 : Int32)) hx hb dX8_winsBy_98 rfl ?_
          refine lv_iload hx hb dX8_winsBy_99 (lv_at hl 6 rfl) ?_
          refine lv_imul hx hb dX8_winsBy_101 ?_
          refine lv_iconst (v := (2 : Int32)) hx hb dX8_winsBy_102 rfl ?_
          refine lv_iadd hx hb dX8_winsBy_103 ?_
          obtain ⟨h4, hf⟩ := inB_s hf
          refine va_iald (f := (Sm.2.1 3)) (n := 20) hx hb hK hP 1 0 rfl rfl h4 dX8_winsBy_104 ?_
          refine lv_ineg hx hb dX8_winsBy_105 ?_
          exact hj106 x5 x4 (-((Sm.2.1 3) (((5 : Int32) * x5) + (2 : Int32)).toNatClampNeg)) hf _ (lv_sub hl [1, 2, 3, 4, 6] rfl)
        · have hf := itP c3 hf
          refine lv_aload_n hx hb dX8_winsBy_80 rfl (lv_at hl 1 rfl) ?_
          refine va_get (D := D) (ci := 7) (v := .ref (jam 3)) (C := RX8) (T := TX8) (N := 31) hx hb ht inX8 hown hK hP 0 rfl rfl 9 (by decide) (ht _ wd3_194) (fun _ h9 => h9) rfl dX8_winsBy_81 ?_
          refine lv_iconst (v := (5 : Int32)) hx hb dX8_winsBy_84 rfl ?_
          refine lv_iload hx hb dX8_winsBy_85 (lv_at hl 6 rfl) ?_
          refine lv_imul hx hb dX8_winsBy_87 ?_
          refine lv_iconst (v := (2 : Int32)) hx hb dX8_winsBy_88 rfl ?_
          refine lv_iadd hx hb dX8_winsBy_89 ?_
          obtain ⟨h5, hf⟩ := inB_s hf
          refine va_iald (f := (Sm.2.1 3)) (n := 20) hx hb hK hP 1 0 rfl rfl h5 dX8_winsBy_90 ?_
          refine lv_goto (tgt := 106) hx hb dX8_winsBy_91 (by decide) ?_
          exact hj106 x5 x4 ((Sm.2.1 3) (((5 : Int32) * x5) + (2 : Int32)).toNatClampNeg) hf _ (lv_sub hl [1, 2, 3, 4, 6] rfl)
      · have hf := itP c1 hf
        refine lv_iconst (v := (0 : Int32)) hx hb dX8_winsBy_61 rfl ?_
        refine lv_goto (tgt := 106) hx hb dX8_winsBy_62 (by decide) ?_
        exact hj106 x5 x4 (0 : Int32) hf _ (lv_sub hl [1, 2, 3, 4, 6] rfl)
    have hj51 : ∀ (x4 : Int32) (x5 : Int32), gX8_winsBy_51 Sm x1 x2 x3 k6 x4 x5 = some res → ∀ (ls : Array Slot), lv_has ls 7 [(0, .ref jhm), (1, .int x1), (2, .int x2), (3, .int x3), (4, .int x4), (5, .int x5)] → W p l e (rmF 1 21) s m ([.ref jhm, .int x1, .int x2, .int x3] : List Value).toArray below meth c s.heap [] 0 0 (MQ below (vp_Si (fun r => r = res)) ([.ref jhm, .int x1, .int x2, .int x3] : List Value).toArray s 0 0 (fun _ => False)) (F0 m 51 ls []) := by
      intro x4 x5 hf ls hl
      unfold gX8_winsBy_51 at hf
      refine lv_iconst (v := (0 : Int32)) hx hb dX8_winsBy_51 rfl ?_
      exact hj52 x4 x5 (0 : Int32) hf _ (lv_sub hl [0, 1, 2, 3, 4, 5] rfl)
    refine lv_iload hx hb dX8_winsBy_6 (lv_at hl 5 rfl) ?_
    refine lv_aload_n hx hb dX8_winsBy_8 rfl (lv_at hl 0 rfl) ?_
    refine va_get (D := D) (ci := 7) (v := .int (Sm.1 5)) (C := RX8) (T := TX8) (N := 31) hx hb ht inX8 hown hK hP 0 rfl rfl 6 (by decide) (ht _ wd3_191) (fun _ h9 => h9) rfl dX8_winsBy_9 ?_
    refine lv_icmp_ge (tgt := 115) hx hb dX8_winsBy_12 (by decide) (fun c6 => ?_) (fun c6 => ?_)
    · have hf := itP c6 hf
      refine lv_iload hx hb dX8_winsBy_115 (lv_at hl 4 rfl) ?_
      exact W.iret hx hb hr (fun t ht9 _ => ⟨_, rfl, Option.some.inj hf, ht9⟩) (fun _ h9 => by cases h9) dX8_winsBy_117
    · have hf := itN c6 hf
      refine lv_iload_n hx hb dX8_winsBy_15 rfl (lv_at hl 1 rfl) ?_
      refine lv_aload_n hx hb dX8_winsBy_16 rfl (lv_at hl 0 rfl) ?_
      refine va_get (D := D) (ci := 7) (v := .ref (jam 7)) (C := RX8) (T := TX8) (N := 31) hx hb ht inX8 hown hK hP 0 rfl rfl 16 (by decide) (ht _ wd3_201) (fun _ h9 => h9) rfl dX8_winsBy_17 ?_
      refine lv_bipush (v := (13 : Int32)) hx hb dX8_winsBy_20 rfl ?_
      obtain ⟨h7, hf⟩ := inB_s hf
      refine va_iald (f := (Sm.2.1 7)) (n := 16) hx hb hK hP 2 0 rfl rfl h7 dX8_winsBy_22 ?_
      refine lv_iconst (v := (-1 : Int32)) hx hb dX8_winsBy_23 rfl ?_
      refine lv_ixor hx hb dX8_winsBy_24 ?_
      refine lv_iand hx hb dX8_winsBy_25 ?_
      refine lv_iload hx hb dX8_winsBy_26 (lv_at hl 5 rfl) ?_
      obtain ⟨u8, e9, hf⟩ := bdS hf
      refine k_pS (As := [.int (x1 &&& (((Sm.2.1 7) (13 : Int32).toNatClampNeg) ^^^ (-1 : Int32))), .int x5]) (rest := []) hC miX8_has mjX8_has wd4_108 (qX8_has l (x1 &&& (((Sm.2.1 7) (13 : Int32).toNatClampNeg) ^^^ (-1 : Int32))) x5 u8 e9) ⟨Nat.le_of_ble_eq_true rfl, Nat.le_of_ble_eq_true rfl⟩ hl.1 rfl rfl (Nat.le_of_ble_eq_true rfl) dX8_winsBy_28 ?_
      refine lv_if_eq (tgt := 51) hx hb dX8_winsBy_31 (by decide) (fun c10 => ?_) (fun c10 => ?_)
      · have hf := itP c10 hf
        exact hj51 x4 x5 hf _ (lv_sub hl [0, 1, 2, 3, 4, 5] rfl)
      · have hf := itN c10 hf
        refine lv_aload_n hx hb dX8_winsBy_34 rfl (lv_at hl 0 rfl) ?_
        refine va_get (D := D) (ci := 7) (v := .ref (jam 3)) (C := RX8) (T := TX8) (N := 31) hx hb ht inX8 hown hK hP 0 rfl rfl 9 (by decide) (ht _ wd3_194) (fun _ h9 => h9) rfl dX8_winsBy_35 ?_
        refine lv_iconst (v := (5 : Int32)) hx hb dX8_winsBy_38 rfl ?_
        refine lv_iload hx hb dX8_winsBy_39 (lv_at hl 5 rfl) ?_
        refine lv_imul hx hb dX8_winsBy_41 ?_
        obtain ⟨h11, hf⟩ := inB_s hf
        refine va_iald (f := (Sm.2.1 3)) (n := 20) hx hb hK hP 1 0 rfl rfl h11 dX8_winsBy_42 ?_
        refine lv_iload_n hx hb dX8_winsBy_43 rfl (lv_at hl 2 rfl) ?_
        refine lv_icmp_ne (tgt := 51) hx hb dX8_winsBy_44 (by decide) (fun c12 => ?_) (fun c12 => ?_)
        · have hf := itN c12 hf
          exact hj51 x4 x5 hf _ (lv_sub hl [0, 1, 2, 3, 4, 5] rfl)
        · have hf := itP c12 hf
          refine lv_iconst (v := (1 : Int32)) hx hb dX8_winsBy_47 rfl ?_
          refine lv_goto (tgt := 52) hx hb dX8_winsBy_48 (by decide) ?_
          exact hj52 x4 x5 (1 : Int32) hf _ (lv_sub hl [0, 1, 2, 3, 4, 5] rfl)
  refine lv_iconst (v := (0 : Int32)) hx hb dX8_winsBy_0 rfl ?_
  refine lv_istore (lv' := [(4, .int (0 : Int32)), (0, .ref jhm), (1, .int x1), (2, .int x2), (3, .int x3)]) hx hb dX8_winsBy_1 hl (by decide) rfl (fun ls hl => ?_)
  refine lv_iconst (v := (0 : Int32)) hx hb dX8_winsBy_3 rfl ?_
  refine lv_istore (lv' := [(5, .int (0 : Int32)), (4, .int (0 : Int32)), (0, .ref jhm), (1, .int x1), (2, .int x2), (3, .int x3)]) hx hb dX8_winsBy_4 hl (by decide) rfl (fun ls hl => ?_)
  exact hj6 (0 : Int32) (0 : Int32) hf _ (lv_sub hl [2, 3, 4, 5, 1, 0] rfl)
abbrev wX8_endOf (cI cZ : ClassId) (jhm : Nat) (jam : Nat → Nat) (Sm : Bk) : va_W := [(jhm, .inr (7, [.int (Sm.1 0), .ref (jam 0), .int (Sm.1 1), .int (Sm.1 2), .int (Sm.1 3), .int (Sm.1 4), .int (Sm.1 5), .ref (jam 1), .ref (jam 2), .ref (jam 3), .int (Sm.1 6), .int (Sm.1 7), .int (Sm.1 8), .ref (jam 4), .ref (jam 5), .ref (jam 6), .ref (jam 7), .ref (jam 8), .ref (jam 9), .int (Sm.1 9), .ref (jam 10), .ref (jam 11), .int (Sm.1 10), .ref (jam 12), .ref (jam 13), .long Sm.2.2, .ref (jam 14), .ref (jam 15), .int (Sm.1 11), .int (Sm.1 12), .int (Sm.1 13)])), (jam 1, .inl (cI, 12, .inl (Sm.2.1 1))), (jam 2, .inl (cI, 16, .inl (Sm.2.1 2))), (jam 3, .inl (cI, 20, .inl (Sm.2.1 3))), (jam 7, .inl (cI, 16, .inl (Sm.2.1 7))), (jam 15, .inl (cI, 4, .inl (Sm.2.1 15)))]
def gX8_endOf_207 (Sm : Bk) (x1 : Int32) (x2 : Int32) (x3 : Int32) (k59 : Int32 → Int32 → Int32 → Option (Int32)) (x4 : Int32) (x5 : Int32) (x6 : Int32) : Option (Int32) := k59 x4 x5 (x6 + (1 : Int32))
def gX8_endOf_204 (Sm : Bk) (x1 : Int32) (x2 : Int32) (x3 : Int32) (k59 : Int32 → Int32 → Int32 → Option (Int32)) (x4 : Int32) (x6 : Int32) (y0 : Int32) (y1 : Int32) : Option (Int32) := gX8_endOf_207 Sm x1 x2 x3 k59 x4 (y0 + y1) x6
def gX8_endOf_158 (Sm : Bk) (x1 : Int32) (x2 : Int32) (x3 : Int32) (k59 : Int32 → Int32 → Int32 → Option (Int32)) (x4 : Int32) (x6 : Int32) (y0 : Int32) (y1 : Int32) : Option (Int32) := gX8_endOf_207 Sm x1 x2 x3 k59 x4 (y0 + y1) x6
def gX8_endOf_138 (Sm : Bk) (x1 : Int32) (x2 : Int32) (x3 : Int32) (k59 : Int32 → Int32 → Int32 → Option (Int32)) (x4 : Int32) (x5 : Int32) (x6 : Int32) (x7 : Int32) (x8 : Int32) (x9 : Int32) (x10 : Int32) (x11 : Int32) (y0 : Int32) : Option (Int32) := (if x3 = 0 then (if x9 = 0 then (fX8_ten (x4 - (1 : Int32))).bind (fun u5 => gX8_endOf_204 Sm x1 x2 x3 k59 x4 x6 x5 (((((10 : Int32) - x10) * x7) + (x10 * x8)) * u5)) else (fX8_ten x4).bind (fun u3 => gX8_endOf_204 Sm x1 x2 x3 k59 x4 x6 x5 (y0 * u3))) else (if x9 = 0 then gX8_endOf_158 Sm x1 x2 x3 k59 x4 x6 x5 x11 else gX8_endOf_158 Sm x1 x2 x3 k59 x4 x6 x5 y0))
def gX8_endOf_123 (Sm : Bk) (x1 : Int32) (x2 : Int32) (x3 : Int32) (k59 : Int32 → Int32 → Int32 → Option (Int32)) (x4 : Int32) (x5 : Int32) (x6 : Int32) (x7 : Int32) (x8 : Int32) (x9 : Int32) (x10 : Int32) (y0 : Int32) : Option (Int32) := (if x9 = (1 : Int32) then gX8_endOf_138 Sm x1 x2 x3 k59 x4 x5 x6 x7 x8 x9 x10 y0 x7 else gX8_endOf_138 Sm x1 x2 x3 k59 x4 x5 x6 x7 x8 x9 x10 y0 x8)
def sX8_endOf_59 (Sm : Bk) (x1 : Int32) (x2 : Int32) (x3 : Int32) (k59 : Int32 → Int32 → Int32 → Option (Int32)) (x4 : Int32) (x5 : Int32) (x6 : Int32) : Option (Int32) := (if (Sm.1 4) ≤ x6 then some x5 else (fX8_winsBy Sm x2 x6 (0 : Int32)).bind (fun u10 => (fX8_winsBy Sm x2 x6 (1 : Int32)).bind (fun u12 => (fX8_knows x1 x6).bind (fun u14 => inB 16 (((4 : Int32) * x6) + (3 : Int32)) ((if u12 ≤ u10 then gX8_endOf_123 Sm x1 x2 x3 k59 x4 x5 x6 u10 u12 u14 ((Sm.2.1 2) (((4 : Int32) * x6) + (3 : Int32)).toNatClampNeg) u12 else gX8_endOf_123 Sm x1 x2 x3 k59 x4 x5 x6 u10 u12 u14 ((Sm.2.1 2) (((4 : Int32) * x6) + (3 : Int32)).toNatClampNeg) u10))))))
def gX8_endOf_54 (Sm : Bk) (x1 : Int32) (x2 : Int32) (x3 : Int32) (x4 : Int32) (y0 : Int32) : Option (Int32) := lk3 (sX8_endOf_59 Sm x1 x2 x3) 1000 x4 y0 (0 : Int32)
def fX8_endOf (Sm : Bk) (x1 : Int32) (x2 : Int32) (x3 : Int32) : Option (Int32) := (fX8_knownBy Sm x1).bind (fun u18 => (fX8_many u18).bind (fun u20 => inB 16 (15 : Int32) ((fX8_worthOf Sm (Sm.2.1 15) 4).bind (fun u23 => (if x3 = 0 then (fX8_ten ((Sm.1 4) - u20)).bind (fun u26 => gX8_endOf_54 Sm x1 x2 x3 ((Sm.1 4) - u20) ((((1000 : Int32) + ((Sm.2.1 7) (15 : Int32).toNatClampNeg)) + u23) * u26)) else gX8_endOf_54 Sm x1 x2 x3 ((Sm.1 4) - u20) (((1000 : Int32) + ((Sm.2.1 7) (15 : Int32).toNatClampNeg)) + u23))))))
theorem miX8_endOf : MI yX8_endOf cX8_endOf 13 (some .int) 3 := ⟨wd1_8, wd4_212, by decide +kernel⟩
theorem mjX8_endOf : Cond.instanceMethod yX8_endOf ∈ wT ∧ Cond.selects yX8_endOf.cls yX8_endOf yX8_endOf ∈ wT := ⟨wd4_211, ws_37⟩
set_option maxHeartbeats 4000000 in
set_option maxRecDepth 100000 in
theorem qX8_endOf (l : Launch) (D : va_G) (cI cZ cO : ClassId) (jhm : Nat) (jam : Nat → Nat) (Sm : Bk) (x1 : Int32) (x2 : Int32) (x3 : Int32) (res : Int32) (hf : fX8_endOf Sm x1 x2 x3 = some res) : Met l yX8_endOf (Cond.code yX8_endOf cX8_endOf 13 (some .int) :: wT) (rmF 3 66) (va_Pc [.ref jhm, .int x1, .int x2, .int x3] (cR D (tyL cI cZ cO) (wX8_endOf cI cZ jhm jam Sm))) (vp_Si (fun r => r = res)) 0 0 (fun _ => False) := by
  refine met_r (by decide) (Nat.le_of_ble_eq_true rfl) ?_
  intro p e s m below meth c hx hb hr hml ht hown hlk ls hl hP hK hZ
  have hS : va_S (fun _ => False) s.heap s.heap [] := va_S.rf
  have hown : s.vm.findClass "EyeDrinkModel" = some m.cls := hown
  have hl : lv_has ls 13 [(0, .ref jhm), (1, .int x1), (2, .int x2), (3, .int x3)] := hl
  have hC : CallFix p m c cX8_endOf 13 s ([.ref jhm, .int x1, .int x2, .int x3] : List Value).toArray wT "EyeDrinkModel" := ⟨hx, hb, hml, hown, ht⟩
  unfold fX8_endOf at hf
  have hj59 : ∀ (x4 : Int32) (x5 : Int32) (x6 : Int32), lk3 (sX8_endOf_59 Sm x1 x2 x3) 1000 x4 x5 x6 = some res → ∀ (ls : Array Slot), lv_has ls 13 [(0, .ref jhm), (1, .int x1), (2, .int x2), (3, .int x3), (4, .int x4), (5, .int x5), (6, .int x6)] → W p l e (rmF 3 66) s m ([.ref jhm, .int x1, .int x2, .int x3] : List Value).toArray below meth c s.heap [] 0 0 (MQ below (vp_Si (fun r => r = res)) ([.ref jhm, .int x1, .int x2, .int x3] : List Value).toArray s 0 0 (fun _ => False)) (F0 m 59 ls []) := by
    refine lk3_w (fun (x4 : Int32) (x5 : Int32) (x6 : Int32) => ∀ (ls : Array Slot), lv_has ls 13 [(0, .ref jhm), (1, .int x1), (2, .int x2), (3, .int x3), (4, .int x4), (5, .int x5), (6, .int x6)] → W p l e (rmF 3 66) s m ([.ref jhm, .int x1, .int x2, .int x3] : List Value).toArray below meth c s.heap [] 0 0 (MQ below (vp_Si (fun r => r = res)) ([.ref jhm, .int x1, .int x2, .int x3] : List Value).toArray s 0 0 (fun _ => False)) (F0 m 59 ls [])) ?_ 1000
    intro k59 hk59 x4 x5 x6 hf ls hl
    unfold sX8_endOf_59 at hf
    have hj207 : ∀ (x4 : Int32) (x5 : Int32) (x6 : Int32), gX8_endOf_207 Sm x1 x2 x3 k59 x4 x5 x6 = some res → ∀ (ls : Array Slot), lv_has ls 13 [(0, .ref jhm), (1, .int x1), (2, .int x2), (3, .int x3), (4, .int x4), (5, .int x5), (6, .int x6)] → W p l e (rmF 3 66) s m ([.ref jhm, .int x1, .int x2, .int x3] : List Value).toArray below meth c s.heap [] 0 0 (MQ below (vp_Si (fun r => r = res)) ([.ref jhm, .int x1, .int x2, .int x3] : List Value).toArray s 0 0 (fun _ => False)) (F0 m 207 ls []) := by
      intro x4 x5 x6 hf ls hl
      unfold gX8_endOf_207 at hf
      refine lv_iinc (v := (x6 + (1 : Int32))) (lv' := [(6, .int (x6 + (1 : Int32))), (0, .ref jhm), (1, .int x1), (2, .int x2), (3, .int x3), (4, .int x4), (5, .int x5)]) hx hb dX8_endOf_207 hl (k := 6) rfl rfl (by decide) rfl (fun ls hl => ?_)
      refine lv_goto (tgt := 59) hx hb dX8_endOf_210 (by decide) ?_
      exact hk59 x4 x5 (x6 + (1 : Int32)) hf _ (lv_sub hl [1, 2, 3, 4, 5, 6, 0] rfl)
    have hj204 : ∀ (x4 : Int32) (x6 : Int32) (y0 : Int32) (y1 : Int32), gX8_endOf_204 Sm x1 x2 x3 k59 x4 x6 y0 y1 = some res → ∀ (ls : Array Slot), lv_has ls 13 [(0, .ref jhm), (1, .int x1), (2, .int x2), (3, .int x3), (4, .int x4), (6, .int x6)] → W p l e (rmF 3 66) s m ([.ref jhm, .int x1, .int x2, .int x3] : List Value).toArray below meth c s.heap [] 0 0 (MQ below (vp_Si (fun r => r = res)) ([.ref jhm, .int x1, .int x2, .int x3] : List Value).toArray s 0 0 (fun _ => False)) (F0 m 204 ls [.int y1, .int y0]) := by
      intro x4 x6 y0 y1 hf ls hl
      unfold gX8_endOf_204 at hf
      refine lv_iadd hx hb dX8_endOf_204 ?_
      refine lv_istore (lv' := [(5, .int (y0 + y1)), (0, .ref jhm), (1, .int x1), (2, .int x2), (3, .int x3), (4, .int x4), (6, .int x6)]) hx hb dX8_endOf_205 hl (by decide) rfl (fun ls hl => ?_)
      exact hj207 x4 (y0 + y1) x6 hf _ (lv_sub hl [1, 2, 3, 4, 5, 0, 6] rfl)
    have hj158 : ∀ (x4 : Int32) (x6 : Int32) (y0 : Int32) (y1 : Int32), gX8_endOf_158 Sm x1 x2 x3 k59 x4 x6 y0 y1 = some res → ∀ (ls : Array Slot), lv_has ls 13 [(0, .ref jhm), (1, .int x1), (2, .int x2), (3, .int x3), (4, .int x4), (6, .int x6)] → W p l e (rmF 3 66) s m ([.ref jhm, .int x1, .int x2, .int x3] : List Value).toArray below meth c s.heap [] 0 0 (MQ below (vp_Si (fun r => r = res)) ([.ref jhm, .int x1, .int x2, .int x3] : List Value).toArray s 0 0 (fun _ => False)) (F0 m 158 ls [.int y1, .int y0]) := by
      intro x4 x6 y0 y1 hf ls hl
      unfold gX8_endOf_158 at hf
      refine lv_iadd hx hb dX8_endOf_158 ?_
      refine lv_istore (lv' := [(5, .int (y0 + y1)), (0, .ref jhm), (1, .int x1), (2, .int x2), (3, .int x3), (4, .int x4), (6, .int x6)]) hx hb dX8_endOf_159 hl (by decide) rfl (fun ls hl => ?_)
      refine lv_goto (tgt := 207) hx hb dX8_endOf_161 (by decide) ?_
      exact hj207 x4 (y0 + y1) x6 hf _ (lv_sub hl [1, 2, 3, 4, 5, 0, 6] rfl)
    have hj138 : ∀ (x4 : Int32) (x5 : Int32) (x6 : Int32) (x7 : Int32) (x8 : Int32) (x9 : Int32) (x10 : Int32) (x11 : Int32) (y0 : Int32), gX8_endOf_138 Sm x1 x2 x3 k59 x4 x5 x6 x7 x8 x9 x10 x11 y0 = some res → ∀ (ls : Array Slot), lv_has ls 13 [(0, .ref jhm), (1, .int x1), (2, .int x2), (3, .int x3), (4, .int x4), (5, .int x5), (6, .int x6), (7, .int x7), (8, .int x8), (9, .int x9), (10, .int x10), (11, .int x11)] → W p l e (rmF 3 66) s m ([.ref jhm, .int x1, .int x2, .int x3] : List Value).toArray below meth c s.heap [] 0 0 (MQ below (vp_Si (fun r => r = res)) ([.ref jhm, .int x1, .int x2, .int x3] : List Value).toArray s 0 0 (fun _ => False)) (F0 m 138 ls [.int y0]) := by
      intro x4 x5 x6 x7 x8 x9 x10 x11 y0 hf ls hl
      unfold gX8_endOf_138 at hf
      refine lv_istore (lv' := [(12, .int y0), (0, .ref jhm), (1, .int x1), (2, .int x2), (3, .int x3), (4, .int x4), (5, .int x5), (6, .int x6), (7, .int x7), (8, .int x8), (9, .int x9), (10, .int x10), (11, .int x11)]) hx hb dX8_endOf_138 hl (by decide) rfl (fun ls hl => ?_)
      refine lv_iload_n hx hb dX8_endOf_140 rfl (lv_at hl 4 rfl) ?_
      refine lv_if_eq (tgt := 164) hx hb dX8_endOf_141 (by decide) (fun c1 => ?_) (fun c1 => ?_)
      · have hf := itP c1 hf
        refine lv_iload hx hb dX8_endOf_164 (lv_at hl 6 rfl) ?_
        refine lv_iload hx hb dX8_endOf_166 (lv_at hl 10 rfl) ?_
        refine lv_if_ne (tgt := 196) hx hb dX8_endOf_168 (by decide) (fun c2 => ?_) (fun c2 => ?_)
        · have hf := itN c2 hf
          refine lv_iload hx hb dX8_endOf_196 (lv_at hl 0 rfl) ?_
          refine lv_iload hx hb dX8_endOf_198 (lv_at hl 5 rfl) ?_
          obtain ⟨u3, e4, hf⟩ := bdS hf
          refine k_pS (As := [.int x4]) (rest := [.int y0, .int x5]) hC miX8_ten mjX8_ten wd4_213 (qX8_ten l x4 u3 e4) ⟨Nat.le_of_ble_eq_true rfl, Nat.le_of_ble_eq_true rfl⟩ hl.1 rfl rfl (Nat.le_of_ble_eq_true rfl) dX8_endOf_200 ?_
          refine lv_imul hx hb dX8_endOf_203 ?_
          exact hj204 x4 x6 x5 (y0 * u3) hf _ (lv_sub hl [1, 2, 3, 4, 5, 7] rfl)
        · have hf := itP c2 hf
          refine lv_bipush (v := (10 : Int32)) hx hb dX8_endOf_171 rfl ?_
          refine lv_iload hx hb dX8_endOf_173 (lv_at hl 11 rfl) ?_
          refine lv_isub hx hb dX8_endOf_175 ?_
          refine lv_iload hx hb dX8_endOf_176 (lv_at hl 8 rfl) ?_
          refine lv_imul hx hb dX8_endOf_178 ?_
          refine lv_iload hx hb dX8_endOf_179 (lv_at hl 11 rfl) ?_
          refine lv_iload hx hb dX8_endOf_181 (lv_at hl 9 rfl) ?_
          refine lv_imul hx hb dX8_endOf_183 ?_
          refine lv_iadd hx hb dX8_endOf_184 ?_
          refine lv_iload hx hb dX8_endOf_185 (lv_at hl 5 rfl) ?_
          refine lv_iconst (v := (1 : Int32)) hx hb dX8_endOf_187 rfl ?_
          refine lv_isub hx hb dX8_endOf_188 ?_
          obtain ⟨u5, e6, hf⟩ := bdS hf
          refine k_pS (As := [.int (x4 - (1 : Int32))]) (rest := [.int ((((10 : Int32) - x10) * x7) + (x10 * x8)), .int x5]) hC miX8_ten mjX8_ten wd4_213 (qX8_ten l (x4 - (1 : Int32)) u5 e6) ⟨Nat.le_of_ble_eq_true rfl, Nat.le_of_ble_eq_true rfl⟩ hl.1 rfl rfl (Nat.le_of_ble_eq_true rfl) dX8_endOf_189 ?_
          refine lv_imul hx hb dX8_endOf_192 ?_
          refine lv_goto (tgt := 204) hx hb dX8_endOf_193 (by decide) ?_
          exact hj204 x4 x6 x5 (((((10 : Int32) - x10) * x7) + (x10 * x8)) * u5) hf _ (lv_sub hl [1, 2, 3, 4, 5, 7] rfl)
      · have hf := itN c1 hf
        refine lv_iload hx hb dX8_endOf_144 (lv_at hl 6 rfl) ?_
        refine lv_iload hx hb dX8_endOf_146 (lv_at hl 10 rfl) ?_
        refine lv_if_ne (tgt := 156) hx hb dX8_endOf_148 (by decide) (fun c7 => ?_) (fun c7 => ?_)
        · have hf := itN c7 hf
          refine lv_iload hx hb dX8_endOf_156 (lv_at hl 0 rfl) ?_
          exact hj158 x4 x6 x5 y0 hf _ (lv_sub hl [1, 2, 3, 4, 5, 7] rfl)
        · have hf := itP c7 hf
          refine lv_iload hx hb dX8_endOf_151 (lv_at hl 12 rfl) ?_
          refine lv_goto (tgt := 158) hx hb dX8_endOf_153 (by decide) ?_
          exact hj158 x4 x6 x5 x11 hf _ (lv_sub hl [1, 2, 3, 4, 5, 7] rfl)
    have hj123 : ∀ (x4 : Int32) (x5 : Int32) (x6 : Int32) (x7 : Int32) (x8 : Int32) (x9 : Int32) (x10 : Int32) (y0 : Int32), gX8_endOf_123 Sm x1 x2 x3 k59 x4 x5 x6 x7 x8 x9 x10 y0 = some res → ∀ (ls : Array Slot), lv_has ls 13 [(0, .ref jhm), (1, .int x1), (2, .int x2), (3, .int x3), (4, .int x4), (5, .int x5), (6, .int x6), (7, .int x7), (8, .int x8), (9, .int x9), (10, .int x10)] → W p l e (rmF 3 66) s m ([.ref jhm, .int x1, .int x2, .int x3] : List Value).toArray below meth c s.heap [] 0 0 (MQ below (vp_Si (fun r => r = res)) ([.ref jhm, .int x1, .int x2, .int x3] : List Value).toArray s 0 0 (fun _ => False)) (F0 m 123 ls [.int y0]) := by
      intro x4 x5 x6 x7 x8 x9 x10 y0 hf ls hl
      unfold gX8_endOf_123 at hf
      refine lv_istore (lv' := [(11, .int y0), (0, .ref jhm), (1, .int x1), (2, .int x2), (3, .int x3), (4, .int x4), (5, .int x5), (6, .int x6), (7, .int x7), (8, .int x8), (9, .int x9), (10, .int x10)]) hx hb dX8_endOf_123 hl (by decide) rfl (fun ls hl => ?_)
      refine lv_iload hx hb dX8_endOf_125 (lv_at hl 10 rfl) ?_
      refine lv_iconst (v := (1 : Int32)) hx hb dX8_endOf_127 rfl ?_
      refine lv_icmp_ne (tgt := 136) hx hb dX8_endOf_128 (by decide) (fun c8 => ?_) (fun c8 => ?_)
      · have hf := itN c8 hf
        refine lv_iload hx hb dX8_endOf_136 (lv_at hl 9 rfl) ?_
        exact hj138 x4 x5 x6 x7 x8 x9 x10 y0 x8 hf _ (lv_sub hl [1, 2, 3, 4, 5, 6, 7, 8, 9, 10, 11, 0] rfl)
      · have hf := itP c8 hf
        refine lv_iload hx hb dX8_endOf_131 (lv_at hl 8 rfl) ?_
        refine lv_goto (tgt := 138) hx hb dX8_endOf_133 (by decide) ?_
        exact hj138 x4 x5 x6 x7 x8 x9 x10 y0 x7 hf _ (lv_sub hl [1, 2, 3, 4, 5, 6, 7, 8, 9, 10, 11, 0] rfl)
    refine lv_iload hx hb dX8_endOf_59 (lv_at hl 6 rfl) ?_
    refine lv_aload_n hx hb dX8_endOf_61 rfl (lv_at hl 0 rfl) ?_
    refine va_get (D := D) (ci := 7) (v := .int (Sm.1 4)) (C := RX8) (T := TX8) (N := 31) hx hb ht inX8 hown hK hP 0 rfl rfl 5 (by decide) (ht _ wd3_190) (fun _ h9 => h9) rfl dX8_endOf_62 ?_
    refine lv_icmp_ge (tgt := 213) hx hb dX8_endOf_65 (by decide) (fun c9 => ?_) (fun c9 => ?_)
    · have hf := itP c9 hf
      refine lv_iload hx hb dX8_endOf_213 (lv_at hl 5 rfl) ?_
      exact W.iret hx hb hr (fun t ht9 _ => ⟨_, rfl, Option.some.inj hf, ht9⟩) (fun _ h9 => by cases h9) dX8_endOf_215
    · have hf := itN c9 hf
      refine lv_aload_n hx hb dX8_endOf_68 rfl (lv_at hl 0 rfl) ?_
      refine lv_iload_n hx hb dX8_endOf_69 rfl (lv_at hl 2 rfl) ?_
      refine lv_iload hx hb dX8_endOf_70 (lv_at hl 6 rfl) ?_
      refine lv_iconst (v := (0 : Int32)) hx hb dX8_endOf_72 rfl ?_
      obtain ⟨u10, e11, hf⟩ := bdS hf
      refine k_rV (As := [.int x2, .int x6, .int (0 : Int32)]) (rest := []) hC miX8_winsBy mjX8_winsBy.1 mjX8_winsBy.2 wd4_216 (qX8_winsBy l D cI cZ cO jhm jam Sm x2 x6 (0 : Int32) u10 e11) ⟨Nat.le_of_ble_eq_true rfl, Nat.le_of_ble_eq_true rfl⟩ (hP.sub [0, 3, 4] rfl) hK hZ hS (va_recv hK hP (ci := 7) (q0 := 0) rfl rfl) hl.1 rfl rfl (Nat.le_of_ble_eq_true rfl) dX8_endOf_73 ?_
      refine lv_istore (lv' := [(7, .int u10), (0, .ref jhm), (1, .int x1), (2, .int x2), (3, .int x3), (4, .int x4), (5, .int x5), (6, .int x6)]) hx hb dX8_endOf_76 hl (by decide) rfl (fun ls hl => ?_)
      refine lv_aload_n hx hb dX8_endOf_78 rfl (lv_at hl 1 rfl) ?_
      refine lv_iload_n hx hb dX8_endOf_79 rfl (lv_at hl 3 rfl) ?_
      refine lv_iload hx hb dX8_endOf_80 (lv_at hl 7 rfl) ?_
      refine lv_iconst (v := (1 : Int32)) hx hb dX8_endOf_82 rfl ?_
      obtain ⟨u12, e13, hf⟩ := bdS hf
      refine k_rV (As := [.int x2, .int x6, .int (1 : Int32)]) (rest := []) hC miX8_winsBy mjX8_winsBy.1 mjX8_winsBy.2 wd4_216 (qX8_winsBy l D cI cZ cO jhm jam Sm x2 x6 (1 : Int32) u12 e13) ⟨Nat.le_of_ble_eq_true rfl, Nat.le_of_ble_eq_true rfl⟩ (hP.sub [0, 3, 4] rfl) hK hZ hS (va_recv hK hP (ci := 7) (q0 := 0) rfl rfl) hl.1 rfl rfl (Nat.le_of_ble_eq_true rfl) dX8_endOf_83 ?_
      refine lv_istore (lv' := [(8, .int u12), (7, .int u10), (0, .ref jhm), (1, .int x1), (2, .int x2), (3, .int x3), (4, .int x4), (5, .int x5), (6, .int x6)]) hx hb dX8_endOf_86 hl (by decide) rfl (fun ls hl => ?_)
      refine lv_iload_n hx hb dX8_endOf_88 rfl (lv_at hl 3 rfl) ?_
      refine lv_iload hx hb dX8_endOf_89 (lv_at hl 8 rfl) ?_
      obtain ⟨u14, e15, hf⟩ := bdS hf
      refine k_pS (As := [.int x1, .int x6]) (rest := []) hC miX8_knows mjX8_knows wd4_191 (qX8_knows l x1 x6 u14 e15) ⟨Nat.le_of_ble_eq_true rfl, Nat.le_of_ble_eq_true rfl⟩ hl.1 rfl rfl (Nat.le_of_ble_eq_true rfl) dX8_endOf_91 ?_
      refine lv_istore (lv' := [(9, .int u14), (8, .int u12), (7, .int u10), (0, .ref jhm), (1, .int x1), (2, .int x2), (3, .int x3), (4, .int x4), (5, .int x5), (6, .int x6)]) hx hb dX8_endOf_94 hl (by decide) rfl (fun ls hl => ?_)
      refine lv_aload_n hx hb dX8_endOf_96 rfl (lv_at hl 3 rfl) ?_
      refine va_get (D := D) (ci := 7) (v := .ref (jam 2)) (C := RX8) (T := TX8) (N := 31) hx hb ht inX8 hown hK hP 0 rfl rfl 8 (by decide) (ht _ wd3_193) (fun _ h9 => h9) rfl dX8_endOf_97 ?_
      refine lv_iconst (v := (4 : Int32)) hx hb dX8_endOf_100 rfl ?_
      refine lv_iload hx hb dX8_endOf_101 (lv_at hl 9 rfl) ?_
      refine lv_imul hx hb dX8_endOf_103 ?_
      refine lv_iconst (v := (3 : Int32)) hx hb dX8_endOf_104 rfl ?_
      refine lv_iadd hx hb dX8_endOf_105 ?_
      obtain ⟨h16, hf⟩ := inB_s hf
      refine va_iald (f := (Sm.2.1 2)) (n := 16) hx hb hK hP 2 0 rfl rfl h16 dX8_endOf_106 ?_
      refine lv_istore (lv' := [(10, .int ((Sm.2.1 2) (((4 : Int32) * x6) + (3 : Int32)).toNatClampNeg)), (9, .int u14), (8, .int u12), (7, .int u10), (0, .ref jhm), (1, .int x1), (2, .int x2), (3, .int x3), (4, .int x4), (5, .int x5), (6, .int x6)]) hx hb dX8_endOf_107 hl (by decide) rfl (fun ls hl => ?_)
      refine lv_iload hx hb dX8_endOf_109 (lv_at hl 3 rfl) ?_
      refine lv_iload hx hb dX8_endOf_111 (lv_at hl 2 rfl) ?_
      refine lv_icmp_ge (tgt := 121) hx hb dX8_endOf_113 (by decide) (fun c17 => ?_) (fun c17 => ?_)
      · have hf := itP c17 hf
        refine lv_iload hx hb dX8_endOf_121 (lv_at hl 2 rfl) ?_
        exact hj123 x4 x5 x6 u10 u12 u14 ((Sm.2.1 2) (((4 : Int32) * x6) + (3 : Int32)).toNatClampNeg) u12 hf _ (lv_sub hl [4, 5, 6, 7, 8, 9, 10, 3, 2, 1, 0] rfl)
      · have hf := itN c17 hf
        refine lv_iload hx hb dX8_endOf_116 (lv_at hl 3 rfl) ?_
        refine lv_goto (tgt := 123) hx hb dX8_endOf_118 (by decide) ?_
        exact hj123 x4 x5 x6 u10 u12 u14 ((Sm.2.1 2) (((4 : Int32) * x6) + (3 : Int32)).toNatClampNeg) u10 hf _ (lv_sub hl [4, 5, 6, 7, 8, 9, 10, 3, 2, 1, 0] rfl)
  have hj54 : ∀ (x4 : Int32) (y0 : Int32), gX8_endOf_54 Sm x1 x2 x3 x4 y0 = some res → ∀ (ls : Array Slot), lv_has ls 13 [(0, .ref jhm), (1, .int x1), (2, .int x2), (3, .int x3), (4, .int x4)] → W p l e (rmF 3 66) s m ([.ref jhm, .int x1, .int x2, .int x3] : List Value).toArray below meth c s.heap [] 0 0 (MQ below (vp_Si (fun r => r = res)) ([.ref jhm, .int x1, .int x2, .int x3] : List Value).toArray s 0 0 (fun _ => False)) (F0 m 54 ls [.int y0]) := by
    intro x4 y0 hf ls hl
    unfold gX8_endOf_54 at hf
    refine lv_istore (lv' := [(5, .int y0), (0, .ref jhm), (1, .int x1), (2, .int x2), (3, .int x3), (4, .int x4)]) hx hb dX8_endOf_54 hl (by decide) rfl (fun ls hl => ?_)
    refine lv_iconst (v := (0 : Int32)) hx hb dX8_endOf_56 rfl ?_
    refine lv_istore (lv' := [(6, .int (0 : Int32)), (5, .int y0), (0, .ref jhm), (1, .int x1), (2, .int x2), (3, .int x3), (4, .int x4)]) hx hb dX8_endOf_57 hl (by decide) rfl (fun ls hl => ?_)
    exact hj59 x4 y0 (0 : Int32) hf _ (lv_sub hl [2, 3, 4, 5, 6, 1, 0] rfl)
  refine lv_aload_n hx hb dX8_endOf_0 rfl (lv_at hl 0 rfl) ?_
  refine va_get (D := D) (ci := 7) (v := .int (Sm.1 4)) (C := RX8) (T := TX8) (N := 31) hx hb ht inX8 hown hK hP 0 rfl rfl 5 (by decide) (ht _ wd3_190) (fun _ h9 => h9) rfl dX8_endOf_1 ?_
  refine lv_aload_n hx hb dX8_endOf_4 rfl (lv_at hl 0 rfl) ?_
  refine lv_iload_n hx hb dX8_endOf_5 rfl (lv_at hl 1 rfl) ?_
  obtain ⟨u18, e19, hf⟩ := bdS hf
  refine k_rV (As := [.int x1]) (rest := [.int (Sm.1 4)]) hC miX8_knownBy mjX8_knownBy.1 mjX8_knownBy.2 wd4_194 (qX8_knownBy l D cI cZ cO jhm jam Sm x1 u18 e19) ⟨Nat.le_of_ble_eq_true rfl, Nat.le_of_ble_eq_true rfl⟩ (hP.sub [0] rfl) hK hZ hS (va_recv hK hP (ci := 7) (q0 := 0) rfl rfl) hl.1 rfl rfl (Nat.le_of_ble_eq_true rfl) dX8_endOf_6 ?_
  obtain ⟨u20, e21, hf⟩ := bdS hf
  refine k_pS (As := [.int u18]) (rest := [.int (Sm.1 4)]) hC miX8_many mjX8_many wd4_198 (qX8_many l u18 u20 e21) ⟨Nat.le_of_ble_eq_true rfl, Nat.le_of_ble_eq_true rfl⟩ hl.1 rfl rfl (Nat.le_of_ble_eq_true rfl) dX8_endOf_9 ?_
  refine lv_isub hx hb dX8_endOf_12 ?_
  refine lv_istore (lv' := [(4, .int ((Sm.1 4) - u20)), (0, .ref jhm), (1, .int x1), (2, .int x2), (3, .int x3)]) hx hb dX8_endOf_13 hl (by decide) rfl (fun ls hl => ?_)
  refine lv_sipush (v := (1000 : Int32)) hx hb dX8_endOf_15 rfl ?_
  refine lv_aload_n hx hb dX8_endOf_18 rfl (lv_at hl 1 rfl) ?_
  refine va_get (D := D) (ci := 7) (v := .ref (jam 7)) (C := RX8) (T := TX8) (N := 31) hx hb ht inX8 hown hK hP 0 rfl rfl 16 (by decide) (ht _ wd3_201) (fun _ h9 => h9) rfl dX8_endOf_19 ?_
  refine lv_bipush (v := (15 : Int32)) hx hb dX8_endOf_22 rfl ?_
  obtain ⟨h22, hf⟩ := inB_s hf
  refine va_iald (f := (Sm.2.1 7)) (n := 16) hx hb hK hP 4 0 rfl rfl h22 dX8_endOf_24 ?_
  refine lv_iadd hx hb dX8_endOf_25 ?_
  refine lv_aload_n hx hb dX8_endOf_26 rfl (lv_at hl 1 rfl) ?_
  refine lv_aload_n hx hb dX8_endOf_27 rfl (lv_at hl 1 rfl) ?_
  refine va_get (D := D) (ci := 7) (v := .ref (jam 15)) (C := RX8) (T := TX8) (N := 31) hx hb ht inX8 hown hK hP 0 rfl rfl 27 (by decide) (ht _ wd3_212) (fun _ h9 => h9) rfl dX8_endOf_28 ?_
  obtain ⟨u23, e24, hf⟩ := bdS hf
  refine k_rV (As := [.ref (jam 15)]) (rest := [.int ((1000 : Int32) + ((Sm.2.1 7) (15 : Int32).toNatClampNeg))]) hC miX8_worthOf mjX8_worthOf.1 mjX8_worthOf.2 wd4_91 (qX8_worthOf l D cI cZ cO jhm jam (jam 15) (4) Sm (Sm.2.1 15) u23 e24) ⟨Nat.le_of_ble_eq_true rfl, Nat.le_of_ble_eq_true rfl⟩ (hP.sub [0, 1, 5] rfl) hK hZ hS (va_recv hK hP (ci := 7) (q0 := 0) rfl rfl) hl.1 rfl rfl (Nat.le_of_ble_eq_true rfl) dX8_endOf_31 ?_
  refine lv_iadd hx hb dX8_endOf_34 ?_
  refine lv_istore (lv' := [(5, .int (((1000 : Int32) + ((Sm.2.1 7) (15 : Int32).toNatClampNeg)) + u23)), (4, .int ((Sm.1 4) - u20)), (0, .ref jhm), (1, .int x1), (2, .int x2), (3, .int x3)]) hx hb dX8_endOf_35 hl (by decide) rfl (fun ls hl => ?_)
  refine lv_iload_n hx hb dX8_endOf_37 rfl (lv_at hl 5 rfl) ?_
  refine lv_if_eq (tgt := 46) hx hb dX8_endOf_38 (by decide) (fun c25 => ?_) (fun c25 => ?_)
  · have hf := itP c25 hf
    refine lv_iload hx hb dX8_endOf_46 (lv_at hl 0 rfl) ?_
    refine lv_iload hx hb dX8_endOf_48 (lv_at hl 1 rfl) ?_
    obtain ⟨u26, e27, hf⟩ := bdS hf
    refine k_pS (As := [.int ((Sm.1 4) - u20)]) (rest := [.int (((1000 : Int32) + ((Sm.2.1 7) (15 : Int32).toNatClampNeg)) + u23)]) hC miX8_ten mjX8_ten wd4_213 (qX8_ten l ((Sm.1 4) - u20) u26 e27) ⟨Nat.le_of_ble_eq_true rfl, Nat.le_of_ble_eq_true rfl⟩ hl.1 rfl rfl (Nat.le_of_ble_eq_true rfl) dX8_endOf_50 ?_
    refine lv_imul hx hb dX8_endOf_53 ?_
    exact hj54 ((Sm.1 4) - u20) ((((1000 : Int32) + ((Sm.2.1 7) (15 : Int32).toNatClampNeg)) + u23) * u26) hf _ (lv_sub hl [2, 3, 4, 5, 1] rfl)
  · have hf := itN c25 hf
    refine lv_iload hx hb dX8_endOf_41 (lv_at hl 0 rfl) ?_
    refine lv_goto (tgt := 54) hx hb dX8_endOf_43 (by decide) ?_
    exact hj54 ((Sm.1 4) - u20) (((1000 : Int32) + ((Sm.2.1 7) (15 : Int32).toNatClampNeg)) + u23) hf _ (lv_sub hl [2, 3, 4, 5, 1] rfl)
abbrev wX8_behind (cI cZ : ClassId) (jhm : Nat) (jam : Nat → Nat) (Sm : Bk) : va_W := [(jhm, .inr (7, [.int (Sm.1 0), .ref (jam 0), .int (Sm.1 1), .int (Sm.1 2), .int (Sm.1 3), .int (Sm.1 4), .int (Sm.1 5), .ref (jam 1), .ref (jam 2), .ref (jam 3), .int (Sm.1 6), .int (Sm.1 7), .int (Sm.1 8), .ref (jam 4), .ref (jam 5), .ref (jam 6), .ref (jam 7), .ref (jam 8), .ref (jam 9), .int (Sm.1 9), .ref (jam 10), .ref (jam 11), .int (Sm.1 10), .ref (jam 12), .ref (jam 13), .long Sm.2.2, .ref (jam 14), .ref (jam 15), .int (Sm.1 11), .int (Sm.1 12), .int (Sm.1 13)])), (jam 2, .inl (cI, 16, .inl (Sm.2.1 2))), (jam 14, .inl (cI, 1296, .inl (Sm.2.1 14)))]
def fX8_behind (Sm : Bk) (x1 : Int32) (x2 : Int32) (x3 : Int32) (x4 : Int32) : Option (Int32) := (fX8_three x3).bind (fun u1 => inB 1296 (((16 : Int32) * (x1 + u1)) + x2) ((fX8_three x3).bind (fun u4 => inB 1296 (((16 : Int32) * (x1 + ((2 : Int32) * u4))) + x2) (inB 16 (((4 : Int32) * x3) + (3 : Int32)) ((if x4 = 0 then some ((((10 : Int32) - ((Sm.2.1 2) (((4 : Int32) * x3) + (3 : Int32)).toNatClampNeg)) * ((Sm.2.1 14) (((16 : Int32) * (x1 + u1)) + x2).toNatClampNeg)) + (((Sm.2.1 2) (((4 : Int32) * x3) + (3 : Int32)).toNatClampNeg) * ((Sm.2.1 14) (((16 : Int32) * (x1 + ((2 : Int32) * u4))) + x2).toNatClampNeg))) else (if ((Sm.2.1 14) (((16 : Int32) * (x1 + ((2 : Int32) * u4))) + x2).toNatClampNeg) ≤ ((Sm.2.1 14) (((16 : Int32) * (x1 + u1)) + x2).toNatClampNeg) then some ((Sm.2.1 14) (((16 : Int32) * (x1 + ((2 : Int32) * u4))) + x2).toNatClampNeg) else some ((Sm.2.1 14) (((16 : Int32) * (x1 + u1)) + x2).toNatClampNeg))))))))
theorem miX8_behind : MI yX8_behind cX8_behind 8 (some .int) 4 := ⟨wd1_8, wd4_223, by decide +kernel⟩
theorem mjX8_behind : Cond.instanceMethod yX8_behind ∈ wT ∧ Cond.selects yX8_behind.cls yX8_behind yX8_behind ∈ wT := ⟨wd4_222, ws_39⟩
set_option maxHeartbeats 4000000 in
set_option maxRecDepth 100000 in
theorem qX8_behind (l : Launch) (D : va_G) (cI cZ cO : ClassId) (jhm : Nat) (jam : Nat → Nat) (Sm : Bk) (x1 : Int32) (x2 : Int32) (x3 : Int32) (x4 : Int32) (res : Int32) (hf : fX8_behind Sm x1 x2 x3 x4 = some res) : Met l yX8_behind (Cond.code yX8_behind cX8_behind 8 (some .int) :: wT) (rmF 1 22) (va_Pc [.ref jhm, .int x1, .int x2, .int x3, .int x4] (cR D (tyL cI cZ cO) (wX8_behind cI cZ jhm jam Sm))) (vp_Si (fun r => r = res)) 0 0 (fun _ => False) := by
  refine met_r (by decide) (Nat.le_of_ble_eq_true rfl) ?_
  intro p e s m below meth c hx hb hr hml ht hown hlk ls hl hP hK hZ
  have hS : va_S (fun _ => False) s.heap s.heap [] := va_S.rf
  have hown : s.vm.findClass "EyeDrinkModel" = some m.cls := hown
  have hl : lv_has ls 8 [(0, .ref jhm), (1, .int x1), (2, .int x2), (3, .int x3), (4, .int x4)] := hl
  have hC : CallFix p m c cX8_behind 8 s ([.ref jhm, .int x1, .int x2, .int x3, .int x4] : List Value).toArray wT "EyeDrinkModel" := ⟨hx, hb, hml, hown, ht⟩
  unfold fX8_behind at hf
  refine lv_aload_n hx hb dX8_behind_0 rfl (lv_at hl 0 rfl) ?_
  refine va_get (D := D) (ci := 7) (v := .ref (jam 14)) (C := RX8) (T := TX8) (N := 31) hx hb ht inX8 hown hK hP 0 rfl rfl 26 (by decide) (ht _ wd3_211) (fun _ h9 => h9) rfl dX8_behind_1 ?_
  refine lv_bipush (v := (16 : Int32)) hx hb dX8_behind_4 rfl ?_
  refine lv_iload_n hx hb dX8_behind_6 rfl (lv_at hl 1 rfl) ?_
  refine lv_iload_n hx hb dX8_behind_7 rfl (lv_at hl 3 rfl) ?_
  obtain ⟨u1, e2, hf⟩ := bdS hf
  refine k_pS (As := [.int x3]) (rest := [.int x1, .int (16 : Int32), .ref (jam 14)]) hC miX8_three mjX8_three wd4_188 (qX8_three l x3 u1 e2) ⟨Nat.le_of_ble_eq_true rfl, Nat.le_of_ble_eq_true rfl⟩ hl.1 rfl rfl (Nat.le_of_ble_eq_true rfl) dX8_behind_8 ?_
  refine lv_iadd hx hb dX8_behind_11 ?_
  refine lv_imul hx hb dX8_behind_12 ?_
  refine lv_iload_n hx hb dX8_behind_13 rfl (lv_at hl 2 rfl) ?_
  refine lv_iadd hx hb dX8_behind_14 ?_
  obtain ⟨h3, hf⟩ := inB_s hf
  refine va_iald (f := (Sm.2.1 14)) (n := 1296) hx hb hK hP 2 0 rfl rfl h3 dX8_behind_15 ?_
  refine lv_istore (lv' := [(5, .int ((Sm.2.1 14) (((16 : Int32) * (x1 + u1)) + x2).toNatClampNeg)), (0, .ref jhm), (1, .int x1), (2, .int x2), (3, .int x3), (4, .int x4)]) hx hb dX8_behind_16 hl (by decide) rfl (fun ls hl => ?_)
  refine lv_aload_n hx hb dX8_behind_18 rfl (lv_at hl 1 rfl) ?_
  refine va_get (D := D) (ci := 7) (v := .ref (jam 14)) (C := RX8) (T := TX8) (N := 31) hx hb ht inX8 hown hK hP 0 rfl rfl 26 (by decide) (ht _ wd3_211) (fun _ h9 => h9) rfl dX8_behind_19 ?_
  refine lv_bipush (v := (16 : Int32)) hx hb dX8_behind_22 rfl ?_
  refine lv_iload_n hx hb dX8_behind_24 rfl (lv_at hl 2 rfl) ?_
  refine lv_iconst (v := (2 : Int32)) hx hb dX8_behind_25 rfl ?_
  refine lv_iload_n hx hb dX8_behind_26 rfl (lv_at hl 4 rfl) ?_
  obtain ⟨u4, e5, hf⟩ := bdS hf
  refine k_pS (As := [.int x3]) (rest := [.int (2 : Int32), .int x1, .int (16 : Int32), .ref (jam 14)]) hC miX8_three mjX8_three wd4_188 (qX8_three l x3 u4 e5) ⟨Nat.le_of_ble_eq_true rfl, Nat.le_of_ble_eq_true rfl⟩ hl.1 rfl rfl (Nat.le_of_ble_eq_true rfl) dX8_behind_27 ?_
  refine lv_imul hx hb dX8_behind_30 ?_
  refine lv_iadd hx hb dX8_behind_31 ?_
  refine lv_imul hx hb dX8_behind_32 ?_
  refine lv_iload_n hx hb dX8_behind_33 rfl (lv_at hl 3 rfl) ?_
  refine lv_iadd hx hb dX8_behind_34 ?_
  obtain ⟨h6, hf⟩ := inB_s hf
  refine va_iald (f := (Sm.2.1 14)) (n := 1296) hx hb hK hP 2 0 rfl rfl h6 dX8_behind_35 ?_
  refine lv_istore (lv' := [(6, .int ((Sm.2.1 14) (((16 : Int32) * (x1 + ((2 : Int32) * u4))) + x2).toNatClampNeg)), (5, .int ((Sm.2.1 14) (((16 : Int32) * (x1 + u1)) + x2).toNatClampNeg)), (0, .ref jhm), (1, .int x1), (2, .int x2), (3, .int x3), (4, .int x4)]) hx hb dX8_behind_36 hl (by decide) rfl (fun ls hl => ?_)
  refine lv_aload_n hx hb dX8_behind_38 rfl (lv_at hl 2 rfl) ?_
  refine va_get (D := D) (ci := 7) (v := .ref (jam 2)) (C := RX8) (T := TX8) (N := 31) hx hb ht inX8 hown hK hP 0 rfl rfl 8 (by decide) (ht _ wd3_193) (fun _ h9 => h9) rfl dX8_behind_39 ?_
  refine lv_iconst (v := (4 : Int32)) hx hb dX8_behind_42 rfl ?_
  refine lv_iload_n hx hb dX8_behind_43 rfl (lv_at hl 5 rfl) ?_
  refine lv_imul hx hb dX8_behind_44 ?_
  refine lv_iconst (v := (3 : Int32)) hx hb dX8_behind_45 rfl ?_
  refine lv_iadd hx hb dX8_behind_46 ?_
  obtain ⟨h7, hf⟩ := inB_s hf
  refine va_iald (f := (Sm.2.1 2)) (n := 16) hx hb hK hP 1 0 rfl rfl h7 dX8_behind_47 ?_
  refine lv_istore (lv' := [(7, .int ((Sm.2.1 2) (((4 : Int32) * x3) + (3 : Int32)).toNatClampNeg)), (6, .int ((Sm.2.1 14) (((16 : Int32) * (x1 + ((2 : Int32) * u4))) + x2).toNatClampNeg)), (5, .int ((Sm.2.1 14) (((16 : Int32) * (x1 + u1)) + x2).toNatClampNeg)), (0, .ref jhm), (1, .int x1), (2, .int x2), (3, .int x3), (4, .int x4)]) hx hb dX8_behind_48 hl (by decide) rfl (fun ls hl => ?_)
  refine lv_iload hx hb dX8_behind_50 (lv_at hl 7 rfl) ?_
  refine lv_if_ne (tgt := 72) hx hb dX8_behind_52 (by decide) (fun c8 => ?_) (fun c8 => ?_)
  · have hf := itN c8 hf
    refine lv_iload hx hb dX8_behind_72 (lv_at hl 2 rfl) ?_
    refine lv_iload hx hb dX8_behind_74 (lv_at hl 1 rfl) ?_
    refine lv_icmp_ge (tgt := 84) hx hb dX8_behind_76 (by decide) (fun c9 => ?_) (fun c9 => ?_)
    · have hf := itP c9 hf
      refine lv_iload hx hb dX8_behind_84 (lv_at hl 1 rfl) ?_
      exact W.iret hx hb hr (fun t ht9 _ => ⟨_, rfl, Option.some.inj hf, ht9⟩) (fun _ h9 => by cases h9) dX8_behind_86
    · have hf := itN c9 hf
      refine lv_iload hx hb dX8_behind_79 (lv_at hl 2 rfl) ?_
      refine lv_goto (tgt := 86) hx hb dX8_behind_81 (by decide) ?_
      exact W.iret hx hb hr (fun t ht9 _ => ⟨_, rfl, Option.some.inj hf, ht9⟩) (fun _ h9 => by cases h9) dX8_behind_86
  · have hf := itP c8 hf
    refine lv_bipush (v := (10 : Int32)) hx hb dX8_behind_55 rfl ?_
    refine lv_iload hx hb dX8_behind_57 (lv_at hl 0 rfl) ?_
    refine lv_isub hx hb dX8_behind_59 ?_
    refine lv_iload hx hb dX8_behind_60 (lv_at hl 2 rfl) ?_
    refine lv_imul hx hb dX8_behind_62 ?_
    refine lv_iload hx hb dX8_behind_63 (lv_at hl 0 rfl) ?_
    refine lv_iload hx hb dX8_behind_65 (lv_at hl 1 rfl) ?_
    refine lv_imul hx hb dX8_behind_67 ?_
    refine lv_iadd hx hb dX8_behind_68 ?_
    refine lv_goto (tgt := 86) hx hb dX8_behind_69 (by decide) ?_
    exact W.iret hx hb hr (fun t ht9 _ => ⟨_, rfl, Option.some.inj hf, ht9⟩) (fun _ h9 => by cases h9) dX8_behind_86
abbrev wX8_isBehind (cI cZ : ClassId) (jhm : Nat) (jam : Nat → Nat) (Sm : Bk) : va_W := [(jhm, .inr (7, [.int (Sm.1 0), .ref (jam 0), .int (Sm.1 1), .int (Sm.1 2), .int (Sm.1 3), .int (Sm.1 4), .int (Sm.1 5), .ref (jam 1), .ref (jam 2), .ref (jam 3), .int (Sm.1 6), .int (Sm.1 7), .int (Sm.1 8), .ref (jam 4), .ref (jam 5), .ref (jam 6), .ref (jam 7), .ref (jam 8), .ref (jam 9), .int (Sm.1 9), .ref (jam 10), .ref (jam 11), .int (Sm.1 10), .ref (jam 12), .ref (jam 13), .long Sm.2.2, .ref (jam 14), .ref (jam 15), .int (Sm.1 11), .int (Sm.1 12), .int (Sm.1 13)])), (jam 2, .inl (cI, 16, .inl (Sm.2.1 2))), (jam 7, .inl (cI, 16, .inl (Sm.2.1 7)))]
def gX8_isBehind_111 (Sm : Bk) (x1 : Int32) (x2 : Int32) (k44 : Int32 → Int32 → Int32 → Option (Int32)) (x4 : Int32) (x5 : Int32) (y0 : Int32) : Option (Int32) := k44 y0 x4 (x5 + (1 : Int32))
def gX8_isBehind_89 (Sm : Bk) (x1 : Int32) (x2 : Int32) (k44 : Int32 → Int32 → Int32 → Option (Int32)) (x4 : Int32) (x5 : Int32) : Option (Int32) := gX8_isBehind_111 Sm x1 x2 k44 x4 x5 (1 : Int32)
def sX8_isBehind_44 (Sm : Bk) (x1 : Int32) (x2 : Int32) (k44 : Int32 → Int32 → Int32 → Option (Int32)) (x3 : Int32) (x4 : Int32) (x5 : Int32) : Option (Int32) := (if (4 : Int32) ≤ x5 then z01 x3 (some x3) else (if x3 = 0 then z01 x3 (some x3) else (if (Sm.1 4) ≤ x5 then (fX8_knows x1 x5).bind (fun u6 => (if u6 = 0 then gX8_isBehind_111 Sm x1 x2 k44 x4 x5 (1 : Int32) else gX8_isBehind_111 Sm x1 x2 k44 x4 x5 (0 : Int32))) else (fX8_knows x4 x5).bind (fun u9 => (if u9 = 0 then gX8_isBehind_89 Sm x1 x2 k44 x4 x5 else (fX8_knows x4 x5).bind (fun u12 => (fX8_knows x1 x5).bind (fun u14 => (if u12 = u14 then gX8_isBehind_89 Sm x1 x2 k44 x4 x5 else gX8_isBehind_111 Sm x1 x2 k44 x4 x5 (0 : Int32)))))))))
def gX8_isBehind_34 (Sm : Bk) (x1 : Int32) (x2 : Int32) (y0 : Int32) : Option (Int32) := (fX8_codeNow Sm).bind (fun u17 => lk3 (sX8_isBehind_44 Sm x1 x2) 1000 y0 u17 (0 : Int32))
def gX8_isBehind_33 (Sm : Bk) (x1 : Int32) (x2 : Int32)  : Option (Int32) := gX8_isBehind_34 Sm x1 x2 (0 : Int32)
def fX8_isBehind (Sm : Bk) (x1 : Int32) (x2 : Int32) : Option (Int32) := inB 16 (13 : Int32) (inB 16 (13 : Int32) ((if (x2 &&& ((Sm.2.1 7) (13 : Int32).toNatClampNeg)) = ((Sm.2.1 7) (13 : Int32).toNatClampNeg) then (if ((1 : Int32) <<< ((Sm.1 5) &&& 31)) ≤ x2 then gX8_isBehind_33 Sm x1 x2  else gX8_isBehind_34 Sm x1 x2 (1 : Int32)) else gX8_isBehind_33 Sm x1 x2 )))
theorem miX8_isBehind : MI yX8_isBehind cX8_isBehind 6 (some .boolean) 2 := ⟨wd1_8, wd4_183, by decide +kernel⟩
theorem mjX8_isBehind : Cond.instanceMethod yX8_isBehind ∈ wT ∧ Cond.selects yX8_isBehind.cls yX8_isBehind yX8_isBehind ∈ wT := ⟨wd4_182, ws_32⟩
set_option maxHeartbeats 4000000 in
set_option maxRecDepth 100000 in
theorem qX8_isBehind (l : Launch) (D : va_G) (cI cZ cO : ClassId) (jhm : Nat) (jam : Nat → Nat) (Sm : Bk) (x1 : Int32) (x2 : Int32) (res : Int32) (hf : fX8_isBehind Sm x1 x2 = some res) : Met l yX8_isBehind (Cond.code yX8_isBehind cX8_isBehind 6 (some .boolean) :: wT) (rmF 2 44) (va_Pc [.ref jhm, .int x1, .int x2] (cR D (tyL cI cZ cO) (wX8_isBehind cI cZ jhm jam Sm))) (vp_Si (fun r => r = res)) 0 0 (fun _ => False) := by
  refine met_r (by decide) (Nat.le_of_ble_eq_true rfl) ?_
  intro p e s m below meth c hx hb hr hml ht hown hlk ls hl hP hK hZ
  have hS : va_S (fun _ => False) s.heap s.heap [] := va_S.rf
  have hown : s.vm.findClass "EyeDrinkModel" = some m.cls := hown
  have hl : lv_has ls 6 [(0, .ref jhm), (1, .int x1), (2, .int x2)] := hl
  have hC : CallFix p m c cX8_isBehind 6 s ([.ref jhm, .int x1, .int x2] : List Value).toArray wT "EyeDrinkModel" := ⟨hx, hb, hml, hown, ht⟩
  unfold fX8_isBehind at hf
  have hj44 : ∀ (x3 : Int32) (x4 : Int32) (x5 : Int32), lk3 (sX8_isBehind_44 Sm x1 x2) 1000 x3 x4 x5 = some res → ∀ (ls : Array Slot), lv_has ls 6 [(0, .ref jhm), (1, .int x1), (3, .int x3), (4, .int x4), (5, .int x5)] → W p l e (rmF 2 44) s m ([.ref jhm, .int x1, .int x2] : List Value).toArray below meth c s.heap [] 0 0 (MQ below (vp_Si (fun r => r = res)) ([.ref jhm, .int x1, .int x2] : List Value).toArray s 0 0 (fun _ => False)) (F0 m 44 ls []) := by
    refine lk3_w (fun (x3 : Int32) (x4 : Int32) (x5 : Int32) => ∀ (ls : Array Slot), lv_has ls 6 [(0, .ref jhm), (1, .int x1), (3, .int x3), (4, .int x4), (5, .int x5)] → W p l e (rmF 2 44) s m ([.ref jhm, .int x1, .int x2] : List Value).toArray below meth c s.heap [] 0 0 (MQ below (vp_Si (fun r => r = res)) ([.ref jhm, .int x1, .int x2] : List Value).toArray s 0 0 (fun _ => False)) (F0 m 44 ls [])) ?_ 1000
    intro k44 hk44 x3 x4 x5 hf ls hl
    unfold sX8_isBehind_44 at hf
    have hj111 : ∀ (x4 : Int32) (x5 : Int32) (y0 : Int32), gX8_isBehind_111 Sm x1 x2 k44 x4 x5 y0 = some res → ∀ (ls : Array Slot), lv_has ls 6 [(0, .ref jhm), (1, .int x1), (4, .int x4), (5, .int x5)] → W p l e (rmF 2 44) s m ([.ref jhm, .int x1, .int x2] : List Value).toArray below meth c s.heap [] 0 0 (MQ below (vp_Si (fun r => r = res)) ([.ref jhm, .int x1, .int x2] : List Value).toArray s 0 0 (fun _ => False)) (F0 m 111 ls [.int y0]) := by
      intro x4 x5 y0 hf ls hl
      unfold gX8_isBehind_111 at hf
      refine lv_istore_n (lv' := [(3, .int y0), (0, .ref jhm), (1, .int x1), (4, .int x4), (5, .int x5)]) hx hb dX8_isBehind_111 rfl hl (by decide) rfl (fun ls hl => ?_)
      refine lv_iinc (v := (x5 + (1 : Int32))) (lv' := [(5, .int (x5 + (1 : Int32))), (3, .int y0), (0, .ref jhm), (1, .int x1), (4, .int x4)]) hx hb dX8_isBehind_112 hl (k := 4) rfl rfl (by decide) rfl (fun ls hl => ?_)
      refine lv_goto (tgt := 44) hx hb dX8_isBehind_115 (by decide) ?_
      exact hk44 y0 x4 (x5 + (1 : Int32)) hf _ (lv_sub hl [2, 3, 1, 4, 0] rfl)
    have hj89 : ∀ (x4 : Int32) (x5 : Int32), gX8_isBehind_89 Sm x1 x2 k44 x4 x5 = some res → ∀ (ls : Array Slot), lv_has ls 6 [(0, .ref jhm), (1, .int x1), (4, .int x4), (5, .int x5)] → W p l e (rmF 2 44) s m ([.ref jhm, .int x1, .int x2] : List Value).toArray below meth c s.heap [] 0 0 (MQ below (vp_Si (fun r => r = res)) ([.ref jhm, .int x1, .int x2] : List Value).toArray s 0 0 (fun _ => False)) (F0 m 89 ls []) := by
      intro x4 x5 hf ls hl
      unfold gX8_isBehind_89 at hf
      refine lv_iconst (v := (1 : Int32)) hx hb dX8_isBehind_89 rfl ?_
      refine lv_goto (tgt := 111) hx hb dX8_isBehind_90 (by decide) ?_
      exact hj111 x4 x5 (1 : Int32) hf _ (lv_sub hl [0, 1, 2, 3] rfl)
    refine lv_iload hx hb dX8_isBehind_44 (lv_at hl 4 rfl) ?_
    refine lv_iconst (v := (4 : Int32)) hx hb dX8_isBehind_46 rfl ?_
    refine lv_icmp_ge (tgt := 118) hx hb dX8_isBehind_47 (by decide) (fun c1 => ?_) (fun c1 => ?_)
    · have hf := itP c1 hf
      refine lv_iload_n hx hb dX8_isBehind_118 rfl (lv_at hl 2 rfl) ?_
      obtain ⟨z2, hf⟩ := z01_s hf
      exact W.zret hx hb hr (nar01 z2) (fun t ht9 _ => ⟨_, rfl, Option.some.inj hf, ht9⟩) (fun _ h9 => by cases h9) dX8_isBehind_119
    · have hf := itN c1 hf
      refine lv_iload_n hx hb dX8_isBehind_50 rfl (lv_at hl 2 rfl) ?_
      refine lv_if_eq (tgt := 118) hx hb dX8_isBehind_51 (by decide) (fun c3 => ?_) (fun c3 => ?_)
      · have hf := itP c3 hf
        refine lv_iload_n hx hb dX8_isBehind_118 rfl (lv_at hl 2 rfl) ?_
        obtain ⟨z4, hf⟩ := z01_s hf
        exact W.zret hx hb hr (nar01 z4) (fun t ht9 _ => ⟨_, rfl, Option.some.inj hf, ht9⟩) (fun _ h9 => by cases h9) dX8_isBehind_119
      · have hf := itN c3 hf
        refine lv_iload hx hb dX8_isBehind_54 (lv_at hl 4 rfl) ?_
        refine lv_aload_n hx hb dX8_isBehind_56 rfl (lv_at hl 0 rfl) ?_
        refine va_get (D := D) (ci := 7) (v := .int (Sm.1 4)) (C := RX8) (T := TX8) (N := 31) hx hb ht inX8 hown hK hP 0 rfl rfl 5 (by decide) (ht _ wd3_190) (fun _ h9 => h9) rfl dX8_isBehind_57 ?_
        refine lv_icmp_ge (tgt := 97) hx hb dX8_isBehind_60 (by decide) (fun c5 => ?_) (fun c5 => ?_)
        · have hf := itP c5 hf
          refine lv_iload_n hx hb dX8_isBehind_97 rfl (lv_at hl 1 rfl) ?_
          refine lv_iload hx hb dX8_isBehind_98 (lv_at hl 4 rfl) ?_
          obtain ⟨u6, e7, hf⟩ := bdS hf
          refine k_pS (As := [.int x1, .int x5]) (rest := []) hC miX8_knows mjX8_knows wd4_191 (qX8_knows l x1 x5 u6 e7) ⟨Nat.le_of_ble_eq_true rfl, Nat.le_of_ble_eq_true rfl⟩ hl.1 rfl rfl (Nat.le_of_ble_eq_true rfl) dX8_isBehind_100 ?_
          refine lv_if_ne (tgt := 110) hx hb dX8_isBehind_103 (by decide) (fun c8 => ?_) (fun c8 => ?_)
          · have hf := itN c8 hf
            refine lv_iconst (v := (0 : Int32)) hx hb dX8_isBehind_110 rfl ?_
            exact hj111 x4 x5 (0 : Int32) hf _ (lv_sub hl [0, 1, 3, 4] rfl)
          · have hf := itP c8 hf
            refine lv_iconst (v := (1 : Int32)) hx hb dX8_isBehind_106 rfl ?_
            refine lv_goto (tgt := 111) hx hb dX8_isBehind_107 (by decide) ?_
            exact hj111 x4 x5 (1 : Int32) hf _ (lv_sub hl [0, 1, 3, 4] rfl)
        · have hf := itN c5 hf
          refine lv_iload hx hb dX8_isBehind_63 (lv_at hl 3 rfl) ?_
          refine lv_iload hx hb dX8_isBehind_65 (lv_at hl 4 rfl) ?_
          obtain ⟨u9, e10, hf⟩ := bdS hf
          refine k_pS (As := [.int x4, .int x5]) (rest := []) hC miX8_knows mjX8_knows wd4_191 (qX8_knows l x4 x5 u9 e10) ⟨Nat.le_of_ble_eq_true rfl, Nat.le_of_ble_eq_true rfl⟩ hl.1 rfl rfl (Nat.le_of_ble_eq_true rfl) dX8_isBehind_67 ?_
          refine lv_if_eq (tgt := 89) hx hb dX8_isBehind_70 (by decide) (fun c11 => ?_) (fun c11 => ?_)
          · have hf := itP c11 hf
            exact hj89 x4 x5 hf _ (lv_sub hl [0, 1, 3, 4] rfl)
          · have hf := itN c11 hf
            refine lv_iload hx hb dX8_isBehind_73 (lv_at hl 3 rfl) ?_
            refine lv_iload hx hb dX8_isBehind_75 (lv_at hl 4 rfl) ?_
            obtain ⟨u12, e13, hf⟩ := bdS hf
            refine k_pS (As := [.int x4, .int x5]) (rest := []) hC miX8_knows mjX8_knows wd4_191 (qX8_knows l x4 x5 u12 e13) ⟨Nat.le_of_ble_eq_true rfl, Nat.le_of_ble_eq_true rfl⟩ hl.1 rfl rfl (Nat.le_of_ble_eq_true rfl) dX8_isBehind_77 ?_
            refine lv_iload_n hx hb dX8_isBehind_80 rfl (lv_at hl 1 rfl) ?_
            refine lv_iload hx hb dX8_isBehind_81 (lv_at hl 4 rfl) ?_
            obtain ⟨u14, e15, hf⟩ := bdS hf
            refine k_pS (As := [.int x1, .int x5]) (rest := [.int u12]) hC miX8_knows mjX8_knows wd4_191 (qX8_knows l x1 x5 u14 e15) ⟨Nat.le_of_ble_eq_true rfl, Nat.le_of_ble_eq_true rfl⟩ hl.1 rfl rfl (Nat.le_of_ble_eq_true rfl) dX8_isBehind_83 ?_
            refine lv_icmp_ne (tgt := 93) hx hb dX8_isBehind_86 (by decide) (fun c16 => ?_) (fun c16 => ?_)
            · have hf := itN c16 hf
              refine lv_iconst (v := (0 : Int32)) hx hb dX8_isBehind_93 rfl ?_
              refine lv_goto (tgt := 111) hx hb dX8_isBehind_94 (by decide) ?_
              exact hj111 x4 x5 (0 : Int32) hf _ (lv_sub hl [0, 1, 3, 4] rfl)
            · have hf := itP c16 hf
              exact hj89 x4 x5 hf _ (lv_sub hl [0, 1, 3, 4] rfl)
  have hj34 : ∀ (y0 : Int32), gX8_isBehind_34 Sm x1 x2 y0 = some res → ∀ (ls : Array Slot), lv_has ls 6 [(0, .ref jhm), (1, .int x1)] → W p l e (rmF 2 44) s m ([.ref jhm, .int x1, .int x2] : List Value).toArray below meth c s.heap [] 0 0 (MQ below (vp_Si (fun r => r = res)) ([.ref jhm, .int x1, .int x2] : List Value).toArray s 0 0 (fun _ => False)) (F0 m 34 ls [.int y0]) := by
    intro y0 hf ls hl
    unfold gX8_isBehind_34 at hf
    refine lv_istore_n (lv' := [(3, .int y0), (0, .ref jhm), (1, .int x1)]) hx hb dX8_isBehind_34 rfl hl (by decide) rfl (fun ls hl => ?_)
    refine lv_aload_n hx hb dX8_isBehind_35 rfl (lv_at hl 1 rfl) ?_
    obtain ⟨u17, e18, hf⟩ := bdS hf
    refine k_rV (As := []) (rest := []) hC miX8_codeNow mjX8_codeNow.1 mjX8_codeNow.2 wd4_184 (qX8_codeNow l D cI cZ cO jhm jam Sm u17 e18) ⟨Nat.le_of_ble_eq_true rfl, Nat.le_of_ble_eq_true rfl⟩ (hP.sub [0, 1, 2] rfl) hK hZ hS (va_recv hK hP (ci := 7) (q0 := 0) rfl rfl) hl.1 rfl rfl (Nat.le_of_ble_eq_true rfl) dX8_isBehind_36 ?_
    refine lv_istore (lv' := [(4, .int u17), (3, .int y0), (0, .ref jhm), (1, .int x1)]) hx hb dX8_isBehind_39 hl (by decide) rfl (fun ls hl => ?_)
    refine lv_iconst (v := (0 : Int32)) hx hb dX8_isBehind_41 rfl ?_
    refine lv_istore (lv' := [(5, .int (0 : Int32)), (4, .int u17), (3, .int y0), (0, .ref jhm), (1, .int x1)]) hx hb dX8_isBehind_42 hl (by decide) rfl (fun ls hl => ?_)
    exact hj44 y0 u17 (0 : Int32) hf _ (lv_sub hl [3, 4, 2, 1, 0] rfl)
  have hj33 : gX8_isBehind_33 Sm x1 x2  = some res → ∀ (ls : Array Slot), lv_has ls 6 [(0, .ref jhm), (1, .int x1)] → W p l e (rmF 2 44) s m ([.ref jhm, .int x1, .int x2] : List Value).toArray below meth c s.heap [] 0 0 (MQ below (vp_Si (fun r => r = res)) ([.ref jhm, .int x1, .int x2] : List Value).toArray s 0 0 (fun _ => False)) (F0 m 33 ls []) := by
    intro  hf ls hl
    unfold gX8_isBehind_33 at hf
    refine lv_iconst (v := (0 : Int32)) hx hb dX8_isBehind_33 rfl ?_
    exact hj34 (0 : Int32) hf _ (lv_sub hl [0, 1] rfl)
  refine lv_iload_n hx hb dX8_isBehind_0 rfl (lv_at hl 2 rfl) ?_
  refine lv_aload_n hx hb dX8_isBehind_1 rfl (lv_at hl 0 rfl) ?_
  refine va_get (D := D) (ci := 7) (v := .ref (jam 7)) (C := RX8) (T := TX8) (N := 31) hx hb ht inX8 hown hK hP 0 rfl rfl 16 (by decide) (ht _ wd3_201) (fun _ h9 => h9) rfl dX8_isBehind_2 ?_
  refine lv_bipush (v := (13 : Int32)) hx hb dX8_isBehind_5 rfl ?_
  obtain ⟨h19, hf⟩ := inB_s hf
  refine va_iald (f := (Sm.2.1 7)) (n := 16) hx hb hK hP 2 0 rfl rfl h19 dX8_isBehind_7 ?_
  refine lv_iand hx hb dX8_isBehind_8 ?_
  refine lv_aload_n hx hb dX8_isBehind_9 rfl (lv_at hl 0 rfl) ?_
  refine va_get (D := D) (ci := 7) (v := .ref (jam 7)) (C := RX8) (T := TX8) (N := 31) hx hb ht inX8 hown hK hP 0 rfl rfl 16 (by decide) (ht _ wd3_201) (fun _ h9 => h9) rfl dX8_isBehind_10 ?_
  refine lv_bipush (v := (13 : Int32)) hx hb dX8_isBehind_13 rfl ?_
  obtain ⟨h20, hf⟩ := inB_s hf
  refine va_iald (f := (Sm.2.1 7)) (n := 16) hx hb hK hP 2 0 rfl rfl h20 dX8_isBehind_15 ?_
  refine lv_icmp_ne (tgt := 33) hx hb dX8_isBehind_16 (by decide) (fun c21 => ?_) (fun c21 => ?_)
  · have hf := itN c21 hf
    exact hj33  hf _ (lv_sub hl [0, 1] rfl)
  · have hf := itP c21 hf
    refine lv_iload_n hx hb dX8_isBehind_19 rfl (lv_at hl 2 rfl) ?_
    refine lv_iconst (v := (1 : Int32)) hx hb dX8_isBehind_20 rfl ?_
    refine lv_aload_n hx hb dX8_isBehind_21 rfl (lv_at hl 0 rfl) ?_
    refine va_get (D := D) (ci := 7) (v := .int (Sm.1 5)) (C := RX8) (T := TX8) (N := 31) hx hb ht inX8 hown hK hP 0 rfl rfl 6 (by decide) (ht _ wd3_191) (fun _ h9 => h9) rfl dX8_isBehind_22 ?_
    refine lv_ishl hx hb dX8_isBehind_25 ?_
    refine lv_icmp_ge (tgt := 33) hx hb dX8_isBehind_26 (by decide) (fun c22 => ?_) (fun c22 => ?_)
    · have hf := itP c22 hf
      exact hj33  hf _ (lv_sub hl [0, 1] rfl)
    · have hf := itN c22 hf
      refine lv_iconst (v := (1 : Int32)) hx hb dX8_isBehind_29 rfl ?_
      refine lv_goto (tgt := 34) hx hb dX8_isBehind_30 (by decide) ?_
      exact hj34 (1 : Int32) hf _ (lv_sub hl [0, 1] rfl)
abbrev wX8_layState (cI cZ : ClassId) (jhm : Nat) (jam : Nat → Nat) (Sm : Bk) : va_W := [(jhm, .inr (7, [.int (Sm.1 0), .ref (jam 0), .int (Sm.1 1), .int (Sm.1 2), .int (Sm.1 3), .int (Sm.1 4), .int (Sm.1 5), .ref (jam 1), .ref (jam 2), .ref (jam 3), .int (Sm.1 6), .int (Sm.1 7), .int (Sm.1 8), .ref (jam 4), .ref (jam 5), .ref (jam 6), .ref (jam 7), .ref (jam 8), .ref (jam 9), .int (Sm.1 9), .ref (jam 10), .ref (jam 11), .int (Sm.1 10), .ref (jam 12), .ref (jam 13), .long Sm.2.2, .ref (jam 14), .ref (jam 15), .int (Sm.1 11), .int (Sm.1 12), .int (Sm.1 13)])), (jam 1, .inl (cI, 12, .inl (Sm.2.1 1))), (jam 2, .inl (cI, 16, .inl (Sm.2.1 2))), (jam 3, .inl (cI, 20, .inl (Sm.2.1 3))), (jam 7, .inl (cI, 16, .inl (Sm.2.1 7))), (jam 14, .inl (cI, 1296, .inl (Sm.2.1 14))), (jam 15, .inl (cI, 4, .inl (Sm.2.1 15)))]
def gX8_layState_221 (x1 : Int32) (x2 : Int32) (x3 : Int32) (x4 : Int32) (k124 : Int32 → Int32 → Bk → Option (Bk)) (x6 : Int32) (Sm : Bk) (y0 : Int32) : Option (Bk) := k124 y0 (x6 + (1 : Int32)) Sm
def gX8_layState_205 (x1 : Int32) (x2 : Int32) (x3 : Int32) (x4 : Int32) (k124 : Int32 → Int32 → Bk → Option (Bk)) (x5 : Int32) (x6 : Int32) (Sm : Bk) (y0 : Int32) : Option (Bk) := (if y0 ≤ x5 then gX8_layState_221 x1 x2 x3 x4 k124 x6 Sm x5 else gX8_layState_221 x1 x2 x3 x4 k124 x6 Sm y0)
def gX8_layState_177 (x1 : Int32) (x2 : Int32) (x3 : Int32) (x4 : Int32) (k124 : Int32 → Int32 → Bk → Option (Bk)) (x5 : Int32) (x6 : Int32) (Sm : Bk) (y0 : Int32) : Option (Bk) := (if y0 = 0 then gX8_layState_205 x1 x2 x3 x4 k124 x5 x6 Sm x5 else inB 1296 (((16 : Int32) * x1) + (x2 ||| ((1 : Int32) <<< (x6 &&& 31)))) (gX8_layState_205 x1 x2 x3 x4 k124 x5 x6 Sm ((Sm.2.1 14) (((16 : Int32) * x1) + (x2 ||| ((1 : Int32) <<< (x6 &&& 31)))).toNatClampNeg)))
def gX8_layState_176 (x1 : Int32) (x2 : Int32) (x3 : Int32) (x4 : Int32) (k124 : Int32 → Int32 → Bk → Option (Bk)) (x5 : Int32) (x6 : Int32) (Sm : Bk) : Option (Bk) := gX8_layState_177 x1 x2 x3 x4 k124 x5 x6 Sm (0 : Int32)
def sX8_layState_124 (x1 : Int32) (x2 : Int32) (x3 : Int32) (x4 : Int32) (k124 : Int32 → Int32 → Bk → Option (Bk)) (x5 : Int32) (x6 : Int32) (Sm : Bk) : Option (Bk) := (if (Sm.1 5) ≤ x6 then inB 1296 (((16 : Int32) * x1) + x2) (nmV (((16 : Int32) * x1) + x2).toNatClampNeg (fun j6 => some (bW Sm 14 j6 x5))) else (fX8_has x2 x6).bind (fun u7 => (if u7 = 0 then inB 20 (((5 : Int32) * x6) + (3 : Int32)) (inB 4 ((Sm.2.1 3) (((5 : Int32) * x6) + (3 : Int32)).toNatClampNeg) (inB 20 (((5 : Int32) * x6) + (4 : Int32)) ((if ((Sm.2.1 15) ((Sm.2.1 3) (((5 : Int32) * x6) + (3 : Int32)).toNatClampNeg).toNatClampNeg) < ((Sm.2.1 3) (((5 : Int32) * x6) + (4 : Int32)).toNatClampNeg) then gX8_layState_176 x1 x2 x3 x4 k124 x5 x6 Sm else gX8_layState_177 x1 x2 x3 x4 k124 x5 x6 Sm (1 : Int32))))) else gX8_layState_176 x1 x2 x3 x4 k124 x5 x6 Sm)))
def gX8_layState_113 (x1 : Int32) (x2 : Int32) (x3 : Int32) (x4 : Int32) (k18 : Int32 → Int32 → Bk → Option (Bk)) (x6 : Int32) (Sm : Bk) (y0 : Int32) : Option (Bk) := k18 y0 (x6 + (1 : Int32)) Sm
def gX8_layState_97 (x1 : Int32) (x2 : Int32) (x3 : Int32) (x4 : Int32) (k18 : Int32 → Int32 → Bk → Option (Bk)) (x5 : Int32) (x6 : Int32) (Sm : Bk) (y0 : Int32) : Option (Bk) := (if y0 ≤ x5 then gX8_layState_113 x1 x2 x3 x4 k18 x6 Sm x5 else gX8_layState_113 x1 x2 x3 x4 k18 x6 Sm y0)
def gX8_layState_76 (x1 : Int32) (x2 : Int32) (x3 : Int32) (x4 : Int32) (k18 : Int32 → Int32 → Bk → Option (Bk)) (x5 : Int32) (x6 : Int32) (Sm : Bk) (y0 : Int32) : Option (Bk) := (if y0 = 0 then gX8_layState_97 x1 x2 x3 x4 k18 x5 x6 Sm x5 else (fX8_behind Sm x1 x2 x6 x3).bind (fun u16 => gX8_layState_97 x1 x2 x3 x4 k18 x5 x6 Sm u16))
def gX8_layState_75 (x1 : Int32) (x2 : Int32) (x3 : Int32) (x4 : Int32) (k18 : Int32 → Int32 → Bk → Option (Bk)) (x5 : Int32) (x6 : Int32) (Sm : Bk) : Option (Bk) := gX8_layState_76 x1 x2 x3 x4 k18 x5 x6 Sm (0 : Int32)
def sX8_layState_18 (x1 : Int32) (x2 : Int32) (x3 : Int32) (x4 : Int32) (k18 : Int32 → Int32 → Bk → Option (Bk)) (x5 : Int32) (x6 : Int32) (Sm : Bk) : Option (Bk) := (if (Sm.1 4) ≤ x6 then lk3 (sX8_layState_124 x1 x2 x3 x4) 1000 x5 (0 : Int32) Sm else (if x6 = x4 then gX8_layState_75 x1 x2 x3 x4 k18 x5 x6 Sm else (fX8_knows x1 x6).bind (fun u20 => (if u20 = 0 then inB 16 ((4 : Int32) * x6) (inB 4 ((Sm.2.1 2) ((4 : Int32) * x6).toNatClampNeg) (inB 16 (((4 : Int32) * x6) + (1 : Int32)) ((if ((Sm.2.1 15) ((Sm.2.1 2) ((4 : Int32) * x6).toNatClampNeg).toNatClampNeg) < ((Sm.2.1 2) (((4 : Int32) * x6) + (1 : Int32)).toNatClampNeg) then gX8_layState_75 x1 x2 x3 x4 k18 x5 x6 Sm else gX8_layState_76 x1 x2 x3 x4 k18 x5 x6 Sm (1 : Int32))))) else gX8_layState_75 x1 x2 x3 x4 k18 x5 x6 Sm))))
def fX8_layState (Sm : Bk) (x1 : Int32) (x2 : Int32) (x3 : Int32) (x4 : Int32) : Option (Bk) := (fX8_layThere Sm x1 x2).bind (fun u27 => (fX8_endOf (bA (bA (bA (bA (bO Sm u27) 2 (u27.2.1 2)) 3 (u27.2.1 3)) 7 (u27.2.1 7)) 15 (u27.2.1 15)) x1 x2 x3).bind (fun u29 => lk3 (sX8_layState_18 x1 x2 x3 x4) 1000 u29 (0 : Int32) (bA (bA (bA (bA (bO Sm u27) 2 (u27.2.1 2)) 3 (u27.2.1 3)) 7 (u27.2.1 7)) 15 (u27.2.1 15))))
theorem miX8_layState : MI yX8_layState cX8_layState 9 none 4 := ⟨wd1_8, wd4_204, by decide +kernel⟩
theorem mjX8_layState : Cond.instanceMethod yX8_layState ∈ wT ∧ Cond.selects yX8_layState.cls yX8_layState yX8_layState ∈ wT := ⟨wd4_203, ws_35⟩
set_option maxHeartbeats 4000000 in
set_option maxRecDepth 100000 in
theorem qX8_layState (l : Launch) (D : va_G) (cI cZ cO : ClassId) (jhm : Nat) (jam : Nat → Nat) (Sm : Bk) (x1 : Int32) (x2 : Int32) (x3 : Int32) (x4 : Int32) (sz : Nat) (res : Bk) (hf : fX8_layState Sm x1 x2 x3 x4 = some res) : Met l yX8_layState (Cond.code yX8_layState cX8_layState 9 none :: wT) (rmF 4 98) (va_Pc [.ref jhm, .int x1, .int x2, .int x3, .int x4] (cW D (tyL cI cZ cO) (wX8_layState cI cZ jhm jam Sm) sz)) (va_Qv (S := Unit) (fun _ => True) (fun _ => qW D (tyL cI cZ cO) (va_A (wX8_layState cI cZ jhm jam Sm) sz) (wX8_layState cI cZ jhm jam res)) (va_A (wX8_layState cI cZ jhm jam Sm) sz)) 0 0 (va_A (wX8_layState cI cZ jhm jam Sm) sz) := by
  refine met_w (by decide) (Nat.le_of_ble_eq_true rfl) ?_
  intro p e s m below meth c hx hb hr hml ht hown hlk ls hl hsz hP hK hD0 hZ
  subst hsz
  have hD := hD0.self (sz := s.heap.size)
  generalize hAe : va_A (wX8_layState cI cZ jhm jam Sm) s.heap.size = A at hD hZ ⊢
  have hA : ∀ q : Nat, s.heap.size ≤ q → A q := fun q h => by rw [← hAe]; exact Or.inr h
  have hS : va_S A s.heap s.heap [] := va_S.rf
  have hown : s.vm.findClass "EyeDrinkModel" = some m.cls := hown
  have hl : lv_has ls 9 [(0, .ref jhm), (1, .int x1), (2, .int x2), (3, .int x3), (4, .int x4)] := hl
  have hC : CallFix p m c cX8_layState 9 s ([.ref jhm, .int x1, .int x2, .int x3, .int x4] : List Value).toArray wT "EyeDrinkModel" := ⟨hx, hb, hml, hown, ht⟩
  unfold fX8_layState at hf
  suffices hgo : ∀ (H : Heap) (locs : List Loc), va_P D vwCl (wX8_layState cI cZ jhm jam Sm) H → va_S A s.heap H locs → W p l e (rmF 4 98) s m ([.ref jhm, .int x1, .int x2, .int x3, .int x4] : List Value).toArray below meth c H locs 0 0 (MQ below (va_Qv (S := Unit) (fun _ => True) (fun _ => qW D (tyL cI cZ cO) A (wX8_layState cI cZ jhm jam res)) A) ([.ref jhm, .int x1, .int x2, .int x3, .int x4] : List Value).toArray s 0 0 A) (F0 m 0 ls []) from hgo s.heap [] hP hS
  have hj124 : ∀ (x5 : Int32) (x6 : Int32) (Sm : Bk), lk3 (sX8_layState_124 x1 x2 x3 x4) 1000 x5 x6 Sm = some res → ∀ (H : Heap) (locs : List Loc) (ls : Array Slot), va_P D vwCl (wX8_layState cI cZ jhm jam Sm) H → va_D A (wX8_layState cI cZ jhm jam Sm) → va_S A s.heap H locs → lv_has ls 9 [(0, .ref jhm), (1, .int x1), (2, .int x2), (5, .int x5), (6, .int x6)] → W p l e (rmF 4 98) s m ([.ref jhm, .int x1, .int x2, .int x3, .int x4] : List Value).toArray below meth c H locs 0 0 (MQ below (va_Qv (S := Unit) (fun _ => True) (fun _ => qW D (tyL cI cZ cO) A (wX8_layState cI cZ jhm jam res)) A) ([.ref jhm, .int x1, .int x2, .int x3, .int x4] : List Value).toArray s 0 0 A) (F0 m 124 ls []) := by
    refine lk3_w (fun (x5 : Int32) (x6 : Int32) (Sm : Bk) => ∀ (H : Heap) (locs : List Loc) (ls : Array Slot), va_P D vwCl (wX8_layState cI cZ jhm jam Sm) H → va_D A (wX8_layState cI cZ jhm jam Sm) → va_S A s.heap H locs → lv_has ls 9 [(0, .ref jhm), (1, .int x1), (2, .int x2), (5, .int x5), (6, .int x6)] → W p l e (rmF 4 98) s m ([.ref jhm, .int x1, .int x2, .int x3, .int x4] : List Value).toArray below meth c H locs 0 0 (MQ below (va_Qv (S := Unit) (fun _ => True) (fun _ => qW D (tyL cI cZ cO) A (wX8_layState cI cZ jhm jam res)) A) ([.ref jhm, .int x1, .int x2, .int x3, .int x4] : List Value).toArray s 0 0 A) (F0 m 124 ls [])) ?_ 1000
    intro k124 hk124 x5 x6 Sm hf H locs ls hP hD hS hl
    unfold sX8_layState_124 at hf
    have hj221 : ∀ (x6 : Int32) (Sm : Bk) (y0 : Int32), gX8_layState_221 x1 x2 x3 x4 k124 x6 Sm y0 = some res → ∀ (H : Heap) (locs : List Loc) (ls : Array Slot), va_P D vwCl (wX8_layState cI cZ jhm jam Sm) H → va_D A (wX8_layState cI cZ jhm jam Sm) → va_S A s.heap H locs → lv_has ls 9 [(0, .ref jhm), (1, .int x1), (2, .int x2), (6, .int x6)] → W p l e (rmF 4 98) s m ([.ref jhm, .int x1, .int x2, .int x3, .int x4] : List Value).toArray below meth c H locs 0 0 (MQ below (va_Qv (S := Unit) (fun _ => True) (fun _ => qW D (tyL cI cZ cO) A (wX8_layState cI cZ jhm jam res)) A) ([.ref jhm, .int x1, .int x2, .int x3, .int x4] : List Value).toArray s 0 0 A) (F0 m 221 ls [.int y0]) := by
      intro x6 Sm y0 hf H locs ls hP hD hS hl
      unfold gX8_layState_221 at hf
      refine lv_istore (lv' := [(5, .int y0), (0, .ref jhm), (1, .int x1), (2, .int x2), (6, .int x6)]) hx hb dX8_layState_221 hl (by decide) rfl (fun ls hl => ?_)
      refine lv_iinc (v := (x6 + (1 : Int32))) (lv' := [(6, .int (x6 + (1 : Int32))), (5, .int y0), (0, .ref jhm), (1, .int x1), (2, .int x2)]) hx hb dX8_layState_223 hl (k := 4) rfl rfl (by decide) rfl (fun ls hl => ?_)
      refine lv_goto (tgt := 124) hx hb dX8_layState_226 (by decide) ?_
      exact hk124 y0 (x6 + (1 : Int32)) Sm hf _ _ _ hP hD hS (lv_sub hl [2, 3, 4, 1, 0] rfl)
    have hj205 : ∀ (x5 : Int32) (x6 : Int32) (Sm : Bk) (y0 : Int32), gX8_layState_205 x1 x2 x3 x4 k124 x5 x6 Sm y0 = some res → ∀ (H : Heap) (locs : List Loc) (ls : Array Slot), va_P D vwCl (wX8_layState cI cZ jhm jam Sm) H → va_D A (wX8_layState cI cZ jhm jam Sm) → va_S A s.heap H locs → lv_has ls 9 [(0, .ref jhm), (1, .int x1), (2, .int x2), (5, .int x5), (6, .int x6)] → W p l e (rmF 4 98) s m ([.ref jhm, .int x1, .int x2, .int x3, .int x4] : List Value).toArray below meth c H locs 0 0 (MQ below (va_Qv (S := Unit) (fun _ => True) (fun _ => qW D (tyL cI cZ cO) A (wX8_layState cI cZ jhm jam res)) A) ([.ref jhm, .int x1, .int x2, .int x3, .int x4] : List Value).toArray s 0 0 A) (F0 m 205 ls [.int y0]) := by
      intro x5 x6 Sm y0 hf H locs ls hP hD hS hl
      unfold gX8_layState_205 at hf
      refine lv_istore (lv' := [(8, .int y0), (0, .ref jhm), (1, .int x1), (2, .int x2), (5, .int x5), (6, .int x6)]) hx hb dX8_layState_205 hl (by decide) rfl (fun ls hl => ?_)
      refine lv_iload hx hb dX8_layState_207 (lv_at hl 0 rfl) ?_
      refine lv_iload hx hb dX8_layState_209 (lv_at hl 4 rfl) ?_
      refine lv_icmp_le (tgt := 219) hx hb dX8_layState_211 (by decide) (fun c1 => ?_) (fun c1 => ?_)
      · have hf := itP c1 hf
        refine lv_iload hx hb dX8_layState_219 (lv_at hl 4 rfl) ?_
        exact hj221 x6 Sm x5 hf _ _ _ hP hD hS (lv_sub hl [1, 2, 3, 5] rfl)
      · have hf := itN c1 hf
        refine lv_iload hx hb dX8_layState_214 (lv_at hl 0 rfl) ?_
        refine lv_goto (tgt := 221) hx hb dX8_layState_216 (by decide) ?_
        exact hj221 x6 Sm y0 hf _ _ _ hP hD hS (lv_sub hl [1, 2, 3, 5] rfl)
    have hj177 : ∀ (x5 : Int32) (x6 : Int32) (Sm : Bk) (y0 : Int32), gX8_layState_177 x1 x2 x3 x4 k124 x5 x6 Sm y0 = some res → ∀ (H : Heap) (locs : List Loc) (ls : Array Slot), va_P D vwCl (wX8_layState cI cZ jhm jam Sm) H → va_D A (wX8_layState cI cZ jhm jam Sm) → va_S A s.heap H locs → lv_has ls 9 [(0, .ref jhm), (1, .int x1), (2, .int x2), (5, .int x5), (6, .int x6)] → W p l e (rmF 4 98) s m ([.ref jhm, .int x1, .int x2, .int x3, .int x4] : List Value).toArray below meth c H locs 0 0 (MQ below (va_Qv (S := Unit) (fun _ => True) (fun _ => qW D (tyL cI cZ cO) A (wX8_layState cI cZ jhm jam res)) A) ([.ref jhm, .int x1, .int x2, .int x3, .int x4] : List Value).toArray s 0 0 A) (F0 m 177 ls [.int y0]) := by
      intro x5 x6 Sm y0 hf H locs ls hP hD hS hl
      unfold gX8_layState_177 at hf
      refine lv_istore (lv' := [(7, .int y0), (0, .ref jhm), (1, .int x1), (2, .int x2), (5, .int x5), (6, .int x6)]) hx hb dX8_layState_177 hl (by decide) rfl (fun ls hl => ?_)
      refine lv_iload hx hb dX8_layState_179 (lv_at hl 0 rfl) ?_
      refine lv_if_eq (tgt := 203) hx hb dX8_layState_181 (by decide) (fun c2 => ?_) (fun c2 => ?_)
      · have hf := itP c2 hf
        refine lv_iload hx hb dX8_layState_203 (lv_at hl 4 rfl) ?_
        exact hj205 x5 x6 Sm x5 hf _ _ _ hP hD hS (lv_sub hl [1, 2, 3, 4, 5] rfl)
      · have hf := itN c2 hf
        refine lv_aload_n hx hb dX8_layState_184 rfl (lv_at hl 1 rfl) ?_
        refine va_get (D := D) (ci := 7) (v := .ref (jam 14)) (C := RX8) (T := TX8) (N := 31) hx hb ht inX8 hown hK hP 0 rfl rfl 26 (by decide) (ht _ wd3_211) (fun _ h9 => h9) rfl dX8_layState_185 ?_
        refine lv_bipush (v := (16 : Int32)) hx hb dX8_layState_188 rfl ?_
        refine lv_iload_n hx hb dX8_layState_190 rfl (lv_at hl 2 rfl) ?_
        refine lv_imul hx hb dX8_layState_191 ?_
        refine lv_iload_n hx hb dX8_layState_192 rfl (lv_at hl 3 rfl) ?_
        refine lv_iconst (v := (1 : Int32)) hx hb dX8_layState_193 rfl ?_
        refine lv_iload hx hb dX8_layState_194 (lv_at hl 5 rfl) ?_
        refine lv_ishl hx hb dX8_layState_196 ?_
        refine lv_ior hx hb dX8_layState_197 ?_
        refine lv_iadd hx hb dX8_layState_198 ?_
        obtain ⟨h3, hf⟩ := inB_s hf
        refine va_iald (f := (Sm.2.1 14)) (n := 1296) hx hb hK hP 5 0 rfl rfl h3 dX8_layState_199 ?_
        refine lv_goto (tgt := 205) hx hb dX8_layState_200 (by decide) ?_
        exact hj205 x5 x6 Sm ((Sm.2.1 14) (((16 : Int32) * x1) + (x2 ||| ((1 : Int32) <<< (x6 &&& 31)))).toNatClampNeg) hf _ _ _ hP hD hS (lv_sub hl [1, 2, 3, 4, 5] rfl)
    have hj176 : ∀ (x5 : Int32) (x6 : Int32) (Sm : Bk), gX8_layState_176 x1 x2 x3 x4 k124 x5 x6 Sm = some res → ∀ (H : Heap) (locs : List Loc) (ls : Array Slot), va_P D vwCl (wX8_layState cI cZ jhm jam Sm) H → va_D A (wX8_layState cI cZ jhm jam Sm) → va_S A s.heap H locs → lv_has ls 9 [(0, .ref jhm), (1, .int x1), (2, .int x2), (5, .int x5), (6, .int x6)] → W p l e (rmF 4 98) s m ([.ref jhm, .int x1, .int x2, .int x3, .int x4] : List Value).toArray below meth c H locs 0 0 (MQ below (va_Qv (S := Unit) (fun _ => True) (fun _ => qW D (tyL cI cZ cO) A (wX8_layState cI cZ jhm jam res)) A) ([.ref jhm, .int x1, .int x2, .int x3, .int x4] : List Value).toArray s 0 0 A) (F0 m 176 ls []) := by
      intro x5 x6 Sm hf H locs ls hP hD hS hl
      unfold gX8_layState_176 at hf
      refine lv_iconst (v := (0 : Int32)) hx hb dX8_layState_176 rfl ?_
      exact hj177 x5 x6 Sm (0 : Int32) hf _ _ _ hP hD hS (lv_sub hl [0, 1, 2, 3, 4] rfl)
    refine lv_iload hx hb dX8_layState_124 (lv_at hl 4 rfl) ?_
    refine lv_aload_n hx hb dX8_layState_126 rfl (lv_at hl 0 rfl) ?_
    refine va_get (D := D) (ci := 7) (v := .int (Sm.1 5)) (C := RX8) (T := TX8) (N := 31) hx hb ht inX8 hown hK hP 0 rfl rfl 6 (by decide) (ht _ wd3_191) (fun _ h9 => h9) rfl dX8_layState_127 ?_
    refine lv_icmp_ge (tgt := 229) hx hb dX8_layState_130 (by decide) (fun c4 => ?_) (fun c4 => ?_)
    · have hf := itP c4 hf
      refine lv_aload_n hx hb dX8_layState_229 rfl (lv_at hl 0 rfl) ?_
      refine va_get (D := D) (ci := 7) (v := .ref (jam 14)) (C := RX8) (T := TX8) (N := 31) hx hb ht inX8 hown hK hP 0 rfl rfl 26 (by decide) (ht _ wd3_211) (fun _ h9 => h9) rfl dX8_layState_230 ?_
      refine lv_bipush (v := (16 : Int32)) hx hb dX8_layState_233 rfl ?_
      refine lv_iload_n hx hb dX8_layState_235 rfl (lv_at hl 1 rfl) ?_
      refine lv_imul hx hb dX8_layState_236 ?_
      refine lv_iload_n hx hb dX8_layState_237 rfl (lv_at hl 2 rfl) ?_
      refine lv_iadd hx hb dX8_layState_238 ?_
      refine lv_iload hx hb dX8_layState_239 (lv_at hl 3 rfl) ?_
      obtain ⟨h5, hf⟩ := inB_s hf
      obtain ⟨j6, ej6, hf⟩ := nmV_s hf
      refine va_iast (f := (Sm.2.1 14)) (n := 1296) hx hb hK hP hD hS 5 0 rfl rfl h5 dX8_layState_241 (fun H locs hP hD hS => ?_)
      rw [← ej6] at hP hD
      have hP : va_P D vwCl (wX8_layState cI cZ jhm jam (bW Sm 14 j6 x5)) H := hP
      have hD : va_D A (wX8_layState cI cZ jhm jam (bW Sm 14 j6 x5)) := hD
      cases hf
      exact W.vret hx hb hr (fun t ht9 hW => ⟨⟨(), rfl, trivial, by rw [ht9]; exact hP, va_K.moved hW.alike hK, hD⟩, hS.F ht9⟩) hS.2.2 dX8_layState_242
    · have hf := itN c4 hf
      refine lv_iload_n hx hb dX8_layState_133 rfl (lv_at hl 2 rfl) ?_
      refine lv_iload hx hb dX8_layState_134 (lv_at hl 4 rfl) ?_
      obtain ⟨u7, e8, hf⟩ := bdS hf
      refine k_pS (As := [.int x2, .int x6]) (rest := []) hC miX8_has mjX8_has wd4_108 (qX8_has l x2 x6 u7 e8) ⟨Nat.le_of_ble_eq_true rfl, Nat.le_of_ble_eq_true rfl⟩ hl.1 rfl rfl (Nat.le_of_ble_eq_true rfl) dX8_layState_136 ?_
      refine lv_if_ne (tgt := 176) hx hb dX8_layState_139 (by decide) (fun c9 => ?_) (fun c9 => ?_)
      · have hf := itN c9 hf
        exact hj176 x5 x6 Sm hf _ _ _ hP hD hS (lv_sub hl [0, 1, 2, 3, 4] rfl)
      · have hf := itP c9 hf
        refine lv_aload_n hx hb dX8_layState_142 rfl (lv_at hl 0 rfl) ?_
        refine va_get (D := D) (ci := 7) (v := .ref (jam 15)) (C := RX8) (T := TX8) (N := 31) hx hb ht inX8 hown hK hP 0 rfl rfl 27 (by decide) (ht _ wd3_212) (fun _ h9 => h9) rfl dX8_layState_143 ?_
        refine lv_aload_n hx hb dX8_layState_146 rfl (lv_at hl 0 rfl) ?_
        refine va_get (D := D) (ci := 7) (v := .ref (jam 3)) (C := RX8) (T := TX8) (N := 31) hx hb ht inX8 hown hK hP 0 rfl rfl 9 (by decide) (ht _ wd3_194) (fun _ h9 => h9) rfl dX8_layState_147 ?_
        refine lv_iconst (v := (5 : Int32)) hx hb dX8_layState_150 rfl ?_
        refine lv_iload hx hb dX8_layState_151 (lv_at hl 4 rfl) ?_
        refine lv_imul hx hb dX8_layState_153 ?_
        refine lv_iconst (v := (3 : Int32)) hx hb dX8_layState_154 rfl ?_
        refine lv_iadd hx hb dX8_layState_155 ?_
        obtain ⟨h10, hf⟩ := inB_s hf
        refine va_iald (f := (Sm.2.1 3)) (n := 20) hx hb hK hP 3 0 rfl rfl h10 dX8_layState_156 ?_
        obtain ⟨h11, hf⟩ := inB_s hf
        refine va_iald (f := (Sm.2.1 15)) (n := 4) hx hb hK hP 6 0 rfl rfl h11 dX8_layState_157 ?_
        refine lv_aload_n hx hb dX8_layState_158 rfl (lv_at hl 0 rfl) ?_
        refine va_get (D := D) (ci := 7) (v := .ref (jam 3)) (C := RX8) (T := TX8) (N := 31) hx hb ht inX8 hown hK hP 0 rfl rfl 9 (by decide) (ht _ wd3_194) (fun _ h9 => h9) rfl dX8_layState_159 ?_
        refine lv_iconst (v := (5 : Int32)) hx hb dX8_layState_162 rfl ?_
        refine lv_iload hx hb dX8_layState_163 (lv_at hl 4 rfl) ?_
        refine lv_imul hx hb dX8_layState_165 ?_
        refine lv_iconst (v := (4 : Int32)) hx hb dX8_layState_166 rfl ?_
        refine lv_iadd hx hb dX8_layState_167 ?_
        obtain ⟨h12, hf⟩ := inB_s hf
        refine va_iald (f := (Sm.2.1 3)) (n := 20) hx hb hK hP 3 0 rfl rfl h12 dX8_layState_168 ?_
        refine lv_icmp_lt (tgt := 176) hx hb dX8_layState_169 (by decide) (fun c13 => ?_) (fun c13 => ?_)
        · have hf := itP c13 hf
          exact hj176 x5 x6 Sm hf _ _ _ hP hD hS (lv_sub hl [0, 1, 2, 3, 4] rfl)
        · have hf := itN c13 hf
          refine lv_iconst (v := (1 : Int32)) hx hb dX8_layState_172 rfl ?_
          refine lv_goto (tgt := 177) hx hb dX8_layState_173 (by decide) ?_
          exact hj177 x5 x6 Sm (1 : Int32) hf _ _ _ hP hD hS (lv_sub hl [0, 1, 2, 3, 4] rfl)
  have hj18 : ∀ (x5 : Int32) (x6 : Int32) (Sm : Bk), lk3 (sX8_layState_18 x1 x2 x3 x4) 1000 x5 x6 Sm = some res → ∀ (H : Heap) (locs : List Loc) (ls : Array Slot), va_P D vwCl (wX8_layState cI cZ jhm jam Sm) H → va_D A (wX8_layState cI cZ jhm jam Sm) → va_S A s.heap H locs → lv_has ls 9 [(0, .ref jhm), (1, .int x1), (2, .int x2), (3, .int x3), (4, .int x4), (5, .int x5), (6, .int x6)] → W p l e (rmF 4 98) s m ([.ref jhm, .int x1, .int x2, .int x3, .int x4] : List Value).toArray below meth c H locs 0 0 (MQ below (va_Qv (S := Unit) (fun _ => True) (fun _ => qW D (tyL cI cZ cO) A (wX8_layState cI cZ jhm jam res)) A) ([.ref jhm, .int x1, .int x2, .int x3, .int x4] : List Value).toArray s 0 0 A) (F0 m 18 ls []) := by
    refine lk3_w (fun (x5 : Int32) (x6 : Int32) (Sm : Bk) => ∀ (H : Heap) (locs : List Loc) (ls : Array Slot), va_P D vwCl (wX8_layState cI cZ jhm jam Sm) H → va_D A (wX8_layState cI cZ jhm jam Sm) → va_S A s.heap H locs → lv_has ls 9 [(0, .ref jhm), (1, .int x1), (2, .int x2), (3, .int x3), (4, .int x4), (5, .int x5), (6, .int x6)] → W p l e (rmF 4 98) s m ([.ref jhm, .int x1, .int x2, .int x3, .int x4] : List Value).toArray below meth c H locs 0 0 (MQ below (va_Qv (S := Unit) (fun _ => True) (fun _ => qW D (tyL cI cZ cO) A (wX8_layState cI cZ jhm jam res)) A) ([.ref jhm, .int x1, .int x2, .int x3, .int x4] : List Value).toArray s 0 0 A) (F0 m 18 ls [])) ?_ 1000
    intro k18 hk18 x5 x6 Sm hf H locs ls hP hD hS hl
    unfold sX8_layState_18 at hf
    have hj113 : ∀ (x6 : Int32) (Sm : Bk) (y0 : Int32), gX8_layState_113 x1 x2 x3 x4 k18 x6 Sm y0 = some res → ∀ (H : Heap) (locs : List Loc) (ls : Array Slot), va_P D vwCl (wX8_layState cI cZ jhm jam Sm) H → va_D A (wX8_layState cI cZ jhm jam Sm) → va_S A s.heap H locs → lv_has ls 9 [(0, .ref jhm), (1, .int x1), (2, .int x2), (3, .int x3), (4, .int x4), (6, .int x6)] → W p l e (rmF 4 98) s m ([.ref jhm, .int x1, .int x2, .int x3, .int x4] : List Value).toArray below meth c H locs 0 0 (MQ below (va_Qv (S := Unit) (fun _ => True) (fun _ => qW D (tyL cI cZ cO) A (wX8_layState cI cZ jhm jam res)) A) ([.ref jhm, .int x1, .int x2, .int x3, .int x4] : List Value).toArray s 0 0 A) (F0 m 113 ls [.int y0]) := by
      intro x6 Sm y0 hf H locs ls hP hD hS hl
      unfold gX8_layState_113 at hf
      refine lv_istore (lv' := [(5, .int y0), (0, .ref jhm), (1, .int x1), (2, .int x2), (3, .int x3), (4, .int x4), (6, .int x6)]) hx hb dX8_layState_113 hl (by decide) rfl (fun ls hl => ?_)
      refine lv_iinc (v := (x6 + (1 : Int32))) (lv' := [(6, .int (x6 + (1 : Int32))), (5, .int y0), (0, .ref jhm), (1, .int x1), (2, .int x2), (3, .int x3), (4, .int x4)]) hx hb dX8_layState_115 hl (k := 6) rfl rfl (by decide) rfl (fun ls hl => ?_)
      refine lv_goto (tgt := 18) hx hb dX8_layState_118 (by decide) ?_
      exact hk18 y0 (x6 + (1 : Int32)) Sm hf _ _ _ hP hD hS (lv_sub hl [2, 3, 4, 5, 6, 1, 0] rfl)
    have hj97 : ∀ (x5 : Int32) (x6 : Int32) (Sm : Bk) (y0 : Int32), gX8_layState_97 x1 x2 x3 x4 k18 x5 x6 Sm y0 = some res → ∀ (H : Heap) (locs : List Loc) (ls : Array Slot), va_P D vwCl (wX8_layState cI cZ jhm jam Sm) H → va_D A (wX8_layState cI cZ jhm jam Sm) → va_S A s.heap H locs → lv_has ls 9 [(0, .ref jhm), (1, .int x1), (2, .int x2), (3, .int x3), (4, .int x4), (5, .int x5), (6, .int x6)] → W p l e (rmF 4 98) s m ([.ref jhm, .int x1, .int x2, .int x3, .int x4] : List Value).toArray below meth c H locs 0 0 (MQ below (va_Qv (S := Unit) (fun _ => True) (fun _ => qW D (tyL cI cZ cO) A (wX8_layState cI cZ jhm jam res)) A) ([.ref jhm, .int x1, .int x2, .int x3, .int x4] : List Value).toArray s 0 0 A) (F0 m 97 ls [.int y0]) := by
      intro x5 x6 Sm y0 hf H locs ls hP hD hS hl
      unfold gX8_layState_97 at hf
      refine lv_istore (lv' := [(8, .int y0), (0, .ref jhm), (1, .int x1), (2, .int x2), (3, .int x3), (4, .int x4), (5, .int x5), (6, .int x6)]) hx hb dX8_layState_97 hl (by decide) rfl (fun ls hl => ?_)
      refine lv_iload hx hb dX8_layState_99 (lv_at hl 0 rfl) ?_
      refine lv_iload hx hb dX8_layState_101 (lv_at hl 6 rfl) ?_
      refine lv_icmp_le (tgt := 111) hx hb dX8_layState_103 (by decide) (fun c14 => ?_) (fun c14 => ?_)
      · have hf := itP c14 hf
        refine lv_iload hx hb dX8_layState_111 (lv_at hl 6 rfl) ?_
        exact hj113 x6 Sm x5 hf _ _ _ hP hD hS (lv_sub hl [1, 2, 3, 4, 5, 7] rfl)
      · have hf := itN c14 hf
        refine lv_iload hx hb dX8_layState_106 (lv_at hl 0 rfl) ?_
        refine lv_goto (tgt := 113) hx hb dX8_layState_108 (by decide) ?_
        exact hj113 x6 Sm y0 hf _ _ _ hP hD hS (lv_sub hl [1, 2, 3, 4, 5, 7] rfl)
    have hj76 : ∀ (x5 : Int32) (x6 : Int32) (Sm : Bk) (y0 : Int32), gX8_layState_76 x1 x2 x3 x4 k18 x5 x6 Sm y0 = some res → ∀ (H : Heap) (locs : List Loc) (ls : Array Slot), va_P D vwCl (wX8_layState cI cZ jhm jam Sm) H → va_D A (wX8_layState cI cZ jhm jam Sm) → va_S A s.heap H locs → lv_has ls 9 [(0, .ref jhm), (1, .int x1), (2, .int x2), (3, .int x3), (4, .int x4), (5, .int x5), (6, .int x6)] → W p l e (rmF 4 98) s m ([.ref jhm, .int x1, .int x2, .int x3, .int x4] : List Value).toArray below meth c H locs 0 0 (MQ below (va_Qv (S := Unit) (fun _ => True) (fun _ => qW D (tyL cI cZ cO) A (wX8_layState cI cZ jhm jam res)) A) ([.ref jhm, .int x1, .int x2, .int x3, .int x4] : List Value).toArray s 0 0 A) (F0 m 76 ls [.int y0]) := by
      intro x5 x6 Sm y0 hf H locs ls hP hD hS hl
      unfold gX8_layState_76 at hf
      refine lv_istore (lv' := [(7, .int y0), (0, .ref jhm), (1, .int x1), (2, .int x2), (3, .int x3), (4, .int x4), (5, .int x5), (6, .int x6)]) hx hb dX8_layState_76 hl (by decide) rfl (fun ls hl => ?_)
      refine lv_iload hx hb dX8_layState_78 (lv_at hl 0 rfl) ?_
      refine lv_if_eq (tgt := 95) hx hb dX8_layState_80 (by decide) (fun c15 => ?_) (fun c15 => ?_)
      · have hf := itP c15 hf
        refine lv_iload hx hb dX8_layState_95 (lv_at hl 6 rfl) ?_
        exact hj97 x5 x6 Sm x5 hf _ _ _ hP hD hS (lv_sub hl [1, 2, 3, 4, 5, 6, 7] rfl)
      · have hf := itN c15 hf
        refine lv_aload_n hx hb dX8_layState_83 rfl (lv_at hl 1 rfl) ?_
        refine lv_iload_n hx hb dX8_layState_84 rfl (lv_at hl 2 rfl) ?_
        refine lv_iload_n hx hb dX8_layState_85 rfl (lv_at hl 3 rfl) ?_
        refine lv_iload hx hb dX8_layState_86 (lv_at hl 7 rfl) ?_
        refine lv_iload_n hx hb dX8_layState_88 rfl (lv_at hl 4 rfl) ?_
        obtain ⟨u16, e17, hf⟩ := bdS hf
        refine k_rV (As := [.int x1, .int x2, .int x6, .int x3]) (rest := []) hC miX8_behind mjX8_behind.1 mjX8_behind.2 wd4_220 (qX8_behind l D cI cZ cO jhm jam Sm x1 x2 x6 x3 u16 e17) ⟨Nat.le_of_ble_eq_true rfl, Nat.le_of_ble_eq_true rfl⟩ (hP.sub [0, 2, 5] rfl) hK hZ hS (va_recv hK hP (ci := 7) (q0 := 0) rfl rfl) hl.1 rfl rfl (Nat.le_of_ble_eq_true rfl) dX8_layState_89 ?_
        refine lv_goto (tgt := 97) hx hb dX8_layState_92 (by decide) ?_
        exact hj97 x5 x6 Sm u16 hf _ _ _ hP hD hS (lv_sub hl [1, 2, 3, 4, 5, 6, 7] rfl)
    have hj75 : ∀ (x5 : Int32) (x6 : Int32) (Sm : Bk), gX8_layState_75 x1 x2 x3 x4 k18 x5 x6 Sm = some res → ∀ (H : Heap) (locs : List Loc) (ls : Array Slot), va_P D vwCl (wX8_layState cI cZ jhm jam Sm) H → va_D A (wX8_layState cI cZ jhm jam Sm) → va_S A s.heap H locs → lv_has ls 9 [(0, .ref jhm), (1, .int x1), (2, .int x2), (3, .int x3), (4, .int x4), (5, .int x5), (6, .int x6)] → W p l e (rmF 4 98) s m ([.ref jhm, .int x1, .int x2, .int x3, .int x4] : List Value).toArray below meth c H locs 0 0 (MQ below (va_Qv (S := Unit) (fun _ => True) (fun _ => qW D (tyL cI cZ cO) A (wX8_layState cI cZ jhm jam res)) A) ([.ref jhm, .int x1, .int x2, .int x3, .int x4] : List Value).toArray s 0 0 A) (F0 m 75 ls []) := by
      intro x5 x6 Sm hf H locs ls hP hD hS hl
      unfold gX8_layState_75 at hf
      refine lv_iconst (v := (0 : Int32)) hx hb dX8_layState_75 rfl ?_
      exact hj76 x5 x6 Sm (0 : Int32) hf _ _ _ hP hD hS (lv_sub hl [0, 1, 2, 3, 4, 5, 6] rfl)
    refine lv_iload hx hb dX8_layState_18 (lv_at hl 6 rfl) ?_
    refine lv_aload_n hx hb dX8_layState_20 rfl (lv_at hl 0 rfl) ?_
    refine va_get (D := D) (ci := 7) (v := .int (Sm.1 4)) (C := RX8) (T := TX8) (N := 31) hx hb ht inX8 hown hK hP 0 rfl rfl 5 (by decide) (ht _ wd3_190) (fun _ h9 => h9) rfl dX8_layState_21 ?_
    refine lv_icmp_ge (tgt := 121) hx hb dX8_layState_24 (by decide) (fun c18 => ?_) (fun c18 => ?_)
    · have hf := itP c18 hf
      refine lv_iconst (v := (0 : Int32)) hx hb dX8_layState_121 rfl ?_
      refine lv_istore (lv' := [(6, .int (0 : Int32)), (0, .ref jhm), (1, .int x1), (2, .int x2), (3, .int x3), (4, .int x4), (5, .int x5)]) hx hb dX8_layState_122 hl (by decide) rfl (fun ls hl => ?_)
      exact hj124 x5 (0 : Int32) Sm hf _ _ _ hP hD hS (lv_sub hl [1, 2, 3, 6, 0] rfl)
    · have hf := itN c18 hf
      refine lv_iload hx hb dX8_layState_27 (lv_at hl 6 rfl) ?_
      refine lv_iload hx hb dX8_layState_29 (lv_at hl 4 rfl) ?_
      refine lv_icmp_eq (tgt := 75) hx hb dX8_layState_31 (by decide) (fun c19 => ?_) (fun c19 => ?_)
      · have hf := itP c19 hf
        exact hj75 x5 x6 Sm hf _ _ _ hP hD hS (lv_sub hl [0, 1, 2, 3, 4, 5, 6] rfl)
      · have hf := itN c19 hf
        refine lv_iload_n hx hb dX8_layState_34 rfl (lv_at hl 1 rfl) ?_
        refine lv_iload hx hb dX8_layState_35 (lv_at hl 6 rfl) ?_
        obtain ⟨u20, e21, hf⟩ := bdS hf
        refine k_pS (As := [.int x1, .int x6]) (rest := []) hC miX8_knows mjX8_knows wd4_191 (qX8_knows l x1 x6 u20 e21) ⟨Nat.le_of_ble_eq_true rfl, Nat.le_of_ble_eq_true rfl⟩ hl.1 rfl rfl (Nat.le_of_ble_eq_true rfl) dX8_layState_37 ?_
        refine lv_if_ne (tgt := 75) hx hb dX8_layState_40 (by decide) (fun c22 => ?_) (fun c22 => ?_)
        · have hf := itN c22 hf
          exact hj75 x5 x6 Sm hf _ _ _ hP hD hS (lv_sub hl [0, 1, 2, 3, 4, 5, 6] rfl)
        · have hf := itP c22 hf
          refine lv_aload_n hx hb dX8_layState_43 rfl (lv_at hl 0 rfl) ?_
          refine va_get (D := D) (ci := 7) (v := .ref (jam 15)) (C := RX8) (T := TX8) (N := 31) hx hb ht inX8 hown hK hP 0 rfl rfl 27 (by decide) (ht _ wd3_212) (fun _ h9 => h9) rfl dX8_layState_44 ?_
          refine lv_aload_n hx hb dX8_layState_47 rfl (lv_at hl 0 rfl) ?_
          refine va_get (D := D) (ci := 7) (v := .ref (jam 2)) (C := RX8) (T := TX8) (N := 31) hx hb ht inX8 hown hK hP 0 rfl rfl 8 (by decide) (ht _ wd3_193) (fun _ h9 => h9) rfl dX8_layState_48 ?_
          refine lv_iconst (v := (4 : Int32)) hx hb dX8_layState_51 rfl ?_
          refine lv_iload hx hb dX8_layState_52 (lv_at hl 6 rfl) ?_
          refine lv_imul hx hb dX8_layState_54 ?_
          obtain ⟨h23, hf⟩ := inB_s hf
          refine va_iald (f := (Sm.2.1 2)) (n := 16) hx hb hK hP 2 0 rfl rfl h23 dX8_layState_55 ?_
          obtain ⟨h24, hf⟩ := inB_s hf
          refine va_iald (f := (Sm.2.1 15)) (n := 4) hx hb hK hP 6 0 rfl rfl h24 dX8_layState_56 ?_
          refine lv_aload_n hx hb dX8_layState_57 rfl (lv_at hl 0 rfl) ?_
          refine va_get (D := D) (ci := 7) (v := .ref (jam 2)) (C := RX8) (T := TX8) (N := 31) hx hb ht inX8 hown hK hP 0 rfl rfl 8 (by decide) (ht _ wd3_193) (fun _ h9 => h9) rfl dX8_layState_58 ?_
          refine lv_iconst (v := (4 : Int32)) hx hb dX8_layState_61 rfl ?_
          refine lv_iload hx hb dX8_layState_62 (lv_at hl 6 rfl) ?_
          refine lv_imul hx hb dX8_layState_64 ?_
          refine lv_iconst (v := (1 : Int32)) hx hb dX8_layState_65 rfl ?_
          refine lv_iadd hx hb dX8_layState_66 ?_
          obtain ⟨h25, hf⟩ := inB_s hf
          refine va_iald (f := (Sm.2.1 2)) (n := 16) hx hb hK hP 2 0 rfl rfl h25 dX8_layState_67 ?_
          refine lv_icmp_lt (tgt := 75) hx hb dX8_layState_68 (by decide) (fun c26 => ?_) (fun c26 => ?_)
          · have hf := itP c26 hf
            exact hj75 x5 x6 Sm hf _ _ _ hP hD hS (lv_sub hl [0, 1, 2, 3, 4, 5, 6] rfl)
          · have hf := itN c26 hf
            refine lv_iconst (v := (1 : Int32)) hx hb dX8_layState_71 rfl ?_
            refine lv_goto (tgt := 76) hx hb dX8_layState_72 (by decide) ?_
            exact hj76 x5 x6 Sm (1 : Int32) hf _ _ _ hP hD hS (lv_sub hl [0, 1, 2, 3, 4, 5, 6] rfl)
  intro H locs hP hS
  refine lv_aload_n hx hb dX8_layState_0 rfl (lv_at hl 0 rfl) ?_
  refine lv_iload_n hx hb dX8_layState_1 rfl (lv_at hl 1 rfl) ?_
  refine lv_iload_n hx hb dX8_layState_2 rfl (lv_at hl 2 rfl) ?_
  obtain ⟨u27, e28, hf⟩ := bdS hf
  refine k_wVv (ws' := (wX8_layState cI cZ jhm jam (bA (bA (bA (bA (bO Sm u27) 2 (u27.2.1 2)) 3 (u27.2.1 3)) 7 (u27.2.1 7)) 15 (u27.2.1 15)))) (wr := [(jam 1, .inl (cI, 12, .inl ((bA (bA (bA (bA (bO Sm u27) 2 (u27.2.1 2)) 3 (u27.2.1 3)) 7 (u27.2.1 7)) 15 (u27.2.1 15)).2.1 1))), (jam 14, .inl (cI, 1296, .inl ((bA (bA (bA (bA (bO Sm u27) 2 (u27.2.1 2)) 3 (u27.2.1 3)) 7 (u27.2.1 7)) 15 (u27.2.1 15)).2.1 14)))]) (As := [.int x1, .int x2]) (rest := []) hC miX8_layThere mjX8_layThere.1 mjX8_layThere.2 wd4_205 (qX8_layThere l D cI cZ cO jhm jam Sm x1 x2 H.size u27 e28) ⟨Nat.le_of_ble_eq_true rfl, Nat.le_of_ble_eq_true rfl⟩ hP hD hK hZ hS hA [0, 2, 3, 4, 6] [1, 5] [2, 0, 3, 4, 5, 1, 6] rfl (by decide) rfl (by decide) (by decide) (by decide) rfl (va_recv hK hP (ci := 7) (q0 := 0) rfl rfl) hl.1 rfl rfl (Nat.le_of_ble_eq_true rfl) dX8_layState_3 (fun H locs hP hD hS => ?_)
  refine lv_aload_n hx hb dX8_layState_6 rfl (lv_at hl 0 rfl) ?_
  refine lv_iload_n hx hb dX8_layState_7 rfl (lv_at hl 1 rfl) ?_
  refine lv_iload_n hx hb dX8_layState_8 rfl (lv_at hl 2 rfl) ?_
  refine lv_iload_n hx hb dX8_layState_9 rfl (lv_at hl 3 rfl) ?_
  obtain ⟨u29, e30, hf⟩ := bdS hf
  refine k_rV (As := [.int x1, .int x2, .int x3]) (rest := []) hC miX8_endOf mjX8_endOf.1 mjX8_endOf.2 wd4_209 (qX8_endOf l D cI cZ cO jhm jam (bA (bA (bA (bA (bO Sm u27) 2 (u27.2.1 2)) 3 (u27.2.1 3)) 7 (u27.2.1 7)) 15 (u27.2.1 15)) x1 x2 x3 u29 e30) ⟨Nat.le_of_ble_eq_true rfl, Nat.le_of_ble_eq_true rfl⟩ (hP.sub [0, 1, 2, 3, 4, 6] rfl) hK hZ hS (va_recv hK hP (ci := 7) (q0 := 0) rfl rfl) hl.1 rfl rfl (Nat.le_of_ble_eq_true rfl) dX8_layState_10 ?_
  refine lv_istore (lv' := [(5, .int u29), (0, .ref jhm), (1, .int x1), (2, .int x2), (3, .int x3), (4, .int x4)]) hx hb dX8_layState_13 hl (by decide) rfl (fun ls hl => ?_)
  refine lv_iconst (v := (0 : Int32)) hx hb dX8_layState_15 rfl ?_
  refine lv_istore (lv' := [(6, .int (0 : Int32)), (5, .int u29), (0, .ref jhm), (1, .int x1), (2, .int x2), (3, .int x3), (4, .int x4)]) hx hb dX8_layState_16 hl (by decide) rfl (fun ls hl => ?_)
  exact hj18 u29 (0 : Int32) (bA (bA (bA (bA (bO Sm u27) 2 (u27.2.1 2)) 3 (u27.2.1 3)) 7 (u27.2.1 7)) 15 (u27.2.1 15)) hf _ _ _ hP hD hS (lv_sub hl [2, 3, 4, 5, 6, 1, 0] rfl)
abbrev wX8_layBest (cI cZ : ClassId) (jhm : Nat) (jam : Nat → Nat) (Sm : Bk) : va_W := [(jhm, .inr (7, [.int (Sm.1 0), .ref (jam 0), .int (Sm.1 1), .int (Sm.1 2), .int (Sm.1 3), .int (Sm.1 4), .int (Sm.1 5), .ref (jam 1), .ref (jam 2), .ref (jam 3), .int (Sm.1 6), .int (Sm.1 7), .int (Sm.1 8), .ref (jam 4), .ref (jam 5), .ref (jam 6), .ref (jam 7), .ref (jam 8), .ref (jam 9), .int (Sm.1 9), .ref (jam 10), .ref (jam 11), .int (Sm.1 10), .ref (jam 12), .ref (jam 13), .long Sm.2.2, .ref (jam 14), .ref (jam 15), .int (Sm.1 11), .int (Sm.1 12), .int (Sm.1 13)])), (jam 1, .inl (cI, 12, .inl (Sm.2.1 1))), (jam 2, .inl (cI, 16, .inl (Sm.2.1 2))), (jam 3, .inl (cI, 20, .inl (Sm.2.1 3))), (jam 7, .inl (cI, 16, .inl (Sm.2.1 7))), (jam 14, .inl (cI, 1296, .inl (Sm.2.1 14))), (jam 15, .inl (cI, 4, .inl (Sm.2.1 15)))]
def gX8_layBest_68 (x1 : Int32) (x2 : Int32) (k2 : Int32 → Bk → Option (Bk)) (k13 : Int32 → Int32 → Bk → Option (Bk)) (k24 : Int32 → Int32 → Int32 → Bk → Option (Bk)) (x3 : Int32) (x4 : Int32) (x5 : Int32) (Sm : Bk) : Option (Bk) := k24 x3 x4 (x5 + (-1 : Int32)) Sm
def sX8_layBest_24 (x1 : Int32) (x2 : Int32) (k2 : Int32 → Bk → Option (Bk)) (k13 : Int32 → Int32 → Bk → Option (Bk)) (k24 : Int32 → Int32 → Int32 → Bk → Option (Bk)) (x3 : Int32) (x4 : Int32) (x5 : Int32) (Sm : Bk) : Option (Bk) := (if x5 < 0 then k13 x3 (x4 + (1 : Int32)) Sm else (fX8_isBehind Sm x4 x5).bind (fun u2 => (if u2 = 0 then gX8_layBest_68 x1 x2 k2 k13 k24 x3 x4 x5 Sm else (fX8_knownBy Sm x4).bind (fun u5 => (fX8_many u5).bind (fun u7 => (if ((Sm.1 4) - u7) = x3 then (fX8_layState Sm x4 x5 x1 x2).bind (fun u10 => gX8_layBest_68 x1 x2 k2 k13 k24 x3 x4 x5 u10) else gX8_layBest_68 x1 x2 k2 k13 k24 x3 x4 x5 Sm))))))
def sX8_layBest_13 (x1 : Int32) (x2 : Int32) (k2 : Int32 → Bk → Option (Bk)) (k13 : Int32 → Int32 → Bk → Option (Bk)) (x3 : Int32) (x4 : Int32) (Sm : Bk) : Option (Bk) := (if (81 : Int32) ≤ x4 then k2 (x3 + (1 : Int32)) Sm else lk4 (sX8_layBest_24 x1 x2 k2 k13) 1000 x3 x4 (15 : Int32) Sm)
def sX8_layBest_2 (x1 : Int32) (x2 : Int32) (k2 : Int32 → Bk → Option (Bk)) (x3 : Int32) (Sm : Bk) : Option (Bk) := (if (Sm.1 4) < x3 then some Sm else lk3 (sX8_layBest_13 x1 x2 k2) 1000 x3 (0 : Int32) Sm)
def fX8_layBest (Sm : Bk) (x1 : Int32) (x2 : Int32) : Option (Bk) := lk2 (sX8_layBest_2 x1 x2) 1000 (0 : Int32) Sm
theorem miX8_layBest : MI yX8_layBest cX8_layBest 6 none 2 := ⟨wd1_8, wd4_179, by decide +kernel⟩
theorem mjX8_layBest : Cond.instanceMethod yX8_layBest ∈ wT ∧ Cond.selects yX8_layBest.cls yX8_layBest yX8_layBest ∈ wT := ⟨wd4_178, ws_31⟩
set_option maxHeartbeats 4000000 in
set_option maxRecDepth 100000 in
theorem qX8_layBest (l : Launch) (D : va_G) (cI cZ cO : ClassId) (jhm : Nat) (jam : Nat → Nat) (Sm : Bk) (x1 : Int32) (x2 : Int32) (sz : Nat) (res : Bk) (hf : fX8_layBest Sm x1 x2 = some res) : Met l yX8_layBest (Cond.code yX8_layBest cX8_layBest 6 none :: wT) (rmF 5 126) (va_Pc [.ref jhm, .int x1, .int x2] (cW D (tyL cI cZ cO) (wX8_layBest cI cZ jhm jam Sm) sz)) (va_Qv (S := Unit) (fun _ => True) (fun _ => qW D (tyL cI cZ cO) (va_A (wX8_layBest cI cZ jhm jam Sm) sz) (wX8_layBest cI cZ jhm jam res)) (va_A (wX8_layBest cI cZ jhm jam Sm) sz)) 0 0 (va_A (wX8_layBest cI cZ jhm jam Sm) sz) := by
  refine met_w (by decide) (Nat.le_of_ble_eq_true rfl) ?_
  intro p e s m below meth c hx hb hr hml ht hown hlk ls hl hsz hP hK hD0 hZ
  subst hsz
  have hD := hD0.self (sz := s.heap.size)
  generalize hAe : va_A (wX8_layBest cI cZ jhm jam Sm) s.heap.size = A at hD hZ ⊢
  have hA : ∀ q : Nat, s.heap.size ≤ q → A q := fun q h => by rw [← hAe]; exact Or.inr h
  have hS : va_S A s.heap s.heap [] := va_S.rf
  have hown : s.vm.findClass "EyeDrinkModel" = some m.cls := hown
  have hl : lv_has ls 6 [(0, .ref jhm), (1, .int x1), (2, .int x2)] := hl
  have hC : CallFix p m c cX8_layBest 6 s ([.ref jhm, .int x1, .int x2] : List Value).toArray wT "EyeDrinkModel" := ⟨hx, hb, hml, hown, ht⟩
  unfold fX8_layBest at hf
  suffices hgo : ∀ (H : Heap) (locs : List Loc), va_P D vwCl (wX8_layBest cI cZ jhm jam Sm) H → va_S A s.heap H locs → W p l e (rmF 5 126) s m ([.ref jhm, .int x1, .int x2] : List Value).toArray below meth c H locs 0 0 (MQ below (va_Qv (S := Unit) (fun _ => True) (fun _ => qW D (tyL cI cZ cO) A (wX8_layBest cI cZ jhm jam res)) A) ([.ref jhm, .int x1, .int x2] : List Value).toArray s 0 0 A) (F0 m 0 ls []) from hgo s.heap [] hP hS
  have hj2 : ∀ (x3 : Int32) (Sm : Bk), lk2 (sX8_layBest_2 x1 x2) 1000 x3 Sm = some res → ∀ (H : Heap) (locs : List Loc) (ls : Array Slot), va_P D vwCl (wX8_layBest cI cZ jhm jam Sm) H → va_D A (wX8_layBest cI cZ jhm jam Sm) → va_S A s.heap H locs → lv_has ls 6 [(0, .ref jhm), (1, .int x1), (2, .int x2), (3, .int x3)] → W p l e (rmF 5 126) s m ([.ref jhm, .int x1, .int x2] : List Value).toArray below meth c H locs 0 0 (MQ below (va_Qv (S := Unit) (fun _ => True) (fun _ => qW D (tyL cI cZ cO) A (wX8_layBest cI cZ jhm jam res)) A) ([.ref jhm, .int x1, .int x2] : List Value).toArray s 0 0 A) (F0 m 2 ls []) := by
    refine lk2_w (fun (x3 : Int32) (Sm : Bk) => ∀ (H : Heap) (locs : List Loc) (ls : Array Slot), va_P D vwCl (wX8_layBest cI cZ jhm jam Sm) H → va_D A (wX8_layBest cI cZ jhm jam Sm) → va_S A s.heap H locs → lv_has ls 6 [(0, .ref jhm), (1, .int x1), (2, .int x2), (3, .int x3)] → W p l e (rmF 5 126) s m ([.ref jhm, .int x1, .int x2] : List Value).toArray below meth c H locs 0 0 (MQ below (va_Qv (S := Unit) (fun _ => True) (fun _ => qW D (tyL cI cZ cO) A (wX8_layBest cI cZ jhm jam res)) A) ([.ref jhm, .int x1, .int x2] : List Value).toArray s 0 0 A) (F0 m 2 ls [])) ?_ 1000
    intro k2 hk2 x3 Sm hf H locs ls hP hD hS hl
    unfold sX8_layBest_2 at hf
    have hj13 : ∀ (x3 : Int32) (x4 : Int32) (Sm : Bk), lk3 (sX8_layBest_13 x1 x2 k2) 1000 x3 x4 Sm = some res → ∀ (H : Heap) (locs : List Loc) (ls : Array Slot), va_P D vwCl (wX8_layBest cI cZ jhm jam Sm) H → va_D A (wX8_layBest cI cZ jhm jam Sm) → va_S A s.heap H locs → lv_has ls 6 [(0, .ref jhm), (1, .int x1), (2, .int x2), (3, .int x3), (4, .int x4)] → W p l e (rmF 5 126) s m ([.ref jhm, .int x1, .int x2] : List Value).toArray below meth c H locs 0 0 (MQ below (va_Qv (S := Unit) (fun _ => True) (fun _ => qW D (tyL cI cZ cO) A (wX8_layBest cI cZ jhm jam res)) A) ([.ref jhm, .int x1, .int x2] : List Value).toArray s 0 0 A) (F0 m 13 ls []) := by
      refine lk3_w (fun (x3 : Int32) (x4 : Int32) (Sm : Bk) => ∀ (H : Heap) (locs : List Loc) (ls : Array Slot), va_P D vwCl (wX8_layBest cI cZ jhm jam Sm) H → va_D A (wX8_layBest cI cZ jhm jam Sm) → va_S A s.heap H locs → lv_has ls 6 [(0, .ref jhm), (1, .int x1), (2, .int x2), (3, .int x3), (4, .int x4)] → W p l e (rmF 5 126) s m ([.ref jhm, .int x1, .int x2] : List Value).toArray below meth c H locs 0 0 (MQ below (va_Qv (S := Unit) (fun _ => True) (fun _ => qW D (tyL cI cZ cO) A (wX8_layBest cI cZ jhm jam res)) A) ([.ref jhm, .int x1, .int x2] : List Value).toArray s 0 0 A) (F0 m 13 ls [])) ?_ 1000
      intro k13 hk13 x3 x4 Sm hf H locs ls hP hD hS hl
      unfold sX8_layBest_13 at hf
      have hj24 : ∀ (x3 : Int32) (x4 : Int32) (x5 : Int32) (Sm : Bk), lk4 (sX8_layBest_24 x1 x2 k2 k13) 1000 x3 x4 x5 Sm = some res → ∀ (H : Heap) (locs : List Loc) (ls : Array Slot), va_P D vwCl (wX8_layBest cI cZ jhm jam Sm) H → va_D A (wX8_layBest cI cZ jhm jam Sm) → va_S A s.heap H locs → lv_has ls 6 [(0, .ref jhm), (1, .int x1), (2, .int x2), (3, .int x3), (4, .int x4), (5, .int x5)] → W p l e (rmF 5 126) s m ([.ref jhm, .int x1, .int x2] : List Value).toArray below meth c H locs 0 0 (MQ below (va_Qv (S := Unit) (fun _ => True) (fun _ => qW D (tyL cI cZ cO) A (wX8_layBest cI cZ jhm jam res)) A) ([.ref jhm, .int x1, .int x2] : List Value).toArray s 0 0 A) (F0 m 24 ls []) := by
        refine lk4_w (fun (x3 : Int32) (x4 : Int32) (x5 : Int32) (Sm : Bk) => ∀ (H : Heap) (locs : List Loc) (ls : Array Slot), va_P D vwCl (wX8_layBest cI cZ jhm jam Sm) H → va_D A (wX8_layBest cI cZ jhm jam Sm) → va_S A s.heap H locs → lv_has ls 6 [(0, .ref jhm), (1, .int x1), (2, .int x2), (3, .int x3), (4, .int x4), (5, .int x5)] → W p l e (rmF 5 126) s m ([.ref jhm, .int x1, .int x2] : List Value).toArray below meth c H locs 0 0 (MQ below (va_Qv (S := Unit) (fun _ => True) (fun _ => qW D (tyL cI cZ cO) A (wX8_layBest cI cZ jhm jam res)) A) ([.ref jhm, .int x1, .int x2] : List Value).toArray s 0 0 A) (F0 m 24 ls [])) ?_ 1000
        intro k24 hk24 x3 x4 x5 Sm hf H locs ls hP hD hS hl
        unfold sX8_layBest_24 at hf
        have hj68 : ∀ (x3 : Int32) (x4 : Int32) (x5 : Int32) (Sm : Bk), gX8_layBest_68 x1 x2 k2 k13 k24 x3 x4 x5 Sm = some res → ∀ (H : Heap) (locs : List Loc) (ls : Array Slot), va_P D vwCl (wX8_layBest cI cZ jhm jam Sm) H → va_D A (wX8_layBest cI cZ jhm jam Sm) → va_S A s.heap H locs → lv_has ls 6 [(0, .ref jhm), (1, .int x1), (2, .int x2), (3, .int x3), (4, .int x4), (5, .int x5)] → W p l e (rmF 5 126) s m ([.ref jhm, .int x1, .int x2] : List Value).toArray below meth c H locs 0 0 (MQ below (va_Qv (S := Unit) (fun _ => True) (fun _ => qW D (tyL cI cZ cO) A (wX8_layBest cI cZ jhm jam res)) A) ([.ref jhm, .int x1, .int x2] : List Value).toArray s 0 0 A) (F0 m 68 ls []) := by
          intro x3 x4 x5 Sm hf H locs ls hP hD hS hl
          unfold gX8_layBest_68 at hf
          refine lv_iinc (v := (x5 + (-1 : Int32))) (lv' := [(5, .int (x5 + (-1 : Int32))), (0, .ref jhm), (1, .int x1), (2, .int x2), (3, .int x3), (4, .int x4)]) hx hb dX8_layBest_68 hl (k := 5) rfl rfl (by decide) rfl (fun ls hl => ?_)
          refine lv_goto (tgt := 24) hx hb dX8_layBest_71 (by decide) ?_
          exact hk24 x3 x4 (x5 + (-1 : Int32)) Sm hf _ _ _ hP hD hS (lv_sub hl [1, 2, 3, 4, 5, 0] rfl)
        refine lv_iload hx hb dX8_layBest_24 (lv_at hl 5 rfl) ?_
        refine lv_if_lt (tgt := 74) hx hb dX8_layBest_26 (by decide) (fun c1 => ?_) (fun c1 => ?_)
        · have hf := itP c1 hf
          refine lv_iinc (v := (x4 + (1 : Int32))) (lv' := [(4, .int (x4 + (1 : Int32))), (0, .ref jhm), (1, .int x1), (2, .int x2), (3, .int x3), (5, .int x5)]) hx hb dX8_layBest_74 hl (k := 4) rfl rfl (by decide) rfl (fun ls hl => ?_)
          refine lv_goto (tgt := 13) hx hb dX8_layBest_77 (by decide) ?_
          exact hk13 x3 (x4 + (1 : Int32)) Sm hf _ _ _ hP hD hS (lv_sub hl [1, 2, 3, 4, 0] rfl)
        · have hf := itN c1 hf
          refine lv_aload_n hx hb dX8_layBest_29 rfl (lv_at hl 0 rfl) ?_
          refine lv_iload hx hb dX8_layBest_30 (lv_at hl 4 rfl) ?_
          refine lv_iload hx hb dX8_layBest_32 (lv_at hl 5 rfl) ?_
          obtain ⟨u2, e3, hf⟩ := bdS hf
          refine k_rV (As := [.int x4, .int x5]) (rest := []) hC miX8_isBehind mjX8_isBehind.1 mjX8_isBehind.2 wd4_180 (qX8_isBehind l D cI cZ cO jhm jam Sm x4 x5 u2 e3) ⟨Nat.le_of_ble_eq_true rfl, Nat.le_of_ble_eq_true rfl⟩ (hP.sub [0, 2, 4] rfl) hK hZ hS (va_recv hK hP (ci := 7) (q0 := 0) rfl rfl) hl.1 rfl rfl (Nat.le_of_ble_eq_true rfl) dX8_layBest_34 ?_
          refine lv_if_eq (tgt := 68) hx hb dX8_layBest_37 (by decide) (fun c4 => ?_) (fun c4 => ?_)
          · have hf := itP c4 hf
            exact hj68 x3 x4 x5 Sm hf _ _ _ hP hD hS (lv_sub hl [0, 1, 2, 3, 4, 5] rfl)
          · have hf := itN c4 hf
            refine lv_aload_n hx hb dX8_layBest_40 rfl (lv_at hl 0 rfl) ?_
            refine va_get (D := D) (ci := 7) (v := .int (Sm.1 4)) (C := RX8) (T := TX8) (N := 31) hx hb ht inX8 hown hK hP 0 rfl rfl 5 (by decide) (ht _ wd3_190) (fun _ h9 => h9) rfl dX8_layBest_41 ?_
            refine lv_aload_n hx hb dX8_layBest_44 rfl (lv_at hl 0 rfl) ?_
            refine lv_iload hx hb dX8_layBest_45 (lv_at hl 4 rfl) ?_
            obtain ⟨u5, e6, hf⟩ := bdS hf
            refine k_rV (As := [.int x4]) (rest := [.int (Sm.1 4)]) hC miX8_knownBy mjX8_knownBy.1 mjX8_knownBy.2 wd4_194 (qX8_knownBy l D cI cZ cO jhm jam Sm x4 u5 e6) ⟨Nat.le_of_ble_eq_true rfl, Nat.le_of_ble_eq_true rfl⟩ (hP.sub [0] rfl) hK hZ hS (va_recv hK hP (ci := 7) (q0 := 0) rfl rfl) hl.1 rfl rfl (Nat.le_of_ble_eq_true rfl) dX8_layBest_47 ?_
            obtain ⟨u7, e8, hf⟩ := bdS hf
            refine k_pS (As := [.int u5]) (rest := [.int (Sm.1 4)]) hC miX8_many mjX8_many wd4_198 (qX8_many l u5 u7 e8) ⟨Nat.le_of_ble_eq_true rfl, Nat.le_of_ble_eq_true rfl⟩ hl.1 rfl rfl (Nat.le_of_ble_eq_true rfl) dX8_layBest_50 ?_
            refine lv_isub hx hb dX8_layBest_53 ?_
            refine lv_iload_n hx hb dX8_layBest_54 rfl (lv_at hl 3 rfl) ?_
            refine lv_icmp_ne (tgt := 68) hx hb dX8_layBest_55 (by decide) (fun c9 => ?_) (fun c9 => ?_)
            · have hf := itN c9 hf
              exact hj68 x3 x4 x5 Sm hf _ _ _ hP hD hS (lv_sub hl [0, 1, 2, 3, 4, 5] rfl)
            · have hf := itP c9 hf
              refine lv_aload_n hx hb dX8_layBest_58 rfl (lv_at hl 0 rfl) ?_
              refine lv_iload hx hb dX8_layBest_59 (lv_at hl 4 rfl) ?_
              refine lv_iload hx hb dX8_layBest_61 (lv_at hl 5 rfl) ?_
              refine lv_iload_n hx hb dX8_layBest_63 rfl (lv_at hl 1 rfl) ?_
              refine lv_iload_n hx hb dX8_layBest_64 rfl (lv_at hl 2 rfl) ?_
              obtain ⟨u10, e11, hf⟩ := bdS hf
              refine k_wVv (ws' := (wX8_layBest cI cZ jhm jam u10)) (wr := []) (As := [.int x4, .int x5, .int x1, .int x2]) (rest := []) hC miX8_layState mjX8_layState.1 mjX8_layState.2 wd4_201 (qX8_layState l D cI cZ cO jhm jam Sm x4 x5 x1 x2 H.size u10 e11) ⟨Nat.le_of_ble_eq_true rfl, Nat.le_of_ble_eq_true rfl⟩ hP hD hK hZ hS hA [0, 1, 2, 3, 4, 5, 6] [] [0, 1, 2, 3, 4, 5, 6] rfl (by decide) rfl (by decide) (by decide) (by decide) rfl (va_recv hK hP (ci := 7) (q0 := 0) rfl rfl) hl.1 rfl rfl (Nat.le_of_ble_eq_true rfl) dX8_layBest_65 (fun H locs hP hD hS => ?_)
              exact hj68 x3 x4 x5 u10 hf _ _ _ hP hD hS (lv_sub hl [0, 1, 2, 3, 4, 5] rfl)
      refine lv_iload hx hb dX8_layBest_13 (lv_at hl 4 rfl) ?_
      refine lv_bipush (v := (81 : Int32)) hx hb dX8_layBest_15 rfl ?_
      refine lv_icmp_ge (tgt := 80) hx hb dX8_layBest_17 (by decide) (fun c12 => ?_) (fun c12 => ?_)
      · have hf := itP c12 hf
        refine lv_iinc (v := (x3 + (1 : Int32))) (lv' := [(3, .int (x3 + (1 : Int32))), (0, .ref jhm), (1, .int x1), (2, .int x2), (4, .int x4)]) hx hb dX8_layBest_80 hl (k := 3) rfl rfl (by decide) rfl (fun ls hl => ?_)
        refine lv_goto (tgt := 2) hx hb dX8_layBest_83 (by decide) ?_
        exact hk2 (x3 + (1 : Int32)) Sm hf _ _ _ hP hD hS (lv_sub hl [1, 2, 3, 0] rfl)
      · have hf := itN c12 hf
        refine lv_bipush (v := (15 : Int32)) hx hb dX8_layBest_20 rfl ?_
        refine lv_istore (lv' := [(5, .int (15 : Int32)), (0, .ref jhm), (1, .int x1), (2, .int x2), (3, .int x3), (4, .int x4)]) hx hb dX8_layBest_22 hl (by decide) rfl (fun ls hl => ?_)
        exact hj24 x3 x4 (15 : Int32) Sm hf _ _ _ hP hD hS (lv_sub hl [1, 2, 3, 4, 5, 0] rfl)
    refine lv_iload_n hx hb dX8_layBest_2 rfl (lv_at hl 3 rfl) ?_
    refine lv_aload_n hx hb dX8_layBest_3 rfl (lv_at hl 0 rfl) ?_
    refine va_get (D := D) (ci := 7) (v := .int (Sm.1 4)) (C := RX8) (T := TX8) (N := 31) hx hb ht inX8 hown hK hP 0 rfl rfl 5 (by decide) (ht _ wd3_190) (fun _ h9 => h9) rfl dX8_layBest_4 ?_
    refine lv_icmp_gt (tgt := 86) hx hb dX8_layBest_7 (by decide) (fun c13 => ?_) (fun c13 => ?_)
    · have hf := itP c13 hf
      cases hf
      exact W.vret hx hb hr (fun t ht9 hW => ⟨⟨(), rfl, trivial, by rw [ht9]; exact hP, va_K.moved hW.alike hK, hD⟩, hS.F ht9⟩) hS.2.2 dX8_layBest_86
    · have hf := itN c13 hf
      refine lv_iconst (v := (0 : Int32)) hx hb dX8_layBest_10 rfl ?_
      refine lv_istore (lv' := [(4, .int (0 : Int32)), (0, .ref jhm), (1, .int x1), (2, .int x2), (3, .int x3)]) hx hb dX8_layBest_11 hl (by decide) rfl (fun ls hl => ?_)
      exact hj13 x3 (0 : Int32) Sm hf _ _ _ hP hD hS (lv_sub hl [1, 2, 3, 4, 0] rfl)
  intro H locs hP hS
  refine lv_iconst (v := (0 : Int32)) hx hb dX8_layBest_0 rfl ?_
  refine lv_istore_n (lv' := [(3, .int (0 : Int32)), (0, .ref jhm), (1, .int x1), (2, .int x2)]) hx hb dX8_layBest_1 rfl hl (by decide) rfl (fun ls hl => ?_)
  exact hj2 (0 : Int32) Sm hf _ _ _ hP hD hS (lv_sub hl [1, 2, 3, 0] rfl)
abbrev wX8_firstOf (cI cZ : ClassId) (jhm : Nat) (jam : Nat → Nat) (Sm : Bk) : va_W := [(jhm, .inr (7, [.int (Sm.1 0), .ref (jam 0), .int (Sm.1 1), .int (Sm.1 2), .int (Sm.1 3), .int (Sm.1 4), .int (Sm.1 5), .ref (jam 1), .ref (jam 2), .ref (jam 3), .int (Sm.1 6), .int (Sm.1 7), .int (Sm.1 8), .ref (jam 4), .ref (jam 5), .ref (jam 6), .ref (jam 7), .ref (jam 8), .ref (jam 9), .int (Sm.1 9), .ref (jam 10), .ref (jam 11), .int (Sm.1 10), .ref (jam 12), .ref (jam 13), .long Sm.2.2, .ref (jam 14), .ref (jam 15), .int (Sm.1 11), .int (Sm.1 12), .int (Sm.1 13)])), (jam 1, .inl (cI, 12, .inl (Sm.2.1 1))), (jam 2, .inl (cI, 16, .inl (Sm.2.1 2))), (jam 3, .inl (cI, 20, .inl (Sm.2.1 3))), (jam 7, .inl (cI, 16, .inl (Sm.2.1 7))), (jam 14, .inl (cI, 1296, .inl (Sm.2.1 14))), (jam 15, .inl (cI, 4, .inl (Sm.2.1 15)))]
def gX8_firstOf_147 (x1 : Int32) (k99 : Int32 → Int32 → Int32 → Int32 → Bk → Option (Int32 × Bk)) (x2 : Int32) (x3 : Int32) (x4 : Int32) (x5 : Int32) (Sm : Bk) : Option (Int32 × Bk) := k99 x2 x3 x4 (x5 + (1 : Int32)) Sm
def sX8_firstOf_99 (x1 : Int32) (k99 : Int32 → Int32 → Int32 → Int32 → Bk → Option (Int32 × Bk)) (x2 : Int32) (x3 : Int32) (x4 : Int32) (x5 : Int32) (Sm : Bk) : Option (Int32 × Bk) := (if (Sm.1 5) ≤ x5 then some ((0 : Int32), Sm) else (fX8_noAct Sm (Sm.2.1 7) 16 x5).bind (fun u2 => (if u2 = 0 then inB 1296 (((16 : Int32) * x2) + (x3 ||| ((1 : Int32) <<< (x5 &&& 31)))) ((if ((Sm.2.1 14) (((16 : Int32) * x2) + (x3 ||| ((1 : Int32) <<< (x5 &&& 31)))).toNatClampNeg) = x4 then some ((x5 + (5 : Int32)), Sm) else gX8_firstOf_147 x1 k99 x2 x3 x4 x5 Sm)) else gX8_firstOf_147 x1 k99 x2 x3 x4 x5 Sm)))
def gX8_firstOf_90 (x1 : Int32) (k49 : Int32 → Int32 → Int32 → Int32 → Bk → Option (Int32 × Bk)) (x2 : Int32) (x3 : Int32) (x4 : Int32) (x5 : Int32) (Sm : Bk) : Option (Int32 × Bk) := k49 x2 x3 x4 (x5 + (1 : Int32)) Sm
def sX8_firstOf_49 (x1 : Int32) (k49 : Int32 → Int32 → Int32 → Int32 → Bk → Option (Int32 × Bk)) (x2 : Int32) (x3 : Int32) (x4 : Int32) (x5 : Int32) (Sm : Bk) : Option (Int32 × Bk) := (if (Sm.1 4) ≤ x5 then lk5 (sX8_firstOf_99 x1) 1000 x2 x3 x4 (0 : Int32) Sm else (fX8_noDrink Sm (Sm.2.1 7) 16 x5).bind (fun u8 => (if u8 = 0 then (fX8_behind Sm x2 x3 x5 x1).bind (fun u11 => (if u11 = x4 then some ((x5 + (1 : Int32)), Sm) else gX8_firstOf_90 x1 k49 x2 x3 x4 x5 Sm)) else gX8_firstOf_90 x1 k49 x2 x3 x4 x5 Sm)))
def fX8_firstOf (Sm : Bk) (x1 : Int32) : Option (Int32 × Bk) := (fX8_codeNow Sm).bind (fun u14 => inB 16 (13 : Int32) (inB 1296 (((16 : Int32) * u14) + ((Sm.2.1 7) (13 : Int32).toNatClampNeg)) ((fX8_layThere Sm u14 ((Sm.2.1 7) (13 : Int32).toNatClampNeg)).bind (fun u18 => (fX8_endOf (bA (bA (bA (bA (bO Sm u18) 2 (u18.2.1 2)) 3 (u18.2.1 3)) 7 (u18.2.1 7)) 15 (u18.2.1 15)) u14 ((Sm.2.1 7) (13 : Int32).toNatClampNeg) x1).bind (fun u20 => (if u20 = ((Sm.2.1 14) (((16 : Int32) * u14) + ((Sm.2.1 7) (13 : Int32).toNatClampNeg)).toNatClampNeg) then some ((0 : Int32), (bA (bA (bA (bA (bO Sm u18) 2 (u18.2.1 2)) 3 (u18.2.1 3)) 7 (u18.2.1 7)) 15 (u18.2.1 15))) else lk5 (sX8_firstOf_49 x1) 1000 u14 ((Sm.2.1 7) (13 : Int32).toNatClampNeg) ((Sm.2.1 14) (((16 : Int32) * u14) + ((Sm.2.1 7) (13 : Int32).toNatClampNeg)).toNatClampNeg) (0 : Int32) (bA (bA (bA (bA (bO Sm u18) 2 (u18.2.1 2)) 3 (u18.2.1 3)) 7 (u18.2.1 7)) 15 (u18.2.1 15))))))))
theorem miX8_firstOf : MI yX8_firstOf cX8_firstOf 6 (some .int) 1 := ⟨wd1_8, wd4_231, by decide +kernel⟩
theorem mjX8_firstOf : Cond.instanceMethod yX8_firstOf ∈ wT ∧ Cond.selects yX8_firstOf.cls yX8_firstOf yX8_firstOf ∈ wT := ⟨wd4_230, ws_41⟩
set_option maxHeartbeats 4000000 in
set_option maxRecDepth 100000 in
theorem qX8_firstOf (l : Launch) (D : va_G) (cI cZ cO : ClassId) (jhm : Nat) (jam : Nat → Nat) (Sm : Bk) (x1 : Int32) (sz : Nat) (res : Int32 × Bk) (hf : fX8_firstOf Sm x1 = some res) : Met l yX8_firstOf (Cond.code yX8_firstOf cX8_firstOf 6 (some .int) :: wT) (rmF 4 98) (va_Pc [.ref jhm, .int x1] (cW D (tyL cI cZ cO) (wX8_firstOf cI cZ jhm jam Sm) sz)) (va_Qi (S := Unit) (fun r _ => r = res.1) (fun _ => qW D (tyL cI cZ cO) (va_A (wX8_firstOf cI cZ jhm jam Sm) sz) (wX8_firstOf cI cZ jhm jam res.2)) (va_A (wX8_firstOf cI cZ jhm jam Sm) sz)) 0 0 (va_A (wX8_firstOf cI cZ jhm jam Sm) sz) := by
  refine met_w (by decide) (Nat.le_of_ble_eq_true rfl) ?_
  intro p e s m below meth c hx hb hr hml ht hown hlk ls hl hsz hP hK hD0 hZ
  subst hsz
  have hD := hD0.self (sz := s.heap.size)
  generalize hAe : va_A (wX8_firstOf cI cZ jhm jam Sm) s.heap.size = A at hD hZ ⊢
  have hA : ∀ q : Nat, s.heap.size ≤ q → A q := fun q h => by rw [← hAe]; exact Or.inr h
  have hS : va_S A s.heap s.heap [] := va_S.rf
  have hown : s.vm.findClass "EyeDrinkModel" = some m.cls := hown
  have hl : lv_has ls 6 [(0, .ref jhm), (1, .int x1)] := hl
  have hC : CallFix p m c cX8_firstOf 6 s ([.ref jhm, .int x1] : List Value).toArray wT "EyeDrinkModel" := ⟨hx, hb, hml, hown, ht⟩
  unfold fX8_firstOf at hf
  suffices hgo : ∀ (H : Heap) (locs : List Loc), va_P D vwCl (wX8_firstOf cI cZ jhm jam Sm) H → va_S A s.heap H locs → W p l e (rmF 4 98) s m ([.ref jhm, .int x1] : List Value).toArray below meth c H locs 0 0 (MQ below (va_Qi (S := Unit) (fun r _ => r = res.1) (fun _ => qW D (tyL cI cZ cO) A (wX8_firstOf cI cZ jhm jam res.2)) A) ([.ref jhm, .int x1] : List Value).toArray s 0 0 A) (F0 m 0 ls []) from hgo s.heap [] hP hS
  have hj99 : ∀ (x2 : Int32) (x3 : Int32) (x4 : Int32) (x5 : Int32) (Sm : Bk), lk5 (sX8_firstOf_99 x1) 1000 x2 x3 x4 x5 Sm = some res → ∀ (H : Heap) (locs : List Loc) (ls : Array Slot), va_P D vwCl (wX8_firstOf cI cZ jhm jam Sm) H → va_D A (wX8_firstOf cI cZ jhm jam Sm) → va_S A s.heap H locs → lv_has ls 6 [(0, .ref jhm), (2, .int x2), (3, .int x3), (4, .int x4), (5, .int x5)] → W p l e (rmF 4 98) s m ([.ref jhm, .int x1] : List Value).toArray below meth c H locs 0 0 (MQ below (va_Qi (S := Unit) (fun r _ => r = res.1) (fun _ => qW D (tyL cI cZ cO) A (wX8_firstOf cI cZ jhm jam res.2)) A) ([.ref jhm, .int x1] : List Value).toArray s 0 0 A) (F0 m 99 ls []) := by
    refine lk5_w (fun (x2 : Int32) (x3 : Int32) (x4 : Int32) (x5 : Int32) (Sm : Bk) => ∀ (H : Heap) (locs : List Loc) (ls : Array Slot), va_P D vwCl (wX8_firstOf cI cZ jhm jam Sm) H → va_D A (wX8_firstOf cI cZ jhm jam Sm) → va_S A s.heap H locs → lv_has ls 6 [(0, .ref jhm), (2, .int x2), (3, .int x3), (4, .int x4), (5, .int x5)] → W p l e (rmF 4 98) s m ([.ref jhm, .int x1] : List Value).toArray below meth c H locs 0 0 (MQ below (va_Qi (S := Unit) (fun r _ => r = res.1) (fun _ => qW D (tyL cI cZ cO) A (wX8_firstOf cI cZ jhm jam res.2)) A) ([.ref jhm, .int x1] : List Value).toArray s 0 0 A) (F0 m 99 ls [])) ?_ 1000
    intro k99 hk99 x2 x3 x4 x5 Sm hf H locs ls hP hD hS hl
    unfold sX8_firstOf_99 at hf
    have hj147 : ∀ (x2 : Int32) (x3 : Int32) (x4 : Int32) (x5 : Int32) (Sm : Bk), gX8_firstOf_147 x1 k99 x2 x3 x4 x5 Sm = some res → ∀ (H : Heap) (locs : List Loc) (ls : Array Slot), va_P D vwCl (wX8_firstOf cI cZ jhm jam Sm) H → va_D A (wX8_firstOf cI cZ jhm jam Sm) → va_S A s.heap H locs → lv_has ls 6 [(0, .ref jhm), (2, .int x2), (3, .int x3), (4, .int x4), (5, .int x5)] → W p l e (rmF 4 98) s m ([.ref jhm, .int x1] : List Value).toArray below meth c H locs 0 0 (MQ below (va_Qi (S := Unit) (fun r _ => r = res.1) (fun _ => qW D (tyL cI cZ cO) A (wX8_firstOf cI cZ jhm jam res.2)) A) ([.ref jhm, .int x1] : List Value).toArray s 0 0 A) (F0 m 147 ls []) := by
      intro x2 x3 x4 x5 Sm hf H locs ls hP hD hS hl
      unfold gX8_firstOf_147 at hf
      refine lv_iinc (v := (x5 + (1 : Int32))) (lv' := [(5, .int (x5 + (1 : Int32))), (0, .ref jhm), (2, .int x2), (3, .int x3), (4, .int x4)]) hx hb dX8_firstOf_147 hl (k := 4) rfl rfl (by decide) rfl (fun ls hl => ?_)
      refine lv_goto (tgt := 99) hx hb dX8_firstOf_150 (by decide) ?_
      exact hk99 x2 x3 x4 (x5 + (1 : Int32)) Sm hf _ _ _ hP hD hS (lv_sub hl [1, 2, 3, 4, 0] rfl)
    refine lv_iload hx hb dX8_firstOf_99 (lv_at hl 4 rfl) ?_
    refine lv_aload_n hx hb dX8_firstOf_101 rfl (lv_at hl 0 rfl) ?_
    refine va_get (D := D) (ci := 7) (v := .int (Sm.1 5)) (C := RX8) (T := TX8) (N := 31) hx hb ht inX8 hown hK hP 0 rfl rfl 6 (by decide) (ht _ wd3_191) (fun _ h9 => h9) rfl dX8_firstOf_102 ?_
    refine lv_icmp_ge (tgt := 153) hx hb dX8_firstOf_105 (by decide) (fun c1 => ?_) (fun c1 => ?_)
    · have hf := itP c1 hf
      refine lv_iconst (v := (0 : Int32)) hx hb dX8_firstOf_153 rfl ?_
      cases hf
      exact W.iret hx hb hr (fun t ht9 hW => ⟨⟨_, (), rfl, rfl, by rw [ht9]; exact hP, va_K.moved hW.alike hK, hD⟩, hS.F ht9⟩) hS.2.2 dX8_firstOf_154
    · have hf := itN c1 hf
      refine lv_aload_n hx hb dX8_firstOf_108 rfl (lv_at hl 0 rfl) ?_
      refine lv_aload_n hx hb dX8_firstOf_109 rfl (lv_at hl 0 rfl) ?_
      refine va_get (D := D) (ci := 7) (v := .ref (jam 7)) (C := RX8) (T := TX8) (N := 31) hx hb ht inX8 hown hK hP 0 rfl rfl 16 (by decide) (ht _ wd3_201) (fun _ h9 => h9) rfl dX8_firstOf_110 ?_
      refine lv_iload hx hb dX8_firstOf_113 (lv_at hl 4 rfl) ?_
      obtain ⟨u2, e3, hf⟩ := bdS hf
      refine k_rV (As := [.ref (jam 7), .int x5]) (rest := []) hC miX8_noAct mjX8_noAct.1 mjX8_noAct.2 wd4_144 (qX8_noAct l D cI cZ cO jhm jam (jam 7) (16) Sm (Sm.2.1 7) x5 u2 e3) ⟨Nat.le_of_ble_eq_true rfl, Nat.le_of_ble_eq_true rfl⟩ (hP.sub [0, 3, 4] rfl) hK hZ hS (va_recv hK hP (ci := 7) (q0 := 0) rfl rfl) hl.1 rfl rfl (Nat.le_of_ble_eq_true rfl) dX8_firstOf_115 ?_
      refine lv_if_ne (tgt := 147) hx hb dX8_firstOf_118 (by decide) (fun c4 => ?_) (fun c4 => ?_)
      · have hf := itN c4 hf
        exact hj147 x2 x3 x4 x5 Sm hf _ _ _ hP hD hS (lv_sub hl [0, 1, 2, 3, 4] rfl)
      · have hf := itP c4 hf
        refine lv_aload_n hx hb dX8_firstOf_121 rfl (lv_at hl 0 rfl) ?_
        refine va_get (D := D) (ci := 7) (v := .ref (jam 14)) (C := RX8) (T := TX8) (N := 31) hx hb ht inX8 hown hK hP 0 rfl rfl 26 (by decide) (ht _ wd3_211) (fun _ h9 => h9) rfl dX8_firstOf_122 ?_
        refine lv_bipush (v := (16 : Int32)) hx hb dX8_firstOf_125 rfl ?_
        refine lv_iload_n hx hb dX8_firstOf_127 rfl (lv_at hl 1 rfl) ?_
        refine lv_imul hx hb dX8_firstOf_128 ?_
        refine lv_iload_n hx hb dX8_firstOf_129 rfl (lv_at hl 2 rfl) ?_
        refine lv_iconst (v := (1 : Int32)) hx hb dX8_firstOf_130 rfl ?_
        refine lv_iload hx hb dX8_firstOf_131 (lv_at hl 4 rfl) ?_
        refine lv_ishl hx hb dX8_firstOf_133 ?_
        refine lv_ior hx hb dX8_firstOf_134 ?_
        refine lv_iadd hx hb dX8_firstOf_135 ?_
        obtain ⟨h5, hf⟩ := inB_s hf
        refine va_iald (f := (Sm.2.1 14)) (n := 1296) hx hb hK hP 5 0 rfl rfl h5 dX8_firstOf_136 ?_
        refine lv_iload hx hb dX8_firstOf_137 (lv_at hl 3 rfl) ?_
        refine lv_icmp_ne (tgt := 147) hx hb dX8_firstOf_139 (by decide) (fun c6 => ?_) (fun c6 => ?_)
        · have hf := itN c6 hf
          exact hj147 x2 x3 x4 x5 Sm hf _ _ _ hP hD hS (lv_sub hl [0, 1, 2, 3, 4] rfl)
        · have hf := itP c6 hf
          refine lv_iload hx hb dX8_firstOf_142 (lv_at hl 4 rfl) ?_
          refine lv_iconst (v := (5 : Int32)) hx hb dX8_firstOf_144 rfl ?_
          refine lv_iadd hx hb dX8_firstOf_145 ?_
          cases hf
          exact W.iret hx hb hr (fun t ht9 hW => ⟨⟨_, (), rfl, rfl, by rw [ht9]; exact hP, va_K.moved hW.alike hK, hD⟩, hS.F ht9⟩) hS.2.2 dX8_firstOf_146
  have hj49 : ∀ (x2 : Int32) (x3 : Int32) (x4 : Int32) (x5 : Int32) (Sm : Bk), lk5 (sX8_firstOf_49 x1) 1000 x2 x3 x4 x5 Sm = some res → ∀ (H : Heap) (locs : List Loc) (ls : Array Slot), va_P D vwCl (wX8_firstOf cI cZ jhm jam Sm) H → va_D A (wX8_firstOf cI cZ jhm jam Sm) → va_S A s.heap H locs → lv_has ls 6 [(0, .ref jhm), (1, .int x1), (2, .int x2), (3, .int x3), (4, .int x4), (5, .int x5)] → W p l e (rmF 4 98) s m ([.ref jhm, .int x1] : List Value).toArray below meth c H locs 0 0 (MQ below (va_Qi (S := Unit) (fun r _ => r = res.1) (fun _ => qW D (tyL cI cZ cO) A (wX8_firstOf cI cZ jhm jam res.2)) A) ([.ref jhm, .int x1] : List Value).toArray s 0 0 A) (F0 m 49 ls []) := by
    refine lk5_w (fun (x2 : Int32) (x3 : Int32) (x4 : Int32) (x5 : Int32) (Sm : Bk) => ∀ (H : Heap) (locs : List Loc) (ls : Array Slot), va_P D vwCl (wX8_firstOf cI cZ jhm jam Sm) H → va_D A (wX8_firstOf cI cZ jhm jam Sm) → va_S A s.heap H locs → lv_has ls 6 [(0, .ref jhm), (1, .int x1), (2, .int x2), (3, .int x3), (4, .int x4), (5, .int x5)] → W p l e (rmF 4 98) s m ([.ref jhm, .int x1] : List Value).toArray below meth c H locs 0 0 (MQ below (va_Qi (S := Unit) (fun r _ => r = res.1) (fun _ => qW D (tyL cI cZ cO) A (wX8_firstOf cI cZ jhm jam res.2)) A) ([.ref jhm, .int x1] : List Value).toArray s 0 0 A) (F0 m 49 ls [])) ?_ 1000
    intro k49 hk49 x2 x3 x4 x5 Sm hf H locs ls hP hD hS hl
    unfold sX8_firstOf_49 at hf
    have hj90 : ∀ (x2 : Int32) (x3 : Int32) (x4 : Int32) (x5 : Int32) (Sm : Bk), gX8_firstOf_90 x1 k49 x2 x3 x4 x5 Sm = some res → ∀ (H : Heap) (locs : List Loc) (ls : Array Slot), va_P D vwCl (wX8_firstOf cI cZ jhm jam Sm) H → va_D A (wX8_firstOf cI cZ jhm jam Sm) → va_S A s.heap H locs → lv_has ls 6 [(0, .ref jhm), (1, .int x1), (2, .int x2), (3, .int x3), (4, .int x4), (5, .int x5)] → W p l e (rmF 4 98) s m ([.ref jhm, .int x1] : List Value).toArray below meth c H locs 0 0 (MQ below (va_Qi (S := Unit) (fun r _ => r = res.1) (fun _ => qW D (tyL cI cZ cO) A (wX8_firstOf cI cZ jhm jam res.2)) A) ([.ref jhm, .int x1] : List Value).toArray s 0 0 A) (F0 m 90 ls []) := by
      intro x2 x3 x4 x5 Sm hf H locs ls hP hD hS hl
      unfold gX8_firstOf_90 at hf
      refine lv_iinc (v := (x5 + (1 : Int32))) (lv' := [(5, .int (x5 + (1 : Int32))), (0, .ref jhm), (1, .int x1), (2, .int x2), (3, .int x3), (4, .int x4)]) hx hb dX8_firstOf_90 hl (k := 5) rfl rfl (by decide) rfl (fun ls hl => ?_)
      refine lv_goto (tgt := 49) hx hb dX8_firstOf_93 (by decide) ?_
      exact hk49 x2 x3 x4 (x5 + (1 : Int32)) Sm hf _ _ _ hP hD hS (lv_sub hl [1, 2, 3, 4, 5, 0] rfl)
    refine lv_iload hx hb dX8_firstOf_49 (lv_at hl 5 rfl) ?_
    refine lv_aload_n hx hb dX8_firstOf_51 rfl (lv_at hl 0 rfl) ?_
    refine va_get (D := D) (ci := 7) (v := .int (Sm.1 4)) (C := RX8) (T := TX8) (N := 31) hx hb ht inX8 hown hK hP 0 rfl rfl 5 (by decide) (ht _ wd3_190) (fun _ h9 => h9) rfl dX8_firstOf_52 ?_
    refine lv_icmp_ge (tgt := 96) hx hb dX8_firstOf_55 (by decide) (fun c7 => ?_) (fun c7 => ?_)
    · have hf := itP c7 hf
      refine lv_iconst (v := (0 : Int32)) hx hb dX8_firstOf_96 rfl ?_
      refine lv_istore (lv' := [(5, .int (0 : Int32)), (0, .ref jhm), (1, .int x1), (2, .int x2), (3, .int x3), (4, .int x4)]) hx hb dX8_firstOf_97 hl (by decide) rfl (fun ls hl => ?_)
      exact hj99 x2 x3 x4 (0 : Int32) Sm hf _ _ _ hP hD hS (lv_sub hl [1, 3, 4, 5, 0] rfl)
    · have hf := itN c7 hf
      refine lv_aload_n hx hb dX8_firstOf_58 rfl (lv_at hl 0 rfl) ?_
      refine lv_aload_n hx hb dX8_firstOf_59 rfl (lv_at hl 0 rfl) ?_
      refine va_get (D := D) (ci := 7) (v := .ref (jam 7)) (C := RX8) (T := TX8) (N := 31) hx hb ht inX8 hown hK hP 0 rfl rfl 16 (by decide) (ht _ wd3_201) (fun _ h9 => h9) rfl dX8_firstOf_60 ?_
      refine lv_iload hx hb dX8_firstOf_63 (lv_at hl 5 rfl) ?_
      obtain ⟨u8, e9, hf⟩ := bdS hf
      refine k_rV (As := [.ref (jam 7), .int x5]) (rest := []) hC miX8_noDrink mjX8_noDrink.1 mjX8_noDrink.2 wd4_124 (qX8_noDrink l D cI cZ cO jhm jam (jam 7) (16) Sm (Sm.2.1 7) x5 u8 e9) ⟨Nat.le_of_ble_eq_true rfl, Nat.le_of_ble_eq_true rfl⟩ (hP.sub [0, 2, 4] rfl) hK hZ hS (va_recv hK hP (ci := 7) (q0 := 0) rfl rfl) hl.1 rfl rfl (Nat.le_of_ble_eq_true rfl) dX8_firstOf_65 ?_
      refine lv_if_ne (tgt := 90) hx hb dX8_firstOf_68 (by decide) (fun c10 => ?_) (fun c10 => ?_)
      · have hf := itN c10 hf
        exact hj90 x2 x3 x4 x5 Sm hf _ _ _ hP hD hS (lv_sub hl [0, 1, 2, 3, 4, 5] rfl)
      · have hf := itP c10 hf
        refine lv_aload_n hx hb dX8_firstOf_71 rfl (lv_at hl 0 rfl) ?_
        refine lv_iload_n hx hb dX8_firstOf_72 rfl (lv_at hl 2 rfl) ?_
        refine lv_iload_n hx hb dX8_firstOf_73 rfl (lv_at hl 3 rfl) ?_
        refine lv_iload hx hb dX8_firstOf_74 (lv_at hl 5 rfl) ?_
        refine lv_iload_n hx hb dX8_firstOf_76 rfl (lv_at hl 1 rfl) ?_
        obtain ⟨u11, e12, hf⟩ := bdS hf
        refine k_rV (As := [.int x2, .int x3, .int x5, .int x1]) (rest := []) hC miX8_behind mjX8_behind.1 mjX8_behind.2 wd4_220 (qX8_behind l D cI cZ cO jhm jam Sm x2 x3 x5 x1 u11 e12) ⟨Nat.le_of_ble_eq_true rfl, Nat.le_of_ble_eq_true rfl⟩ (hP.sub [0, 2, 5] rfl) hK hZ hS (va_recv hK hP (ci := 7) (q0 := 0) rfl rfl) hl.1 rfl rfl (Nat.le_of_ble_eq_true rfl) dX8_firstOf_77 ?_
        refine lv_iload hx hb dX8_firstOf_80 (lv_at hl 4 rfl) ?_
        refine lv_icmp_ne (tgt := 90) hx hb dX8_firstOf_82 (by decide) (fun c13 => ?_) (fun c13 => ?_)
        · have hf := itN c13 hf
          exact hj90 x2 x3 x4 x5 Sm hf _ _ _ hP hD hS (lv_sub hl [0, 1, 2, 3, 4, 5] rfl)
        · have hf := itP c13 hf
          refine lv_iload hx hb dX8_firstOf_85 (lv_at hl 5 rfl) ?_
          refine lv_iconst (v := (1 : Int32)) hx hb dX8_firstOf_87 rfl ?_
          refine lv_iadd hx hb dX8_firstOf_88 ?_
          cases hf
          exact W.iret hx hb hr (fun t ht9 hW => ⟨⟨_, (), rfl, rfl, by rw [ht9]; exact hP, va_K.moved hW.alike hK, hD⟩, hS.F ht9⟩) hS.2.2 dX8_firstOf_89
  intro H locs hP hS
  refine lv_aload_n hx hb dX8_firstOf_0 rfl (lv_at hl 0 rfl) ?_
  obtain ⟨u14, e15, hf⟩ := bdS hf
  refine k_rV (As := []) (rest := []) hC miX8_codeNow mjX8_codeNow.1 mjX8_codeNow.2 wd4_184 (qX8_codeNow l D cI cZ cO jhm jam Sm u14 e15) ⟨Nat.le_of_ble_eq_true rfl, Nat.le_of_ble_eq_true rfl⟩ (hP.sub [0, 2, 4] rfl) hK hZ hS (va_recv hK hP (ci := 7) (q0 := 0) rfl rfl) hl.1 rfl rfl (Nat.le_of_ble_eq_true rfl) dX8_firstOf_1 ?_
  refine lv_istore_n (lv' := [(2, .int u14), (0, .ref jhm), (1, .int x1)]) hx hb dX8_firstOf_4 rfl hl (by decide) rfl (fun ls hl => ?_)
  refine lv_aload_n hx hb dX8_firstOf_5 rfl (lv_at hl 1 rfl) ?_
  refine va_get (D := D) (ci := 7) (v := .ref (jam 7)) (C := RX8) (T := TX8) (N := 31) hx hb ht inX8 hown hK hP 0 rfl rfl 16 (by decide) (ht _ wd3_201) (fun _ h9 => h9) rfl dX8_firstOf_6 ?_
  refine lv_bipush (v := (13 : Int32)) hx hb dX8_firstOf_9 rfl ?_
  obtain ⟨h16, hf⟩ := inB_s hf
  refine va_iald (f := (Sm.2.1 7)) (n := 16) hx hb hK hP 4 0 rfl rfl h16 dX8_firstOf_11 ?_
  refine lv_istore_n (lv' := [(3, .int ((Sm.2.1 7) (13 : Int32).toNatClampNeg)), (2, .int u14), (0, .ref jhm), (1, .int x1)]) hx hb dX8_firstOf_12 rfl hl (by decide) rfl (fun ls hl => ?_)
  refine lv_aload_n hx hb dX8_firstOf_13 rfl (lv_at hl 2 rfl) ?_
  refine va_get (D := D) (ci := 7) (v := .ref (jam 14)) (C := RX8) (T := TX8) (N := 31) hx hb ht inX8 hown hK hP 0 rfl rfl 26 (by decide) (ht _ wd3_211) (fun _ h9 => h9) rfl dX8_firstOf_14 ?_
  refine lv_bipush (v := (16 : Int32)) hx hb dX8_firstOf_17 rfl ?_
  refine lv_iload_n hx hb dX8_firstOf_19 rfl (lv_at hl 1 rfl) ?_
  refine lv_imul hx hb dX8_firstOf_20 ?_
  refine lv_iload_n hx hb dX8_firstOf_21 rfl (lv_at hl 0 rfl) ?_
  refine lv_iadd hx hb dX8_firstOf_22 ?_
  obtain ⟨h17, hf⟩ := inB_s hf
  refine va_iald (f := (Sm.2.1 14)) (n := 1296) hx hb hK hP 5 0 rfl rfl h17 dX8_firstOf_23 ?_
  refine lv_istore (lv' := [(4, .int ((Sm.2.1 14) (((16 : Int32) * u14) + ((Sm.2.1 7) (13 : Int32).toNatClampNeg)).toNatClampNeg)), (3, .int ((Sm.2.1 7) (13 : Int32).toNatClampNeg)), (2, .int u14), (0, .ref jhm), (1, .int x1)]) hx hb dX8_firstOf_24 hl (by decide) rfl (fun ls hl => ?_)
  refine lv_aload_n hx hb dX8_firstOf_26 rfl (lv_at hl 3 rfl) ?_
  refine lv_iload_n hx hb dX8_firstOf_27 rfl (lv_at hl 2 rfl) ?_
  refine lv_iload_n hx hb dX8_firstOf_28 rfl (lv_at hl 1 rfl) ?_
  obtain ⟨u18, e19, hf⟩ := bdS hf
  refine k_wVv (ws' := (wX8_firstOf cI cZ jhm jam (bA (bA (bA (bA (bO Sm u18) 2 (u18.2.1 2)) 3 (u18.2.1 3)) 7 (u18.2.1 7)) 15 (u18.2.1 15)))) (wr := [(jam 1, .inl (cI, 12, .inl ((bA (bA (bA (bA (bO Sm u18) 2 (u18.2.1 2)) 3 (u18.2.1 3)) 7 (u18.2.1 7)) 15 (u18.2.1 15)).2.1 1))), (jam 14, .inl (cI, 1296, .inl ((bA (bA (bA (bA (bO Sm u18) 2 (u18.2.1 2)) 3 (u18.2.1 3)) 7 (u18.2.1 7)) 15 (u18.2.1 15)).2.1 14)))]) (As := [.int u14, .int ((Sm.2.1 7) (13 : Int32).toNatClampNeg)]) (rest := []) hC miX8_layThere mjX8_layThere.1 mjX8_layThere.2 wd4_205 (qX8_layThere l D cI cZ cO jhm jam Sm u14 ((Sm.2.1 7) (13 : Int32).toNatClampNeg) H.size u18 e19) ⟨Nat.le_of_ble_eq_true rfl, Nat.le_of_ble_eq_true rfl⟩ hP hD hK hZ hS hA [0, 2, 3, 4, 6] [1, 5] [2, 0, 3, 4, 5, 1, 6] rfl (by decide) rfl (by decide) (by decide) (by decide) rfl (va_recv hK hP (ci := 7) (q0 := 0) rfl rfl) hl.1 rfl rfl (Nat.le_of_ble_eq_true rfl) dX8_firstOf_29 (fun H locs hP hD hS => ?_)
  refine lv_aload_n hx hb dX8_firstOf_32 rfl (lv_at hl 3 rfl) ?_
  refine lv_iload_n hx hb dX8_firstOf_33 rfl (lv_at hl 2 rfl) ?_
  refine lv_iload_n hx hb dX8_firstOf_34 rfl (lv_at hl 1 rfl) ?_
  refine lv_iload_n hx hb dX8_firstOf_35 rfl (lv_at hl 4 rfl) ?_
  obtain ⟨u20, e21, hf⟩ := bdS hf
  refine k_rV (As := [.int u14, .int ((Sm.2.1 7) (13 : Int32).toNatClampNeg), .int x1]) (rest := []) hC miX8_endOf mjX8_endOf.1 mjX8_endOf.2 wd4_209 (qX8_endOf l D cI cZ cO jhm jam (bA (bA (bA (bA (bO Sm u18) 2 (u18.2.1 2)) 3 (u18.2.1 3)) 7 (u18.2.1 7)) 15 (u18.2.1 15)) u14 ((Sm.2.1 7) (13 : Int32).toNatClampNeg) x1 u20 e21) ⟨Nat.le_of_ble_eq_true rfl, Nat.le_of_ble_eq_true rfl⟩ (hP.sub [0, 1, 2, 3, 4, 6] rfl) hK hZ hS (va_recv hK hP (ci := 7) (q0 := 0) rfl rfl) hl.1 rfl rfl (Nat.le_of_ble_eq_true rfl) dX8_firstOf_36 ?_
  refine lv_iload hx hb dX8_firstOf_39 (lv_at hl 0 rfl) ?_
  refine lv_icmp_ne (tgt := 46) hx hb dX8_firstOf_41 (by decide) (fun c22 => ?_) (fun c22 => ?_)
  · have hf := itN c22 hf
    refine lv_iconst (v := (0 : Int32)) hx hb dX8_firstOf_46 rfl ?_
    refine lv_istore (lv' := [(5, .int (0 : Int32)), (4, .int ((Sm.2.1 14) (((16 : Int32) * u14) + ((Sm.2.1 7) (13 : Int32).toNatClampNeg)).toNatClampNeg)), (3, .int ((Sm.2.1 7) (13 : Int32).toNatClampNeg)), (2, .int u14), (0, .ref jhm), (1, .int x1)]) hx hb dX8_firstOf_47 hl (by decide) rfl (fun ls hl => ?_)
    exact hj49 u14 ((Sm.2.1 7) (13 : Int32).toNatClampNeg) ((Sm.2.1 14) (((16 : Int32) * u14) + ((Sm.2.1 7) (13 : Int32).toNatClampNeg)).toNatClampNeg) (0 : Int32) (bA (bA (bA (bA (bO Sm u18) 2 (u18.2.1 2)) 3 (u18.2.1 3)) 7 (u18.2.1 7)) 15 (u18.2.1 15)) hf _ _ _ hP hD hS (lv_sub hl [4, 5, 3, 2, 1, 0] rfl)
  · have hf := itP c22 hf
    refine lv_iconst (v := (0 : Int32)) hx hb dX8_firstOf_44 rfl ?_
    cases hf
    exact W.iret hx hb hr (fun t ht9 hW => ⟨⟨_, (), rfl, rfl, by rw [ht9]; exact hP, va_K.moved hW.alike hK, hD⟩, hS.F ht9⟩) hS.2.2 dX8_firstOf_45
abbrev wX8_bestNow (cI cZ : ClassId) (jhm : Nat) (jam : Nat → Nat) (Sm : Bk) : va_W := [(jhm, .inr (7, [.int (Sm.1 0), .ref (jam 0), .int (Sm.1 1), .int (Sm.1 2), .int (Sm.1 3), .int (Sm.1 4), .int (Sm.1 5), .ref (jam 1), .ref (jam 2), .ref (jam 3), .int (Sm.1 6), .int (Sm.1 7), .int (Sm.1 8), .ref (jam 4), .ref (jam 5), .ref (jam 6), .ref (jam 7), .ref (jam 8), .ref (jam 9), .int (Sm.1 9), .ref (jam 10), .ref (jam 11), .int (Sm.1 10), .ref (jam 12), .ref (jam 13), .long Sm.2.2, .ref (jam 14), .ref (jam 15), .int (Sm.1 11), .int (Sm.1 12), .int (Sm.1 13)])), (jam 2, .inl (cI, 16, .inl (Sm.2.1 2))), (jam 7, .inl (cI, 16, .inl (Sm.2.1 7))), (jam 14, .inl (cI, 1296, .inl (Sm.2.1 14)))]
def fX8_bestNow (Sm : Bk) : Option (Int32) := (fX8_codeNow Sm).bind (fun u1 => inB 16 (13 : Int32) (inB 1296 (((16 : Int32) * u1) + ((Sm.2.1 7) (13 : Int32).toNatClampNeg)) (some ((Sm.2.1 14) (((16 : Int32) * u1) + ((Sm.2.1 7) (13 : Int32).toNatClampNeg)).toNatClampNeg))))
theorem miX8_bestNow : MI yX8_bestNow cX8_bestNow 1 (some .int) 0 := ⟨wd1_8, wd4_227, by decide +kernel⟩
theorem mjX8_bestNow : Cond.instanceMethod yX8_bestNow ∈ wT ∧ Cond.selects yX8_bestNow.cls yX8_bestNow yX8_bestNow ∈ wT := ⟨wd4_226, ws_40⟩
set_option maxHeartbeats 4000000 in
set_option maxRecDepth 100000 in
theorem qX8_bestNow (l : Launch) (D : va_G) (cI cZ cO : ClassId) (jhm : Nat) (jam : Nat → Nat) (Sm : Bk) (res : Int32) (hf : fX8_bestNow Sm = some res) : Met l yX8_bestNow (Cond.code yX8_bestNow cX8_bestNow 1 (some .int) :: wT) (rmF 2 44) (va_Pc [.ref jhm] (cR D (tyL cI cZ cO) (wX8_bestNow cI cZ jhm jam Sm))) (vp_Si (fun r => r = res)) 0 0 (fun _ => False) := by
  refine met_r (by decide) (Nat.le_of_ble_eq_true rfl) ?_
  intro p e s m below meth c hx hb hr hml ht hown hlk ls hl hP hK hZ
  have hS : va_S (fun _ => False) s.heap s.heap [] := va_S.rf
  have hown : s.vm.findClass "EyeDrinkModel" = some m.cls := hown
  have hl : lv_has ls 1 [(0, .ref jhm)] := hl
  have hC : CallFix p m c cX8_bestNow 1 s ([.ref jhm] : List Value).toArray wT "EyeDrinkModel" := ⟨hx, hb, hml, hown, ht⟩
  unfold fX8_bestNow at hf
  refine lv_aload_n hx hb dX8_bestNow_0 rfl (lv_at hl 0 rfl) ?_
  refine va_get (D := D) (ci := 7) (v := .ref (jam 14)) (C := RX8) (T := TX8) (N := 31) hx hb ht inX8 hown hK hP 0 rfl rfl 26 (by decide) (ht _ wd3_211) (fun _ h9 => h9) rfl dX8_bestNow_1 ?_
  refine lv_bipush (v := (16 : Int32)) hx hb dX8_bestNow_4 rfl ?_
  refine lv_aload_n hx hb dX8_bestNow_6 rfl (lv_at hl 0 rfl) ?_
  obtain ⟨u1, e2, hf⟩ := bdS hf
  refine k_rV (As := []) (rest := [.int (16 : Int32), .ref (jam 14)]) hC miX8_codeNow mjX8_codeNow.1 mjX8_codeNow.2 wd4_184 (qX8_codeNow l D cI cZ cO jhm jam Sm u1 e2) ⟨Nat.le_of_ble_eq_true rfl, Nat.le_of_ble_eq_true rfl⟩ (hP.sub [0, 1, 2] rfl) hK hZ hS (va_recv hK hP (ci := 7) (q0 := 0) rfl rfl) hl.1 rfl rfl (Nat.le_of_ble_eq_true rfl) dX8_bestNow_7 ?_
  refine lv_imul hx hb dX8_bestNow_10 ?_
  refine lv_aload_n hx hb dX8_bestNow_11 rfl (lv_at hl 0 rfl) ?_
  refine va_get (D := D) (ci := 7) (v := .ref (jam 7)) (C := RX8) (T := TX8) (N := 31) hx hb ht inX8 hown hK hP 0 rfl rfl 16 (by decide) (ht _ wd3_201) (fun _ h9 => h9) rfl dX8_bestNow_12 ?_
  refine lv_bipush (v := (13 : Int32)) hx hb dX8_bestNow_15 rfl ?_
  obtain ⟨h3, hf⟩ := inB_s hf
  refine va_iald (f := (Sm.2.1 7)) (n := 16) hx hb hK hP 2 0 rfl rfl h3 dX8_bestNow_17 ?_
  refine lv_iadd hx hb dX8_bestNow_18 ?_
  obtain ⟨h4, hf⟩ := inB_s hf
  refine va_iald (f := (Sm.2.1 14)) (n := 1296) hx hb hK hP 3 0 rfl rfl h4 dX8_bestNow_19 ?_
  exact W.iret hx hb hr (fun t ht9 _ => ⟨_, rfl, Option.some.inj hf, ht9⟩) (fun _ h9 => by cases h9) dX8_bestNow_20
