theorem pm_mv {α : Type} (a b : α) (X Y : List α) : (a :: b :: (X ++ Y)).Perm (X ++ a :: b :: Y) := ((List.perm_middle (l₁ := X) (a := a) (l₂ := b :: Y)).trans ((List.perm_middle (l₁ := X) (a := b) (l₂ := Y)).cons a)).symm
theorem miX0_forgetFirst : MI yX0_forgetFirst cX0_forgetFirst 3 none 0 := ⟨wd1_5, wd2_163, by decide +kernel⟩
theorem mjX0_forgetFirst : Cond.instanceMethod yX0_forgetFirst ∈ wT ∧ Cond.selects yX0_forgetFirst.cls yX0_forgetFirst yX0_forgetFirst ∈ wT := ⟨wd2_162, ws_3⟩
set_option maxHeartbeats 4000000 in
set_option maxRecDepth 100000 in
theorem qX0_forgetFirst (l : Launch) (D : va_G) (cI cZ cO : ClassId) (jhw jhc jal : Nat) (hh : Nat → Nat) (aa : Nat → Nat → Nat) (Sc : Bk) (ro : Nat) (St : Nat → Bk) (sz : Nat) : Met l yX0_forgetFirst (Cond.code yX0_forgetFirst cX0_forgetFirst 3 none :: wT) (rmF 0 0) (va_Pc [.ref jhc] (cW D (tyL cI cZ cO) (acW cI cO jhw jhc jal hh aa Sc ro St) sz)) (va_Qv (S := Unit) (fun _ => True) (fun _ => qW D (tyL cI cZ cO) (va_A (acW cI cO jhw jhc jal hh aa Sc ro St) sz) (acW cI cO jhw jhc jal hh aa (bI Sc 0 (Sc.1 0 - (1 : Int32))) (ro + 1) St)) (va_A (acW cI cO jhw jhc jal hh aa Sc ro St) sz)) 0 0 (va_A (acW cI cO jhw jhc jal hh aa Sc ro St) sz) := by
  refine met_w (by decide) (Nat.le_of_ble_eq_true rfl) ?_
  intro p e s m below meth c hx hb hr hml ht hown hlk ls hl hsz hP hK hD0 hZ
  subst hsz
  have hD := hD0.self (sz := s.heap.size)
  generalize hAe : va_A (acW cI cO jhw jhc jal hh aa Sc ro St) s.heap.size = A at hD hZ ⊢
  have hA : ∀ q : Nat, s.heap.size ≤ q → A q := fun q h => by rw [← hAe]; exact Or.inr h
  have hS : va_S A s.heap s.heap [] := va_S.rf
  have hown : s.vm.findClass "EyeDrink$Acts" = some m.cls := hown
  have hl : lv_has ls 3 [(0, .ref jhc)] := hl
  have hP : va_P D vwCl (acO jhc jal Sc :: acR cO jal (rwF hh ro) :: plC cI jhw hh aa St 14) s.heap := hP
  have hD : va_D A (acO jhc jal Sc :: acR cO jal (rwF hh ro) :: plC cI jhw hh aa St 14) := hD
  have hloop : ∀ (n i : Nat), i + n = 14 → 1 ≤ i → ∀ (H : Heap) (locs : List Loc) (ls : Array Slot), va_P D vwCl (acO jhc jal Sc :: acR cO jal (rwI hh ro i) :: plC cI jhw hh aa St 14) H → va_D A (acO jhc jal Sc :: acR cO jal (rwI hh ro i) :: plC cI jhw hh aa St 14) → va_S A s.heap H locs → lv_has ls 3 [(0, .ref jhc), (1, .ref (hh (ro % 14))), (2, .int (nI i))] → W p l e (rmF 0 0) s m ([.ref jhc] : List Value).toArray below meth c H locs 0 0 (MQ below (va_Qv (S := Unit) (fun _ => True) (fun _ => qW D (tyL cI cZ cO) A (acW cI cO jhw jhc jal hh aa (bI Sc 0 (Sc.1 0 - (1 : Int32))) (ro + 1) St)) A) ([.ref jhc] : List Value).toArray s 0 0 A) (F0 m 9 ls []) := by
    intro n
    induction n with
    | zero =>
      intro i hi h1 H locs ls hP hD hS hl
      have e14 : i = 14 := by omega
      subst e14
      refine lv_iload_n hx hb dX0_forgetFirst_9 rfl (lv_at hl 2 rfl) ?_
      refine lv_bipush (v := (14 : Int32)) hx hb dX0_forgetFirst_10 rfl ?_
      refine lv_icmp_ge (tgt := 35) hx hb dX0_forgetFirst_12 (by decide) (fun c1 => ?_) (fun c1 => absurd (by decide) c1)
      refine lv_aload_n hx hb dX0_forgetFirst_35 rfl (lv_at hl 0 rfl) ?_
      refine va_get (D := D) (ci := 0) (v := .ref jal) (C := RX0) (T := TX0) (N := 2) hx hb ht inX0 hown hK hP 0 rfl rfl 0 (by decide) (ht _ wd1_176) (fun _ h9 => h9) rfl dX0_forgetFirst_36 ?_
      refine lv_bipush (v := (13 : Int32)) hx hb dX0_forgetFirst_39 rfl ?_
      refine lv_aload_n hx hb dX0_forgetFirst_41 rfl (lv_at hl 1 rfl) ?_
      refine va_astq (f := rwI hh ro 14) (n := 14) hx hb hK hP hD hS 1 2 (4 * (ro % 14) + 2) 2 rfl rfl (plC_get cI jhw hh aa St 14 (by omega)) rfl (vp_in_nI (n := 13) (by omega) (by omega)) dX0_forgetFirst_42 (fun H locs hP hD hS => ?_)
      rw [show (13 : Int32).toNatClampNeg = 13 from rfl, rwI_e] at hP hD
      have hP : va_P D vwCl (acO jhc jal Sc :: acR cO jal (rwF hh (ro + 1)) :: plC cI jhw hh aa St 14) H := hP
      have hD : va_D A (acO jhc jal Sc :: acR cO jal (rwF hh (ro + 1)) :: plC cI jhw hh aa St 14) := hD
      refine lv_aload_n hx hb dX0_forgetFirst_43 rfl (lv_at hl 0 rfl) ?_
      refine lv_dup hx hb dX0_forgetFirst_44 rfl ?_
      refine va_get (D := D) (ci := 0) (v := .int (Sc.1 0)) (C := RX0) (T := TX0) (N := 2) hx hb ht inX0 hown hK hP 0 rfl rfl 1 (by decide) (ht _ wd1_177) (fun _ h9 => h9) rfl dX0_forgetFirst_45 ?_
      refine lv_iconst (v := (1 : Int32)) hx hb dX0_forgetFirst_48 rfl ?_
      refine lv_isub hx hb dX0_forgetFirst_49 ?_
      refine va_put (D := D) (ci := 0) (v := .int (Sc.1 0 - (1 : Int32))) (ty := .int) (C := RX0) (T := TX0) (N := 2) hx hb ht inX0 tyX0 tyX0_ok nmX0 hown hK hP hD hS 0 rfl rfl 1 (by decide) (ht _ wd1_177) (fun _ h9 => h9) rfl (tyX0_ok 1 (by decide)) rfl rfl (Nat.le_of_ble_eq_true rfl) dX0_forgetFirst_50 (fun H locs hP hD hS => ?_)
      have hP : va_P D vwCl (acW cI cO jhw jhc jal hh aa (bI Sc 0 (Sc.1 0 - (1 : Int32))) (ro + 1) St) H := hP
      have hD : va_D A (acW cI cO jhw jhc jal hh aa (bI Sc 0 (Sc.1 0 - (1 : Int32))) (ro + 1) St) := hD
      exact W.vret hx hb hr (fun t ht9 hW => ⟨⟨(), rfl, trivial, by rw [ht9]; exact hP, va_K.moved hW.alike hK, hD⟩, hS.F ht9⟩) hS.2.2 dX0_forgetFirst_53
    | succ n ih =>
      intro i hi h1 H locs ls hP hD hS hl
      have hi14 : i < 14 := by omega
      refine lv_iload_n hx hb dX0_forgetFirst_9 rfl (lv_at hl 2 rfl) ?_
      refine lv_bipush (v := (14 : Int32)) hx hb dX0_forgetFirst_10 rfl ?_
      refine lv_icmp_ge (tgt := 35) hx hb dX0_forgetFirst_12 (by decide) (fun c1 => absurd c1 (nI_ge (b := 14) hi14 (by omega))) (fun c1 => ?_)
      refine lv_aload_n hx hb dX0_forgetFirst_15 rfl (lv_at hl 0 rfl) ?_
      refine va_get (D := D) (ci := 0) (v := .ref jal) (C := RX0) (T := TX0) (N := 2) hx hb ht inX0 hown hK hP 0 rfl rfl 0 (by decide) (ht _ wd1_176) (fun _ h9 => h9) rfl dX0_forgetFirst_16 ?_
      refine lv_iload_n hx hb dX0_forgetFirst_19 rfl (lv_at hl 2 rfl) ?_
      refine lv_iconst (v := (1 : Int32)) hx hb dX0_forgetFirst_20 rfl ?_
      refine lv_isub hx hb dX0_forgetFirst_21 ?_
      obtain ⟨k, rfl⟩ : ∃ k, i = k + 1 := ⟨i - 1, by omega⟩
      rw [nI_pred]
      refine lv_aload_n hx hb dX0_forgetFirst_22 rfl (lv_at hl 0 rfl) ?_
      refine va_get (D := D) (ci := 0) (v := .ref jal) (C := RX0) (T := TX0) (N := 2) hx hb ht inX0 hown hK hP 0 rfl rfl 0 (by decide) (ht _ wd1_176) (fun _ h9 => h9) rfl dX0_forgetFirst_23 ?_
      refine lv_iload_n hx hb dX0_forgetFirst_26 rfl (lv_at hl 2 rfl) ?_
      refine va_aldq (f := rwI hh ro (k + 1)) (n := 14) (C := "EyeDrink$Stand") hx hb hK hP 1 2 rfl rfl (vp_in_nI hi14 (by omega)) dX0_forgetFirst_27 ?_
      rw [nI_clamp (by omega), rwI_at hh ro hi14]
      refine va_astq (f := rwI hh ro (k + 1)) (n := 14) (v := hh ((k + 1 + ro) % 14)) hx hb hK hP hD hS 1 2 (4 * ((k + 1 + ro) % 14) + 2) 2 rfl rfl (plC_get cI jhw hh aa St 14 (by omega)) rfl (vp_in_nI (n := k) (by omega) (by omega)) dX0_forgetFirst_28 (fun H locs hP hD hS => ?_)
      have e9 := rwI_s hh ro (i := k + 1) (by omega) hi14
      rw [show k + 1 - 1 = k from rfl] at e9
      rw [nI_clamp (n := k) (by omega), e9] at hP hD
      refine lv_iinc (v := nI (k + 1 + 1)) (lv' := [(2, .int (nI (k + 1 + 1))), (0, .ref jhc), (1, .ref (hh (ro % 14)))]) hx hb dX0_forgetFirst_29 hl (k := 2) rfl (nI_1 (k + 1)) (by decide) rfl (fun ls hl => ?_)
      refine lv_goto (tgt := 9) hx hb dX0_forgetFirst_32 (by decide) ?_
      exact ih (k + 1 + 1) (by omega) (by omega) _ _ _ hP hD hS (lv_sub hl [1, 2, 0] rfl)
  refine lv_aload_n hx hb dX0_forgetFirst_0 rfl (lv_at hl 0 rfl) ?_
  refine va_get (D := D) (ci := 0) (v := .ref jal) (C := RX0) (T := TX0) (N := 2) hx hb ht inX0 hown hK hP 0 rfl rfl 0 (by decide) (ht _ wd1_176) (fun _ h9 => h9) rfl dX0_forgetFirst_1 ?_
  refine lv_iconst (v := (0 : Int32)) hx hb dX0_forgetFirst_4 rfl ?_
  refine va_aldq (f := rwF hh ro) (n := 14) (C := "EyeDrink$Stand") hx hb hK hP 1 2 rfl rfl (vp_in_nI (n := 0) (by omega) (by omega)) dX0_forgetFirst_5 ?_
  rw [show rwF hh ro (0 : Int32).toNatClampNeg = some (hh (ro % 14)) from by
    rw [show (0 : Int32).toNatClampNeg = 0 from rfl]
    unfold rwF
    rw [if_pos (by omega), Nat.zero_add]]
  refine lv_astore_n (x := hh (ro % 14)) (lv' := [(1, .ref (hh (ro % 14))), (0, .ref jhc)]) hx hb dX0_forgetFirst_6 rfl hl (by decide) rfl (fun ls hl => ?_)
  refine lv_iconst (v := (1 : Int32)) hx hb dX0_forgetFirst_7 rfl ?_
  refine lv_istore_n (lv' := [(2, .int (1 : Int32)), (1, .ref (hh (ro % 14))), (0, .ref jhc)]) hx hb dX0_forgetFirst_8 rfl hl (by decide) rfl (fun ls hl => ?_)
  rw [← rwI_1] at hP hD
  exact hloop 13 1 rfl (Nat.le_refl 1) _ _ _ hP hD hS (lv_sub hl [2, 1, 0] rfl)
def fX0_remember (Sc : Bk) (ro : Nat) (St : Nat → Bk) (So : Bk) : Option (Bk × Nat × (Nat → Bk)) :=
  if Sc.1 0 = 14 then (fX3_copyFrom (St (ro % 14)) So).bind (fun u => some (bI Sc 0 14, ro + 1, va_up St (ro % 14) u))
  else inB 14 (Sc.1 0) ((fX3_copyFrom (St (((Sc.1 0).toNatClampNeg + ro) % 14)) So).bind (fun u => some (bI Sc 0 (Sc.1 0 + 1), ro, va_up St (((Sc.1 0).toNatClampNeg + ro) % 14) u)))
theorem rwF_at (hh : Nat → Nat) (ro : Nat) {i : Nat} (h : i < 14) : rwF hh ro i = some (hh ((i + ro) % 14)) := by
  unfold rwF
  rw [if_pos h]
theorem miX0_remember : MI yX0_remember cX0_remember 2 none 1 := ⟨wd1_5, wd2_159, by decide +kernel⟩
theorem mjX0_remember : Cond.instanceMethod yX0_remember ∈ wT ∧ Cond.selects yX0_remember.cls yX0_remember yX0_remember ∈ wT := ⟨wd2_157, wd2_158⟩
theorem miX0_takeBack : MI yX0_takeBack cX0_takeBack 2 none 1 := ⟨wd1_5, wd2_212, by decide +kernel⟩
theorem mjX0_takeBack : Cond.instanceMethod yX0_takeBack ∈ wT ∧ Cond.selects yX0_takeBack.cls yX0_takeBack yX0_takeBack ∈ wT := ⟨wd2_210, wd2_211⟩
set_option maxHeartbeats 4000000 in
set_option maxRecDepth 100000 in
theorem qX0_remember (l : Launch) (D : va_G) (cI cZ cO : ClassId) (jhw jhc jal : Nat) (hh : Nat → Nat) (aa : Nat → Nat → Nat) (jho : Nat) (jao : Nat → Nat) (Sc : Bk) (ro : Nat) (St : Nat → Bk) (So : Bk) (sz : Nat) (res : Bk × Nat × (Nat → Bk)) (hf : fX0_remember Sc ro St So = some res) : Met l yX0_remember (Cond.code yX0_remember cX0_remember 2 none :: wT) (rmF 2 47) (va_Pc [.ref jhc, .ref jho] (cW D (tyL cI cZ cO) (acO jhc jal Sc :: acR cO jal (rwF hh ro) :: (stC cI jhw jho jao So ++ plC cI jhw hh aa St 14)) sz)) (va_Qv (S := Unit) (fun _ => True) (fun _ => qW D (tyL cI cZ cO) (va_A (acO jhc jal Sc :: acR cO jal (rwF hh ro) :: (stC cI jhw jho jao So ++ plC cI jhw hh aa St 14)) sz) (acO jhc jal res.1 :: acR cO jal (rwF hh res.2.1) :: (stC cI jhw jho jao So ++ plC cI jhw hh aa res.2.2 14))) (va_A (acO jhc jal Sc :: acR cO jal (rwF hh ro) :: (stC cI jhw jho jao So ++ plC cI jhw hh aa St 14)) sz)) 0 0 (va_A (acO jhc jal Sc :: acR cO jal (rwF hh ro) :: (stC cI jhw jho jao So ++ plC cI jhw hh aa St 14)) sz) := by
  refine met_w (by decide) (Nat.le_of_ble_eq_true rfl) ?_
  intro p e s m below meth c hx hb hr hml ht hown hlk ls hl hsz hP hK hD0 hZ
  subst hsz
  have hD := hD0.self (sz := s.heap.size)
  generalize hAe : va_A (acO jhc jal Sc :: acR cO jal (rwF hh ro) :: (stC cI jhw jho jao So ++ plC cI jhw hh aa St 14)) s.heap.size = A at hD hZ ⊢
  have hA : ∀ q : Nat, s.heap.size ≤ q → A q := fun q h => by rw [← hAe]; exact Or.inr h
  have hS : va_S A s.heap s.heap [] := va_S.rf
  have hown : s.vm.findClass "EyeDrink$Acts" = some m.cls := hown
  have hl : lv_has ls 2 [(0, .ref jhc), (1, .ref jho)] := hl
  have hC : CallFix p m c cX0_remember 2 s ([.ref jhc, .ref jho] : List Value).toArray wT "EyeDrink$Acts" := ⟨hx, hb, hml, hown, ht⟩
  have hk : ∀ (n rz : Nat) (Sz : Bk) (u : Bk), n < 14 → Sz.1 0 = nI n → fX3_copyFrom (St ((n + rz) % 14)) So = some u → res = (bI Sz 0 (Sz.1 0 + 1), rz, va_up St ((n + rz) % 14) u) → ∀ (H : Heap) (locs : List Loc) (ls : Array Slot), va_P D vwCl (acO jhc jal Sz :: acR cO jal (rwF hh rz) :: (stC cI jhw jho jao So ++ plC cI jhw hh aa St 14)) H → va_D A (acO jhc jal Sz :: acR cO jal (rwF hh rz) :: (stC cI jhw jho jao So ++ plC cI jhw hh aa St 14)) → va_S A s.heap H locs → lv_has ls 2 [(0, .ref jhc), (1, .ref jho)] → W p l e (rmF 2 47) s m ([.ref jhc, .ref jho] : List Value).toArray below meth c H locs 0 0 (MQ below (va_Qv (S := Unit) (fun _ => True) (fun _ => qW D (tyL cI cZ cO) A (acO jhc jal res.1 :: acR cO jal (rwF hh res.2.1) :: (stC cI jhw jho jao So ++ plC cI jhw hh aa res.2.2 14))) A) ([.ref jhc, .ref jho] : List Value).toArray s 0 0 A) (F0 m 13 ls []) := by
    intro n rz Sz u hn hc0 hu hres H locs ls hP hD hS hl
    refine lv_aload_n hx hb dX0_remember_13 rfl (lv_at hl 0 rfl) ?_
    refine va_get (D := D) (ci := 0) (v := .ref jal) (C := RX0) (T := TX0) (N := 2) hx hb ht inX0 hown hK hP 0 rfl rfl 0 (by decide) (ht _ wd1_176) (fun _ h9 => h9) rfl dX0_remember_14 ?_
    refine lv_aload_n hx hb dX0_remember_17 rfl (lv_at hl 0 rfl) ?_
    refine va_get (D := D) (ci := 0) (v := .int (Sz.1 0)) (C := RX0) (T := TX0) (N := 2) hx hb ht inX0 hown hK hP 0 rfl rfl 1 (by decide) (ht _ wd1_177) (fun _ h9 => h9) rfl dX0_remember_18 ?_
    rw [hc0]
    refine va_aldq (f := rwF hh rz) (n := 14) (C := "EyeDrink$Stand") hx hb hK hP 1 2 rfl rfl (vp_in_nI hn (by omega)) dX0_remember_21 ?_
    rw [nI_clamp (by omega), rwF_at hh rz hn]
    refine lv_aload_n hx hb dX0_remember_22 rfl (lv_at hl 1 rfl) ?_
    have hpm : (acO jhc jal Sz :: acR cO jal (rwF hh rz) :: (stC cI jhw jho jao So ++ plC cI jhw hh aa St 14)).Perm (wX3_copyFrom cI cZ (hh ((n + rz) % 14)) (aa ((n + rz) % 14)) jhw jho jao (St ((n + rz) % 14)) So ++ (acO jhc jal Sz :: acR cO jal (rwF hh rz) :: plX cI jhw hh aa St 14 ((n + rz) % 14))) := by
      have h1 : (stC cI jhw jho jao So ++ plC cI jhw hh aa St 14).Perm (wX3_copyFrom cI cZ (hh ((n + rz) % 14)) (aa ((n + rz) % 14)) jhw jho jao (St ((n + rz) % 14)) So ++ plX cI jhw hh aa St 14 ((n + rz) % 14)) := by
        refine ((plC_pm cI jhw hh aa St (n := 14) (k := (n + rz) % 14) (by omega)).append_left _).trans ?_
        show (stC cI jhw jho jao So ++ (stC cI jhw (hh ((n + rz) % 14)) (aa ((n + rz) % 14)) (St ((n + rz) % 14)) ++ plX cI jhw hh aa St 14 ((n + rz) % 14))).Perm ((stC cI jhw (hh ((n + rz) % 14)) (aa ((n + rz) % 14)) (St ((n + rz) % 14)) ++ stC cI jhw jho jao So) ++ plX cI jhw hh aa St 14 ((n + rz) % 14))
        rw [← List.append_assoc]
        exact List.perm_append_comm.append_right _
      exact ((h1.cons _).cons _).trans (pm_mv _ _ _ _)
    have hpm2 : (wX3_copyFrom cI cZ (hh ((n + rz) % 14)) (aa ((n + rz) % 14)) jhw jho jao u So ++ (acO jhc jal Sz :: acR cO jal (rwF hh rz) :: plX cI jhw hh aa St 14 ((n + rz) % 14))).Perm (acO jhc jal Sz :: acR cO jal (rwF hh rz) :: (stC cI jhw jho jao So ++ plC cI jhw hh aa (va_up St ((n + rz) % 14) u) 14)) := by
      have h1 : (wX3_copyFrom cI cZ (hh ((n + rz) % 14)) (aa ((n + rz) % 14)) jhw jho jao u So ++ plX cI jhw hh aa St 14 ((n + rz) % 14)).Perm (stC cI jhw jho jao So ++ plC cI jhw hh aa (va_up St ((n + rz) % 14) u) 14) := by
        refine List.Perm.trans ?_ ((plC_up cI jhw hh aa St u (n := 14) (k := (n + rz) % 14) (by omega)).append_left _)
        show ((stC cI jhw (hh ((n + rz) % 14)) (aa ((n + rz) % 14)) u ++ stC cI jhw jho jao So) ++ plX cI jhw hh aa St 14 ((n + rz) % 14)).Perm (stC cI jhw jho jao So ++ (stC cI jhw (hh ((n + rz) % 14)) (aa ((n + rz) % 14)) u ++ plX cI jhw hh aa St 14 ((n + rz) % 14)))
        rw [← List.append_assoc]
        exact List.perm_append_comm.append_right _
      exact (pm_mv _ _ _ _).symm.trans ((h1.cons _).cons _)
    refine k_wVvP (As := [.ref jho]) (rest := []) hC miX3_copyFrom mjX3_copyFrom.1 mjX3_copyFrom.2 wd2_164 (qX3_copyFrom l D cI cZ cO (hh ((n + rz) % 14)) (aa ((n + rz) % 14)) jhw jho jao (St ((n + rz) % 14)) So H.size u hu) ⟨Nat.le_of_ble_eq_true rfl, Nat.le_of_ble_eq_true rfl⟩ hP hD hK hZ hS hA hpm hpm2 (va_recv hK (hP.pm hpm) (ci := 2) (q0 := 0) rfl rfl) hl.1 rfl rfl (Nat.le_of_ble_eq_true rfl) ⟨Nat.zero_le _, Nat.zero_le _⟩ dX0_remember_23 (fun H locs hP hD hS => ?_)
    refine lv_aload_n hx hb dX0_remember_26 rfl (lv_at hl 0 rfl) ?_
    refine lv_dup hx hb dX0_remember_27 rfl ?_
    refine va_get (D := D) (ci := 0) (v := .int (Sz.1 0)) (C := RX0) (T := TX0) (N := 2) hx hb ht inX0 hown hK hP 0 rfl rfl 1 (by decide) (ht _ wd1_177) (fun _ h9 => h9) rfl dX0_remember_28 ?_
    refine lv_iconst (v := (1 : Int32)) hx hb dX0_remember_31 rfl ?_
    refine lv_iadd hx hb dX0_remember_32 ?_
    refine va_put (D := D) (ci := 0) (v := .int (Sz.1 0 + (1 : Int32))) (ty := .int) (C := RX0) (T := TX0) (N := 2) hx hb ht inX0 tyX0 tyX0_ok nmX0 hown hK hP hD hS 0 rfl rfl 1 (by decide) (ht _ wd1_177) (fun _ h9 => h9) rfl (tyX0_ok 1 (by decide)) rfl rfl (Nat.le_of_ble_eq_true rfl) dX0_remember_33 (fun H locs hP hD hS => ?_)
    subst hres
    exact W.vret hx hb hr (fun t ht9 hW => ⟨⟨(), rfl, trivial, by rw [ht9]; exact hP, va_K.moved hW.alike hK, hD⟩, hS.F ht9⟩) hS.2.2 dX0_remember_36
  unfold fX0_remember at hf
  refine lv_aload_n hx hb dX0_remember_0 rfl (lv_at hl 0 rfl) ?_
  refine va_get (D := D) (ci := 0) (v := .int (Sc.1 0)) (C := RX0) (T := TX0) (N := 2) hx hb ht inX0 hown hK hP 0 rfl rfl 1 (by decide) (ht _ wd1_177) (fun _ h9 => h9) rfl dX0_remember_1 ?_
  refine lv_bipush (v := (14 : Int32)) hx hb dX0_remember_4 rfl ?_
  refine lv_icmp_ne (tgt := 13) hx hb dX0_remember_6 (by decide) (fun c1 => ?_) (fun c1 => ?_)
  · have hf := itN c1 hf
    obtain ⟨h1, hf⟩ := inB_s hf
    obtain ⟨n, hn, en⟩ := vp_in_of h1 (by omega)
    obtain ⟨u, eu, hf⟩ := bdS hf
    rw [en, nI_clamp (by omega)] at eu hf
    rw [← en] at hf
    exact hk n ro Sc u hn en eu (Option.some.inj hf).symm _ _ _ hP hD hS hl
  · have hf := itP c1 hf
    obtain ⟨u, eu, hf⟩ := bdS hf
    refine lv_aload_n hx hb dX0_remember_9 rfl (lv_at hl 0 rfl) ?_
    have hpm : (acO jhc jal Sc :: acR cO jal (rwF hh ro) :: (stC cI jhw jho jao So ++ plC cI jhw hh aa St 14)).Perm (acW cI cO jhw jhc jal hh aa Sc ro St ++ stC cI jhw jho jao So) := (List.perm_append_comm.cons _).cons _
    have hpm2 : (acW cI cO jhw jhc jal hh aa (bI Sc 0 (Sc.1 0 - (1 : Int32))) (ro + 1) St ++ stC cI jhw jho jao So).Perm (acO jhc jal (bI Sc 0 (Sc.1 0 - (1 : Int32))) :: acR cO jal (rwF hh (ro + 1)) :: (stC cI jhw jho jao So ++ plC cI jhw hh aa St 14)) := (List.perm_append_comm.cons _).cons _
    have hrec := va_recv hK hP (ci := 0) (q0 := 0) rfl rfl
    generalize hH0 : s.heap = H9 at hP hS hrec ⊢
    refine k_wVvP (As := []) (rest := []) hC miX0_forgetFirst mjX0_forgetFirst.1 mjX0_forgetFirst.2 wd2_160 (qX0_forgetFirst l D cI cZ cO jhw jhc jal hh aa Sc ro St H9.size) ⟨Nat.le_of_ble_eq_true rfl, Nat.le_of_ble_eq_true rfl⟩ hP hD hK hZ (by rw [hH0]; exact hS) hA hpm hpm2 hrec hl.1 rfl rfl (Nat.le_of_ble_eq_true rfl) ⟨Nat.zero_le _, Nat.zero_le _⟩ dX0_remember_10 (fun H locs hP hD hS => ?_)
    have e13 : (bI Sc 0 (Sc.1 0 - (1 : Int32))).1 0 = nI 13 := by
      show Sc.1 0 - 1 = nI 13
      rw [c1]
      rfl
    refine hk 13 (ro + 1) (bI Sc 0 (Sc.1 0 - (1 : Int32))) u (by omega) e13 (by rw [show (13 + (ro + 1)) % 14 = ro % 14 from by omega]; exact eu) ?_ _ _ _ hP hD hS hl
    rw [show (13 + (ro + 1)) % 14 = ro % 14 from by omega, e13]
    rw [← Option.some.inj hf]
    have e14 : bI Sc 0 14 = bI (bI Sc 0 (Sc.1 0 - (1 : Int32))) 0 (nI 13 + 1) := by
      unfold bI
      refine congrArg (fun f => (f, Sc.2)) ?_
      funext k
      unfold upd
      by_cases hk0 : k = 0
      · rw [if_pos hk0, if_pos hk0]; rfl
      · rw [if_neg hk0, if_neg hk0]
        exact (if_neg hk0).symm
    rw [e14]
def fX0_takeBack (Sc : Bk) (ro : Nat) (St : Nat → Bk) (So : Bk) : Option (Bk × Bk) :=
  if Sc.1 0 ≤ 0 then some (So, Sc) else inB 14 (Sc.1 0 - 1) ((fX3_copyFrom So (St (((Sc.1 0 - 1).toNatClampNeg + ro) % 14))).bind (fun u => some (u, bI Sc 0 (Sc.1 0 - 1))))
set_option maxHeartbeats 4000000 in
set_option maxRecDepth 100000 in
theorem qX0_takeBack (l : Launch) (D : va_G) (cI cZ cO : ClassId) (jhw jhc jal : Nat) (hh : Nat → Nat) (aa : Nat → Nat → Nat) (jho : Nat) (jao : Nat → Nat) (Sc : Bk) (ro : Nat) (St : Nat → Bk) (So : Bk) (sz : Nat) (res : Bk × Bk) (hf : fX0_takeBack Sc ro St So = some res) : Met l yX0_takeBack (Cond.code yX0_takeBack cX0_takeBack 2 none :: wT) (rmF 2 47) (va_Pc [.ref jhc, .ref jho] (cW D (tyL cI cZ cO) (acO jhc jal Sc :: acR cO jal (rwF hh ro) :: (stC cI jhw jho jao So ++ plC cI jhw hh aa St 14)) sz)) (va_Qv (S := Unit) (fun _ => True) (fun _ => qW D (tyL cI cZ cO) (va_A (acO jhc jal Sc :: acR cO jal (rwF hh ro) :: (stC cI jhw jho jao So ++ plC cI jhw hh aa St 14)) sz) (acO jhc jal res.2 :: acR cO jal (rwF hh ro) :: (stC cI jhw jho jao res.1 ++ plC cI jhw hh aa St 14))) (va_A (acO jhc jal Sc :: acR cO jal (rwF hh ro) :: (stC cI jhw jho jao So ++ plC cI jhw hh aa St 14)) sz)) 0 0 (va_A (acO jhc jal Sc :: acR cO jal (rwF hh ro) :: (stC cI jhw jho jao So ++ plC cI jhw hh aa St 14)) sz) := by
  refine met_w (by decide) (Nat.le_of_ble_eq_true rfl) ?_
  intro p e s m below meth c hx hb hr hml ht hown hlk ls hl hsz hP hK hD0 hZ
  subst hsz
  have hD := hD0.self (sz := s.heap.size)
  generalize hAe : va_A (acO jhc jal Sc :: acR cO jal (rwF hh ro) :: (stC cI jhw jho jao So ++ plC cI jhw hh aa St 14)) s.heap.size = A at hD hZ ⊢
  have hA : ∀ q : Nat, s.heap.size ≤ q → A q := fun q h => by rw [← hAe]; exact Or.inr h
  have hS : va_S A s.heap s.heap [] := va_S.rf
  have hown : s.vm.findClass "EyeDrink$Acts" = some m.cls := hown
  have hl : lv_has ls 2 [(0, .ref jhc), (1, .ref jho)] := hl
  have hC : CallFix p m c cX0_takeBack 2 s ([.ref jhc, .ref jho] : List Value).toArray wT "EyeDrink$Acts" := ⟨hx, hb, hml, hown, ht⟩
  unfold fX0_takeBack at hf
  refine lv_aload_n hx hb dX0_takeBack_0 rfl (lv_at hl 0 rfl) ?_
  refine va_get (D := D) (ci := 0) (v := .int (Sc.1 0)) (C := RX0) (T := TX0) (N := 2) hx hb ht inX0 hown hK hP 0 rfl rfl 1 (by decide) (ht _ wd1_177) (fun _ h9 => h9) rfl dX0_takeBack_1 ?_
  refine lv_if_le (tgt := 30) hx hb dX0_takeBack_4 (by decide) (fun c1 => ?_) (fun c1 => ?_)
  · have hf := itP c1 hf
    cases hf
    exact W.vret hx hb hr (fun t ht9 hW => ⟨⟨(), rfl, trivial, by rw [ht9]; exact hP, va_K.moved hW.alike hK, hD⟩, hS.F ht9⟩) hS.2.2 dX0_takeBack_30
  · have hf := itN c1 hf
    obtain ⟨h1, hf⟩ := inB_s hf
    obtain ⟨n, hn, en⟩ := vp_in_of h1 (by omega)
    obtain ⟨u, eu, hf⟩ := bdS hf
    rw [en, nI_clamp (by omega)] at eu
    refine lv_aload_n hx hb dX0_takeBack_7 rfl (lv_at hl 0 rfl) ?_
    refine lv_dup hx hb dX0_takeBack_8 rfl ?_
    refine va_get (D := D) (ci := 0) (v := .int (Sc.1 0)) (C := RX0) (T := TX0) (N := 2) hx hb ht inX0 hown hK hP 0 rfl rfl 1 (by decide) (ht _ wd1_177) (fun _ h9 => h9) rfl dX0_takeBack_9 ?_
    refine lv_iconst (v := (1 : Int32)) hx hb dX0_takeBack_12 rfl ?_
    refine lv_isub hx hb dX0_takeBack_13 ?_
    refine va_put (D := D) (ci := 0) (v := .int (Sc.1 0 - (1 : Int32))) (ty := .int) (C := RX0) (T := TX0) (N := 2) hx hb ht inX0 tyX0 tyX0_ok nmX0 hown hK hP hD hS 0 rfl rfl 1 (by decide) (ht _ wd1_177) (fun _ h9 => h9) rfl (tyX0_ok 1 (by decide)) rfl rfl (Nat.le_of_ble_eq_true rfl) dX0_takeBack_14 (fun H locs hP hD hS => ?_)
    have hP : va_P D vwCl (acO jhc jal (bI Sc 0 (Sc.1 0 - (1 : Int32))) :: acR cO jal (rwF hh ro) :: (stC cI jhw jho jao So ++ plC cI jhw hh aa St 14)) H := hP
    have hD : va_D A (acO jhc jal (bI Sc 0 (Sc.1 0 - (1 : Int32))) :: acR cO jal (rwF hh ro) :: (stC cI jhw jho jao So ++ plC cI jhw hh aa St 14)) := hD
    refine lv_aload_n hx hb dX0_takeBack_17 rfl (lv_at hl 1 rfl) ?_
    refine lv_aload_n hx hb dX0_takeBack_18 rfl (lv_at hl 0 rfl) ?_
    refine va_get (D := D) (ci := 0) (v := .ref jal) (C := RX0) (T := TX0) (N := 2) hx hb ht inX0 hown hK hP 0 rfl rfl 0 (by decide) (ht _ wd1_176) (fun _ h9 => h9) rfl dX0_takeBack_19 ?_
    refine lv_aload_n hx hb dX0_takeBack_22 rfl (lv_at hl 0 rfl) ?_
    refine va_get (D := D) (ci := 0) (v := .int (Sc.1 0 - (1 : Int32))) (C := RX0) (T := TX0) (N := 2) hx hb ht inX0 hown hK hP 0 rfl rfl 1 (by decide) (ht _ wd1_177) (fun _ h9 => h9) rfl dX0_takeBack_23 ?_
    rw [en]
    refine va_aldq (f := rwF hh ro) (n := 14) (C := "EyeDrink$Stand") hx hb hK hP 1 2 rfl rfl (vp_in_nI hn (by omega)) dX0_takeBack_26 ?_
    rw [nI_clamp (by omega), rwF_at hh ro hn]
    have hrec := va_recv hK hP (ci := 2) (q0 := 2) rfl rfl
    have hpm : (acO jhc jal (bI Sc 0 (Sc.1 0 - (1 : Int32))) :: acR cO jal (rwF hh ro) :: (stC cI jhw jho jao So ++ plC cI jhw hh aa St 14)).Perm (wX3_copyFrom cI cZ jho jao jhw (hh ((n + ro) % 14)) (aa ((n + ro) % 14)) So (St ((n + ro) % 14)) ++ (acO jhc jal (bI Sc 0 (Sc.1 0 - (1 : Int32))) :: acR cO jal (rwF hh ro) :: plX cI jhw hh aa St 14 ((n + ro) % 14))) := by
      have h1 : (stC cI jhw jho jao So ++ plC cI jhw hh aa St 14).Perm (wX3_copyFrom cI cZ jho jao jhw (hh ((n + ro) % 14)) (aa ((n + ro) % 14)) So (St ((n + ro) % 14)) ++ plX cI jhw hh aa St 14 ((n + ro) % 14)) := by
        refine ((plC_pm cI jhw hh aa St (n := 14) (k := (n + ro) % 14) (by omega)).append_left _).trans ?_
        show (stC cI jhw jho jao So ++ (stC cI jhw (hh ((n + ro) % 14)) (aa ((n + ro) % 14)) (St ((n + ro) % 14)) ++ plX cI jhw hh aa St 14 ((n + ro) % 14))).Perm ((stC cI jhw jho jao So ++ stC cI jhw (hh ((n + ro) % 14)) (aa ((n + ro) % 14)) (St ((n + ro) % 14))) ++ plX cI jhw hh aa St 14 ((n + ro) % 14))
        rw [← List.append_assoc]
      exact ((h1.cons _).cons _).trans (pm_mv _ _ _ _)
    have hpm2 : (wX3_copyFrom cI cZ jho jao jhw (hh ((n + ro) % 14)) (aa ((n + ro) % 14)) u (St ((n + ro) % 14)) ++ (acO jhc jal (bI Sc 0 (Sc.1 0 - (1 : Int32))) :: acR cO jal (rwF hh ro) :: plX cI jhw hh aa St 14 ((n + ro) % 14))).Perm (acO jhc jal (bI Sc 0 (Sc.1 0 - (1 : Int32))) :: acR cO jal (rwF hh ro) :: (stC cI jhw jho jao u ++ plC cI jhw hh aa St 14)) := by
      have h1 : (wX3_copyFrom cI cZ jho jao jhw (hh ((n + ro) % 14)) (aa ((n + ro) % 14)) u (St ((n + ro) % 14)) ++ plX cI jhw hh aa St 14 ((n + ro) % 14)).Perm (stC cI jhw jho jao u ++ plC cI jhw hh aa St 14) := by
        refine List.Perm.trans ?_ ((plC_pm cI jhw hh aa St (n := 14) (k := (n + ro) % 14) (by omega)).symm.append_left _)
        show ((stC cI jhw jho jao u ++ stC cI jhw (hh ((n + ro) % 14)) (aa ((n + ro) % 14)) (St ((n + ro) % 14))) ++ plX cI jhw hh aa St 14 ((n + ro) % 14)).Perm (stC cI jhw jho jao u ++ (stC cI jhw (hh ((n + ro) % 14)) (aa ((n + ro) % 14)) (St ((n + ro) % 14)) ++ plX cI jhw hh aa St 14 ((n + ro) % 14)))
        rw [← List.append_assoc]
      exact (pm_mv _ _ _ _).symm.trans ((h1.cons _).cons _)
    refine k_wVvP (As := [.ref (hh ((n + ro) % 14))]) (rest := []) hC miX3_copyFrom mjX3_copyFrom.1 mjX3_copyFrom.2 wd2_164 (qX3_copyFrom l D cI cZ cO jho jao jhw (hh ((n + ro) % 14)) (aa ((n + ro) % 14)) So (St ((n + ro) % 14)) H.size u eu) ⟨Nat.le_of_ble_eq_true rfl, Nat.le_of_ble_eq_true rfl⟩ hP hD hK hZ hS hA hpm hpm2 hrec hl.1 rfl rfl (Nat.le_of_ble_eq_true rfl) ⟨Nat.zero_le _, Nat.zero_le _⟩ dX0_takeBack_27 (fun H locs hP hD hS => ?_)
    cases hf
    exact W.vret hx hb hr (fun t ht9 hW => ⟨⟨(), rfl, trivial, by rw [ht9]; exact hP, va_K.moved hW.alike hK, hD⟩, hS.F ht9⟩) hS.2.2 dX0_takeBack_30
