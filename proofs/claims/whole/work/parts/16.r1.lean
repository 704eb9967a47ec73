abbrev wX5_layOut (cI cZ : ClassId) (jhw : Nat) (jaw : Nat → Nat) (jhs : Nat) (jas : Nat → Nat) (jhr : Nat) (jar : Nat → Nat) (Sw : Bk) (Ss : Bk) (Sr : Bk) : va_W := [(jhw, .inr (5, [.int (Sw.1 0), .ref (jaw 0), .ref (jaw 1), .ref (jaw 2), .int (Sw.1 1), .ref (jaw 3), .ref (jaw 4), .ref (jaw 5), .int (Sw.1 2), .int (Sw.1 3), .ref (jaw 6), .ref (jaw 7), .ref (jaw 8), .ref (jaw 9), .ref (jaw 10)])), (jaw 0, .inl (cI, 4, .inl (Sw.2.1 0))), (jaw 1, .inl (cI, 4, .inl (Sw.2.1 1))), (jaw 2, .inl (cI, 4, .inl (Sw.2.1 2))), (jaw 3, .inl (cI, 4, .inl (Sw.2.1 3))), (jaw 4, .inl (cI, 4, .inl (Sw.2.1 4))), (jaw 6, .inl (cI, 4, .inl (Sw.2.1 6))), (jaw 7, .inl (cI, 4, .inl (Sw.2.1 7))), (jaw 8, .inl (cI, 4, .inl (Sw.2.1 8))), (jaw 9, .inl (cI, 4, .inl (Sw.2.1 9))), (jaw 10, .inl (cI, 4, .inl (Sw.2.1 10))), (jhs, .inr (2, [.ref jhw, .ref (jas 1), .ref (jas 2), .ref (jas 3), .int (Ss.1 0), .int (Ss.1 1), .int (Ss.1 2), .int (Ss.1 3)])), (jas 1, .inl (cI, 4, .inl (Ss.2.1 1))), (jhr, .inr (4, [.ref jhw, .ref jhs, .ref (jar 2), .ref (jar 3), .ref (jar 4), .ref (jar 5), .int (Sr.1 0), .int (Sr.1 1), .int (Sr.1 2)])), (jar 3, .inl (cI, 4, .inl (Sr.2.1 3))), (jar 4, .inl (cI, 4, .inl (Sr.2.1 4)))]
def sX5_layOut_160 (Sw : Bk) (Ss : Bk) (x1 : Int32) (x2 : Int32) (k160 : Int32 → Bk → Option (Int32 × Bk)) (x3 : Int32) (Sr : Bk) : Option (Int32 × Bk) := (if (Sw.1 0) ≤ x3 then (fX3_base Ss).bind (fun u2 => (fX6_worthOf Sw (Sr.2.1 3) 4).bind (fun u4 => nmV (u2 + u4) (fun v6 => some ((1 : Int32), (bI Sr 2 v6))))) else inB 4 x3 ((if 0 ≤ ((Sr.2.1 3) x3.toNatClampNeg) then k160 (x3 + (1 : Int32)) Sr else some ((0 : Int32), Sr))))
def gX5_layOut_152 (Sw : Bk) (Ss : Bk) (x1 : Int32) (x2 : Int32) (k81 : Int32 → Bk → Option (Int32 × Bk)) (x3 : Int32) (Sr : Bk) : Option (Int32 × Bk) := k81 (x3 + (1 : Int32)) Sr
def sX5_layOut_81 (Sw : Bk) (Ss : Bk) (x1 : Int32) (x2 : Int32) (k81 : Int32 → Bk → Option (Int32 × Bk)) (x3 : Int32) (Sr : Bk) : Option (Int32 × Bk) := (if (Sw.1 3) ≤ x3 then lk2 (sX5_layOut_160 Sw Ss x1 x2) 1000 (0 : Int32) Sr else (if ((x2 >>> (x3 &&& 31)) &&& (1 : Int32)) = (1 : Int32) then inB 4 x3 (inB 4 ((Sw.2.1 9) x3.toNatClampNeg) (inB 4 x3 (nmV (((Sr.2.1 3) ((Sw.2.1 9) x3.toNatClampNeg).toNatClampNeg) - ((Sw.2.1 10) x3.toNatClampNeg)) (fun v14 => inB 4 ((Sw.2.1 9) x3.toNatClampNeg) (nmV ((Sw.2.1 9) x3.toNatClampNeg).toNatClampNeg (fun j16 => inB 4 x3 (inB 4 ((Sw.2.1 6) x3.toNatClampNeg) ((fX6_swing Sw x3).bind (fun u19 => nmV (((Sr.2.1 4) ((Sw.2.1 6) x3.toNatClampNeg).toNatClampNeg) + u19) (fun v21 => inB 4 ((Sw.2.1 6) x3.toNatClampNeg) (nmV ((Sw.2.1 6) x3.toNatClampNeg).toNatClampNeg (fun j23 => gX5_layOut_152 Sw Ss x1 x2 k81 x3 (bW (bW Sr 3 j16 v14) 4 j23 v21))))))))))))) else gX5_layOut_152 Sw Ss x1 x2 k81 x3 Sr))
def gX5_layOut_73 (Sw : Bk) (Ss : Bk) (x1 : Int32) (x2 : Int32) (k27 : Int32 → Bk → Option (Int32 × Bk)) (x3 : Int32) (Sr : Bk) : Option (Int32 × Bk) := k27 (x3 + (1 : Int32)) Sr
def sX5_layOut_27 (Sw : Bk) (Ss : Bk) (x1 : Int32) (x2 : Int32) (k27 : Int32 → Bk → Option (Int32 × Bk)) (x3 : Int32) (Sr : Bk) : Option (Int32 × Bk) := (if (Sw.1 1) ≤ x3 then lk2 (sX5_layOut_81 Sw Ss x1 x2) 1000 (0 : Int32) Sr else (if ((x1 >>> (x3 &&& 31)) &&& (1 : Int32)) = (1 : Int32) then inB 4 x3 (inB 4 ((Sw.2.1 3) x3.toNatClampNeg) (inB 4 x3 (nmV (((Sr.2.1 3) ((Sw.2.1 3) x3.toNatClampNeg).toNatClampNeg) - ((Sw.2.1 4) x3.toNatClampNeg)) (fun v29 => inB 4 ((Sw.2.1 3) x3.toNatClampNeg) (nmV ((Sw.2.1 3) x3.toNatClampNeg).toNatClampNeg (fun j31 => gX5_layOut_73 Sw Ss x1 x2 k27 x3 (bW Sr 3 j31 v29))))))) else gX5_layOut_73 Sw Ss x1 x2 k27 x3 Sr))
def fX5_layOut (Sw : Bk) (Ss : Bk) (Sr : Bk) (x1 : Int32) (x2 : Int32) : Option (Int32 × Bk) := (fJ7_fill_53178 (Sr.2.1 4) 4 (0 : Int32)).bind (fun u32 => lk2 (sX5_layOut_27 Sw Ss x1 x2) 1000 (0 : Int32) (bA (bA Sr 3 (va_cpy (Ss.2.1 1) (Sr.2.1 3) (0 : Int32).toNatClampNeg (0 : Int32).toNatClampNeg (4 : Int32).toNatClampNeg)) 4 u32))
theorem miX5_layOut : MI yX5_layOut cX5_layOut 4 (some .boolean) 2 := ⟨wd1_6, wd3_10, by decide +kernel⟩
theorem mjX5_layOut : Cond.instanceMethod yX5_layOut ∈ wT ∧ Cond.selects yX5_layOut.cls yX5_layOut yX5_layOut ∈ wT := ⟨wd3_9, ws_8⟩
set_option maxHeartbeats 4000000 in
set_option maxRecDepth 100000 in
theorem qX5_layOut (l : Launch) (D : va_G) (cI cZ cO : ClassId) (jhw : Nat) (jaw : Nat → Nat) (jhs : Nat) (jas : Nat → Nat) (jhr : Nat) (jar : Nat → Nat) (Sw : Bk) (Ss : Bk) (Sr : Bk) (x1 : Int32) (x2 : Int32) (sz : Nat) (res : Int32 × Bk) (hf : fX5_layOut Sw Ss Sr x1 x2 = some res) : Met l yX5_layOut (Cond.code yX5_layOut cX5_layOut 4 (some .boolean) :: wT) (rmF 1 26) (va_Pc [.ref jhr, .int x1, .int x2] (cW D (tyL cI cZ cO) (wX5_layOut cI cZ jhw jaw jhs jas jhr jar Sw Ss Sr) sz)) (va_Qi (S := Unit) (fun r _ => r = res.1) (fun _ => qW D (tyL cI cZ cO) (va_A (wX5_layOut cI cZ jhw jaw jhs jas jhr jar Sw Ss Sr) sz) (wX5_layOut cI cZ jhw jaw jhs jas jhr jar Sw Ss res.2)) (va_A (wX5_layOut cI cZ jhw jaw jhs jas jhr jar Sw Ss Sr) sz)) 0 0 (va_A (wX5_layOut cI cZ jhw jaw jhs jas jhr jar Sw Ss Sr) sz) := by
  refine met_w (by decide) (Nat.le_of_ble_eq_true rfl) ?_
  intro p e s m below meth c hx hb hr hml ht hown hlk ls hl hsz hP hK hD0 hZ
  subst hsz
  have hD := hD0.self (sz := s.heap.size)
  generalize hAe : va_A (wX5_layOut cI cZ jhw jaw jhs jas jhr jar Sw Ss Sr) s.heap.size = A at hD hZ ⊢
  have hA : ∀ q : Nat, s.heap.size ≤ q → A q := fun q h => by rw [← hAe]; exact Or.inr h
  have hS : va_S A s.heap s.heap [] := va_S.rf
  have hown : s.vm.findClass "EyeDrink$Trees" = some m.cls := hown
  have hl : lv_has ls 4 [(0, .ref jhr), (1, .int x1), (2, .int x2)] := hl
  have hC : CallFix p m c cX5_layOut 4 s ([.ref jhr, .int x1, .int x2] : List Value).toArray wT "EyeDrink$Trees" := ⟨hx, hb, hml, hown, ht⟩
  unfold fX5_layOut at hf
  suffices hgo : ∀ (H : Heap) (locs : List Loc), va_P D vwCl (wX5_layOut cI cZ jhw jaw jhs jas jhr jar Sw Ss Sr) H → va_S A s.heap H locs → W p l e (rmF 1 26) s m ([.ref jhr, .int x1, .int x2] : List Value).toArray below meth c H locs 0 0 (MQ below (va_Qi (S := Unit) (fun r _ => r = res.1) (fun _ => qW D (tyL cI cZ cO) A (wX5_layOut cI cZ jhw jaw jhs jas jhr jar Sw Ss res.2)) A) ([.ref jhr, .int x1, .int x2] : List Value).toArray s 0 0 A) (F0 m 0 ls []) from hgo s.heap [] hP hS
  have hj160 : ∀ (x3 : Int32) (Sr : Bk), lk2 (sX5_layOut_160 Sw Ss x1 x2) 1000 x3 Sr = some res → ∀ (H : Heap) (locs : List Loc) (ls : Array Slot), va_P D vwCl (wX5_layOut cI cZ jhw jaw jhs jas jhr jar Sw Ss Sr) H → va_D A (wX5_layOut cI cZ jhw jaw jhs jas jhr jar Sw Ss Sr) → va_S A s.heap H locs → lv_has ls 4 [(0, .ref jhr), (3, .int x3)] → W p l e (rmF 1 26) s m ([.ref jhr, .int x1, .int x2] : List Value).toArray below meth c H locs 0 0 (MQ below (va_Qi (S := Unit) (fun r _ => r = res.1) (fun _ => qW D (tyL cI cZ cO) A (wX5_layOut cI cZ jhw jaw jhs jas jhr jar Sw Ss res.2)) A) ([.ref jhr, .int x1, .int x2] : List Value).toArray s 0 0 A) (F0 m 160 ls []) := by
    refine lk2_w (fun (x3 : Int32) (Sr : Bk) => ∀ (H : Heap) (locs : List Loc) (ls : Array Slot), va_P D vwCl (wX5_layOut cI cZ jhw jaw jhs jas jhr jar Sw Ss Sr) H → va_D A (wX5_layOut cI cZ jhw jaw jhs jas jhr jar Sw Ss Sr) → va_S A s.heap H locs → lv_has ls 4 [(0, .ref jhr), (3, .int x3)] → W p l e (rmF 1 26) s m ([.ref jhr, .int x1, .int x2] : List Value).toArray below meth c H locs 0 0 (MQ below (va_Qi (S := Unit) (fun r _ => r = res.1) (fun _ => qW D (tyL cI cZ cO) A (wX5_layOut cI cZ jhw jaw jhs jas jhr jar Sw Ss res.2)) A) ([.ref jhr, .int x1, .int x2] : List Value).toArray s 0 0 A) (F0 m 160 ls [])) ?_ 1000
    intro k160 hk160 x3 Sr hf H locs ls hP hD hS hl
    unfold sX5_layOut_160 at hf
    refine lv_iload_n hx hb dX5_layOut_160 rfl (lv_at hl 1 rfl) ?_
    refine lv_aload_n hx hb dX5_layOut_161 rfl (lv_at hl 0 rfl) ?_
    refine va_get (D := D) (ci := 4) (v := .ref jhw) (C := RX5) (T := TX5) (N := 9) hx hb ht inX5 hown hK hP 13 rfl rfl 0 (by decide) (ht _ wd1_190) (fun _ h9 => h9) rfl dX5_layOut_162 ?_
    refine va_get (D := D) (ci := 5) (v := .int (Sw.1 0)) (C := RX6) (T := TX6) (N := 15) hx hb ht inX6 hown hK hP 0 rfl rfl 0 (by decide) (ht _ wd1_47) (fun _ h9 => h9) rfl dX5_layOut_165 ?_
    refine lv_icmp_ge (tgt := 188) hx hb dX5_layOut_168 (by decide) (fun c1 => ?_) (fun c1 => ?_)
    · have hf := itP c1 hf
      refine lv_aload_n hx hb dX5_layOut_188 rfl (lv_at hl 0 rfl) ?_
      refine lv_aload_n hx hb dX5_layOut_189 rfl (lv_at hl 0 rfl) ?_
      refine va_get (D := D) (ci := 4) (v := .ref jhs) (C := RX5) (T := TX5) (N := 9) hx hb ht inX5 hown hK hP 13 rfl rfl 1 (by decide) (ht _ wd1_191) (fun _ h9 => h9) rfl dX5_layOut_190 ?_
      obtain ⟨u2, e3, hf⟩ := bdS hf
      refine k_rV (As := []) (rest := [.ref jhr]) hC miX3_base mjX3_base.1 mjX3_base.2 wd3_14 (qX3_base l D cI cZ cO jhs jas jhw Ss u2 e3) ⟨Nat.le_of_ble_eq_true rfl, Nat.le_of_ble_eq_true rfl⟩ (hP.sub [11] rfl) hK hZ hS (va_recv hK hP (ci := 2) (q0 := 11) rfl rfl) hl.1 rfl rfl (Nat.le_of_ble_eq_true rfl) dX5_layOut_193 ?_
      refine lv_aload_n hx hb dX5_layOut_196 rfl (lv_at hl 0 rfl) ?_
      refine va_get (D := D) (ci := 4) (v := .ref jhw) (C := RX5) (T := TX5) (N := 9) hx hb ht inX5 hown hK hP 13 rfl rfl 0 (by decide) (ht _ wd1_190) (fun _ h9 => h9) rfl dX5_layOut_197 ?_
      refine lv_aload_n hx hb dX5_layOut_200 rfl (lv_at hl 0 rfl) ?_
      refine va_get (D := D) (ci := 4) (v := .ref (jar 3)) (C := RX5) (T := TX5) (N := 9) hx hb ht inX5 hown hK hP 13 rfl rfl 3 (by decide) (ht _ wd1_193) (fun _ h9 => h9) rfl dX5_layOut_201 ?_
      obtain ⟨u4, e5, hf⟩ := bdS hf
      refine k_rV (As := [.ref (jar 3)]) (rest := [.int u2, .ref jhr]) hC miX6_worthOf mjX6_worthOf.1 mjX6_worthOf.2 wd3_15 (qX6_worthOf l D cI cZ cO jhw jaw (jar 3) (4) Sw (Sr.2.1 3) u4 e5) ⟨Nat.le_of_ble_eq_true rfl, Nat.le_of_ble_eq_true rfl⟩ (hP.sub [0, 1, 2, 3, 14] rfl) hK hZ hS (va_recv hK hP (ci := 5) (q0 := 0) rfl rfl) hl.1 rfl rfl (Nat.le_of_ble_eq_true rfl) dX5_layOut_204 ?_
      refine lv_iadd hx hb dX5_layOut_207 ?_
      obtain ⟨v6, ev6, hf⟩ := nmV_s hf
      rw [← ev6]
      refine va_put (D := D) (ci := 4) (v := .int v6) (ty := .int) (C := RX5) (T := TX5) (N := 9) hx hb ht inX5 tyX5 tyX5_ok nmX5 hown hK hP hD hS 13 rfl rfl 8 (by decide) (ht _ wd1_198) (fun _ h9 => h9) rfl (tyX5_ok 8 (by decide)) rfl rfl (Nat.le_of_ble_eq_true rfl) dX5_layOut_208 (fun H locs hP hD hS => ?_)
      have hP : va_P D vwCl (wX5_layOut cI cZ jhw jaw jhs jas jhr jar Sw Ss (bI Sr 2 v6)) H := hP
      have hD : va_D A (wX5_layOut cI cZ jhw jaw jhs jas jhr jar Sw Ss (bI Sr 2 v6)) := hD
      refine lv_iconst (v := (1 : Int32)) hx hb dX5_layOut_211 rfl ?_
      cases hf
      exact W.zret hx hb hr rfl (fun t ht9 hW => ⟨⟨_, (), rfl, rfl, by rw [ht9]; exact hP, va_K.moved hW.alike hK, hD⟩, hS.F ht9⟩) hS.2.2 dX5_layOut_212
    · have hf := itN c1 hf
      refine lv_aload_n hx hb dX5_layOut_171 rfl (lv_at hl 0 rfl) ?_
      refine va_get (D := D) (ci := 4) (v := .ref (jar 3)) (C := RX5) (T := TX5) (N := 9) hx hb ht inX5 hown hK hP 13 rfl rfl 3 (by decide) (ht _ wd1_193) (fun _ h9 => h9) rfl dX5_layOut_172 ?_
      refine lv_iload_n hx hb dX5_layOut_175 rfl (lv_at hl 1 rfl) ?_
      obtain ⟨h7, hf⟩ := inB_s hf
      refine va_iald (f := (Sr.2.1 3)) (n := 4) hx hb hK hP 14 0 rfl rfl h7 dX5_layOut_176 ?_
      refine lv_if_ge (tgt := 182) hx hb dX5_layOut_177 (by decide) (fun c8 => ?_) (fun c8 => ?_)
      · have hf := itP c8 hf
        refine lv_iinc (v := (x3 + (1 : Int32))) (lv' := [(3, .int (x3 + (1 : Int32))), (0, .ref jhr)]) hx hb dX5_layOut_182 hl (k := 1) rfl rfl (by decide) rfl (fun ls hl => ?_)
        refine lv_goto (tgt := 160) hx hb dX5_layOut_185 (by decide) ?_
        exact hk160 (x3 + (1 : Int32)) Sr hf _ _ _ hP hD hS (lv_sub hl [1, 0] rfl)
      · have hf := itN c8 hf
        refine lv_iconst (v := (0 : Int32)) hx hb dX5_layOut_180 rfl ?_
        cases hf
        exact W.zret hx hb hr rfl (fun t ht9 hW => ⟨⟨_, (), rfl, rfl, by rw [ht9]; exact hP, va_K.moved hW.alike hK, hD⟩, hS.F ht9⟩) hS.2.2 dX5_layOut_181
  have hj81 : ∀ (x3 : Int32) (Sr : Bk), lk2 (sX5_layOut_81 Sw Ss x1 x2) 1000 x3 Sr = some res → ∀ (H : Heap) (locs : List Loc) (ls : Array Slot), va_P D vwCl (wX5_layOut cI cZ jhw jaw jhs jas jhr jar Sw Ss Sr) H → va_D A (wX5_layOut cI cZ jhw jaw jhs jas jhr jar Sw Ss Sr) → va_S A s.heap H locs → lv_has ls 4 [(0, .ref jhr), (2, .int x2), (3, .int x3)] → W p l e (rmF 1 26) s m ([.ref jhr, .int x1, .int x2] : List Value).toArray below meth c H locs 0 0 (MQ below (va_Qi (S := Unit) (fun r _ => r = res.1) (fun _ => qW D (tyL cI cZ cO) A (wX5_layOut cI cZ jhw jaw jhs jas jhr jar Sw Ss res.2)) A) ([.ref jhr, .int x1, .int x2] : List Value).toArray s 0 0 A) (F0 m 81 ls []) := by
    refine lk2_w (fun (x3 : Int32) (Sr : Bk) => ∀ (H : Heap) (locs : List Loc) (ls : Array Slot), va_P D vwCl (wX5_layOut cI cZ jhw jaw jhs jas jhr jar Sw Ss Sr) H → va_D A (wX5_layOut cI cZ jhw jaw jhs jas jhr jar Sw Ss Sr) → va_S A s.heap H locs → lv_has ls 4 [(0, .ref jhr), (2, .int x2), (3, .int x3)] → W p l e (rmF 1 26) s m ([.ref jhr, .int x1, .int x2] : List Value).toArray below meth c H locs 0 0 (MQ below (va_Qi (S := Unit) (fun r _ => r = res.1) (fun _ => qW D (tyL cI cZ cO) A (wX5_layOut cI cZ jhw jaw jhs jas jhr jar Sw Ss res.2)) A) ([.ref jhr, .int x1, .int x2] : List Value).toArray s 0 0 A) (F0 m 81 ls [])) ?_ 1000
    intro k81 hk81 x3 Sr hf H locs ls hP hD hS hl
    unfold sX5_layOut_81 at hf
    have hj152 : ∀ (x3 : Int32) (Sr : Bk), gX5_layOut_152 Sw Ss x1 x2 k81 x3 Sr = some res → ∀ (H : Heap) (locs : List Loc) (ls : Array Slot), va_P D vwCl (wX5_layOut cI cZ jhw jaw jhs jas jhr jar Sw Ss Sr) H → va_D A (wX5_layOut cI cZ jhw jaw jhs jas jhr jar Sw Ss Sr) → va_S A s.heap H locs → lv_has ls 4 [(0, .ref jhr), (2, .int x2), (3, .int x3)] → W p l e (rmF 1 26) s m ([.ref jhr, .int x1, .int x2] : List Value).toArray below meth c H locs 0 0 (MQ below (va_Qi (S := Unit) (fun r _ => r = res.1) (fun _ => qW D (tyL cI cZ cO) A (wX5_layOut cI cZ jhw jaw jhs jas jhr jar Sw Ss res.2)) A) ([.ref jhr, .int x1, .int x2] : List Value).toArray s 0 0 A) (F0 m 152 ls []) := by
      intro x3 Sr hf H locs ls hP hD hS hl
      unfold gX5_layOut_152 at hf
      refine lv_iinc (v := (x3 + (1 : Int32))) (lv' := [(3, .int (x3 + (1 : Int32))), (0, .ref jhr), (2, .int x2)]) hx hb dX5_layOut_152 hl (k := 2) rfl rfl (by decide) rfl (fun ls hl => ?_)
      refine lv_goto (tgt := 81) hx hb dX5_layOut_155 (by decide) ?_
      exact hk81 (x3 + (1 : Int32)) Sr hf _ _ _ hP hD hS (lv_sub hl [1, 2, 0] rfl)
    refine lv_iload_n hx hb dX5_layOut_81 rfl (lv_at hl 2 rfl) ?_
    refine lv_aload_n hx hb dX5_layOut_82 rfl (lv_at hl 0 rfl) ?_
    refine va_get (D := D) (ci := 4) (v := .ref jhw) (C := RX5) (T := TX5) (N := 9) hx hb ht inX5 hown hK hP 13 rfl rfl 0 (by decide) (ht _ wd1_190) (fun _ h9 => h9) rfl dX5_layOut_83 ?_
    refine va_get (D := D) (ci := 5) (v := .int (Sw.1 3)) (C := RX6) (T := TX6) (N := 15) hx hb ht inX6 hown hK hP 0 rfl rfl 9 (by decide) (ht _ wd1_76) (fun _ h9 => h9) rfl dX5_layOut_86 ?_
    refine lv_icmp_ge (tgt := 158) hx hb dX5_layOut_89 (by decide) (fun c9 => ?_) (fun c9 => ?_)
    · have hf := itP c9 hf
      refine lv_iconst (v := (0 : Int32)) hx hb dX5_layOut_158 rfl ?_
      refine lv_istore_n (lv' := [(3, .int (0 : Int32)), (0, .ref jhr), (2, .int x2)]) hx hb dX5_layOut_159 rfl hl (by decide) rfl (fun ls hl => ?_)
      exact hj160 (0 : Int32) Sr hf _ _ _ hP hD hS (lv_sub hl [1, 0] rfl)
    · have hf := itN c9 hf
      refine lv_iload_n hx hb dX5_layOut_92 rfl (lv_at hl 1 rfl) ?_
      refine lv_iload_n hx hb dX5_layOut_93 rfl (lv_at hl 2 rfl) ?_
      refine lv_ishr hx hb dX5_layOut_94 ?_
      refine lv_iconst (v := (1 : Int32)) hx hb dX5_layOut_95 rfl ?_
      refine lv_iand hx hb dX5_layOut_96 ?_
      refine lv_iconst (v := (1 : Int32)) hx hb dX5_layOut_97 rfl ?_
      refine lv_icmp_ne (tgt := 152) hx hb dX5_layOut_98 (by decide) (fun c10 => ?_) (fun c10 => ?_)
      · have hf := itN c10 hf
        exact hj152 x3 Sr hf _ _ _ hP hD hS (lv_sub hl [0, 1, 2] rfl)
      · have hf := itP c10 hf
        refine lv_aload_n hx hb dX5_layOut_101 rfl (lv_at hl 0 rfl) ?_
        refine va_get (D := D) (ci := 4) (v := .ref (jar 3)) (C := RX5) (T := TX5) (N := 9) hx hb ht inX5 hown hK hP 13 rfl rfl 3 (by decide) (ht _ wd1_193) (fun _ h9 => h9) rfl dX5_layOut_102 ?_
        refine lv_aload_n hx hb dX5_layOut_105 rfl (lv_at hl 0 rfl) ?_
        refine va_get (D := D) (ci := 4) (v := .ref jhw) (C := RX5) (T := TX5) (N := 9) hx hb ht inX5 hown hK hP 13 rfl rfl 0 (by decide) (ht _ wd1_190) (fun _ h9 => h9) rfl dX5_layOut_106 ?_
        refine va_get (D := D) (ci := 5) (v := .ref (jaw 9)) (C := RX6) (T := TX6) (N := 15) hx hb ht inX6 hown hK hP 0 rfl rfl 13 (by decide) (ht _ wd1_91) (fun _ h9 => h9) rfl dX5_layOut_109 ?_
        refine lv_iload_n hx hb dX5_layOut_112 rfl (lv_at hl 2 rfl) ?_
        obtain ⟨h11, hf⟩ := inB_s hf
        refine va_iald (f := (Sw.2.1 9)) (n := 4) hx hb hK hP 9 0 rfl rfl h11 dX5_layOut_113 ?_
        refine lv_dup2_11 hx hb dX5_layOut_114 rfl rfl ?_
        obtain ⟨h12, hf⟩ := inB_s hf
        refine va_iald (f := (Sr.2.1 3)) (n := 4) hx hb hK hP 14 0 rfl rfl h12 dX5_layOut_115 ?_
        refine lv_aload_n hx hb dX5_layOut_116 rfl (lv_at hl 0 rfl) ?_
        refine va_get (D := D) (ci := 4) (v := .ref jhw) (C := RX5) (T := TX5) (N := 9) hx hb ht inX5 hown hK hP 13 rfl rfl 0 (by decide) (ht _ wd1_190) (fun _ h9 => h9) rfl dX5_layOut_117 ?_
        refine va_get (D := D) (ci := 5) (v := .ref (jaw 10)) (C := RX6) (T := TX6) (N := 15) hx hb ht inX6 hown hK hP 0 rfl rfl 14 (by decide) (ht _ wd1_95) (fun _ h9 => h9) rfl dX5_layOut_120 ?_
        refine lv_iload_n hx hb dX5_layOut_123 rfl (lv_at hl 2 rfl) ?_
        obtain ⟨h13, hf⟩ := inB_s hf
        refine va_iald (f := (Sw.2.1 10)) (n := 4) hx hb hK hP 10 0 rfl rfl h13 dX5_layOut_124 ?_
        refine lv_isub hx hb dX5_layOut_125 ?_
        obtain ⟨v14, ev14, hf⟩ := nmV_s hf
        rw [← ev14]
        obtain ⟨h15, hf⟩ := inB_s hf
        obtain ⟨j16, ej16, hf⟩ := nmV_s hf
        refine va_iast (f := (Sr.2.1 3)) (n := 4) hx hb hK hP hD hS 14 0 rfl rfl h15 dX5_layOut_126 (fun H locs hP hD hS => ?_)
        rw [← ej16] at hP hD
        have hP : va_P D vwCl (wX5_layOut cI cZ jhw jaw jhs jas jhr jar Sw Ss (bW Sr 3 j16 v14)) H := hP
        have hD : va_D A (wX5_layOut cI cZ jhw jaw jhs jas jhr jar Sw Ss (bW Sr 3 j16 v14)) := hD
        refine lv_aload_n hx hb dX5_layOut_127 rfl (lv_at hl 0 rfl) ?_
        refine va_get (D := D) (ci := 4) (v := .ref (jar 4)) (C := RX5) (T := TX5) (N := 9) hx hb ht inX5 hown hK hP 13 rfl rfl 4 (by decide) (ht _ wd1_194) (fun _ h9 => h9) rfl dX5_layOut_128 ?_
        refine lv_aload_n hx hb dX5_layOut_131 rfl (lv_at hl 0 rfl) ?_
        refine va_get (D := D) (ci := 4) (v := .ref jhw) (C := RX5) (T := TX5) (N := 9) hx hb ht inX5 hown hK hP 13 rfl rfl 0 (by decide) (ht _ wd1_190) (fun _ h9 => h9) rfl dX5_layOut_132 ?_
        refine va_get (D := D) (ci := 5) (v := .ref (jaw 6)) (C := RX6) (T := TX6) (N := 15) hx hb ht inX6 hown hK hP 0 rfl rfl 10 (by decide) (ht _ wd1_82) (fun _ h9 => h9) rfl dX5_layOut_135 ?_
        refine lv_iload_n hx hb dX5_layOut_138 rfl (lv_at hl 2 rfl) ?_
        obtain ⟨h17, hf⟩ := inB_s hf
        refine va_iald (f := (Sw.2.1 6)) (n := 4) hx hb hK hP 6 0 rfl rfl h17 dX5_layOut_139 ?_
        refine lv_dup2_11 hx hb dX5_layOut_140 rfl rfl ?_
        obtain ⟨h18, hf⟩ := inB_s hf
        refine va_iald (f := (Sr.2.1 4)) (n := 4) hx hb hK hP 15 0 rfl rfl h18 dX5_layOut_141 ?_
        refine lv_aload_n hx hb dX5_layOut_142 rfl (lv_at hl 0 rfl) ?_
        refine va_get (D := D) (ci := 4) (v := .ref jhw) (C := RX5) (T := TX5) (N := 9) hx hb ht inX5 hown hK hP 13 rfl rfl 0 (by decide) (ht _ wd1_190) (fun _ h9 => h9) rfl dX5_layOut_143 ?_
        refine lv_iload_n hx hb dX5_layOut_146 rfl (lv_at hl 2 rfl) ?_
        obtain ⟨u19, e20, hf⟩ := bdS hf
        refine k_rV (As := [.int x3]) (rest := [.int ((Sr.2.1 4) ((Sw.2.1 6) x3.toNatClampNeg).toNatClampNeg), .int ((Sw.2.1 6) x3.toNatClampNeg), .ref (jar 4)]) hC miX6_swing mjX6_swing.1 mjX6_swing.2 wd3_13 (qX6_swing l D cI cZ cO jhw jaw Sw x3 u19 e20) ⟨Nat.le_of_ble_eq_true rfl, Nat.le_of_ble_eq_true rfl⟩ (hP.sub [0, 7, 8] rfl) hK hZ hS (va_recv hK hP (ci := 5) (q0 := 0) rfl rfl) hl.1 rfl rfl (Nat.le_of_ble_eq_true rfl) dX5_layOut_147 ?_
        refine lv_iadd hx hb dX5_layOut_150 ?_
        obtain ⟨v21, ev21, hf⟩ := nmV_s hf
        rw [← ev21]
        obtain ⟨h22, hf⟩ := inB_s hf
        obtain ⟨j23, ej23, hf⟩ := nmV_s hf
        refine va_iast (f := (Sr.2.1 4)) (n := 4) hx hb hK hP hD hS 15 0 rfl rfl h22 dX5_layOut_151 (fun H locs hP hD hS => ?_)
        rw [← ej23] at hP hD
        have hP : va_P D vwCl (wX5_layOut cI cZ jhw jaw jhs jas jhr jar Sw Ss (bW (bW Sr 3 j16 v14) 4 j23 v21)) H := hP
        have hD : va_D A (wX5_layOut cI cZ jhw jaw jhs jas jhr jar Sw Ss (bW (bW Sr 3 j16 v14) 4 j23 v21)) := hD
        exact hj152 x3 (bW (bW Sr 3 j16 v14) 4 j23 v21) hf _ _ _ hP hD hS (lv_sub hl [0, 1, 2] rfl)
  have hj27 : ∀ (x3 : Int32) (Sr : Bk), lk2 (sX5_layOut_27 Sw Ss x1 x2) 1000 x3 Sr = some res → ∀ (H : Heap) (locs : List Loc) (ls : Array Slot), va_P D vwCl (wX5_layOut cI cZ jhw jaw jhs jas jhr jar Sw Ss Sr) H → va_D A (wX5_layOut cI cZ jhw jaw jhs jas jhr jar Sw Ss Sr) → va_S A s.heap H locs → lv_has ls 4 [(0, .ref jhr), (1, .int x1), (2, .int x2), (3, .int x3)] → W p l e (rmF 1 26) s m ([.ref jhr, .int x1, .int x2] : List Value).toArray below meth c H locs 0 0 (MQ below (va_Qi (S := Unit) (fun r _ => r = res.1) (fun _ => qW D (tyL cI cZ cO) A (wX5_layOut cI cZ jhw jaw jhs jas jhr jar Sw Ss res.2)) A) ([.ref jhr, .int x1, .int x2] : List Value).toArray s 0 0 A) (F0 m 27 ls []) := by
    refine lk2_w (fun (x3 : Int32) (Sr : Bk) => ∀ (H : Heap) (locs : List Loc) (ls : Array Slot), va_P D vwCl (wX5_layOut cI cZ jhw jaw jhs jas jhr jar Sw Ss Sr) H → va_D A (wX5_layOut cI cZ jhw jaw jhs jas jhr jar Sw Ss Sr) → va_S A s.heap H locs → lv_has ls 4 [(0, .ref jhr), (1, .int x1), (2, .int x2), (3, .int x3)] → W p l e (rmF 1 26) s m ([.ref jhr, .int x1, .int x2] : List Value).toArray below meth c H locs 0 0 (MQ below (va_Qi (S := Unit) (fun r _ => r = res.1) (fun _ => qW D (tyL cI cZ cO) A (wX5_layOut cI cZ jhw jaw jhs jas jhr jar Sw Ss res.2)) A) ([.ref jhr, .int x1, .int x2] : List Value).toArray s 0 0 A) (F0 m 27 ls [])) ?_ 1000
    intro k27 hk27 x3 Sr hf H locs ls hP hD hS hl
    unfold sX5_layOut_27 at hf
    have hj73 : ∀ (x3 : Int32) (Sr : Bk), gX5_layOut_73 Sw Ss x1 x2 k27 x3 Sr = some res → ∀ (H : Heap) (locs : List Loc) (ls : Array Slot), va_P D vwCl (wX5_layOut cI cZ jhw jaw jhs jas jhr jar Sw Ss Sr) H → va_D A (wX5_layOut cI cZ jhw jaw jhs jas jhr jar Sw Ss Sr) → va_S A s.heap H locs → lv_has ls 4 [(0, .ref jhr), (1, .int x1), (2, .int x2), (3, .int x3)] → W p l e (rmF 1 26) s m ([.ref jhr, .int x1, .int x2] : List Value).toArray below meth c H locs 0 0 (MQ below (va_Qi (S := Unit) (fun r _ => r = res.1) (fun _ => qW D (tyL cI cZ cO) A (wX5_layOut cI cZ jhw jaw jhs jas jhr jar Sw Ss res.2)) A) ([.ref jhr, .int x1, .int x2] : List Value).toArray s 0 0 A) (F0 m 73 ls []) := by
      intro x3 Sr hf H locs ls hP hD hS hl
      unfold gX5_layOut_73 at hf
      refine lv_iinc (v := (x3 + (1 : Int32))) (lv' := [(3, .int (x3 + (1 : Int32))), (0, .ref jhr), (1, .int x1), (2, .int x2)]) hx hb dX5_layOut_73 hl (k := 3) rfl rfl (by decide) rfl (fun ls hl => ?_)
      refine lv_goto (tgt := 27) hx hb dX5_layOut_76 (by decide) ?_
      exact hk27 (x3 + (1 : Int32)) Sr hf _ _ _ hP hD hS (lv_sub hl [1, 2, 3, 0] rfl)
    refine lv_iload_n hx hb dX5_layOut_27 rfl (lv_at hl 3 rfl) ?_
    refine lv_aload_n hx hb dX5_layOut_28 rfl (lv_at hl 0 rfl) ?_
    refine va_get (D := D) (ci := 4) (v := .ref jhw) (C := RX5) (T := TX5) (N := 9) hx hb ht inX5 hown hK hP 13 rfl rfl 0 (by decide) (ht _ wd1_190) (fun _ h9 => h9) rfl dX5_layOut_29 ?_
    refine va_get (D := D) (ci := 5) (v := .int (Sw.1 1)) (C := RX6) (T := TX6) (N := 15) hx hb ht inX6 hown hK hP 0 rfl rfl 4 (by decide) (ht _ wd1_58) (fun _ h9 => h9) rfl dX5_layOut_32 ?_
    refine lv_icmp_ge (tgt := 79) hx hb dX5_layOut_35 (by decide) (fun c24 => ?_) (fun c24 => ?_)
    · have hf := itP c24 hf
      refine lv_iconst (v := (0 : Int32)) hx hb dX5_layOut_79 rfl ?_
      refine lv_istore_n (lv' := [(3, .int (0 : Int32)), (0, .ref jhr), (1, .int x1), (2, .int x2)]) hx hb dX5_layOut_80 rfl hl (by decide) rfl (fun ls hl => ?_)
      exact hj81 (0 : Int32) Sr hf _ _ _ hP hD hS (lv_sub hl [1, 3, 0] rfl)
    · have hf := itN c24 hf
      refine lv_iload_n hx hb dX5_layOut_38 rfl (lv_at hl 1 rfl) ?_
      refine lv_iload_n hx hb dX5_layOut_39 rfl (lv_at hl 3 rfl) ?_
      refine lv_ishr hx hb dX5_layOut_40 ?_
      refine lv_iconst (v := (1 : Int32)) hx hb dX5_layOut_41 rfl ?_
      refine lv_iand hx hb dX5_layOut_42 ?_
      refine lv_iconst (v := (1 : Int32)) hx hb dX5_layOut_43 rfl ?_
      refine lv_icmp_ne (tgt := 73) hx hb dX5_layOut_44 (by decide) (fun c25 => ?_) (fun c25 => ?_)
      · have hf := itN c25 hf
        exact hj73 x3 Sr hf _ _ _ hP hD hS (lv_sub hl [0, 1, 2, 3] rfl)
      · have hf := itP c25 hf
        refine lv_aload_n hx hb dX5_layOut_47 rfl (lv_at hl 0 rfl) ?_
        refine va_get (D := D) (ci := 4) (v := .ref (jar 3)) (C := RX5) (T := TX5) (N := 9) hx hb ht inX5 hown hK hP 13 rfl rfl 3 (by decide) (ht _ wd1_193) (fun _ h9 => h9) rfl dX5_layOut_48 ?_
        refine lv_aload_n hx hb dX5_layOut_51 rfl (lv_at hl 0 rfl) ?_
        refine va_get (D := D) (ci := 4) (v := .ref jhw) (C := RX5) (T := TX5) (N := 9) hx hb ht inX5 hown hK hP 13 rfl rfl 0 (by decide) (ht _ wd1_190) (fun _ h9 => h9) rfl dX5_layOut_52 ?_
        refine va_get (D := D) (ci := 5) (v := .ref (jaw 3)) (C := RX6) (T := TX6) (N := 15) hx hb ht inX6 hown hK hP 0 rfl rfl 5 (by decide) (ht _ wd1_63) (fun _ h9 => h9) rfl dX5_layOut_55 ?_
        refine lv_iload_n hx hb dX5_layOut_58 rfl (lv_at hl 3 rfl) ?_
        obtain ⟨h26, hf⟩ := inB_s hf
        refine va_iald (f := (Sw.2.1 3)) (n := 4) hx hb hK hP 4 0 rfl rfl h26 dX5_layOut_59 ?_
        refine lv_dup2_11 hx hb dX5_layOut_60 rfl rfl ?_
        obtain ⟨h27, hf⟩ := inB_s hf
        refine va_iald (f := (Sr.2.1 3)) (n := 4) hx hb hK hP 14 0 rfl rfl h27 dX5_layOut_61 ?_
        refine lv_aload_n hx hb dX5_layOut_62 rfl (lv_at hl 0 rfl) ?_
        refine va_get (D := D) (ci := 4) (v := .ref jhw) (C := RX5) (T := TX5) (N := 9) hx hb ht inX5 hown hK hP 13 rfl rfl 0 (by decide) (ht _ wd1_190) (fun _ h9 => h9) rfl dX5_layOut_63 ?_
        refine va_get (D := D) (ci := 5) (v := .ref (jaw 4)) (C := RX6) (T := TX6) (N := 15) hx hb ht inX6 hown hK hP 0 rfl rfl 6 (by decide) (ht _ wd1_67) (fun _ h9 => h9) rfl dX5_layOut_66 ?_
        refine lv_iload_n hx hb dX5_layOut_69 rfl (lv_at hl 3 rfl) ?_
        obtain ⟨h28, hf⟩ := inB_s hf
        refine va_iald (f := (Sw.2.1 4)) (n := 4) hx hb hK hP 5 0 rfl rfl h28 dX5_layOut_70 ?_
        refine lv_isub hx hb dX5_layOut_71 ?_
        obtain ⟨v29, ev29, hf⟩ := nmV_s hf
        rw [← ev29]
        obtain ⟨h30, hf⟩ := inB_s hf
        obtain ⟨j31, ej31, hf⟩ := nmV_s hf
        refine va_iast (f := (Sr.2.1 3)) (n := 4) hx hb hK hP hD hS 14 0 rfl rfl h30 dX5_layOut_72 (fun H locs hP hD hS => ?_)
        rw [← ej31] at hP hD
        have hP : va_P D vwCl (wX5_layOut cI cZ jhw jaw jhs jas jhr jar Sw Ss (bW Sr 3 j31 v29)) H := hP
        have hD : va_D A (wX5_layOut cI cZ jhw jaw jhs jas jhr jar Sw Ss (bW Sr 3 j31 v29)) := hD
        exact hj73 x3 (bW Sr 3 j31 v29) hf _ _ _ hP hD hS (lv_sub hl [0, 1, 2, 3] rfl)
  intro H locs hP hS
  refine lv_aload_n hx hb dX5_layOut_0 rfl (lv_at hl 0 rfl) ?_
  refine va_get (D := D) (ci := 4) (v := .ref jhs) (C := RX5) (T := TX5) (N := 9) hx hb ht inX5 hown hK hP 13 rfl rfl 1 (by decide) (ht _ wd1_191) (fun _ h9 => h9) rfl dX5_layOut_1 ?_
  refine va_get (D := D) (ci := 2) (v := .ref (jas 1)) (C := RX3) (T := TX3) (N := 8) hx hb ht inX3 hown hK hP 11 rfl rfl 1 (by decide) (ht _ wd1_137) (fun _ h9 => h9) rfl dX5_layOut_4 ?_
  refine lv_iconst (v := (0 : Int32)) hx hb dX5_layOut_7 rfl ?_
  refine lv_aload_n hx hb dX5_layOut_8 rfl (lv_at hl 0 rfl) ?_
  refine va_get (D := D) (ci := 4) (v := .ref (jar 3)) (C := RX5) (T := TX5) (N := 9) hx hb ht inX5 hown hK hP 13 rfl rfl 3 (by decide) (ht _ wd1_193) (fun _ h9 => h9) rfl dX5_layOut_9 ?_
  refine lv_iconst (v := (0 : Int32)) hx hb dX5_layOut_12 rfl ?_
  refine lv_iconst (v := (4 : Int32)) hx hb dX5_layOut_13 rfl ?_
  refine va_copyi (f := (Ss.2.1 1)) (g := (Sr.2.1 3)) (ty := .int) hx hb (hml.trans hl.1.symm) hown (ht _ wd3_11) (ht _ wd2_99) (ht _ wd2_98) (ht _ wd1_9) hK hP hD hS 12 14 0 0 rfl rfl rfl rfl rfl (by decide) (by decide) (by decide) (by decide) (by decide) (fun _ _ => rfl) (Nat.le_of_ble_eq_true rfl) (Nat.le_of_ble_eq_true rfl) dX5_layOut_14 (fun H locs hP hD hS => ?_)
  have hP : va_P D vwCl (wX5_layOut cI cZ jhw jaw jhs jas jhr jar Sw Ss (bA Sr 3 (va_cpy (Ss.2.1 1) (Sr.2.1 3) (0 : Int32).toNatClampNeg (0 : Int32).toNatClampNeg (4 : Int32).toNatClampNeg))) H := hP
  have hD : va_D A (wX5_layOut cI cZ jhw jaw jhs jas jhr jar Sw Ss (bA Sr 3 (va_cpy (Ss.2.1 1) (Sr.2.1 3) (0 : Int32).toNatClampNeg (0 : Int32).toNatClampNeg (4 : Int32).toNatClampNeg))) := hD
  refine lv_aload_n hx hb dX5_layOut_17 rfl (lv_at hl 0 rfl) ?_
  refine va_get (D := D) (ci := 4) (v := .ref (jar 4)) (C := RX5) (T := TX5) (N := 9) hx hb ht inX5 hown hK hP 13 rfl rfl 4 (by decide) (ht _ wd1_194) (fun _ h9 => h9) rfl dX5_layOut_18 ?_
  refine lv_iconst (v := (0 : Int32)) hx hb dX5_layOut_21 rfl ?_
  obtain ⟨u32, e33, hf⟩ := bdS hf
  refine k_wSv (ws' := (wX5_layOut cI cZ jhw jaw jhs jas jhr jar Sw Ss (bA (bA Sr 3 (va_cpy (Ss.2.1 1) (Sr.2.1 3) (0 : Int32).toNatClampNeg (0 : Int32).toNatClampNeg (4 : Int32).toNatClampNeg)) 4 u32))) (wr := [(jhw, .inr (5, [.int (Sw.1 0), .ref (jaw 0), .ref (jaw 1), .ref (jaw 2), .int (Sw.1 1), .ref (jaw 3), .ref (jaw 4), .ref (jaw 5), .int (Sw.1 2), .int (Sw.1 3), .ref (jaw 6), .ref (jaw 7), .ref (jaw 8), .ref (jaw 9), .ref (jaw 10)])), (jaw 0, .inl (cI, 4, .inl (Sw.2.1 0))), (jaw 1, .inl (cI, 4, .inl (Sw.2.1 1))), (jaw 2, .inl (cI, 4, .inl (Sw.2.1 2))), (jaw 3, .inl (cI, 4, .inl (Sw.2.1 3))), (jaw 4, .inl (cI, 4, .inl (Sw.2.1 4))), (jaw 6, .inl (cI, 4, .inl (Sw.2.1 6))), (jaw 7, .inl (cI, 4, .inl (Sw.2.1 7))), (jaw 8, .inl (cI, 4, .inl (Sw.2.1 8))), (jaw 9, .inl (cI, 4, .inl (Sw.2.1 9))), (jaw 10, .inl (cI, 4, .inl (Sw.2.1 10))), (jhs, .inr (2, [.ref jhw, .ref (jas 1), .ref (jas 2), .ref (jas 3), .int (Ss.1 0), .int (Ss.1 1), .int (Ss.1 2), .int (Ss.1 3)])), (jas 1, .inl (cI, 4, .inl (Ss.2.1 1))), (jhr, .inr (4, [.ref jhw, .ref jhs, .ref (jar 2), .ref (jar 3), .ref (jar 4), .ref (jar 5), .int ((bA (bA Sr 3 (va_cpy (Ss.2.1 1) (Sr.2.1 3) (0 : Int32).toNatClampNeg (0 : Int32).toNatClampNeg (4 : Int32).toNatClampNeg)) 4 u32).1 0), .int ((bA (bA Sr 3 (va_cpy (Ss.2.1 1) (Sr.2.1 3) (0 : Int32).toNatClampNeg (0 : Int32).toNatClampNeg (4 : Int32).toNatClampNeg)) 4 u32).1 1), .int ((bA (bA Sr 3 (va_cpy (Ss.2.1 1) (Sr.2.1 3) (0 : Int32).toNatClampNeg (0 : Int32).toNatClampNeg (4 : Int32).toNatClampNeg)) 4 u32).1 2)])), (jar 3, .inl (cI, 4, .inl ((bA (bA Sr 3 (va_cpy (Ss.2.1 1) (Sr.2.1 3) (0 : Int32).toNatClampNeg (0 : Int32).toNatClampNeg (4 : Int32).toNatClampNeg)) 4 u32).2.1 3)))]) (As := [.ref (jar 4), .int (0 : Int32)]) (rest := []) hC miJ7_fill_53178 mjJ7_fill_53178 wd3_12 (qJ7_fill_53178 l D cI cZ cO (jar 4) (4) (Sr.2.1 4) (0 : Int32) H.size u32 e33) ⟨Nat.le_of_ble_eq_true rfl, Nat.le_of_ble_eq_true rfl⟩ hP hD hK hZ hS hA [15] [0, 1, 2, 3, 4, 5, 6, 7, 8, 9, 10, 11, 12, 13, 14] [0, 1, 2, 3, 4, 5, 6, 7, 8, 9, 10, 11, 12, 13, 14, 15] rfl (by decide) rfl (by decide) (by decide) (by decide) rfl hl.1 rfl rfl (Nat.le_of_ble_eq_true rfl) dX5_layOut_22 (fun H locs hP hD hS => ?_)
  refine lv_iconst (v := (0 : Int32)) hx hb dX5_layOut_25 rfl ?_
  refine lv_istore_n (lv' := [(3, .int (0 : Int32)), (0, .ref jhr), (1, .int x1), (2, .int x2)]) hx hb dX5_layOut_26 rfl hl (by decide) rfl (fun ls hl => ?_)
  exact hj27 (0 : Int32) (bA (bA Sr 3 (va_cpy (Ss.2.1 1) (Sr.2.1 3) (0 : Int32).toNatClampNeg (0 : Int32).toNatClampNeg (4 : Int32).toNatClampNeg)) 4 u32) hf _ _ _ hP hD hS (lv_sub hl [1, 2, 3, 0] rfl)
