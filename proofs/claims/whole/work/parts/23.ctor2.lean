theorem miX0_init : MI yX0_init cX0_init 3 none 1 := ⟨wd1_5, wd1_171, by decide +kernel⟩
theorem mjX0_init : Cond.instanceMethod yX0_init ∈ wT := wd1_170
def rwN (hh : Nat → Nat) (i : Nat) : Nat → Option Nat := fun k => if k < i then some (hh k) else none
theorem rwN_0 (hh : Nat → Nat) : (fun _ => none) = rwN hh 0 := by
  funext k
  unfold rwN
  rw [if_neg (by omega)]
theorem rwN_s (hh : Nat → Nat) (i q : Nat) : va_up (rwN hh i) i (some q) = rwN (va_up hh i q) (i + 1) := by
  funext k
  unfold rwN va_up
  by_cases e : k = i
  · rw [if_pos e, if_pos (by omega), if_pos e]
  · rw [if_neg e, if_neg e]
    dsimp only
    by_cases e2 : k < i
    · rw [if_pos e2, if_pos (by omega)]
    · rw [if_neg e2, if_neg (by omega)]
theorem rwN_e (hh : Nat → Nat) : rwN hh 14 = rwF hh 0 := by
  funext k
  unfold rwN rwF
  by_cases e : k < 14
  · rw [if_pos e, if_pos e, Nat.add_zero, Nat.mod_eq_of_lt e]
  · rw [if_neg e, if_neg e]
theorem plC_ext (cI : ClassId) (w : Nat) (hh : Nat → Nat) (aa : Nat → Nat → Nat) (St : Nat → Bk) (i q : Nat) (a : Nat → Nat) : plC cI w (va_up hh i q) (va_up aa i a) St i = plC cI w hh aa St i := fm_cg (fun k hk => by
  have hne : k ≠ i := by have := List.mem_range.mp hk; omega
  show stC cI w (va_up hh i q k) (va_up aa i a k) (St k) = _
  rw [show va_up hh i q k = hh k from if_neg hne, show va_up aa i a k = aa k from if_neg hne])
set_option maxHeartbeats 4000000 in
set_option maxRecDepth 100000 in
theorem qX0_init (l : Launch) (D : va_G) (cI cZ cO : ClassId) (jhc jhw : Nat) (sz : Nat) : Met l yX0_init (Cond.code yX0_init cX0_init 3 none :: wT) { frames := 2, cells := 57, slots := 294, locals := 33 } (va_Pc [.ref jhc, .ref jhw] (cN D (tyL cI cZ cO) [(jhc, .inr (0, [.null, .int 0]))] sz)) (va_Qv (S := Unit) (fun _ => True) (fun _ t => ∃ x : Nat × (Nat → Nat) × (Nat → Nat → Nat), qW D (tyL cI cZ cO) (va_A [(jhc, .inr (0, [.null, .int 0]))] sz) (acW cI cO jhw jhc x.1 x.2.1 x.2.2 S0 0 (fun _ => S0)) t) (va_A [(jhc, .inr (0, [.null, .int 0]))] sz)) 57 294 (va_A [(jhc, .inr (0, [.null, .int 0]))] sz) := by
  refine met_c (by decide) (Nat.le_of_ble_eq_true rfl) ?_
  intro p e s m below meth c hx hb hr hml ht hown hlk hin ls hl hsz hP hK hD0 hZ hAO hN1 hN2
  subst hsz
  have hD := hD0.self (sz := s.heap.size)
  generalize hAe : va_A [(jhc, .inr (0, [.null, .int 0]))] s.heap.size = A at hD hZ ⊢
  have hA : ∀ q : Nat, s.heap.size ≤ q → A q := fun q h => by rw [← hAe]; exact Or.inr h
  have hS : va_S A s.heap s.heap [] := va_S.rf
  have hown : s.vm.findClass "EyeDrink$Acts" = some m.cls := hown
  have hin : meth.name = "<init>" := hin
  have hl : lv_has ls 3 [(0, .ref jhc), (1, .ref jhw)] := hl
  have hC : CallFix p m c cX0_init 3 s ([.ref jhc, .ref jhw] : List Value).toArray wT "EyeDrink$Acts" := ⟨hx, hb, hml, hown, ht⟩
  refine lv_aload_n hx hb dX0_init_0 rfl (lv_at hl 0 rfl) ?_
  refine W.objInit hx hb hown (ht _ wd1_172) (ht _ wd1_19) (ht _ wd1_20) rfl (by rw [hml]; exact hl.1) rfl dX0_init_1 (Nat.le_of_ble_eq_true rfl) (Nat.le_of_ble_eq_true rfl) ?_
  refine W.eq (g2 := F0 m 4 ls []) rfl ?_
  refine lv_aload_n hx hb dX0_init_4 rfl (lv_at hl 0 rfl) ?_
  refine lv_bipush (v := (14 : Int32)) hx hb dX0_init_5 rfl ?_
  refine nw_o (N := 14) hx hb hown (ht _ wd1_173) hAO hK hP hD hS hA (by decide) rfl (by decide) (Nat.le_of_ble_eq_true rfl) (Nat.le_of_ble_eq_true rfl) dX0_init_7 (fun jal H hP hD hS => ?_)
  refine W.widen (k := 1) (n := 14) (Nat.le_of_ble_eq_true rfl) (Nat.le_of_ble_eq_true rfl) ?_
  refine va_putF (D := D) (ci := 0) (v := .ref jal) (ty := .array (.object "EyeDrink$Stand")) (C := RX0) (T := TX0) (N := 2) hx hb ht inX0 tyX0 tyX0_ok nmX0 hown hK hP hD hS 0 rfl rfl 0 (by decide) (ht _ wd1_176) (fun _ h9 => h9) rfl hin rfl (tyX0_ok 0 (by decide)) rfl rfl (Nat.le_of_ble_eq_true rfl) dX0_init_10 (fun H locs hP hD hS => ?_)
  refine lv_iconst (v := (0 : Int32)) hx hb dX0_init_13 rfl ?_
  refine lv_istore_n (lv' := [(2, .int (0 : Int32)), (0, .ref jhc), (1, .ref jhw)]) hx hb dX0_init_14 rfl hl (by decide) rfl (fun ls hl => ?_)
  have hloop : ∀ (n i : Nat), i + n = 14 → ∀ (hh : Nat → Nat) (aa : Nat → Nat → Nat) (H : Heap) (locs : List Loc) (ls : Array Slot), va_P D vwCl (acO jhc jal S0 :: acR cO jal (rwN hh i) :: plC cI jhw hh aa (fun _ => S0) i) H → va_D A (acO jhc jal S0 :: acR cO jal (rwN hh i) :: plC cI jhw hh aa (fun _ => S0) i) → va_S A s.heap H locs → lv_has ls 3 [(0, .ref jhc), (1, .ref jhw), (2, .int (nI i))] → W p l e { frames := 2, cells := 57, slots := 294, locals := 33 } s m ([.ref jhc, .ref jhw] : List Value).toArray below meth c H locs (1 + 4 * i) (14 + 20 * i) (MQ below (va_Qv (S := Unit) (fun _ => True) (fun _ t => ∃ x : Nat × (Nat → Nat) × (Nat → Nat → Nat), qW D (tyL cI cZ cO) A (acW cI cO jhw jhc x.1 x.2.1 x.2.2 S0 0 (fun _ => S0)) t) A) ([.ref jhc, .ref jhw] : List Value).toArray s 57 294 A) (F0 m 15 ls []) := by
    intro n
    induction n with
    | zero =>
      intro i hi hh aa H locs ls hP hD hS hl
      have e14 : i = 14 := by omega
      subst e14
      refine lv_iload_n hx hb dX0_init_15 rfl (lv_at hl 2 rfl) ?_
      refine lv_bipush (v := (14 : Int32)) hx hb dX0_init_16 rfl ?_
      refine lv_icmp_ge (tgt := 41) hx hb dX0_init_18 (by decide) (fun c1 => ?_) (fun c1 => absurd (by decide) c1)
      rw [rwN_e] at hP hD
      exact W.vret hx hb hr (fun t ht9 hW => ⟨⟨(), rfl, trivial, (jal, hh, aa), by rw [ht9]; exact hP, va_K.moved hW.alike hK, hD⟩, hS.F ht9⟩) hS.2.2 dX0_init_41
    | succ n ih =>
      intro i hi hh aa H locs ls hP hD hS hl
      have hi14 : i < 14 := by omega
      refine lv_iload_n hx hb dX0_init_15 rfl (lv_at hl 2 rfl) ?_
      refine lv_bipush (v := (14 : Int32)) hx hb dX0_init_16 rfl ?_
      refine lv_icmp_ge (tgt := 41) hx hb dX0_init_18 (by decide) (fun c1 => absurd c1 (nI_ge (b := 14) hi14 (by omega))) (fun c1 => ?_)
      refine lv_aload_n hx hb dX0_init_21 rfl (lv_at hl 0 rfl) ?_
      refine va_get (D := D) (ci := 0) (v := .ref jal) (C := RX0) (T := TX0) (N := 2) hx hb ht inX0 hown hK hP 0 rfl rfl 0 (by decide) (ht _ wd1_176) (fun _ h9 => h9) rfl dX0_init_22 ?_
      refine lv_iload_n hx hb dX0_init_25 rfl (lv_at hl 2 rfl) ?_
      refine va_new (ci := 2) (fs := [.null, .null, .null, .null, .int 0, .int 0, .int 0, .int 0]) (C := RX3) (T := TX3) (N := 8) hx hb ht inX3 tyX3 tyX3_ok hown (ht _ wd1_173) (ht _ wd1_130) (ht _ wd1_4) hK hP hD hS hA rfl (fun j hj => by rcases (show j = 0 ∨ j = 1 ∨ j = 2 ∨ j = 3 ∨ j = 4 ∨ j = 5 ∨ j = 6 ∨ j = 7 by omega) with rfl | rfl | rfl | rfl | rfl | rfl | rfl | rfl <;> rfl) (by show 1 + 4 * i + 1 ≤ 57; omega) (by show 14 + 20 * i + 8 ≤ 294; omega) dX0_init_26 (fun q5 H hP hD hS => ?_)
      refine lv_dup hx hb dX0_init_29 rfl ?_
      refine lv_aload_n hx hb dX0_init_30 rfl (lv_at hl 1 rfl) ?_
      refine k_I (As := [.ref jhw]) (rest := [.ref q5, .int (nI i), .ref jal]) hC miX3_init rfl mjX3_init wd1_175 (qX3_init l D cI cZ cO q5 jhw H.size) ⟨rfl, rfl⟩ ⟨Nat.le_of_ble_eq_true rfl, Nat.le_of_ble_eq_true rfl⟩ hP hD hK hZ hAO hN1 hN2 hS hA List.perm_append_comm hl.1 rfl rfl (Nat.le_of_ble_eq_true rfl) ⟨by show 1 + 4 * i + 1 + 3 ≤ 57; omega, by show 14 + 20 * i + 8 + 12 ≤ 294; omega⟩ dX0_init_31 (fun a5 H locs hP hD hS => ?_)
      have hp9 : (stC cI jhw q5 a5 S0 ++ (acO jhc jal S0 :: acR cO jal (rwN hh i) :: plC cI jhw hh aa (fun _ => S0) i)).Perm (acO jhc jal S0 :: acR cO jal (rwN hh i) :: plC cI jhw (va_up hh i q5) (va_up aa i a5) (fun _ => S0) (i + 1)) := by
        rw [plC_succ, plC_ext, show va_up hh i q5 i = q5 from if_pos rfl, show va_up aa i a5 i = a5 from if_pos rfl]
        exact List.perm_append_comm
      have hP := hP.pm hp9
      have hD := hD.pm hp9
      have eg := plC_get cI jhw (va_up hh i q5) (va_up aa i a5) (fun _ => S0) (j := i) (i + 1) (by omega)
      rw [show va_up hh i q5 i = q5 from if_pos rfl] at eg
      refine va_astq (f := rwN hh i) (n := 14) hx hb hK hP hD hS 1 2 (4 * i + 2) 2 rfl rfl eg rfl (vp_in_nI hi14 (by omega)) dX0_init_34 (fun H locs hP hD hS => ?_)
      rw [nI_clamp (by omega), rwN_s] at hP hD
      refine lv_iinc (v := nI (i + 1)) (lv' := [(2, .int (nI (i + 1))), (0, .ref jhc), (1, .ref jhw)]) hx hb dX0_init_35 hl (k := 2) rfl (nI_1 i) (by decide) rfl (fun ls hl => ?_)
      refine lv_goto (tgt := 15) hx hb dX0_init_38 (by decide) ?_
      refine W.widen (k := 1 + 4 * (i + 1)) (n := 14 + 20 * (i + 1)) (by omega) (by omega) ?_
      exact ih (i + 1) (by omega) (va_up hh i q5) (va_up aa i a5) _ _ _ hP hD hS (lv_sub hl [1, 2, 0] rfl)
  have e0 : (fun _ => none) = rwN (fun _ => 0) 0 := rwN_0 _
  have hP : va_P D vwCl (acO jhc jal S0 :: acR cO jal (fun _ => none) :: []) H := hP
  have hD : va_D A (acO jhc jal S0 :: acR cO jal (fun _ => none) :: []) := hD
  rw [e0] at hP hD
  exact hloop 14 0 rfl (fun _ => 0) (fun _ _ => 0) _ _ _ hP hD hS (lv_sub hl [1, 2, 0] rfl)
