/-! THE CLAIM OUT OF ONE WALK OF THE LAW'S BODY. Your part is whole_start (and what it stands on); all else here is the same for every law, but numbers. -/
def R_law : String := "EyeDrinkLaw"
def lw_P (b : Addr) (xs : List Int32) (args : Array Value) (s : State) : Prop := args = #[.ref b] ∧ s.IntsAt b xs ∧ xs.length ≤ 2560 ∧ (Jvm.Cond.and given_1 narrow_1).before args s = true
def lw_Q (_ : Array Value) (s : State) (o : Outcome) (t : State) : Prop := o = .returned (some (.int 1)) ∧ Framed s o t [] 600000 7302250
def lw_Z (below : List Frame) (a : Array Value) (s : State) : State → Prop := fun t => ∃ o, t.status = .running ∧ Ended t below o ∧ lw_Q a s o t
/-- the law's own end, with 1 on the stack, nothing written that was there before, its room as the claim has it -/
theorem lw_ret {p : Program} {l : Launch} {e : Env} {s : State} {m : MethodId} {below : List Frame} {meth : Method} {c : Code} {b : Nat} (hx : p.tables.exec = Jvm.exec) (hb : c.code = code) (hr : meth.sig.returnType = ret) (hlocks : meth.locks = false) {pc : Nat} {H : Heap} {ls : Array Slot} (hdg : decode code pc = .ok (.ireturn, 1)) : W p l e room_1 s m #[Value.ref b] below meth c H [] 600000 7302250 (lw_Z below #[Value.ref b] s) (F0 m pc ls [.int 1]) := by
  intro T hT X
  obtain ⟨fs, hret, hrun, hended, hW, hframe⟩ := X.leave (v := some (.int 1)) (hlocks := hlocks) (fun h => by rw [hr] at h; cases h)
  have hmeth' : T.vm.method? m = some meth := X.method'
  refine ⟨T.setFrames fs, ?_, .returned (some (.int 1)), hrun, hended, rfl, ⟨_, rfl⟩, hW, hframe⟩
  jvm_step X.here [X.here.top, hx, hb, hdg, hmeth', hr, ret, narrow_b1]
  (try refine ⟨rfl, ?_⟩); (try refine ⟨rfl, ?_⟩)
  first | (intro acts; rw [hret _ acts rfl rfl rfl]) | rw [hret _ _ rfl rfl rfl]
  exact Steps.refl _
/-- what holds at the law's entry: the machine, the code, the tables' words (any of lw_tbl by 'hts w (by decide +kernel)'), the script of L ints xs at the cell b, what the Statement gives of the start (any of its parts by flat_of_before) -/
def lw_At (p : Program) (s : State) (m : MethodId) (meth : Method) (c : Code) (b L : Nat) (xs : Nat → Int32) : Prop :=
  p.tables.exec = Jvm.exec ∧ c.code = code ∧ meth.sig.returnType = ret ∧ c.maxLocals = 4 ∧ s.vm.findClass R_law = some m.cls ∧ (∀ w ∈ lw_tbl, w.before #[Value.ref b] s = true) ∧ va_X b L xs s s.heap ∧ b < s.heap.size ∧ meth.locks = false ∧ (Jvm.Cond.and given_1 narrow_1).before #[Value.ref b] s = true
theorem lawIn {L i : Nat} {k : Int32} (hL : L ≤ 2560) (hi : i ≤ 2600) (hk : k = nI i) (h : ¬ nI L - 5 < k) : i + 5 ≤ L := by
  rw [hk, Int32.lt_iff_toInt_lt] at h
  have h1 := pk_sub_toInt (a := L) (b := 5) (by omega) (by omega)
  have h2 := nI_toInt (n := i) (by omega)
  rw [show (nI 5 : Int32) = 5 from rfl] at h1
  rw [h1, h2] at h
  omega
theorem lawX {i L : Nat} {k : Int32} (hk : k = nI i) (j : Nat) (hj : i + j < L) (hL : L ≤ 2560) : vp_in (k + nI j) L := by
  rw [hk, nI_add]
  exact vp_in_nI hj (by omega)
set_option maxHeartbeats 4000000 in
set_option maxRecDepth 100000 in
theorem law_c0 {p : Program} {l : Launch} {e : Env} {s : State} {m : MethodId} {below : List Frame} {meth : Method} {c : Code} {D : va_G} {b L : Nat} {xs : Nat → Int32} (hL : L ≤ 2560) (C0 : lw_At p s m meth c b L xs) (hZ : Zs (fun q : Nat => s.heap.size ≤ q) s s.heap) (cI cZ cO : ClassId) (jhe : Nat) (hb : Nat → Nat) (ab : Nat → Nat → Nat) (sl hh : Nat → Nat) (aa : Nat → Nat → Nat) (jhm : Nat) (jam : Nat → Nat) (hK : va_K D vwCl (tyL cI cZ cO) s) {i : Nat} {k : Int32} (hk : k = nI i) (hi : i + 5 ≤ L)
    (hnext : ∀ (Se Sx Sl Sw Ss Sd Sy Sz Sc : Bk) (ro : Nat) (Sr Sg : Bk) (Sp : Nat → Bk) (Sm : Bk) (H : Heap) (locs : List Loc) (ls : Array Slot), Rel Se Sx Sw Ss Sy Sz Sc ro Sg Sp Sm → va_P D vwCl (wL cI cZ cO jhe hb ab sl hh aa jhm jam Se Sx Sl Sw Ss Sd Sy Sz Sc ro Sr Sg Sp Sm) H → va_D (fun q : Nat => s.heap.size ≤ q) (wL cI cZ cO jhe hb ab sl hh aa jhm jam Se Sx Sl Sw Ss Sd Sy Sz Sc ro Sr Sg Sp Sm) → va_S (fun q : Nat => s.heap.size ≤ q) s.heap H locs → lv_has ls 4 [(0, .ref b), (1, .ref jhe), (2, .ref jhm), (3, .int k)] → W p l e room_1 s m #[Value.ref b] below meth c H locs 128 3705 (lw_Z below #[Value.ref b] s) (F0 m 881 ls [])) : ∀ (Se Sx Sl Sw Ss Sd Sy Sz Sc : Bk) (ro : Nat) (Sr Sg : Bk) (Sp : Nat → Bk) (Sm : Bk) (H : Heap) (locs : List Loc) (ls : Array Slot), Rel Se Sx Sw Ss Sy Sz Sc ro Sg Sp Sm → va_P D vwCl (wL cI cZ cO jhe hb ab sl hh aa jhm jam Se Sx Sl Sw Ss Sd Sy Sz Sc ro Sr Sg Sp Sm) H → va_D (fun q : Nat => s.heap.size ≤ q) (wL cI cZ cO jhe hb ab sl hh aa jhm jam Se Sx Sl Sw Ss Sd Sy Sz Sc ro Sr Sg Sp Sm) → va_S (fun q : Nat => s.heap.size ≤ q) s.heap H locs → lv_has ls 4 [(0, .ref b), (1, .ref jhe), (2, .ref jhm), (3, .int k)] → W p l e room_1 s m #[Value.ref b] below meth c H locs 128 3705 (lw_Z below #[Value.ref b] s) (F0 m 160 ls []) := by
  obtain ⟨hx, hbc, hr, hml, hown, hts, hX, hbl, hlocks, hgv⟩ := C0
  have ht : ∀ w ∈ wT, w.before #[Value.ref b] s = true := fun w h => hts w (wT_in h)
  have hown : s.vm.findClass "EyeDrinkLaw" = some m.cls := hown
  have hbc : c.code = cL_law := hbc
  have hC : CallFix p m c cL_law 4 s #[Value.ref b] wT "EyeDrinkLaw" := ⟨hx, hbc, hml, hown, ht⟩
  have hA : ∀ q : Nat, s.heap.size ≤ q → (fun q : Nat => s.heap.size ≤ q) q := fun _ h => h
  have hbA : ¬ (fun q : Nat => s.heap.size ≤ q) b := Nat.not_le.mpr hbl
  have hx1 : vp_in (k + (1 : Int32)) L := lawX hk 1 (by omega) hL
  have hx2 : vp_in (k + (2 : Int32)) L := lawX hk 2 (by omega) hL
  have hx3 : vp_in (k + (3 : Int32)) L := lawX hk 3 (by omega) hL
  have hx4 : vp_in (k + (4 : Int32)) L := lawX hk 4 (by omega) hL
  intro Se Sx Sl Sw Ss Sd Sy Sz Sc ro Sr Sg Sp Sm H locs ls hR hP hD hS hl
  refine lv_aload_n hx hbc dL_law_160 rfl (lv_at hl 1 rfl) ?_
  refine lv_aload_n hx hbc dL_law_161 rfl (lv_at hl 0 rfl) ?_
  refine lv_iload_n hx hbc dL_law_162 rfl (lv_at hl 3 rfl) ?_
  refine lv_iconst (v := (1 : Int32)) hx hbc dL_law_163 rfl ?_
  refine lv_iadd hx hbc dL_law_164 ?_
  refine va_sld hx hbc hX hbl hbA hS hx1 dL_law_165 ?_
  obtain ⟨u7, u8, e7, e8, er, hR⟩ := st_write hR (xs (k + (1 : Int32)).toNatClampNeg)
  refine eX7_write (rest := []) cI cZ cO jhe hb ab sl hh aa jhm jam Se Sx Sl Sw Ss Sd Sy Sz Sc ro Sr Sg Sp Sm (xs (k + (1 : Int32)).toNatClampNeg) u7 e7 hC wd2_33 ⟨Nat.le_of_ble_eq_true rfl, Nat.le_of_ble_eq_true rfl⟩ hP hD hK hZ hS hA hl.1 (Nat.le_of_ble_eq_true rfl) ⟨Nat.le_of_ble_eq_true rfl, Nat.le_of_ble_eq_true rfl⟩ dL_law_166 (fun H locs hP hD hS => ?_)
  refine lv_aload_n hx hbc dL_law_169 rfl (lv_at hl 2 rfl) ?_
  refine lv_aload_n hx hbc dL_law_170 rfl (lv_at hl 0 rfl) ?_
  refine lv_iload_n hx hbc dL_law_171 rfl (lv_at hl 3 rfl) ?_
  refine lv_iconst (v := (1 : Int32)) hx hbc dL_law_172 rfl ?_
  refine lv_iadd hx hbc dL_law_173 ?_
  refine va_sld hx hbc hX hbl hbA hS hx1 dL_law_174 ?_
  refine eX8_write (rest := [.int u7.1]) cI cZ cO jhe hb ab sl hh aa jhm jam Se (bA (bO Sx u7.2) 0 (u7.2.2.1 0)) Sl Sw Ss Sd Sy Sz Sc ro Sr Sg Sp Sm (xs (k + (1 : Int32)).toNatClampNeg) u8 e8 hC wd4_39 ⟨Nat.le_of_ble_eq_true rfl, Nat.le_of_ble_eq_true rfl⟩ hP hD hK hZ hS hA hl.1 (Nat.le_of_ble_eq_true rfl) ⟨Nat.le_of_ble_eq_true rfl, Nat.le_of_ble_eq_true rfl⟩ dL_law_175 (fun H locs hP hD hS => ?_)
  refine lv_icmp_eq (tgt := 881) hx hbc dL_law_178 (by decide) (fun _ => ?_) (fun c9 => absurd er c9)
  exact hnext _ _ _ _ _ _ _ _ _ _ _ _ _ _ _ _ _ hR hP hD hS hl
set_option maxHeartbeats 4000000 in
set_option maxRecDepth 100000 in
theorem law_c1 {p : Program} {l : Launch} {e : Env} {s : State} {m : MethodId} {below : List Frame} {meth : Method} {c : Code} {D : va_G} {b L : Nat} {xs : Nat → Int32} (hL : L ≤ 2560) (C0 : lw_At p s m meth c b L xs) (hZ : Zs (fun q : Nat => s.heap.size ≤ q) s s.heap) (cI cZ cO : ClassId) (jhe : Nat) (hb : Nat → Nat) (ab : Nat → Nat → Nat) (sl hh : Nat → Nat) (aa : Nat → Nat → Nat) (jhm : Nat) (jam : Nat → Nat) (hK : va_K D vwCl (tyL cI cZ cO) s) {i : Nat} {k : Int32} (hk : k = nI i) (hi : i + 5 ≤ L)
    (hnext : ∀ (Se Sx Sl Sw Ss Sd Sy Sz Sc : Bk) (ro : Nat) (Sr Sg : Bk) (Sp : Nat → Bk) (Sm : Bk) (H : Heap) (locs : List Loc) (ls : Array Slot), Rel Se Sx Sw Ss Sy Sz Sc ro Sg Sp Sm → va_P D vwCl (wL cI cZ cO jhe hb ab sl hh aa jhm jam Se Sx Sl Sw Ss Sd Sy Sz Sc ro Sr Sg Sp Sm) H → va_D (fun q : Nat => s.heap.size ≤ q) (wL cI cZ cO jhe hb ab sl hh aa jhm jam Se Sx Sl Sw Ss Sd Sy Sz Sc ro Sr Sg Sp Sm) → va_S (fun q : Nat => s.heap.size ≤ q) s.heap H locs → lv_has ls 4 [(0, .ref b), (1, .ref jhe), (2, .ref jhm), (3, .int k)] → W p l e room_1 s m #[Value.ref b] below meth c H locs 128 3705 (lw_Z below #[Value.ref b] s) (F0 m 881 ls [])) : ∀ (Se Sx Sl Sw Ss Sd Sy Sz Sc : Bk) (ro : Nat) (Sr Sg : Bk) (Sp : Nat → Bk) (Sm : Bk) (H : Heap) (locs : List Loc) (ls : Array Slot), Rel Se Sx Sw Ss Sy Sz Sc ro Sg Sp Sm → va_P D vwCl (wL cI cZ cO jhe hb ab sl hh aa jhm jam Se Sx Sl Sw Ss Sd Sy Sz Sc ro Sr Sg Sp Sm) H → va_D (fun q : Nat => s.heap.size ≤ q) (wL cI cZ cO jhe hb ab sl hh aa jhm jam Se Sx Sl Sw Ss Sd Sy Sz Sc ro Sr Sg Sp Sm) → va_S (fun q : Nat => s.heap.size ≤ q) s.heap H locs → lv_has ls 4 [(0, .ref b), (1, .ref jhe), (2, .ref jhm), (3, .int k)] → W p l e room_1 s m #[Value.ref b] below meth c H locs 128 3705 (lw_Z below #[Value.ref b] s) (F0 m 183 ls []) := by
  obtain ⟨hx, hbc, hr, hml, hown, hts, hX, hbl, hlocks, hgv⟩ := C0
  have ht : ∀ w ∈ wT, w.before #[Value.ref b] s = true := fun w h => hts w (wT_in h)
  have hown : s.vm.findClass "EyeDrinkLaw" = some m.cls := hown
  have hbc : c.code = cL_law := hbc
  have hC : CallFix p m c cL_law 4 s #[Value.ref b] wT "EyeDrinkLaw" := ⟨hx, hbc, hml, hown, ht⟩
  have hA : ∀ q : Nat, s.heap.size ≤ q → (fun q : Nat => s.heap.size ≤ q) q := fun _ h => h
  have hbA : ¬ (fun q : Nat => s.heap.size ≤ q) b := Nat.not_le.mpr hbl
  have hx1 : vp_in (k + (1 : Int32)) L := lawX hk 1 (by omega) hL
  have hx2 : vp_in (k + (2 : Int32)) L := lawX hk 2 (by omega) hL
  have hx3 : vp_in (k + (3 : Int32)) L := lawX hk 3 (by omega) hL
  have hx4 : vp_in (k + (4 : Int32)) L := lawX hk 4 (by omega) hL
  intro Se Sx Sl Sw Ss Sd Sy Sz Sc ro Sr Sg Sp Sm H locs ls hR hP hD hS hl
  refine lv_aload_n hx hbc dL_law_183 rfl (lv_at hl 1 rfl) ?_
  obtain ⟨u7, u8, e7, e8, er, hR⟩ := st_wipe hR
  refine eX7_wipe (rest := []) cI cZ cO jhe hb ab sl hh aa jhm jam Se Sx Sl Sw Ss Sd Sy Sz Sc ro Sr Sg Sp Sm  u7 e7 hC wd2_41 ⟨Nat.le_of_ble_eq_true rfl, Nat.le_of_ble_eq_true rfl⟩ hP hD hK hZ hS hA hl.1 (Nat.le_of_ble_eq_true rfl) ⟨Nat.le_of_ble_eq_true rfl, Nat.le_of_ble_eq_true rfl⟩ dL_law_184 (fun H locs hP hD hS => ?_)
  refine lv_aload_n hx hbc dL_law_187 rfl (lv_at hl 2 rfl) ?_
  refine eX8_wipe (rest := [.int u7.1]) cI cZ cO jhe hb ab sl hh aa jhm jam Se (bO Sx u7.2) Sl Sw Ss Sd Sy Sz Sc ro Sr Sg Sp Sm  u8 e8 hC wd4_47 ⟨Nat.le_of_ble_eq_true rfl, Nat.le_of_ble_eq_true rfl⟩ hP hD hK hZ hS hA hl.1 (Nat.le_of_ble_eq_true rfl) ⟨Nat.le_of_ble_eq_true rfl, Nat.le_of_ble_eq_true rfl⟩ dL_law_188 (fun H locs hP hD hS => ?_)
  refine lv_icmp_eq (tgt := 881) hx hbc dL_law_191 (by decide) (fun _ => ?_) (fun c9 => absurd er c9)
  exact hnext _ _ _ _ _ _ _ _ _ _ _ _ _ _ _ _ _ hR hP hD hS hl
set_option maxHeartbeats 4000000 in
set_option maxRecDepth 100000 in
theorem law_c2 {p : Program} {l : Launch} {e : Env} {s : State} {m : MethodId} {below : List Frame} {meth : Method} {c : Code} {D : va_G} {b L : Nat} {xs : Nat → Int32} (hL : L ≤ 2560) (C0 : lw_At p s m meth c b L xs) (hZ : Zs (fun q : Nat => s.heap.size ≤ q) s s.heap) (cI cZ cO : ClassId) (jhe : Nat) (hb : Nat → Nat) (ab : Nat → Nat → Nat) (sl hh : Nat → Nat) (aa : Nat → Nat → Nat) (jhm : Nat) (jam : Nat → Nat) (hK : va_K D vwCl (tyL cI cZ cO) s) {i : Nat} {k : Int32} (hk : k = nI i) (hi : i + 5 ≤ L)
    (hnext : ∀ (Se Sx Sl Sw Ss Sd Sy Sz Sc : Bk) (ro : Nat) (Sr Sg : Bk) (Sp : Nat → Bk) (Sm : Bk) (H : Heap) (locs : List Loc) (ls : Array Slot), Rel Se Sx Sw Ss Sy Sz Sc ro Sg Sp Sm → va_P D vwCl (wL cI cZ cO jhe hb ab sl hh aa jhm jam Se Sx Sl Sw Ss Sd Sy Sz Sc ro Sr Sg Sp Sm) H → va_D (fun q : Nat => s.heap.size ≤ q) (wL cI cZ cO jhe hb ab sl hh aa jhm jam Se Sx Sl Sw Ss Sd Sy Sz Sc ro Sr Sg Sp Sm) → va_S (fun q : Nat => s.heap.size ≤ q) s.heap H locs → lv_has ls 4 [(0, .ref b), (1, .ref jhe), (2, .ref jhm), (3, .int k)] → W p l e room_1 s m #[Value.ref b] below meth c H locs 128 3705 (lw_Z below #[Value.ref b] s) (F0 m 881 ls [])) : ∀ (Se Sx Sl Sw Ss Sd Sy Sz Sc : Bk) (ro : Nat) (Sr Sg : Bk) (Sp : Nat → Bk) (Sm : Bk) (H : Heap) (locs : List Loc) (ls : Array Slot), Rel Se Sx Sw Ss Sy Sz Sc ro Sg Sp Sm → va_P D vwCl (wL cI cZ cO jhe hb ab sl hh aa jhm jam Se Sx Sl Sw Ss Sd Sy Sz Sc ro Sr Sg Sp Sm) H → va_D (fun q : Nat => s.heap.size ≤ q) (wL cI cZ cO jhe hb ab sl hh aa jhm jam Se Sx Sl Sw Ss Sd Sy Sz Sc ro Sr Sg Sp Sm) → va_S (fun q : Nat => s.heap.size ≤ q) s.heap H locs → lv_has ls 4 [(0, .ref b), (1, .ref jhe), (2, .ref jhm), (3, .int k)] → W p l e room_1 s m #[Value.ref b] below meth c H locs 128 3705 (lw_Z below #[Value.ref b] s) (F0 m 196 ls []) := by
  obtain ⟨hx, hbc, hr, hml, hown, hts, hX, hbl, hlocks, hgv⟩ := C0
  have ht : ∀ w ∈ wT, w.before #[Value.ref b] s = true := fun w h => hts w (wT_in h)
  have hown : s.vm.findClass "EyeDrinkLaw" = some m.cls := hown
  have hbc : c.code = cL_law := hbc
  have hC : CallFix p m c cL_law 4 s #[Value.ref b] wT "EyeDrinkLaw" := ⟨hx, hbc, hml, hown, ht⟩
  have hA : ∀ q : Nat, s.heap.size ≤ q → (fun q : Nat => s.heap.size ≤ q) q := fun _ h => h
  have hbA : ¬ (fun q : Nat => s.heap.size ≤ q) b := Nat.not_le.mpr hbl
  have hx1 : vp_in (k + (1 : Int32)) L := lawX hk 1 (by omega) hL
  have hx2 : vp_in (k + (2 : Int32)) L := lawX hk 2 (by omega) hL
  have hx3 : vp_in (k + (3 : Int32)) L := lawX hk 3 (by omega) hL
  have hx4 : vp_in (k + (4 : Int32)) L := lawX hk 4 (by omega) hL
  intro Se Sx Sl Sw Ss Sd Sy Sz Sc ro Sr Sg Sp Sm H locs ls hR hP hD hS hl
  refine lv_aload_n hx hbc dL_law_196 rfl (lv_at hl 1 rfl) ?_
  obtain ⟨u7, u8, e7, e8, er, hR⟩ := st_fault Sl hR
  refine eX7_fault (rest := []) cI cZ cO jhe hb ab sl hh aa jhm jam Se Sx Sl Sw Ss Sd Sy Sz Sc ro Sr Sg Sp Sm  u7 e7 hC wd2_45 ⟨Nat.le_of_ble_eq_true rfl, Nat.le_of_ble_eq_true rfl⟩ hP hD hK hZ hS hA hl.1 (Nat.le_of_ble_eq_true rfl) ⟨Nat.le_of_ble_eq_true rfl, Nat.le_of_ble_eq_true rfl⟩ dL_law_197 (fun H locs hP hD hS => ?_)
  refine lv_aload_n hx hbc dL_law_200 rfl (lv_at hl 2 rfl) ?_
  refine eX8_fault (rest := [.int u7.1]) cI cZ cO jhe hb ab sl hh aa jhm jam Se u7.2.1 u7.2.2 Sw Ss Sd Sy Sz Sc ro Sr Sg Sp Sm  u8 e8 hC wd4_51 ⟨Nat.le_of_ble_eq_true rfl, Nat.le_of_ble_eq_true rfl⟩ hP hD hK hZ hS hA hl.1 (Nat.le_of_ble_eq_true rfl) ⟨Nat.le_of_ble_eq_true rfl, Nat.le_of_ble_eq_true rfl⟩ dL_law_201 (fun H locs hP hD hS => ?_)
  refine lv_icmp_eq (tgt := 881) hx hbc dL_law_204 (by decide) (fun _ => ?_) (fun c9 => absurd er c9)
  exact hnext _ _ _ _ _ _ _ _ _ _ _ _ _ _ _ _ _ hR hP hD hS hl
set_option maxHeartbeats 4000000 in
set_option maxRecDepth 100000 in
theorem law_c3 {p : Program} {l : Launch} {e : Env} {s : State} {m : MethodId} {below : List Frame} {meth : Method} {c : Code} {D : va_G} {b L : Nat} {xs : Nat → Int32} (hL : L ≤ 2560) (C0 : lw_At p s m meth c b L xs) (hZ : Zs (fun q : Nat => s.heap.size ≤ q) s s.heap) (cI cZ cO : ClassId) (jhe : Nat) (hb : Nat → Nat) (ab : Nat → Nat → Nat) (sl hh : Nat → Nat) (aa : Nat → Nat → Nat) (jhm : Nat) (jam : Nat → Nat) (hK : va_K D vwCl (tyL cI cZ cO) s) {i : Nat} {k : Int32} (hk : k = nI i) (hi : i + 5 ≤ L)
    (hnext : ∀ (Se Sx Sl Sw Ss Sd Sy Sz Sc : Bk) (ro : Nat) (Sr Sg : Bk) (Sp : Nat → Bk) (Sm : Bk) (H : Heap) (locs : List Loc) (ls : Array Slot), Rel Se Sx Sw Ss Sy Sz Sc ro Sg Sp Sm → va_P D vwCl (wL cI cZ cO jhe hb ab sl hh aa jhm jam Se Sx Sl Sw Ss Sd Sy Sz Sc ro Sr Sg Sp Sm) H → va_D (fun q : Nat => s.heap.size ≤ q) (wL cI cZ cO jhe hb ab sl hh aa jhm jam Se Sx Sl Sw Ss Sd Sy Sz Sc ro Sr Sg Sp Sm) → va_S (fun q : Nat => s.heap.size ≤ q) s.heap H locs → lv_has ls 4 [(0, .ref b), (1, .ref jhe), (2, .ref jhm), (3, .int k)] → W p l e room_1 s m #[Value.ref b] below meth c H locs 128 3705 (lw_Z below #[Value.ref b] s) (F0 m 881 ls [])) : ∀ (Se Sx Sl Sw Ss Sd Sy Sz Sc : Bk) (ro : Nat) (Sr Sg : Bk) (Sp : Nat → Bk) (Sm : Bk) (H : Heap) (locs : List Loc) (ls : Array Slot), Rel Se Sx Sw Ss Sy Sz Sc ro Sg Sp Sm → va_P D vwCl (wL cI cZ cO jhe hb ab sl hh aa jhm jam Se Sx Sl Sw Ss Sd Sy Sz Sc ro Sr Sg Sp Sm) H → va_D (fun q : Nat => s.heap.size ≤ q) (wL cI cZ cO jhe hb ab sl hh aa jhm jam Se Sx Sl Sw Ss Sd Sy Sz Sc ro Sr Sg Sp Sm) → va_S (fun q : Nat => s.heap.size ≤ q) s.heap H locs → lv_has ls 4 [(0, .ref b), (1, .ref jhe), (2, .ref jhm), (3, .int k)] → W p l e room_1 s m #[Value.ref b] below meth c H locs 128 3705 (lw_Z below #[Value.ref b] s) (F0 m 209 ls []) := by
  obtain ⟨hx, hbc, hr, hml, hown, hts, hX, hbl, hlocks, hgv⟩ := C0
  have ht : ∀ w ∈ wT, w.before #[Value.ref b] s = true := fun w h => hts w (wT_in h)
  have hown : s.vm.findClass "EyeDrinkLaw" = some m.cls := hown
  have hbc : c.code = cL_law := hbc
  have hC : CallFix p m c cL_law 4 s #[Value.ref b] wT "EyeDrinkLaw" := ⟨hx, hbc, hml, hown, ht⟩
  have hA : ∀ q : Nat, s.heap.size ≤ q → (fun q : Nat => s.heap.size ≤ q) q := fun _ h => h
  have hbA : ¬ (fun q : Nat => s.heap.size ≤ q) b := Nat.not_le.mpr hbl
  have hx1 : vp_in (k + (1 : Int32)) L := lawX hk 1 (by omega) hL
  have hx2 : vp_in (k + (2 : Int32)) L := lawX hk 2 (by omega) hL
  have hx3 : vp_in (k + (3 : Int32)) L := lawX hk 3 (by omega) hL
  have hx4 : vp_in (k + (4 : Int32)) L := lawX hk 4 (by omega) hL
  intro Se Sx Sl Sw Ss Sd Sy Sz Sc ro Sr Sg Sp Sm H locs ls hR hP hD hS hl
  refine lv_aload_n hx hbc dL_law_209 rfl (lv_at hl 1 rfl) ?_
  obtain ⟨u7, u8, e7, e8, er, hR⟩ := st_well Sl hR
  refine eX7_well (rest := []) cI cZ cO jhe hb ab sl hh aa jhm jam Se Sx Sl Sw Ss Sd Sy Sz Sc ro Sr Sg Sp Sm  u7 e7 hC wd2_89 ⟨Nat.le_of_ble_eq_true rfl, Nat.le_of_ble_eq_true rfl⟩ hP hD hK hZ hS hA hl.1 (Nat.le_of_ble_eq_true rfl) ⟨Nat.le_of_ble_eq_true rfl, Nat.le_of_ble_eq_true rfl⟩ dL_law_210 (fun H locs hP hD hS => ?_)
  refine lv_aload_n hx hbc dL_law_213 rfl (lv_at hl 2 rfl) ?_
  refine eX8_well (rest := [.int u7.1]) cI cZ cO jhe hb ab sl hh aa jhm jam (bO Se u7.2.1) u7.2.2.1 u7.2.2.2.1 u7.2.2.2.2.1 u7.2.2.2.2.2.1 Sd Sy Sz (bO Sc u7.2.2.2.2.2.2) ro Sr Sg Sp Sm  u8 e8 hC wd4_79 ⟨Nat.le_of_ble_eq_true rfl, Nat.le_of_ble_eq_true rfl⟩ hP hD hK hZ hS hA hl.1 (Nat.le_of_ble_eq_true rfl) ⟨Nat.le_of_ble_eq_true rfl, Nat.le_of_ble_eq_true rfl⟩ dL_law_214 (fun H locs hP hD hS => ?_)
  refine lv_icmp_eq (tgt := 881) hx hbc dL_law_217 (by decide) (fun _ => ?_) (fun c9 => absurd er c9)
  exact hnext _ _ _ _ _ _ _ _ _ _ _ _ _ _ _ _ _ hR hP hD hS hl
set_option maxHeartbeats 4000000 in
set_option maxRecDepth 100000 in
theorem law_c4 {p : Program} {l : Launch} {e : Env} {s : State} {m : MethodId} {below : List Frame} {meth : Method} {c : Code} {D : va_G} {b L : Nat} {xs : Nat → Int32} (hL : L ≤ 2560) (C0 : lw_At p s m meth c b L xs) (hZ : Zs (fun q : Nat => s.heap.size ≤ q) s s.heap) (cI cZ cO : ClassId) (jhe : Nat) (hb : Nat → Nat) (ab : Nat → Nat → Nat) (sl hh : Nat → Nat) (aa : Nat → Nat → Nat) (jhm : Nat) (jam : Nat → Nat) (hK : va_K D vwCl (tyL cI cZ cO) s) {i : Nat} {k : Int32} (hk : k = nI i) (hi : i + 5 ≤ L)
    (hnext : ∀ (Se Sx Sl Sw Ss Sd Sy Sz Sc : Bk) (ro : Nat) (Sr Sg : Bk) (Sp : Nat → Bk) (Sm : Bk) (H : Heap) (locs : List Loc) (ls : Array Slot), Rel Se Sx Sw Ss Sy Sz Sc ro Sg Sp Sm → va_P D vwCl (wL cI cZ cO jhe hb ab sl hh aa jhm jam Se Sx Sl Sw Ss Sd Sy Sz Sc ro Sr Sg Sp Sm) H → va_D (fun q : Nat => s.heap.size ≤ q) (wL cI cZ cO jhe hb ab sl hh aa jhm jam Se Sx Sl Sw Ss Sd Sy Sz Sc ro Sr Sg Sp Sm) → va_S (fun q : Nat => s.heap.size ≤ q) s.heap H locs → lv_has ls 4 [(0, .ref b), (1, .ref jhe), (2, .ref jhm), (3, .int k)] → W p l e room_1 s m #[Value.ref b] below meth c H locs 128 3705 (lw_Z below #[Value.ref b] s) (F0 m 881 ls [])) : ∀ (Se Sx Sl Sw Ss Sd Sy Sz Sc : Bk) (ro : Nat) (Sr Sg : Bk) (Sp : Nat → Bk) (Sm : Bk) (H : Heap) (locs : List Loc) (ls : Array Slot), Rel Se Sx Sw Ss Sy Sz Sc ro Sg Sp Sm → va_P D vwCl (wL cI cZ cO jhe hb ab sl hh aa jhm jam Se Sx Sl Sw Ss Sd Sy Sz Sc ro Sr Sg Sp Sm) H → va_D (fun q : Nat => s.heap.size ≤ q) (wL cI cZ cO jhe hb ab sl hh aa jhm jam Se Sx Sl Sw Ss Sd Sy Sz Sc ro Sr Sg Sp Sm) → va_S (fun q : Nat => s.heap.size ≤ q) s.heap H locs → lv_has ls 4 [(0, .ref b), (1, .ref jhe), (2, .ref jhm), (3, .int k)] → W p l e room_1 s m #[Value.ref b] below meth c H locs 128 3705 (lw_Z below #[Value.ref b] s) (F0 m 222 ls []) := by
  obtain ⟨hx, hbc, hr, hml, hown, hts, hX, hbl, hlocks, hgv⟩ := C0
  have ht : ∀ w ∈ wT, w.before #[Value.ref b] s = true := fun w h => hts w (wT_in h)
  have hown : s.vm.findClass "EyeDrinkLaw" = some m.cls := hown
  have hbc : c.code = cL_law := hbc
  have hC : CallFix p m c cL_law 4 s #[Value.ref b] wT "EyeDrinkLaw" := ⟨hx, hbc, hml, hown, ht⟩
  have hA : ∀ q : Nat, s.heap.size ≤ q → (fun q : Nat => s.heap.size ≤ q) q := fun _ h => h
  have hbA : ¬ (fun q : Nat => s.heap.size ≤ q) b := Nat.not_le.mpr hbl
  have hx1 : vp_in (k + (1 : Int32)) L := lawX hk 1 (by omega) hL
  have hx2 : vp_in (k + (2 : Int32)) L := lawX hk 2 (by omega) hL
  have hx3 : vp_in (k + (3 : Int32)) L := lawX hk 3 (by omega) hL
  have hx4 : vp_in (k + (4 : Int32)) L := lawX hk 4 (by omega) hL
  intro Se Sx Sl Sw Ss Sd Sy Sz Sc ro Sr Sg Sp Sm H locs ls hR hP hD hS hl
  refine lv_aload_n hx hbc dL_law_222 rfl (lv_at hl 1 rfl) ?_
  refine lv_aload_n hx hbc dL_law_223 rfl (lv_at hl 0 rfl) ?_
  refine lv_iload_n hx hbc dL_law_224 rfl (lv_at hl 3 rfl) ?_
  refine lv_iconst (v := (1 : Int32)) hx hbc dL_law_225 rfl ?_
  refine lv_iadd hx hbc dL_law_226 ?_
  refine va_sld hx hbc hX hbl hbA hS hx1 dL_law_227 ?_
  obtain ⟨u7, u8, e7, e8, er, hR⟩ := st_about hR (xs (k + (1 : Int32)).toNatClampNeg)
  refine eX7_about (rest := []) cI cZ cO jhe hb ab sl hh aa jhm jam Se Sx Sl Sw Ss Sd Sy Sz Sc ro Sr Sg Sp Sm (xs (k + (1 : Int32)).toNatClampNeg) u7 e7 hC wd2_103 ⟨Nat.le_of_ble_eq_true rfl, Nat.le_of_ble_eq_true rfl⟩ hP hD hK hZ hS hA hl.1 (Nat.le_of_ble_eq_true rfl) ⟨Nat.le_of_ble_eq_true rfl, Nat.le_of_ble_eq_true rfl⟩ dL_law_228 ?_
  refine lv_aload_n hx hbc dL_law_231 rfl (lv_at hl 2 rfl) ?_
  refine lv_aload_n hx hbc dL_law_232 rfl (lv_at hl 0 rfl) ?_
  refine lv_iload_n hx hbc dL_law_233 rfl (lv_at hl 3 rfl) ?_
  refine lv_iconst (v := (1 : Int32)) hx hbc dL_law_234 rfl ?_
  refine lv_iadd hx hbc dL_law_235 ?_
  refine va_sld hx hbc hX hbl hbA hS hx1 dL_law_236 ?_
  refine eX8_about (rest := [.int u7]) cI cZ cO jhe hb ab sl hh aa jhm jam Se Sx Sl Sw Ss Sd Sy Sz Sc ro Sr Sg Sp Sm (xs (k + (1 : Int32)).toNatClampNeg) u8 e8 hC wd4_83 ⟨Nat.le_of_ble_eq_true rfl, Nat.le_of_ble_eq_true rfl⟩ hP hD hK hZ hS hA hl.1 (Nat.le_of_ble_eq_true rfl) ⟨Nat.le_of_ble_eq_true rfl, Nat.le_of_ble_eq_true rfl⟩ dL_law_237 (fun H locs hP hD hS => ?_)
  refine lv_icmp_eq (tgt := 881) hx hbc dL_law_240 (by decide) (fun _ => ?_) (fun c9 => absurd er c9)
  exact hnext _ _ _ _ _ _ _ _ _ _ _ _ _ _ _ _ _ hR hP hD hS hl
set_option maxHeartbeats 4000000 in
set_option maxRecDepth 100000 in
theorem law_c5 {p : Program} {l : Launch} {e : Env} {s : State} {m : MethodId} {below : List Frame} {meth : Method} {c : Code} {D : va_G} {b L : Nat} {xs : Nat → Int32} (hL : L ≤ 2560) (C0 : lw_At p s m meth c b L xs) (hZ : Zs (fun q : Nat => s.heap.size ≤ q) s s.heap) (cI cZ cO : ClassId) (jhe : Nat) (hb : Nat → Nat) (ab : Nat → Nat → Nat) (sl hh : Nat → Nat) (aa : Nat → Nat → Nat) (jhm : Nat) (jam : Nat → Nat) (hK : va_K D vwCl (tyL cI cZ cO) s) {i : Nat} {k : Int32} (hk : k = nI i) (hi : i + 5 ≤ L)
    (hnext : ∀ (Se Sx Sl Sw Ss Sd Sy Sz Sc : Bk) (ro : Nat) (Sr Sg : Bk) (Sp : Nat → Bk) (Sm : Bk) (H : Heap) (locs : List Loc) (ls : Array Slot), Rel Se Sx Sw Ss Sy Sz Sc ro Sg Sp Sm → va_P D vwCl (wL cI cZ cO jhe hb ab sl hh aa jhm jam Se Sx Sl Sw Ss Sd Sy Sz Sc ro Sr Sg Sp Sm) H → va_D (fun q : Nat => s.heap.size ≤ q) (wL cI cZ cO jhe hb ab sl hh aa jhm jam Se Sx Sl Sw Ss Sd Sy Sz Sc ro Sr Sg Sp Sm) → va_S (fun q : Nat => s.heap.size ≤ q) s.heap H locs → lv_has ls 4 [(0, .ref b), (1, .ref jhe), (2, .ref jhm), (3, .int k)] → W p l e room_1 s m #[Value.ref b] below meth c H locs 128 3705 (lw_Z below #[Value.ref b] s) (F0 m 881 ls [])) : ∀ (Se Sx Sl Sw Ss Sd Sy Sz Sc : Bk) (ro : Nat) (Sr Sg : Bk) (Sp : Nat → Bk) (Sm : Bk) (H : Heap) (locs : List Loc) (ls : Array Slot), Rel Se Sx Sw Ss Sy Sz Sc ro Sg Sp Sm → va_P D vwCl (wL cI cZ cO jhe hb ab sl hh aa jhm jam Se Sx Sl Sw Ss Sd Sy Sz Sc ro Sr Sg Sp Sm) H → va_D (fun q : Nat => s.heap.size ≤ q) (wL cI cZ cO jhe hb ab sl hh aa jhm jam Se Sx Sl Sw Ss Sd Sy Sz Sc ro Sr Sg Sp Sm) → va_S (fun q : Nat => s.heap.size ≤ q) s.heap H locs → lv_has ls 4 [(0, .ref b), (1, .ref jhe), (2, .ref jhm), (3, .int k)] → W p l e room_1 s m #[Value.ref b] below meth c H locs 128 3705 (lw_Z below #[Value.ref b] s) (F0 m 245 ls []) := by
  obtain ⟨hx, hbc, hr, hml, hown, hts, hX, hbl, hlocks, hgv⟩ := C0
  have ht : ∀ w ∈ wT, w.before #[Value.ref b] s = true := fun w h => hts w (wT_in h)
  have hown : s.vm.findClass "EyeDrinkLaw" = some m.cls := hown
  have hbc : c.code = cL_law := hbc
  have hC : CallFix p m c cL_law 4 s #[Value.ref b] wT "EyeDrinkLaw" := ⟨hx, hbc, hml, hown, ht⟩
  have hA : ∀ q : Nat, s.heap.size ≤ q → (fun q : Nat => s.heap.size ≤ q) q := fun _ h => h
  have hbA : ¬ (fun q : Nat => s.heap.size ≤ q) b := Nat.not_le.mpr hbl
  have hx1 : vp_in (k + (1 : Int32)) L := lawX hk 1 (by omega) hL
  have hx2 : vp_in (k + (2 : Int32)) L := lawX hk 2 (by omega) hL
  have hx3 : vp_in (k + (3 : Int32)) L := lawX hk 3 (by omega) hL
  have hx4 : vp_in (k + (4 : Int32)) L := lawX hk 4 (by omega) hL
  intro Se Sx Sl Sw Ss Sd Sy Sz Sc ro Sr Sg Sp Sm H locs ls hR hP hD hS hl
  refine lv_aload_n hx hbc dL_law_245 rfl (lv_at hl 1 rfl) ?_
  refine lv_aload_n hx hbc dL_law_246 rfl (lv_at hl 0 rfl) ?_
  refine lv_iload_n hx hbc dL_law_247 rfl (lv_at hl 3 rfl) ?_
  refine lv_iconst (v := (1 : Int32)) hx hbc dL_law_248 rfl ?_
  refine lv_iadd hx hbc dL_law_249 ?_
  refine va_sld hx hbc hX hbl hbA hS hx1 dL_law_250 ?_
  refine lv_aload_n hx hbc dL_law_251 rfl (lv_at hl 0 rfl) ?_
  refine lv_iload_n hx hbc dL_law_252 rfl (lv_at hl 3 rfl) ?_
  refine lv_iconst (v := (2 : Int32)) hx hbc dL_law_253 rfl ?_
  refine lv_iadd hx hbc dL_law_254 ?_
  refine va_sld hx hbc hX hbl hbA hS hx2 dL_law_255 ?_
  obtain ⟨u7, u8, e7, e8, er, hR⟩ := st_thing hR (xs (k + (1 : Int32)).toNatClampNeg) (xs (k + (2 : Int32)).toNatClampNeg)
  refine eX7_thing (rest := []) cI cZ cO jhe hb ab sl hh aa jhm jam Se Sx Sl Sw Ss Sd Sy Sz Sc ro Sr Sg Sp Sm (xs (k + (1 : Int32)).toNatClampNeg) (xs (k + (2 : Int32)).toNatClampNeg) u7 e7 hC wd2_119 ⟨Nat.le_of_ble_eq_true rfl, Nat.le_of_ble_eq_true rfl⟩ hP hD hK hZ hS hA hl.1 (Nat.le_of_ble_eq_true rfl) ⟨Nat.le_of_ble_eq_true rfl, Nat.le_of_ble_eq_true rfl⟩ dL_law_256 ?_
  refine lv_aload_n hx hbc dL_law_259 rfl (lv_at hl 2 rfl) ?_
  refine lv_aload_n hx hbc dL_law_260 rfl (lv_at hl 0 rfl) ?_
  refine lv_iload_n hx hbc dL_law_261 rfl (lv_at hl 3 rfl) ?_
  refine lv_iconst (v := (1 : Int32)) hx hbc dL_law_262 rfl ?_
  refine lv_iadd hx hbc dL_law_263 ?_
  refine va_sld hx hbc hX hbl hbA hS hx1 dL_law_264 ?_
  refine lv_aload_n hx hbc dL_law_265 rfl (lv_at hl 0 rfl) ?_
  refine lv_iload_n hx hbc dL_law_266 rfl (lv_at hl 3 rfl) ?_
  refine lv_iconst (v := (2 : Int32)) hx hbc dL_law_267 rfl ?_
  refine lv_iadd hx hbc dL_law_268 ?_
  refine va_sld hx hbc hX hbl hbA hS hx2 dL_law_269 ?_
  refine eX8_thing (rest := [.int u7]) cI cZ cO jhe hb ab sl hh aa jhm jam Se Sx Sl Sw Ss Sd Sy Sz Sc ro Sr Sg Sp Sm (xs (k + (1 : Int32)).toNatClampNeg) (xs (k + (2 : Int32)).toNatClampNeg) u8 e8 hC wd4_95 ⟨Nat.le_of_ble_eq_true rfl, Nat.le_of_ble_eq_true rfl⟩ hP hD hK hZ hS hA hl.1 (Nat.le_of_ble_eq_true rfl) ⟨Nat.le_of_ble_eq_true rfl, Nat.le_of_ble_eq_true rfl⟩ dL_law_270 (fun H locs hP hD hS => ?_)
  refine lv_icmp_eq (tgt := 881) hx hbc dL_law_273 (by decide) (fun _ => ?_) (fun c9 => absurd er c9)
  exact hnext _ _ _ _ _ _ _ _ _ _ _ _ _ _ _ _ _ hR hP hD hS hl
set_option maxHeartbeats 4000000 in
set_option maxRecDepth 100000 in
theorem law_c6 {p : Program} {l : Launch} {e : Env} {s : State} {m : MethodId} {below : List Frame} {meth : Method} {c : Code} {D : va_G} {b L : Nat} {xs : Nat → Int32} (hL : L ≤ 2560) (C0 : lw_At p s m meth c b L xs) (hZ : Zs (fun q : Nat => s.heap.size ≤ q) s s.heap) (cI cZ cO : ClassId) (jhe : Nat) (hb : Nat → Nat) (ab : Nat → Nat → Nat) (sl hh : Nat → Nat) (aa : Nat → Nat → Nat) (jhm : Nat) (jam : Nat → Nat) (hK : va_K D vwCl (tyL cI cZ cO) s) {i : Nat} {k : Int32} (hk : k = nI i) (hi : i + 5 ≤ L)
    (hnext : ∀ (Se Sx Sl Sw Ss Sd Sy Sz Sc : Bk) (ro : Nat) (Sr Sg : Bk) (Sp : Nat → Bk) (Sm : Bk) (H : Heap) (locs : List Loc) (ls : Array Slot), Rel Se Sx Sw Ss Sy Sz Sc ro Sg Sp Sm → va_P D vwCl (wL cI cZ cO jhe hb ab sl hh aa jhm jam Se Sx Sl Sw Ss Sd Sy Sz Sc ro Sr Sg Sp Sm) H → va_D (fun q : Nat => s.heap.size ≤ q) (wL cI cZ cO jhe hb ab sl hh aa jhm jam Se Sx Sl Sw Ss Sd Sy Sz Sc ro Sr Sg Sp Sm) → va_S (fun q : Nat => s.heap.size ≤ q) s.heap H locs → lv_has ls 4 [(0, .ref b), (1, .ref jhe), (2, .ref jhm), (3, .int k)] → W p l e room_1 s m #[Value.ref b] below meth c H locs 128 3705 (lw_Z below #[Value.ref b] s) (F0 m 881 ls [])) : ∀ (Se Sx Sl Sw Ss Sd Sy Sz Sc : Bk) (ro : Nat) (Sr Sg : Bk) (Sp : Nat → Bk) (Sm : Bk) (H : Heap) (locs : List Loc) (ls : Array Slot), Rel Se Sx Sw Ss Sy Sz Sc ro Sg Sp Sm → va_P D vwCl (wL cI cZ cO jhe hb ab sl hh aa jhm jam Se Sx Sl Sw Ss Sd Sy Sz Sc ro Sr Sg Sp Sm) H → va_D (fun q : Nat => s.heap.size ≤ q) (wL cI cZ cO jhe hb ab sl hh aa jhm jam Se Sx Sl Sw Ss Sd Sy Sz Sc ro Sr Sg Sp Sm) → va_S (fun q : Nat => s.heap.size ≤ q) s.heap H locs → lv_has ls 4 [(0, .ref b), (1, .ref jhe), (2, .ref jhm), (3, .int k)] → W p l e room_1 s m #[Value.ref b] below meth c H locs 128 3705 (lw_Z below #[Value.ref b] s) (F0 m 278 ls []) := by
  obtain ⟨hx, hbc, hr, hml, hown, hts, hX, hbl, hlocks, hgv⟩ := C0
  have ht : ∀ w ∈ wT, w.before #[Value.ref b] s = true := fun w h => hts w (wT_in h)
  have hown : s.vm.findClass "EyeDrinkLaw" = some m.cls := hown
  have hbc : c.code = cL_law := hbc
  have hC : CallFix p m c cL_law 4 s #[Value.ref b] wT "EyeDrinkLaw" := ⟨hx, hbc, hml, hown, ht⟩
  have hA : ∀ q : Nat, s.heap.size ≤ q → (fun q : Nat => s.heap.size ≤ q) q := fun _ h => h
  have hbA : ¬ (fun q : Nat => s.heap.size ≤ q) b := Nat.not_le.mpr hbl
  have hx1 : vp_in (k + (1 : Int32)) L := lawX hk 1 (by omega) hL
  have hx2 : vp_in (k + (2 : Int32)) L := lawX hk 2 (by omega) hL
  have hx3 : vp_in (k + (3 : Int32)) L := lawX hk 3 (by omega) hL
  have hx4 : vp_in (k + (4 : Int32)) L := lawX hk 4 (by omega) hL
  intro Se Sx Sl Sw Ss Sd Sy Sz Sc ro Sr Sg Sp Sm H locs ls hR hP hD hS hl
  refine lv_aload_n hx hbc dL_law_278 rfl (lv_at hl 1 rfl) ?_
  refine lv_aload_n hx hbc dL_law_279 rfl (lv_at hl 0 rfl) ?_
  refine lv_iload_n hx hbc dL_law_280 rfl (lv_at hl 3 rfl) ?_
  refine lv_iconst (v := (1 : Int32)) hx hbc dL_law_281 rfl ?_
  refine lv_iadd hx hbc dL_law_282 ?_
  refine va_sld hx hbc hX hbl hbA hS hx1 dL_law_283 ?_
  refine lv_aload_n hx hbc dL_law_284 rfl (lv_at hl 0 rfl) ?_
  refine lv_iload_n hx hbc dL_law_285 rfl (lv_at hl 3 rfl) ?_
  refine lv_iconst (v := (2 : Int32)) hx hbc dL_law_286 rfl ?_
  refine lv_iadd hx hbc dL_law_287 ?_
  refine va_sld hx hbc hX hbl hbA hS hx2 dL_law_288 ?_
  obtain ⟨u7, u8, e7, e8, er, hR⟩ := st_question hR (xs (k + (1 : Int32)).toNatClampNeg) (xs (k + (2 : Int32)).toNatClampNeg)
  refine eX7_question (rest := []) cI cZ cO jhe hb ab sl hh aa jhm jam Se Sx Sl Sw Ss Sd Sy Sz Sc ro Sr Sg Sp Sm (xs (k + (1 : Int32)).toNatClampNeg) (xs (k + (2 : Int32)).toNatClampNeg) u7 e7 hC wd2_127 ⟨Nat.le_of_ble_eq_true rfl, Nat.le_of_ble_eq_true rfl⟩ hP hD hK hZ hS hA hl.1 (Nat.le_of_ble_eq_true rfl) ⟨Nat.le_of_ble_eq_true rfl, Nat.le_of_ble_eq_true rfl⟩ dL_law_289 ?_
  refine lv_aload_n hx hbc dL_law_292 rfl (lv_at hl 2 rfl) ?_
  refine lv_aload_n hx hbc dL_law_293 rfl (lv_at hl 0 rfl) ?_
  refine lv_iload_n hx hbc dL_law_294 rfl (lv_at hl 3 rfl) ?_
  refine lv_iconst (v := (1 : Int32)) hx hbc dL_law_295 rfl ?_
  refine lv_iadd hx hbc dL_law_296 ?_
  refine va_sld hx hbc hX hbl hbA hS hx1 dL_law_297 ?_
  refine lv_aload_n hx hbc dL_law_298 rfl (lv_at hl 0 rfl) ?_
  refine lv_iload_n hx hbc dL_law_299 rfl (lv_at hl 3 rfl) ?_
  refine lv_iconst (v := (2 : Int32)) hx hbc dL_law_300 rfl ?_
  refine lv_iadd hx hbc dL_law_301 ?_
  refine va_sld hx hbc hX hbl hbA hS hx2 dL_law_302 ?_
  refine eX8_question (rest := [.int u7]) cI cZ cO jhe hb ab sl hh aa jhm jam Se Sx Sl Sw Ss Sd Sy Sz Sc ro Sr Sg Sp Sm (xs (k + (1 : Int32)).toNatClampNeg) (xs (k + (2 : Int32)).toNatClampNeg) u8 e8 hC wd4_100 ⟨Nat.le_of_ble_eq_true rfl, Nat.le_of_ble_eq_true rfl⟩ hP hD hK hZ hS hA hl.1 (Nat.le_of_ble_eq_true rfl) ⟨Nat.le_of_ble_eq_true rfl, Nat.le_of_ble_eq_true rfl⟩ dL_law_303 (fun H locs hP hD hS => ?_)
  refine lv_icmp_eq (tgt := 881) hx hbc dL_law_306 (by decide) (fun _ => ?_) (fun c9 => absurd er c9)
  exact hnext _ _ _ _ _ _ _ _ _ _ _ _ _ _ _ _ _ hR hP hD hS hl
set_option maxHeartbeats 4000000 in
set_option maxRecDepth 100000 in
theorem law_c7 {p : Program} {l : Launch} {e : Env} {s : State} {m : MethodId} {below : List Frame} {meth : Method} {c : Code} {D : va_G} {b L : Nat} {xs : Nat → Int32} (hL : L ≤ 2560) (C0 : lw_At p s m meth c b L xs) (hZ : Zs (fun q : Nat => s.heap.size ≤ q) s s.heap) (cI cZ cO : ClassId) (jhe : Nat) (hb : Nat → Nat) (ab : Nat → Nat → Nat) (sl hh : Nat → Nat) (aa : Nat → Nat → Nat) (jhm : Nat) (jam : Nat → Nat) (hK : va_K D vwCl (tyL cI cZ cO) s) {i : Nat} {k : Int32} (hk : k = nI i) (hi : i + 5 ≤ L)
    (hnext : ∀ (Se Sx Sl Sw Ss Sd Sy Sz Sc : Bk) (ro : Nat) (Sr Sg : Bk) (Sp : Nat → Bk) (Sm : Bk) (H : Heap) (locs : List Loc) (ls : Array Slot), Rel Se Sx Sw Ss Sy Sz Sc ro Sg Sp Sm → va_P D vwCl (wL cI cZ cO jhe hb ab sl hh aa jhm jam Se Sx Sl Sw Ss Sd Sy Sz Sc ro Sr Sg Sp Sm) H → va_D (fun q : Nat => s.heap.size ≤ q) (wL cI cZ cO jhe hb ab sl hh aa jhm jam Se Sx Sl Sw Ss Sd Sy Sz Sc ro Sr Sg Sp Sm) → va_S (fun q : Nat => s.heap.size ≤ q) s.heap H locs → lv_has ls 4 [(0, .ref b), (1, .ref jhe), (2, .ref jhm), (3, .int k)] → W p l e room_1 s m #[Value.ref b] below meth c H locs 128 3705 (lw_Z below #[Value.ref b] s) (F0 m 881 ls [])) : ∀ (Se Sx Sl Sw Ss Sd Sy Sz Sc : Bk) (ro : Nat) (Sr Sg : Bk) (Sp : Nat → Bk) (Sm : Bk) (H : Heap) (locs : List Loc) (ls : Array Slot), Rel Se Sx Sw Ss Sy Sz Sc ro Sg Sp Sm → va_P D vwCl (wL cI cZ cO jhe hb ab sl hh aa jhm jam Se Sx Sl Sw Ss Sd Sy Sz Sc ro Sr Sg Sp Sm) H → va_D (fun q : Nat => s.heap.size ≤ q) (wL cI cZ cO jhe hb ab sl hh aa jhm jam Se Sx Sl Sw Ss Sd Sy Sz Sc ro Sr Sg Sp Sm) → va_S (fun q : Nat => s.heap.size ≤ q) s.heap H locs → lv_has ls 4 [(0, .ref b), (1, .ref jhe), (2, .ref jhm), (3, .int k)] → W p l e room_1 s m #[Value.ref b] below meth c H locs 128 3705 (lw_Z below #[Value.ref b] s) (F0 m 311 ls []) := by
  obtain ⟨hx, hbc, hr, hml, hown, hts, hX, hbl, hlocks, hgv⟩ := C0
  have ht : ∀ w ∈ wT, w.before #[Value.ref b] s = true := fun w h => hts w (wT_in h)
  have hown : s.vm.findClass "EyeDrinkLaw" = some m.cls := hown
  have hbc : c.code = cL_law := hbc
  have hC : CallFix p m c cL_law 4 s #[Value.ref b] wT "EyeDrinkLaw" := ⟨hx, hbc, hml, hown, ht⟩
  have hA : ∀ q : Nat, s.heap.size ≤ q → (fun q : Nat => s.heap.size ≤ q) q := fun _ h => h
  have hbA : ¬ (fun q : Nat => s.heap.size ≤ q) b := Nat.not_le.mpr hbl
  have hx1 : vp_in (k + (1 : Int32)) L := lawX hk 1 (by omega) hL
  have hx2 : vp_in (k + (2 : Int32)) L := lawX hk 2 (by omega) hL
  have hx3 : vp_in (k + (3 : Int32)) L := lawX hk 3 (by omega) hL
  have hx4 : vp_in (k + (4 : Int32)) L := lawX hk 4 (by omega) hL
  intro Se Sx Sl Sw Ss Sd Sy Sz Sc ro Sr Sg Sp Sm H locs ls hR hP hD hS hl
  refine lv_aload_n hx hbc dL_law_311 rfl (lv_at hl 1 rfl) ?_
  refine lv_aload_n hx hbc dL_law_312 rfl (lv_at hl 0 rfl) ?_
  refine lv_iload_n hx hbc dL_law_313 rfl (lv_at hl 3 rfl) ?_
  refine lv_iconst (v := (1 : Int32)) hx hbc dL_law_314 rfl ?_
  refine lv_iadd hx hbc dL_law_315 ?_
  refine va_sld hx hbc hX hbl hbA hS hx1 dL_law_316 ?_
  refine lv_aload_n hx hbc dL_law_317 rfl (lv_at hl 0 rfl) ?_
  refine lv_iload_n hx hbc dL_law_318 rfl (lv_at hl 3 rfl) ?_
  refine lv_iconst (v := (2 : Int32)) hx hbc dL_law_319 rfl ?_
  refine lv_iadd hx hbc dL_law_320 ?_
  refine va_sld hx hbc hX hbl hbA hS hx2 dL_law_321 ?_
  obtain ⟨u7, u8, e7, e8, er, hR⟩ := st_deed hR (xs (k + (1 : Int32)).toNatClampNeg) (xs (k + (2 : Int32)).toNatClampNeg)
  refine eX7_deed (rest := []) cI cZ cO jhe hb ab sl hh aa jhm jam Se Sx Sl Sw Ss Sd Sy Sz Sc ro Sr Sg Sp Sm (xs (k + (1 : Int32)).toNatClampNeg) (xs (k + (2 : Int32)).toNatClampNeg) u7 e7 hC wd2_139 ⟨Nat.le_of_ble_eq_true rfl, Nat.le_of_ble_eq_true rfl⟩ hP hD hK hZ hS hA hl.1 (Nat.le_of_ble_eq_true rfl) ⟨Nat.le_of_ble_eq_true rfl, Nat.le_of_ble_eq_true rfl⟩ dL_law_322 ?_
  refine lv_aload_n hx hbc dL_law_325 rfl (lv_at hl 2 rfl) ?_
  refine lv_aload_n hx hbc dL_law_326 rfl (lv_at hl 0 rfl) ?_
  refine lv_iload_n hx hbc dL_law_327 rfl (lv_at hl 3 rfl) ?_
  refine lv_iconst (v := (1 : Int32)) hx hbc dL_law_328 rfl ?_
  refine lv_iadd hx hbc dL_law_329 ?_
  refine va_sld hx hbc hX hbl hbA hS hx1 dL_law_330 ?_
  refine lv_aload_n hx hbc dL_law_331 rfl (lv_at hl 0 rfl) ?_
  refine lv_iload_n hx hbc dL_law_332 rfl (lv_at hl 3 rfl) ?_
  refine lv_iconst (v := (2 : Int32)) hx hbc dL_law_333 rfl ?_
  refine lv_iadd hx hbc dL_law_334 ?_
  refine va_sld hx hbc hX hbl hbA hS hx2 dL_law_335 ?_
  refine eX8_deed (rest := [.int u7]) cI cZ cO jhe hb ab sl hh aa jhm jam Se Sx Sl Sw Ss Sd Sy Sz Sc ro Sr Sg Sp Sm (xs (k + (1 : Int32)).toNatClampNeg) (xs (k + (2 : Int32)).toNatClampNeg) u8 e8 hC wd4_111 ⟨Nat.le_of_ble_eq_true rfl, Nat.le_of_ble_eq_true rfl⟩ hP hD hK hZ hS hA hl.1 (Nat.le_of_ble_eq_true rfl) ⟨Nat.le_of_ble_eq_true rfl, Nat.le_of_ble_eq_true rfl⟩ dL_law_336 (fun H locs hP hD hS => ?_)
  refine lv_icmp_eq (tgt := 881) hx hbc dL_law_339 (by decide) (fun _ => ?_) (fun c9 => absurd er c9)
  exact hnext _ _ _ _ _ _ _ _ _ _ _ _ _ _ _ _ _ hR hP hD hS hl
set_option maxHeartbeats 4000000 in
set_option maxRecDepth 100000 in
theorem law_c8 {p : Program} {l : Launch} {e : Env} {s : State} {m : MethodId} {below : List Frame} {meth : Method} {c : Code} {D : va_G} {b L : Nat} {xs : Nat → Int32} (hL : L ≤ 2560) (C0 : lw_At p s m meth c b L xs) (hZ : Zs (fun q : Nat => s.heap.size ≤ q) s s.heap) (cI cZ cO : ClassId) (jhe : Nat) (hb : Nat → Nat) (ab : Nat → Nat → Nat) (sl hh : Nat → Nat) (aa : Nat → Nat → Nat) (jhm : Nat) (jam : Nat → Nat) (hK : va_K D vwCl (tyL cI cZ cO) s) {i : Nat} {k : Int32} (hk : k = nI i) (hi : i + 5 ≤ L)
    (hnext : ∀ (Se Sx Sl Sw Ss Sd Sy Sz Sc : Bk) (ro : Nat) (Sr Sg : Bk) (Sp : Nat → Bk) (Sm : Bk) (H : Heap) (locs : List Loc) (ls : Array Slot), Rel Se Sx Sw Ss Sy Sz Sc ro Sg Sp Sm → va_P D vwCl (wL cI cZ cO jhe hb ab sl hh aa jhm jam Se Sx Sl Sw Ss Sd Sy Sz Sc ro Sr Sg Sp Sm) H → va_D (fun q : Nat => s.heap.size ≤ q) (wL cI cZ cO jhe hb ab sl hh aa jhm jam Se Sx Sl Sw Ss Sd Sy Sz Sc ro Sr Sg Sp Sm) → va_S (fun q : Nat => s.heap.size ≤ q) s.heap H locs → lv_has ls 4 [(0, .ref b), (1, .ref jhe), (2, .ref jhm), (3, .int k)] → W p l e room_1 s m #[Value.ref b] below meth c H locs 128 3705 (lw_Z below #[Value.ref b] s) (F0 m 881 ls [])) : ∀ (Se Sx Sl Sw Ss Sd Sy Sz Sc : Bk) (ro : Nat) (Sr Sg : Bk) (Sp : Nat → Bk) (Sm : Bk) (H : Heap) (locs : List Loc) (ls : Array Slot), Rel Se Sx Sw Ss Sy Sz Sc ro Sg Sp Sm → va_P D vwCl (wL cI cZ cO jhe hb ab sl hh aa jhm jam Se Sx Sl Sw Ss Sd Sy Sz Sc ro Sr Sg Sp Sm) H → va_D (fun q : Nat => s.heap.size ≤ q) (wL cI cZ cO jhe hb ab sl hh aa jhm jam Se Sx Sl Sw Ss Sd Sy Sz Sc ro Sr Sg Sp Sm) → va_S (fun q : Nat => s.heap.size ≤ q) s.heap H locs → lv_has ls 4 [(0, .ref b), (1, .ref jhe), (2, .ref jhm), (3, .int k)] → W p l e room_1 s m #[Value.ref b] below meth c H locs 128 3705 (lw_Z below #[Value.ref b] s) (F0 m 344 ls []) := by
  obtain ⟨hx, hbc, hr, hml, hown, hts, hX, hbl, hlocks, hgv⟩ := C0
  have ht : ∀ w ∈ wT, w.before #[Value.ref b] s = true := fun w h => hts w (wT_in h)
  have hown : s.vm.findClass "EyeDrinkLaw" = some m.cls := hown
  have hbc : c.code = cL_law := hbc
  have hC : CallFix p m c cL_law 4 s #[Value.ref b] wT "EyeDrinkLaw" := ⟨hx, hbc, hml, hown, ht⟩
  have hA : ∀ q : Nat, s.heap.size ≤ q → (fun q : Nat => s.heap.size ≤ q) q := fun _ h => h
  have hbA : ¬ (fun q : Nat => s.heap.size ≤ q) b := Nat.not_le.mpr hbl
  have hx1 : vp_in (k + (1 : Int32)) L := lawX hk 1 (by omega) hL
  have hx2 : vp_in (k + (2 : Int32)) L := lawX hk 2 (by omega) hL
  have hx3 : vp_in (k + (3 : Int32)) L := lawX hk 3 (by omega) hL
  have hx4 : vp_in (k + (4 : Int32)) L := lawX hk 4 (by omega) hL
  intro Se Sx Sl Sw Ss Sd Sy Sz Sc ro Sr Sg Sp Sm H locs ls hR hP hD hS hl
  refine lv_aload_n hx hbc dL_law_344 rfl (lv_at hl 1 rfl) ?_
  refine lv_aload_n hx hbc dL_law_345 rfl (lv_at hl 0 rfl) ?_
  refine lv_iload_n hx hbc dL_law_346 rfl (lv_at hl 3 rfl) ?_
  refine lv_iconst (v := (1 : Int32)) hx hbc dL_law_347 rfl ?_
  refine lv_iadd hx hbc dL_law_348 ?_
  refine va_sld hx hbc hX hbl hbA hS hx1 dL_law_349 ?_
  obtain ⟨u7, u8, e7, e8, er, hR⟩ := st_drink hR (xs (k + (1 : Int32)).toNatClampNeg)
  refine eX7_drink (rest := []) cI cZ cO jhe hb ab sl hh aa jhm jam Se Sx Sl Sw Ss Sd Sy Sz Sc ro Sr Sg Sp Sm (xs (k + (1 : Int32)).toNatClampNeg) u7 e7 hC wd2_147 ⟨Nat.le_of_ble_eq_true rfl, Nat.le_of_ble_eq_true rfl⟩ hP hD hK hZ hS hA hl.1 (Nat.le_of_ble_eq_true rfl) ⟨Nat.le_of_ble_eq_true rfl, Nat.le_of_ble_eq_true rfl⟩ dL_law_350 (fun H locs hP hD hS => ?_)
  refine lv_aload_n hx hbc dL_law_353 rfl (lv_at hl 2 rfl) ?_
  refine lv_aload_n hx hbc dL_law_354 rfl (lv_at hl 0 rfl) ?_
  refine lv_iload_n hx hbc dL_law_355 rfl (lv_at hl 3 rfl) ?_
  refine lv_iconst (v := (1 : Int32)) hx hbc dL_law_356 rfl ?_
  refine lv_iadd hx hbc dL_law_357 ?_
  refine va_sld hx hbc hX hbl hbA hS hx1 dL_law_358 ?_
  refine eX8_drink (rest := [.int u7.1]) cI cZ cO jhe hb ab sl hh aa jhm jam Se Sx Sl Sw u7.2.1 Sd Sy Sz u7.2.2.1 u7.2.2.2.1 Sr Sg u7.2.2.2.2 Sm (xs (k + (1 : Int32)).toNatClampNeg) u8 e8 hC wd4_120 ⟨Nat.le_of_ble_eq_true rfl, Nat.le_of_ble_eq_true rfl⟩ hP hD hK hZ hS hA hl.1 (Nat.le_of_ble_eq_true rfl) ⟨Nat.le_of_ble_eq_true rfl, Nat.le_of_ble_eq_true rfl⟩ dL_law_359 (fun H locs hP hD hS => ?_)
  refine lv_icmp_eq (tgt := 881) hx hbc dL_law_362 (by decide) (fun _ => ?_) (fun c9 => absurd er c9)
  exact hnext _ _ _ _ _ _ _ _ _ _ _ _ _ _ _ _ _ hR hP hD hS hl
set_option maxHeartbeats 4000000 in
set_option maxRecDepth 100000 in
theorem law_c9 {p : Program} {l : Launch} {e : Env} {s : State} {m : MethodId} {below : List Frame} {meth : Method} {c : Code} {D : va_G} {b L : Nat} {xs : Nat → Int32} (hL : L ≤ 2560) (C0 : lw_At p s m meth c b L xs) (hZ : Zs (fun q : Nat => s.heap.size ≤ q) s s.heap) (cI cZ cO : ClassId) (jhe : Nat) (hb : Nat → Nat) (ab : Nat → Nat → Nat) (sl hh : Nat → Nat) (aa : Nat → Nat → Nat) (jhm : Nat) (jam : Nat → Nat) (hK : va_K D vwCl (tyL cI cZ cO) s) {i : Nat} {k : Int32} (hk : k = nI i) (hi : i + 5 ≤ L)
    (hnext : ∀ (Se Sx Sl Sw Ss Sd Sy Sz Sc : Bk) (ro : Nat) (Sr Sg : Bk) (Sp : Nat → Bk) (Sm : Bk) (H : Heap) (locs : List Loc) (ls : Array Slot), Rel Se Sx Sw Ss Sy Sz Sc ro Sg Sp Sm → va_P D vwCl (wL cI cZ cO jhe hb ab sl hh aa jhm jam Se Sx Sl Sw Ss Sd Sy Sz Sc ro Sr Sg Sp Sm) H → va_D (fun q : Nat => s.heap.size ≤ q) (wL cI cZ cO jhe hb ab sl hh aa jhm jam Se Sx Sl Sw Ss Sd Sy Sz Sc ro Sr Sg Sp Sm) → va_S (fun q : Nat => s.heap.size ≤ q) s.heap H locs → lv_has ls 4 [(0, .ref b), (1, .ref jhe), (2, .ref jhm), (3, .int k)] → W p l e room_1 s m #[Value.ref b] below meth c H locs 128 3705 (lw_Z below #[Value.ref b] s) (F0 m 881 ls [])) : ∀ (Se Sx Sl Sw Ss Sd Sy Sz Sc : Bk) (ro : Nat) (Sr Sg : Bk) (Sp : Nat → Bk) (Sm : Bk) (H : Heap) (locs : List Loc) (ls : Array Slot), Rel Se Sx Sw Ss Sy Sz Sc ro Sg Sp Sm → va_P D vwCl (wL cI cZ cO jhe hb ab sl hh aa jhm jam Se Sx Sl Sw Ss Sd Sy Sz Sc ro Sr Sg Sp Sm) H → va_D (fun q : Nat => s.heap.size ≤ q) (wL cI cZ cO jhe hb ab sl hh aa jhm jam Se Sx Sl Sw Ss Sd Sy Sz Sc ro Sr Sg Sp Sm) → va_S (fun q : Nat => s.heap.size ≤ q) s.heap H locs → lv_has ls 4 [(0, .ref b), (1, .ref jhe), (2, .ref jhm), (3, .int k)] → W p l e room_1 s m #[Value.ref b] below meth c H locs 128 3705 (lw_Z below #[Value.ref b] s) (F0 m 367 ls []) := by
  obtain ⟨hx, hbc, hr, hml, hown, hts, hX, hbl, hlocks, hgv⟩ := C0
  have ht : ∀ w ∈ wT, w.before #[Value.ref b] s = true := fun w h => hts w (wT_in h)
  have hown : s.vm.findClass "EyeDrinkLaw" = some m.cls := hown
  have hbc : c.code = cL_law := hbc
  have hC : CallFix p m c cL_law 4 s #[Value.ref b] wT "EyeDrinkLaw" := ⟨hx, hbc, hml, hown, ht⟩
  have hA : ∀ q : Nat, s.heap.size ≤ q → (fun q : Nat => s.heap.size ≤ q) q := fun _ h => h
  have hbA : ¬ (fun q : Nat => s.heap.size ≤ q) b := Nat.not_le.mpr hbl
  have hx1 : vp_in (k + (1 : Int32)) L := lawX hk 1 (by omega) hL
  have hx2 : vp_in (k + (2 : Int32)) L := lawX hk 2 (by omega) hL
  have hx3 : vp_in (k + (3 : Int32)) L := lawX hk 3 (by omega) hL
  have hx4 : vp_in (k + (4 : Int32)) L := lawX hk 4 (by omega) hL
  intro Se Sx Sl Sw Ss Sd Sy Sz Sc ro Sr Sg Sp Sm H locs ls hR hP hD hS hl
  refine lv_aload_n hx hbc dL_law_367 rfl (lv_at hl 1 rfl) ?_
  refine lv_aload_n hx hbc dL_law_368 rfl (lv_at hl 0 rfl) ?_
  refine lv_iload_n hx hbc dL_law_369 rfl (lv_at hl 3 rfl) ?_
  refine lv_iconst (v := (1 : Int32)) hx hbc dL_law_370 rfl ?_
  refine lv_iadd hx hbc dL_law_371 ?_
  refine va_sld hx hbc hX hbl hbA hS hx1 dL_law_372 ?_
  obtain ⟨u7, u8, e7, e8, er, hR⟩ := st_act hR (xs (k + (1 : Int32)).toNatClampNeg)
  refine eX7_act (rest := []) cI cZ cO jhe hb ab sl hh aa jhm jam Se Sx Sl Sw Ss Sd Sy Sz Sc ro Sr Sg Sp Sm (xs (k + (1 : Int32)).toNatClampNeg) u7 e7 hC wd2_176 ⟨Nat.le_of_ble_eq_true rfl, Nat.le_of_ble_eq_true rfl⟩ hP hD hK hZ hS hA hl.1 (Nat.le_of_ble_eq_true rfl) ⟨Nat.le_of_ble_eq_true rfl, Nat.le_of_ble_eq_true rfl⟩ dL_law_373 (fun H locs hP hD hS => ?_)
  refine lv_aload_n hx hbc dL_law_376 rfl (lv_at hl 2 rfl) ?_
  refine lv_aload_n hx hbc dL_law_377 rfl (lv_at hl 0 rfl) ?_
  refine lv_iload_n hx hbc dL_law_378 rfl (lv_at hl 3 rfl) ?_
  refine lv_iconst (v := (1 : Int32)) hx hbc dL_law_379 rfl ?_
  refine lv_iadd hx hbc dL_law_380 ?_
  refine va_sld hx hbc hX hbl hbA hS hx1 dL_law_381 ?_
  refine eX8_act (rest := [.int u7.1]) cI cZ cO jhe hb ab sl hh aa jhm jam Se Sx Sl Sw u7.2.1 Sd Sy Sz u7.2.2.1 u7.2.2.2.1 Sr Sg u7.2.2.2.2 Sm (xs (k + (1 : Int32)).toNatClampNeg) u8 e8 hC wd4_140 ⟨Nat.le_of_ble_eq_true rfl, Nat.le_of_ble_eq_true rfl⟩ hP hD hK hZ hS hA hl.1 (Nat.le_of_ble_eq_true rfl) ⟨Nat.le_of_ble_eq_true rfl, Nat.le_of_ble_eq_true rfl⟩ dL_law_382 (fun H locs hP hD hS => ?_)
  refine lv_icmp_eq (tgt := 881) hx hbc dL_law_385 (by decide) (fun _ => ?_) (fun c9 => absurd er c9)
  exact hnext _ _ _ _ _ _ _ _ _ _ _ _ _ _ _ _ _ hR hP hD hS hl
set_option maxHeartbeats 4000000 in
set_option maxRecDepth 100000 in
theorem law_c10 {p : Program} {l : Launch} {e : Env} {s : State} {m : MethodId} {below : List Frame} {meth : Method} {c : Code} {D : va_G} {b L : Nat} {xs : Nat → Int32} (hL : L ≤ 2560) (C0 : lw_At p s m meth c b L xs) (hZ : Zs (fun q : Nat => s.heap.size ≤ q) s s.heap) (cI cZ cO : ClassId) (jhe : Nat) (hb : Nat → Nat) (ab : Nat → Nat → Nat) (sl hh : Nat → Nat) (aa : Nat → Nat → Nat) (jhm : Nat) (jam : Nat → Nat) (hK : va_K D vwCl (tyL cI cZ cO) s) {i : Nat} {k : Int32} (hk : k = nI i) (hi : i + 5 ≤ L)
    (hnext : ∀ (Se Sx Sl Sw Ss Sd Sy Sz Sc : Bk) (ro : Nat) (Sr Sg : Bk) (Sp : Nat → Bk) (Sm : Bk) (H : Heap) (locs : List Loc) (ls : Array Slot), Rel Se Sx Sw Ss Sy Sz Sc ro Sg Sp Sm → va_P D vwCl (wL cI cZ cO jhe hb ab sl hh aa jhm jam Se Sx Sl Sw Ss Sd Sy Sz Sc ro Sr Sg Sp Sm) H → va_D (fun q : Nat => s.heap.size ≤ q) (wL cI cZ cO jhe hb ab sl hh aa jhm jam Se Sx Sl Sw Ss Sd Sy Sz Sc ro Sr Sg Sp Sm) → va_S (fun q : Nat => s.heap.size ≤ q) s.heap H locs → lv_has ls 4 [(0, .ref b), (1, .ref jhe), (2, .ref jhm), (3, .int k)] → W p l e room_1 s m #[Value.ref b] below meth c H locs 128 3705 (lw_Z below #[Value.ref b] s) (F0 m 881 ls [])) : ∀ (Se Sx Sl Sw Ss Sd Sy Sz Sc : Bk) (ro : Nat) (Sr Sg : Bk) (Sp : Nat → Bk) (Sm : Bk) (H : Heap) (locs : List Loc) (ls : Array Slot), Rel Se Sx Sw Ss Sy Sz Sc ro Sg Sp Sm → va_P D vwCl (wL cI cZ cO jhe hb ab sl hh aa jhm jam Se Sx Sl Sw Ss Sd Sy Sz Sc ro Sr Sg Sp Sm) H → va_D (fun q : Nat => s.heap.size ≤ q) (wL cI cZ cO jhe hb ab sl hh aa jhm jam Se Sx Sl Sw Ss Sd Sy Sz Sc ro Sr Sg Sp Sm) → va_S (fun q : Nat => s.heap.size ≤ q) s.heap H locs → lv_has ls 4 [(0, .ref b), (1, .ref jhe), (2, .ref jhm), (3, .int k)] → W p l e room_1 s m #[Value.ref b] below meth c H locs 128 3705 (lw_Z below #[Value.ref b] s) (F0 m 390 ls []) := by
  obtain ⟨hx, hbc, hr, hml, hown, hts, hX, hbl, hlocks, hgv⟩ := C0
  have ht : ∀ w ∈ wT, w.before #[Value.ref b] s = true := fun w h => hts w (wT_in h)
  have hown : s.vm.findClass "EyeDrinkLaw" = some m.cls := hown
  have hbc : c.code = cL_law := hbc
  have hC : CallFix p m c cL_law 4 s #[Value.ref b] wT "EyeDrinkLaw" := ⟨hx, hbc, hml, hown, ht⟩
  have hA : ∀ q : Nat, s.heap.size ≤ q → (fun q : Nat => s.heap.size ≤ q) q := fun _ h => h
  have hbA : ¬ (fun q : Nat => s.heap.size ≤ q) b := Nat.not_le.mpr hbl
  have hx1 : vp_in (k + (1 : Int32)) L := lawX hk 1 (by omega) hL
  have hx2 : vp_in (k + (2 : Int32)) L := lawX hk 2 (by omega) hL
  have hx3 : vp_in (k + (3 : Int32)) L := lawX hk 3 (by omega) hL
  have hx4 : vp_in (k + (4 : Int32)) L := lawX hk 4 (by omega) hL
  intro Se Sx Sl Sw Ss Sd Sy Sz Sc ro Sr Sg Sp Sm H locs ls hR hP hD hS hl
  refine lv_aload_n hx hbc dL_law_390 rfl (lv_at hl 1 rfl) ?_
  obtain ⟨u7, u8, e7, e8, er, hR⟩ := st_day hR
  refine eX7_day (rest := []) cI cZ cO jhe hb ab sl hh aa jhm jam Se Sx Sl Sw Ss Sd Sy Sz Sc ro Sr Sg Sp Sm  u7 e7 hC wd2_194 ⟨Nat.le_of_ble_eq_true rfl, Nat.le_of_ble_eq_true rfl⟩ hP hD hK hZ hS hA hl.1 (Nat.le_of_ble_eq_true rfl) ⟨Nat.le_of_ble_eq_true rfl, Nat.le_of_ble_eq_true rfl⟩ dL_law_391 (fun H locs hP hD hS => ?_)
  refine lv_aload_n hx hbc dL_law_394 rfl (lv_at hl 2 rfl) ?_
  refine eX8_day (rest := [.int u7.1]) cI cZ cO jhe hb ab sl hh aa jhm jam Se Sx Sl Sw u7.2.1 Sd Sy Sz u7.2.2.1 u7.2.2.2.1 Sr Sg u7.2.2.2.2 Sm  u8 e8 hC wd4_152 ⟨Nat.le_of_ble_eq_true rfl, Nat.le_of_ble_eq_true rfl⟩ hP hD hK hZ hS hA hl.1 (Nat.le_of_ble_eq_true rfl) ⟨Nat.le_of_ble_eq_true rfl, Nat.le_of_ble_eq_true rfl⟩ dL_law_395 (fun H locs hP hD hS => ?_)
  refine lv_icmp_eq (tgt := 881) hx hbc dL_law_398 (by decide) (fun _ => ?_) (fun c9 => absurd er c9)
  exact hnext _ _ _ _ _ _ _ _ _ _ _ _ _ _ _ _ _ hR hP hD hS hl
set_option maxHeartbeats 4000000 in
set_option maxRecDepth 100000 in
theorem law_c11 {p : Program} {l : Launch} {e : Env} {s : State} {m : MethodId} {below : List Frame} {meth : Method} {c : Code} {D : va_G} {b L : Nat} {xs : Nat → Int32} (hL : L ≤ 2560) (C0 : lw_At p s m meth c b L xs) (hZ : Zs (fun q : Nat => s.heap.size ≤ q) s s.heap) (cI cZ cO : ClassId) (jhe : Nat) (hb : Nat → Nat) (ab : Nat → Nat → Nat) (sl hh : Nat → Nat) (aa : Nat → Nat → Nat) (jhm : Nat) (jam : Nat → Nat) (hK : va_K D vwCl (tyL cI cZ cO) s) {i : Nat} {k : Int32} (hk : k = nI i) (hi : i + 5 ≤ L)
    (hnext : ∀ (Se Sx Sl Sw Ss Sd Sy Sz Sc : Bk) (ro : Nat) (Sr Sg : Bk) (Sp : Nat → Bk) (Sm : Bk) (H : Heap) (locs : List Loc) (ls : Array Slot), Rel Se Sx Sw Ss Sy Sz Sc ro Sg Sp Sm → va_P D vwCl (wL cI cZ cO jhe hb ab sl hh aa jhm jam Se Sx Sl Sw Ss Sd Sy Sz Sc ro Sr Sg Sp Sm) H → va_D (fun q : Nat => s.heap.size ≤ q) (wL cI cZ cO jhe hb ab sl hh aa jhm jam Se Sx Sl Sw Ss Sd Sy Sz Sc ro Sr Sg Sp Sm) → va_S (fun q : Nat => s.heap.size ≤ q) s.heap H locs → lv_has ls 4 [(0, .ref b), (1, .ref jhe), (2, .ref jhm), (3, .int k)] → W p l e room_1 s m #[Value.ref b] below meth c H locs 128 3705 (lw_Z below #[Value.ref b] s) (F0 m 881 ls [])) : ∀ (Se Sx Sl Sw Ss Sd Sy Sz Sc : Bk) (ro : Nat) (Sr Sg : Bk) (Sp : Nat → Bk) (Sm : Bk) (H : Heap) (locs : List Loc) (ls : Array Slot), Rel Se Sx Sw Ss Sy Sz Sc ro Sg Sp Sm → va_P D vwCl (wL cI cZ cO jhe hb ab sl hh aa jhm jam Se Sx Sl Sw Ss Sd Sy Sz Sc ro Sr Sg Sp Sm) H → va_D (fun q : Nat => s.heap.size ≤ q) (wL cI cZ cO jhe hb ab sl hh aa jhm jam Se Sx Sl Sw Ss Sd Sy Sz Sc ro Sr Sg Sp Sm) → va_S (fun q : Nat => s.heap.size ≤ q) s.heap H locs → lv_has ls 4 [(0, .ref b), (1, .ref jhe), (2, .ref jhm), (3, .int k)] → W p l e room_1 s m #[Value.ref b] below meth c H locs 128 3705 (lw_Z below #[Value.ref b] s) (F0 m 403 ls []) := by
  obtain ⟨hx, hbc, hr, hml, hown, hts, hX, hbl, hlocks, hgv⟩ := C0
  have ht : ∀ w ∈ wT, w.before #[Value.ref b] s = true := fun w h => hts w (wT_in h)
  have hown : s.vm.findClass "EyeDrinkLaw" = some m.cls := hown
  have hbc : c.code = cL_law := hbc
  have hC : CallFix p m c cL_law 4 s #[Value.ref b] wT "EyeDrinkLaw" := ⟨hx, hbc, hml, hown, ht⟩
  have hA : ∀ q : Nat, s.heap.size ≤ q → (fun q : Nat => s.heap.size ≤ q) q := fun _ h => h
  have hbA : ¬ (fun q : Nat => s.heap.size ≤ q) b := Nat.not_le.mpr hbl
  have hx1 : vp_in (k + (1 : Int32)) L := lawX hk 1 (by omega) hL
  have hx2 : vp_in (k + (2 : Int32)) L := lawX hk 2 (by omega) hL
  have hx3 : vp_in (k + (3 : Int32)) L := lawX hk 3 (by omega) hL
  have hx4 : vp_in (k + (4 : Int32)) L := lawX hk 4 (by omega) hL
  intro Se Sx Sl Sw Ss Sd Sy Sz Sc ro Sr Sg Sp Sm H locs ls hR hP hD hS hl
  refine lv_aload_n hx hbc dL_law_403 rfl (lv_at hl 1 rfl) ?_
  obtain ⟨u7, u8, e7, e8, er, hR⟩ := st_undo hR
  refine eX7_undo (rest := []) cI cZ cO jhe hb ab sl hh aa jhm jam Se Sx Sl Sw Ss Sd Sy Sz Sc ro Sr Sg Sp Sm  u7 e7 hC wd2_205 ⟨Nat.le_of_ble_eq_true rfl, Nat.le_of_ble_eq_true rfl⟩ hP hD hK hZ hS hA hl.1 (Nat.le_of_ble_eq_true rfl) ⟨Nat.le_of_ble_eq_true rfl, Nat.le_of_ble_eq_true rfl⟩ dL_law_404 (fun H locs hP hD hS => ?_)
  refine lv_aload_n hx hbc dL_law_407 rfl (lv_at hl 2 rfl) ?_
  refine eX8_undo (rest := [.int u7.1]) cI cZ cO jhe hb ab sl hh aa jhm jam Se Sx Sl Sw u7.2.1 Sd Sy Sz u7.2.2 ro Sr Sg Sp Sm  u8 e8 hC wd4_160 ⟨Nat.le_of_ble_eq_true rfl, Nat.le_of_ble_eq_true rfl⟩ hP hD hK hZ hS hA hl.1 (Nat.le_of_ble_eq_true rfl) ⟨Nat.le_of_ble_eq_true rfl, Nat.le_of_ble_eq_true rfl⟩ dL_law_408 (fun H locs hP hD hS => ?_)
  refine lv_icmp_eq (tgt := 881) hx hbc dL_law_411 (by decide) (fun _ => ?_) (fun c9 => absurd er c9)
  exact hnext _ _ _ _ _ _ _ _ _ _ _ _ _ _ _ _ _ hR hP hD hS hl
set_option maxHeartbeats 4000000 in
set_option maxRecDepth 100000 in
theorem law_c12 {p : Program} {l : Launch} {e : Env} {s : State} {m : MethodId} {below : List Frame} {meth : Method} {c : Code} {D : va_G} {b L : Nat} {xs : Nat → Int32} (hL : L ≤ 2560) (C0 : lw_At p s m meth c b L xs) (hZ : Zs (fun q : Nat => s.heap.size ≤ q) s s.heap) (cI cZ cO : ClassId) (jhe : Nat) (hb : Nat → Nat) (ab : Nat → Nat → Nat) (sl hh : Nat → Nat) (aa : Nat → Nat → Nat) (jhm : Nat) (jam : Nat → Nat) (hK : va_K D vwCl (tyL cI cZ cO) s) {i : Nat} {k : Int32} (hk : k = nI i) (hi : i + 5 ≤ L)
    (hnext : ∀ (Se Sx Sl Sw Ss Sd Sy Sz Sc : Bk) (ro : Nat) (Sr Sg : Bk) (Sp : Nat → Bk) (Sm : Bk) (H : Heap) (locs : List Loc) (ls : Array Slot), Rel Se Sx Sw Ss Sy Sz Sc ro Sg Sp Sm → va_P D vwCl (wL cI cZ cO jhe hb ab sl hh aa jhm jam Se Sx Sl Sw Ss Sd Sy Sz Sc ro Sr Sg Sp Sm) H → va_D (fun q : Nat => s.heap.size ≤ q) (wL cI cZ cO jhe hb ab sl hh aa jhm jam Se Sx Sl Sw Ss Sd Sy Sz Sc ro Sr Sg Sp Sm) → va_S (fun q : Nat => s.heap.size ≤ q) s.heap H locs → lv_has ls 4 [(0, .ref b), (1, .ref jhe), (2, .ref jhm), (3, .int k)] → W p l e room_1 s m #[Value.ref b] below meth c H locs 128 3705 (lw_Z below #[Value.ref b] s) (F0 m 881 ls [])) : ∀ (Se Sx Sl Sw Ss Sd Sy Sz Sc : Bk) (ro : Nat) (Sr Sg : Bk) (Sp : Nat → Bk) (Sm : Bk) (H : Heap) (locs : List Loc) (ls : Array Slot), Rel Se Sx Sw Ss Sy Sz Sc ro Sg Sp Sm → va_P D vwCl (wL cI cZ cO jhe hb ab sl hh aa jhm jam Se Sx Sl Sw Ss Sd Sy Sz Sc ro Sr Sg Sp Sm) H → va_D (fun q : Nat => s.heap.size ≤ q) (wL cI cZ cO jhe hb ab sl hh aa jhm jam Se Sx Sl Sw Ss Sd Sy Sz Sc ro Sr Sg Sp Sm) → va_S (fun q : Nat => s.heap.size ≤ q) s.heap H locs → lv_has ls 4 [(0, .ref b), (1, .ref jhe), (2, .ref jhm), (3, .int k)] → W p l e room_1 s m #[Value.ref b] below meth c H locs 128 3705 (lw_Z below #[Value.ref b] s) (F0 m 416 ls []) := by
  obtain ⟨hx, hbc, hr, hml, hown, hts, hX, hbl, hlocks, hgv⟩ := C0
  have ht : ∀ w ∈ wT, w.before #[Value.ref b] s = true := fun w h => hts w (wT_in h)
  have hown : s.vm.findClass "EyeDrinkLaw" = some m.cls := hown
  have hbc : c.code = cL_law := hbc
  have hC : CallFix p m c cL_law 4 s #[Value.ref b] wT "EyeDrinkLaw" := ⟨hx, hbc, hml, hown, ht⟩
  have hA : ∀ q : Nat, s.heap.size ≤ q → (fun q : Nat => s.heap.size ≤ q) q := fun _ h => h
  have hbA : ¬ (fun q : Nat => s.heap.size ≤ q) b := Nat.not_le.mpr hbl
  have hx1 : vp_in (k + (1 : Int32)) L := lawX hk 1 (by omega) hL
  have hx2 : vp_in (k + (2 : Int32)) L := lawX hk 2 (by omega) hL
  have hx3 : vp_in (k + (3 : Int32)) L := lawX hk 3 (by omega) hL
  have hx4 : vp_in (k + (4 : Int32)) L := lawX hk 4 (by omega) hL
  intro Se Sx Sl Sw Ss Sd Sy Sz Sc ro Sr Sg Sp Sm H locs ls hR hP hD hS hl
  refine lv_aload_n hx hbc dL_law_416 rfl (lv_at hl 1 rfl) ?_
  refine lv_aload_n hx hbc dL_law_417 rfl (lv_at hl 0 rfl) ?_
  refine lv_iload_n hx hbc dL_law_418 rfl (lv_at hl 3 rfl) ?_
  refine lv_iconst (v := (1 : Int32)) hx hbc dL_law_419 rfl ?_
  refine lv_iadd hx hbc dL_law_420 ?_
  refine va_sld hx hbc hX hbl hbA hS hx1 dL_law_421 ?_
  obtain ⟨u7, u8, e7, e8, er, hR⟩ := st_can hR (xs (k + (1 : Int32)).toNatClampNeg)
  refine eX7_can (rest := []) cI cZ cO jhe hb ab sl hh aa jhm jam Se Sx Sl Sw Ss Sd Sy Sz Sc ro Sr Sg Sp Sm (xs (k + (1 : Int32)).toNatClampNeg) u7 e7 hC wd2_213 ⟨Nat.le_of_ble_eq_true rfl, Nat.le_of_ble_eq_true rfl⟩ hP hD hK hZ hS hA hl.1 (Nat.le_of_ble_eq_true rfl) ⟨Nat.le_of_ble_eq_true rfl, Nat.le_of_ble_eq_true rfl⟩ dL_law_422 ?_
  refine lv_aload_n hx hbc dL_law_425 rfl (lv_at hl 2 rfl) ?_
  refine lv_aload_n hx hbc dL_law_426 rfl (lv_at hl 0 rfl) ?_
  refine lv_iload_n hx hbc dL_law_427 rfl (lv_at hl 3 rfl) ?_
  refine lv_iconst (v := (1 : Int32)) hx hbc dL_law_428 rfl ?_
  refine lv_iadd hx hbc dL_law_429 ?_
  refine va_sld hx hbc hX hbl hbA hS hx1 dL_law_430 ?_
  refine eX8_can (rest := [.int u7]) cI cZ cO jhe hb ab sl hh aa jhm jam Se Sx Sl Sw Ss Sd Sy Sz Sc ro Sr Sg Sp Sm (xs (k + (1 : Int32)).toNatClampNeg) u8 e8 hC wd4_164 ⟨Nat.le_of_ble_eq_true rfl, Nat.le_of_ble_eq_true rfl⟩ hP hD hK hZ hS hA hl.1 (Nat.le_of_ble_eq_true rfl) ⟨Nat.le_of_ble_eq_true rfl, Nat.le_of_ble_eq_true rfl⟩ dL_law_431 (fun H locs hP hD hS => ?_)
  refine lv_icmp_eq (tgt := 881) hx hbc dL_law_434 (by decide) (fun _ => ?_) (fun c9 => absurd er c9)
  exact hnext _ _ _ _ _ _ _ _ _ _ _ _ _ _ _ _ _ hR hP hD hS hl
set_option maxHeartbeats 4000000 in
set_option maxRecDepth 100000 in
theorem law_c13 {p : Program} {l : Launch} {e : Env} {s : State} {m : MethodId} {below : List Frame} {meth : Method} {c : Code} {D : va_G} {b L : Nat} {xs : Nat → Int32} (hL : L ≤ 2560) (C0 : lw_At p s m meth c b L xs) (hZ : Zs (fun q : Nat => s.heap.size ≤ q) s s.heap) (cI cZ cO : ClassId) (jhe : Nat) (hb : Nat → Nat) (ab : Nat → Nat → Nat) (sl hh : Nat → Nat) (aa : Nat → Nat → Nat) (jhm : Nat) (jam : Nat → Nat) (hK : va_K D vwCl (tyL cI cZ cO) s) {i : Nat} {k : Int32} (hk : k = nI i) (hi : i + 5 ≤ L)
    (hnext : ∀ (Se Sx Sl Sw Ss Sd Sy Sz Sc : Bk) (ro : Nat) (Sr Sg : Bk) (Sp : Nat → Bk) (Sm : Bk) (H : Heap) (locs : List Loc) (ls : Array Slot), Rel Se Sx Sw Ss Sy Sz Sc ro Sg Sp Sm → va_P D vwCl (wL cI cZ cO jhe hb ab sl hh aa jhm jam Se Sx Sl Sw Ss Sd Sy Sz Sc ro Sr Sg Sp Sm) H → va_D (fun q : Nat => s.heap.size ≤ q) (wL cI cZ cO jhe hb ab sl hh aa jhm jam Se Sx Sl Sw Ss Sd Sy Sz Sc ro Sr Sg Sp Sm) → va_S (fun q : Nat => s.heap.size ≤ q) s.heap H locs → lv_has ls 4 [(0, .ref b), (1, .ref jhe), (2, .ref jhm), (3, .int k)] → W p l e room_1 s m #[Value.ref b] below meth c H locs 128 3705 (lw_Z below #[Value.ref b] s) (F0 m 881 ls [])) : ∀ (Se Sx Sl Sw Ss Sd Sy Sz Sc : Bk) (ro : Nat) (Sr Sg : Bk) (Sp : Nat → Bk) (Sm : Bk) (H : Heap) (locs : List Loc) (ls : Array Slot), Rel Se Sx Sw Ss Sy Sz Sc ro Sg Sp Sm → va_P D vwCl (wL cI cZ cO jhe hb ab sl hh aa jhm jam Se Sx Sl Sw Ss Sd Sy Sz Sc ro Sr Sg Sp Sm) H → va_D (fun q : Nat => s.heap.size ≤ q) (wL cI cZ cO jhe hb ab sl hh aa jhm jam Se Sx Sl Sw Ss Sd Sy Sz Sc ro Sr Sg Sp Sm) → va_S (fun q : Nat => s.heap.size ≤ q) s.heap H locs → lv_has ls 4 [(0, .ref b), (1, .ref jhe), (2, .ref jhm), (3, .int k)] → W p l e room_1 s m #[Value.ref b] below meth c H locs 128 3705 (lw_Z below #[Value.ref b] s) (F0 m 439 ls []) := by
  obtain ⟨hx, hbc, hr, hml, hown, hts, hX, hbl, hlocks, hgv⟩ := C0
  have ht : ∀ w ∈ wT, w.before #[Value.ref b] s = true := fun w h => hts w (wT_in h)
  have hown : s.vm.findClass "EyeDrinkLaw" = some m.cls := hown
  have hbc : c.code = cL_law := hbc
  have hC : CallFix p m c cL_law 4 s #[Value.ref b] wT "EyeDrinkLaw" := ⟨hx, hbc, hml, hown, ht⟩
  have hA : ∀ q : Nat, s.heap.size ≤ q → (fun q : Nat => s.heap.size ≤ q) q := fun _ h => h
  have hbA : ¬ (fun q : Nat => s.heap.size ≤ q) b := Nat.not_le.mpr hbl
  have hx1 : vp_in (k + (1 : Int32)) L := lawX hk 1 (by omega) hL
  have hx2 : vp_in (k + (2 : Int32)) L := lawX hk 2 (by omega) hL
  have hx3 : vp_in (k + (3 : Int32)) L := lawX hk 3 (by omega) hL
  have hx4 : vp_in (k + (4 : Int32)) L := lawX hk 4 (by omega) hL
  intro Se Sx Sl Sw Ss Sd Sy Sz Sc ro Sr Sg Sp Sm H locs ls hR hP hD hS hl
  refine lv_aload_n hx hbc dL_law_439 rfl (lv_at hl 1 rfl) ?_
  refine lv_aload_n hx hbc dL_law_440 rfl (lv_at hl 0 rfl) ?_
  refine lv_iload_n hx hbc dL_law_441 rfl (lv_at hl 3 rfl) ?_
  refine lv_iconst (v := (1 : Int32)) hx hbc dL_law_442 rfl ?_
  refine lv_iadd hx hbc dL_law_443 ?_
  refine va_sld hx hbc hX hbl hbA hS hx1 dL_law_444 ?_
  obtain ⟨u7, u8, e7, e8, er, hR⟩ := st_mean Sr hR (xs (k + (1 : Int32)).toNatClampNeg)
  refine eX7_mean (rest := []) cI cZ cO jhe hb ab sl hh aa jhm jam Se Sx Sl Sw Ss Sd Sy Sz Sc ro Sr Sg Sp Sm (xs (k + (1 : Int32)).toNatClampNeg) u7 e7 hC wd2_227 ⟨Nat.le_of_ble_eq_true rfl, Nat.le_of_ble_eq_true rfl⟩ hP hD hK hZ hS hA hl.1 (Nat.le_of_ble_eq_true rfl) ⟨Nat.le_of_ble_eq_true rfl, Nat.le_of_ble_eq_true rfl⟩ dL_law_445 (fun H locs hP hD hS => ?_)
  refine lv_aload_n hx hbc dL_law_448 rfl (lv_at hl 2 rfl) ?_
  refine lv_aload_n hx hbc dL_law_449 rfl (lv_at hl 0 rfl) ?_
  refine lv_iload_n hx hbc dL_law_450 rfl (lv_at hl 3 rfl) ?_
  refine lv_iconst (v := (1 : Int32)) hx hbc dL_law_451 rfl ?_
  refine lv_iadd hx hbc dL_law_452 ?_
  refine va_sld hx hbc hX hbl hbA hS hx1 dL_law_453 ?_
  refine eX8_mean (rest := [.int u7.1]) cI cZ cO jhe hb ab sl hh aa jhm jam Se Sx Sl Sw Ss Sd Sy Sz Sc ro (bA (bA (bA (bO Sr u7.2) 2 (u7.2.2.1 2)) 3 (u7.2.2.1 3)) 4 (u7.2.2.1 4)) Sg Sp Sm (xs (k + (1 : Int32)).toNatClampNeg) u8 e8 hC wd4_172 ⟨Nat.le_of_ble_eq_true rfl, Nat.le_of_ble_eq_true rfl⟩ hP hD hK hZ hS hA hl.1 (Nat.le_of_ble_eq_true rfl) ⟨Nat.le_of_ble_eq_true rfl, Nat.le_of_ble_eq_true rfl⟩ dL_law_454 (fun H locs hP hD hS => ?_)
  refine lv_icmp_eq (tgt := 881) hx hbc dL_law_457 (by decide) (fun _ => ?_) (fun c9 => absurd er c9)
  exact hnext _ _ _ _ _ _ _ _ _ _ _ _ _ _ _ _ _ hR hP hD hS hl
set_option maxHeartbeats 4000000 in
set_option maxRecDepth 100000 in
theorem law_c14 {p : Program} {l : Launch} {e : Env} {s : State} {m : MethodId} {below : List Frame} {meth : Method} {c : Code} {D : va_G} {b L : Nat} {xs : Nat → Int32} (hL : L ≤ 2560) (C0 : lw_At p s m meth c b L xs) (hZ : Zs (fun q : Nat => s.heap.size ≤ q) s s.heap) (cI cZ cO : ClassId) (jhe : Nat) (hb : Nat → Nat) (ab : Nat → Nat → Nat) (sl hh : Nat → Nat) (aa : Nat → Nat → Nat) (jhm : Nat) (jam : Nat → Nat) (hK : va_K D vwCl (tyL cI cZ cO) s) {i : Nat} {k : Int32} (hk : k = nI i) (hi : i + 5 ≤ L)
    (hnext : ∀ (Se Sx Sl Sw Ss Sd Sy Sz Sc : Bk) (ro : Nat) (Sr Sg : Bk) (Sp : Nat → Bk) (Sm : Bk) (H : Heap) (locs : List Loc) (ls : Array Slot), Rel Se Sx Sw Ss Sy Sz Sc ro Sg Sp Sm → va_P D vwCl (wL cI cZ cO jhe hb ab sl hh aa jhm jam Se Sx Sl Sw Ss Sd Sy Sz Sc ro Sr Sg Sp Sm) H → va_D (fun q : Nat => s.heap.size ≤ q) (wL cI cZ cO jhe hb ab sl hh aa jhm jam Se Sx Sl Sw Ss Sd Sy Sz Sc ro Sr Sg Sp Sm) → va_S (fun q : Nat => s.heap.size ≤ q) s.heap H locs → lv_has ls 4 [(0, .ref b), (1, .ref jhe), (2, .ref jhm), (3, .int k)] → W p l e room_1 s m #[Value.ref b] below meth c H locs 128 3705 (lw_Z below #[Value.ref b] s) (F0 m 881 ls [])) : ∀ (Se Sx Sl Sw Ss Sd Sy Sz Sc : Bk) (ro : Nat) (Sr Sg : Bk) (Sp : Nat → Bk) (Sm : Bk) (H : Heap) (locs : List Loc) (ls : Array Slot), Rel Se Sx Sw Ss Sy Sz Sc ro Sg Sp Sm → va_P D vwCl (wL cI cZ cO jhe hb ab sl hh aa jhm jam Se Sx Sl Sw Ss Sd Sy Sz Sc ro Sr Sg Sp Sm) H → va_D (fun q : Nat => s.heap.size ≤ q) (wL cI cZ cO jhe hb ab sl hh aa jhm jam Se Sx Sl Sw Ss Sd Sy Sz Sc ro Sr Sg Sp Sm) → va_S (fun q : Nat => s.heap.size ≤ q) s.heap H locs → lv_has ls 4 [(0, .ref b), (1, .ref jhe), (2, .ref jhm), (3, .int k)] → W p l e room_1 s m #[Value.ref b] below meth c H locs 128 3705 (lw_Z below #[Value.ref b] s) (F0 m 462 ls []) := by
  obtain ⟨hx, hbc, hr, hml, hown, hts, hX, hbl, hlocks, hgv⟩ := C0
  have ht : ∀ w ∈ wT, w.before #[Value.ref b] s = true := fun w h => hts w (wT_in h)
  have hown : s.vm.findClass "EyeDrinkLaw" = some m.cls := hown
  have hbc : c.code = cL_law := hbc
  have hC : CallFix p m c cL_law 4 s #[Value.ref b] wT "EyeDrinkLaw" := ⟨hx, hbc, hml, hown, ht⟩
  have hA : ∀ q : Nat, s.heap.size ≤ q → (fun q : Nat => s.heap.size ≤ q) q := fun _ h => h
  have hbA : ¬ (fun q : Nat => s.heap.size ≤ q) b := Nat.not_le.mpr hbl
  have hx1 : vp_in (k + (1 : Int32)) L := lawX hk 1 (by omega) hL
  have hx2 : vp_in (k + (2 : Int32)) L := lawX hk 2 (by omega) hL
  have hx3 : vp_in (k + (3 : Int32)) L := lawX hk 3 (by omega) hL
  have hx4 : vp_in (k + (4 : Int32)) L := lawX hk 4 (by omega) hL
  intro Se Sx Sl Sw Ss Sd Sy Sz Sc ro Sr Sg Sp Sm H locs ls hR hP hD hS hl
  refine lv_aload_n hx hbc dL_law_462 rfl (lv_at hl 1 rfl) ?_
  refine lv_aload_n hx hbc dL_law_463 rfl (lv_at hl 0 rfl) ?_
  refine lv_iload_n hx hbc dL_law_464 rfl (lv_at hl 3 rfl) ?_
  refine lv_iconst (v := (1 : Int32)) hx hbc dL_law_465 rfl ?_
  refine lv_iadd hx hbc dL_law_466 ?_
  refine va_sld hx hbc hX hbl hbA hS hx1 dL_law_467 ?_
  obtain ⟨u7, u8, e7, e8, er, hR⟩ := st_worst Sr hR (xs (k + (1 : Int32)).toNatClampNeg)
  refine eX7_worst (rest := []) cI cZ cO jhe hb ab sl hh aa jhm jam Se Sx Sl Sw Ss Sd Sy Sz Sc ro Sr Sg Sp Sm (xs (k + (1 : Int32)).toNatClampNeg) u7 e7 hC wd3_50 ⟨Nat.le_of_ble_eq_true rfl, Nat.le_of_ble_eq_true rfl⟩ hP hD hK hZ hS hA hl.1 (Nat.le_of_ble_eq_true rfl) ⟨Nat.le_of_ble_eq_true rfl, Nat.le_of_ble_eq_true rfl⟩ dL_law_468 (fun H locs hP hD hS => ?_)
  refine lv_aload_n hx hbc dL_law_471 rfl (lv_at hl 2 rfl) ?_
  refine lv_aload_n hx hbc dL_law_472 rfl (lv_at hl 0 rfl) ?_
  refine lv_iload_n hx hbc dL_law_473 rfl (lv_at hl 3 rfl) ?_
  refine lv_iconst (v := (1 : Int32)) hx hbc dL_law_474 rfl ?_
  refine lv_iadd hx hbc dL_law_475 ?_
  refine va_sld hx hbc hX hbl hbA hS hx1 dL_law_476 ?_
  refine eX8_worst (rest := [.int u7.1]) cI cZ cO jhe hb ab sl hh aa jhm jam Se Sx Sl Sw Ss Sd Sy Sz Sc ro (bA (bA (bA (bO Sr u7.2) 2 (u7.2.2.1 2)) 3 (u7.2.2.1 3)) 4 (u7.2.2.1 4)) Sg Sp Sm (xs (k + (1 : Int32)).toNatClampNeg) u8 e8 hC wd4_232 ⟨Nat.le_of_ble_eq_true rfl, Nat.le_of_ble_eq_true rfl⟩ hP hD hK hZ hS hA hl.1 (Nat.le_of_ble_eq_true rfl) ⟨Nat.le_of_ble_eq_true rfl, Nat.le_of_ble_eq_true rfl⟩ dL_law_477 (fun H locs hP hD hS => ?_)
  refine lv_icmp_eq (tgt := 881) hx hbc dL_law_480 (by decide) (fun _ => ?_) (fun c9 => absurd er c9)
  exact hnext _ _ _ _ _ _ _ _ _ _ _ _ _ _ _ _ _ hR hP hD hS hl
set_option maxHeartbeats 4000000 in
set_option maxRecDepth 100000 in
theorem law_c15 {p : Program} {l : Launch} {e : Env} {s : State} {m : MethodId} {below : List Frame} {meth : Method} {c : Code} {D : va_G} {b L : Nat} {xs : Nat → Int32} (hL : L ≤ 2560) (C0 : lw_At p s m meth c b L xs) (hZ : Zs (fun q : Nat => s.heap.size ≤ q) s s.heap) (cI cZ cO : ClassId) (jhe : Nat) (hb : Nat → Nat) (ab : Nat → Nat → Nat) (sl hh : Nat → Nat) (aa : Nat → Nat → Nat) (jhm : Nat) (jam : Nat → Nat) (hK : va_K D vwCl (tyL cI cZ cO) s) {i : Nat} {k : Int32} (hk : k = nI i) (hi : i + 5 ≤ L)
    (hnext : ∀ (Se Sx Sl Sw Ss Sd Sy Sz Sc : Bk) (ro : Nat) (Sr Sg : Bk) (Sp : Nat → Bk) (Sm : Bk) (H : Heap) (locs : List Loc) (ls : Array Slot), Rel Se Sx Sw Ss Sy Sz Sc ro Sg Sp Sm → va_P D vwCl (wL cI cZ cO jhe hb ab sl hh aa jhm jam Se Sx Sl Sw Ss Sd Sy Sz Sc ro Sr Sg Sp Sm) H → va_D (fun q : Nat => s.heap.size ≤ q) (wL cI cZ cO jhe hb ab sl hh aa jhm jam Se Sx Sl Sw Ss Sd Sy Sz Sc ro Sr Sg Sp Sm) → va_S (fun q : Nat => s.heap.size ≤ q) s.heap H locs → lv_has ls 4 [(0, .ref b), (1, .ref jhe), (2, .ref jhm), (3, .int k)] → W p l e room_1 s m #[Value.ref b] below meth c H locs 128 3705 (lw_Z below #[Value.ref b] s) (F0 m 881 ls [])) : ∀ (Se Sx Sl Sw Ss Sd Sy Sz Sc : Bk) (ro : Nat) (Sr Sg : Bk) (Sp : Nat → Bk) (Sm : Bk) (H : Heap) (locs : List Loc) (ls : Array Slot), Rel Se Sx Sw Ss Sy Sz Sc ro Sg Sp Sm → va_P D vwCl (wL cI cZ cO jhe hb ab sl hh aa jhm jam Se Sx Sl Sw Ss Sd Sy Sz Sc ro Sr Sg Sp Sm) H → va_D (fun q : Nat => s.heap.size ≤ q) (wL cI cZ cO jhe hb ab sl hh aa jhm jam Se Sx Sl Sw Ss Sd Sy Sz Sc ro Sr Sg Sp Sm) → va_S (fun q : Nat => s.heap.size ≤ q) s.heap H locs → lv_has ls 4 [(0, .ref b), (1, .ref jhe), (2, .ref jhm), (3, .int k)] → W p l e room_1 s m #[Value.ref b] below meth c H locs 128 3705 (lw_Z below #[Value.ref b] s) (F0 m 485 ls []) := by
  obtain ⟨hx, hbc, hr, hml, hown, hts, hX, hbl, hlocks, hgv⟩ := C0
  have ht : ∀ w ∈ wT, w.before #[Value.ref b] s = true := fun w h => hts w (wT_in h)
  have hown : s.vm.findClass "EyeDrinkLaw" = some m.cls := hown
  have hbc : c.code = cL_law := hbc
  have hC : CallFix p m c cL_law 4 s #[Value.ref b] wT "EyeDrinkLaw" := ⟨hx, hbc, hml, hown, ht⟩
  have hA : ∀ q : Nat, s.heap.size ≤ q → (fun q : Nat => s.heap.size ≤ q) q := fun _ h => h
  have hbA : ¬ (fun q : Nat => s.heap.size ≤ q) b := Nat.not_le.mpr hbl
  have hx1 : vp_in (k + (1 : Int32)) L := lawX hk 1 (by omega) hL
  have hx2 : vp_in (k + (2 : Int32)) L := lawX hk 2 (by omega) hL
  have hx3 : vp_in (k + (3 : Int32)) L := lawX hk 3 (by omega) hL
  have hx4 : vp_in (k + (4 : Int32)) L := lawX hk 4 (by omega) hL
  intro Se Sx Sl Sw Ss Sd Sy Sz Sc ro Sr Sg Sp Sm H locs ls hR hP hD hS hl
  refine lv_aload_n hx hbc dL_law_485 rfl (lv_at hl 1 rfl) ?_
  refine lv_aload_n hx hbc dL_law_486 rfl (lv_at hl 0 rfl) ?_
  refine lv_iload_n hx hbc dL_law_487 rfl (lv_at hl 3 rfl) ?_
  refine lv_iconst (v := (1 : Int32)) hx hbc dL_law_488 rfl ?_
  refine lv_iadd hx hbc dL_law_489 ?_
  refine va_sld hx hbc hX hbl hbA hS hx1 dL_law_490 ?_
  obtain ⟨u7, u8, e7, e8, er, hR⟩ := st_regret Sr hR (xs (k + (1 : Int32)).toNatClampNeg)
  refine eX7_regret (rest := []) cI cZ cO jhe hb ab sl hh aa jhm jam Se Sx Sl Sw Ss Sd Sy Sz Sc ro Sr Sg Sp Sm (xs (k + (1 : Int32)).toNatClampNeg) u7 e7 hC wd3_54 ⟨Nat.le_of_ble_eq_true rfl, Nat.le_of_ble_eq_true rfl⟩ hP hD hK hZ hS hA hl.1 (Nat.le_of_ble_eq_true rfl) ⟨Nat.le_of_ble_eq_true rfl, Nat.le_of_ble_eq_true rfl⟩ dL_law_491 (fun H locs hP hD hS => ?_)
  refine lv_aload_n hx hbc dL_law_494 rfl (lv_at hl 2 rfl) ?_
  refine lv_aload_n hx hbc dL_law_495 rfl (lv_at hl 0 rfl) ?_
  refine lv_iload_n hx hbc dL_law_496 rfl (lv_at hl 3 rfl) ?_
  refine lv_iconst (v := (1 : Int32)) hx hbc dL_law_497 rfl ?_
  refine lv_iadd hx hbc dL_law_498 ?_
  refine va_sld hx hbc hX hbl hbA hS hx1 dL_law_499 ?_
  refine eX8_regret (rest := [.int u7.1]) cI cZ cO jhe hb ab sl hh aa jhm jam Se Sx Sl Sw Ss Sd Sy Sz Sc ro (bA (bA (bA (bO Sr u7.2) 2 (u7.2.2.1 2)) 3 (u7.2.2.1 3)) 4 (u7.2.2.1 4)) Sg Sp Sm (xs (k + (1 : Int32)).toNatClampNeg) u8 e8 hC wd4_236 ⟨Nat.le_of_ble_eq_true rfl, Nat.le_of_ble_eq_true rfl⟩ hP hD hK hZ hS hA hl.1 (Nat.le_of_ble_eq_true rfl) ⟨Nat.le_of_ble_eq_true rfl, Nat.le_of_ble_eq_true rfl⟩ dL_law_500 (fun H locs hP hD hS => ?_)
  refine lv_icmp_eq (tgt := 881) hx hbc dL_law_503 (by decide) (fun _ => ?_) (fun c9 => absurd er c9)
  exact hnext _ _ _ _ _ _ _ _ _ _ _ _ _ _ _ _ _ hR hP hD hS hl
set_option maxHeartbeats 4000000 in
set_option maxRecDepth 100000 in
theorem law_c16 {p : Program} {l : Launch} {e : Env} {s : State} {m : MethodId} {below : List Frame} {meth : Method} {c : Code} {D : va_G} {b L : Nat} {xs : Nat → Int32} (hL : L ≤ 2560) (C0 : lw_At p s m meth c b L xs) (hZ : Zs (fun q : Nat => s.heap.size ≤ q) s s.heap) (cI cZ cO : ClassId) (jhe : Nat) (hb : Nat → Nat) (ab : Nat → Nat → Nat) (sl hh : Nat → Nat) (aa : Nat → Nat → Nat) (jhm : Nat) (jam : Nat → Nat) (hK : va_K D vwCl (tyL cI cZ cO) s) {i : Nat} {k : Int32} (hk : k = nI i) (hi : i + 5 ≤ L)
    (hnext : ∀ (Se Sx Sl Sw Ss Sd Sy Sz Sc : Bk) (ro : Nat) (Sr Sg : Bk) (Sp : Nat → Bk) (Sm : Bk) (H : Heap) (locs : List Loc) (ls : Array Slot), Rel Se Sx Sw Ss Sy Sz Sc ro Sg Sp Sm → va_P D vwCl (wL cI cZ cO jhe hb ab sl hh aa jhm jam Se Sx Sl Sw Ss Sd Sy Sz Sc ro Sr Sg Sp Sm) H → va_D (fun q : Nat => s.heap.size ≤ q) (wL cI cZ cO jhe hb ab sl hh aa jhm jam Se Sx Sl Sw Ss Sd Sy Sz Sc ro Sr Sg Sp Sm) → va_S (fun q : Nat => s.heap.size ≤ q) s.heap H locs → lv_has ls 4 [(0, .ref b), (1, .ref jhe), (2, .ref jhm), (3, .int k)] → W p l e room_1 s m #[Value.ref b] below meth c H locs 128 3705 (lw_Z below #[Value.ref b] s) (F0 m 881 ls [])) : ∀ (Se Sx Sl Sw Ss Sd Sy Sz Sc : Bk) (ro : Nat) (Sr Sg : Bk) (Sp : Nat → Bk) (Sm : Bk) (H : Heap) (locs : List Loc) (ls : Array Slot), Rel Se Sx Sw Ss Sy Sz Sc ro Sg Sp Sm → va_P D vwCl (wL cI cZ cO jhe hb ab sl hh aa jhm jam Se Sx Sl Sw Ss Sd Sy Sz Sc ro Sr Sg Sp Sm) H → va_D (fun q : Nat => s.heap.size ≤ q) (wL cI cZ cO jhe hb ab sl hh aa jhm jam Se Sx Sl Sw Ss Sd Sy Sz Sc ro Sr Sg Sp Sm) → va_S (fun q : Nat => s.heap.size ≤ q) s.heap H locs → lv_has ls 4 [(0, .ref b), (1, .ref jhe), (2, .ref jhm), (3, .int k)] → W p l e room_1 s m #[Value.ref b] below meth c H locs 128 3705 (lw_Z below #[Value.ref b] s) (F0 m 508 ls []) := by
  obtain ⟨hx, hbc, hr, hml, hown, hts, hX, hbl, hlocks, hgv⟩ := C0
  have ht : ∀ w ∈ wT, w.before #[Value.ref b] s = true := fun w h => hts w (wT_in h)
  have hown : s.vm.findClass "EyeDrinkLaw" = some m.cls := hown
  have hbc : c.code = cL_law := hbc
  have hC : CallFix p m c cL_law 4 s #[Value.ref b] wT "EyeDrinkLaw" := ⟨hx, hbc, hml, hown, ht⟩
  have hA : ∀ q : Nat, s.heap.size ≤ q → (fun q : Nat => s.heap.size ≤ q) q := fun _ h => h
  have hbA : ¬ (fun q : Nat => s.heap.size ≤ q) b := Nat.not_le.mpr hbl
  have hx1 : vp_in (k + (1 : Int32)) L := lawX hk 1 (by omega) hL
  have hx2 : vp_in (k + (2 : Int32)) L := lawX hk 2 (by omega) hL
  have hx3 : vp_in (k + (3 : Int32)) L := lawX hk 3 (by omega) hL
  have hx4 : vp_in (k + (4 : Int32)) L := lawX hk 4 (by omega) hL
  intro Se Sx Sl Sw Ss Sd Sy Sz Sc ro Sr Sg Sp Sm H locs ls hR hP hD hS hl
  refine lv_aload_n hx hbc dL_law_508 rfl (lv_at hl 1 rfl) ?_
  obtain ⟨u7, u8, e7, e8, er, hR⟩ := st_never Sr hR
  refine eX7_never (rest := []) cI cZ cO jhe hb ab sl hh aa jhm jam Se Sx Sl Sw Ss Sd Sy Sz Sc ro Sr Sg Sp Sm  u7 e7 hC wd3_60 ⟨Nat.le_of_ble_eq_true rfl, Nat.le_of_ble_eq_true rfl⟩ hP hD hK hZ hS hA hl.1 (Nat.le_of_ble_eq_true rfl) ⟨Nat.le_of_ble_eq_true rfl, Nat.le_of_ble_eq_true rfl⟩ dL_law_509 (fun H locs hP hD hS => ?_)
  refine lv_aload_n hx hbc dL_law_512 rfl (lv_at hl 2 rfl) ?_
  refine eX8_never (rest := [.int u7.1]) cI cZ cO jhe hb ab sl hh aa jhm jam Se Sx Sl Sw Ss Sd Sy Sz Sc ro u7.2 Sg Sp Sm  u8 e8 hC wd5_4 ⟨Nat.le_of_ble_eq_true rfl, Nat.le_of_ble_eq_true rfl⟩ hP hD hK hZ hS hA hl.1 (Nat.le_of_ble_eq_true rfl) ⟨Nat.le_of_ble_eq_true rfl, Nat.le_of_ble_eq_true rfl⟩ dL_law_513 (fun H locs hP hD hS => ?_)
  refine lv_icmp_eq (tgt := 881) hx hbc dL_law_516 (by decide) (fun _ => ?_) (fun c9 => absurd er c9)
  exact hnext _ _ _ _ _ _ _ _ _ _ _ _ _ _ _ _ _ hR hP hD hS hl
set_option maxHeartbeats 4000000 in
set_option maxRecDepth 100000 in
theorem law_c17 {p : Program} {l : Launch} {e : Env} {s : State} {m : MethodId} {below : List Frame} {meth : Method} {c : Code} {D : va_G} {b L : Nat} {xs : Nat → Int32} (hL : L ≤ 2560) (C0 : lw_At p s m meth c b L xs) (hZ : Zs (fun q : Nat => s.heap.size ≤ q) s s.heap) (cI cZ cO : ClassId) (jhe : Nat) (hb : Nat → Nat) (ab : Nat → Nat → Nat) (sl hh : Nat → Nat) (aa : Nat → Nat → Nat) (jhm : Nat) (jam : Nat → Nat) (hK : va_K D vwCl (tyL cI cZ cO) s) {i : Nat} {k : Int32} (hk : k = nI i) (hi : i + 5 ≤ L)
    (hnext : ∀ (Se Sx Sl Sw Ss Sd Sy Sz Sc : Bk) (ro : Nat) (Sr Sg : Bk) (Sp : Nat → Bk) (Sm : Bk) (H : Heap) (locs : List Loc) (ls : Array Slot), Rel Se Sx Sw Ss Sy Sz Sc ro Sg Sp Sm → va_P D vwCl (wL cI cZ cO jhe hb ab sl hh aa jhm jam Se Sx Sl Sw Ss Sd Sy Sz Sc ro Sr Sg Sp Sm) H → va_D (fun q : Nat => s.heap.size ≤ q) (wL cI cZ cO jhe hb ab sl hh aa jhm jam Se Sx Sl Sw Ss Sd Sy Sz Sc ro Sr Sg Sp Sm) → va_S (fun q : Nat => s.heap.size ≤ q) s.heap H locs → lv_has ls 4 [(0, .ref b), (1, .ref jhe), (2, .ref jhm), (3, .int k)] → W p l e room_1 s m #[Value.ref b] below meth c H locs 128 3705 (lw_Z below #[Value.ref b] s) (F0 m 881 ls [])) : ∀ (Se Sx Sl Sw Ss Sd Sy Sz Sc : Bk) (ro : Nat) (Sr Sg : Bk) (Sp : Nat → Bk) (Sm : Bk) (H : Heap) (locs : List Loc) (ls : Array Slot), Rel Se Sx Sw Ss Sy Sz Sc ro Sg Sp Sm → va_P D vwCl (wL cI cZ cO jhe hb ab sl hh aa jhm jam Se Sx Sl Sw Ss Sd Sy Sz Sc ro Sr Sg Sp Sm) H → va_D (fun q : Nat => s.heap.size ≤ q) (wL cI cZ cO jhe hb ab sl hh aa jhm jam Se Sx Sl Sw Ss Sd Sy Sz Sc ro Sr Sg Sp Sm) → va_S (fun q : Nat => s.heap.size ≤ q) s.heap H locs → lv_has ls 4 [(0, .ref b), (1, .ref jhe), (2, .ref jhm), (3, .int k)] → W p l e room_1 s m #[Value.ref b] below meth c H locs 128 3705 (lw_Z below #[Value.ref b] s) (F0 m 521 ls []) := by
  obtain ⟨hx, hbc, hr, hml, hown, hts, hX, hbl, hlocks, hgv⟩ := C0
  have ht : ∀ w ∈ wT, w.before #[Value.ref b] s = true := fun w h => hts w (wT_in h)
  have hown : s.vm.findClass "EyeDrinkLaw" = some m.cls := hown
  have hbc : c.code = cL_law := hbc
  have hC : CallFix p m c cL_law 4 s #[Value.ref b] wT "EyeDrinkLaw" := ⟨hx, hbc, hml, hown, ht⟩
  have hA : ∀ q : Nat, s.heap.size ≤ q → (fun q : Nat => s.heap.size ≤ q) q := fun _ h => h
  have hbA : ¬ (fun q : Nat => s.heap.size ≤ q) b := Nat.not_le.mpr hbl
  have hx1 : vp_in (k + (1 : Int32)) L := lawX hk 1 (by omega) hL
  have hx2 : vp_in (k + (2 : Int32)) L := lawX hk 2 (by omega) hL
  have hx3 : vp_in (k + (3 : Int32)) L := lawX hk 3 (by omega) hL
  have hx4 : vp_in (k + (4 : Int32)) L := lawX hk 4 (by omega) hL
  intro Se Sx Sl Sw Ss Sd Sy Sz Sc ro Sr Sg Sp Sm H locs ls hR hP hD hS hl
  refine lv_aload_n hx hbc dL_law_521 rfl (lv_at hl 1 rfl) ?_
  refine lv_aload_n hx hbc dL_law_522 rfl (lv_at hl 0 rfl) ?_
  refine lv_iload_n hx hbc dL_law_523 rfl (lv_at hl 3 rfl) ?_
  refine lv_iconst (v := (1 : Int32)) hx hbc dL_law_524 rfl ?_
  refine lv_iadd hx hbc dL_law_525 ?_
  refine va_sld hx hbc hX hbl hbA hS hx1 dL_law_526 ?_
  obtain ⟨u7, u8, e7, e8, er, hR⟩ := st_shortFor hR (xs (k + (1 : Int32)).toNatClampNeg)
  refine eX7_shortFor (rest := []) cI cZ cO jhe hb ab sl hh aa jhm jam Se Sx Sl Sw Ss Sd Sy Sz Sc ro Sr Sg Sp Sm (xs (k + (1 : Int32)).toNatClampNeg) u7 e7 hC wd3_70 ⟨Nat.le_of_ble_eq_true rfl, Nat.le_of_ble_eq_true rfl⟩ hP hD hK hZ hS hA hl.1 (Nat.le_of_ble_eq_true rfl) ⟨Nat.le_of_ble_eq_true rfl, Nat.le_of_ble_eq_true rfl⟩ dL_law_527 ?_
  refine lv_aload_n hx hbc dL_law_530 rfl (lv_at hl 2 rfl) ?_
  refine lv_aload_n hx hbc dL_law_531 rfl (lv_at hl 0 rfl) ?_
  refine lv_iload_n hx hbc dL_law_532 rfl (lv_at hl 3 rfl) ?_
  refine lv_iconst (v := (1 : Int32)) hx hbc dL_law_533 rfl ?_
  refine lv_iadd hx hbc dL_law_534 ?_
  refine va_sld hx hbc hX hbl hbA hS hx1 dL_law_535 ?_
  refine eX8_shortFor (rest := [.int u7]) cI cZ cO jhe hb ab sl hh aa jhm jam Se Sx Sl Sw Ss Sd Sy Sz Sc ro Sr Sg Sp Sm (xs (k + (1 : Int32)).toNatClampNeg) u8 e8 hC wd5_8 ⟨Nat.le_of_ble_eq_true rfl, Nat.le_of_ble_eq_true rfl⟩ hP hD hK hZ hS hA hl.1 (Nat.le_of_ble_eq_true rfl) ⟨Nat.le_of_ble_eq_true rfl, Nat.le_of_ble_eq_true rfl⟩ dL_law_536 (fun H locs hP hD hS => ?_)
  refine lv_icmp_eq (tgt := 881) hx hbc dL_law_539 (by decide) (fun _ => ?_) (fun c9 => absurd er c9)
  exact hnext _ _ _ _ _ _ _ _ _ _ _ _ _ _ _ _ _ hR hP hD hS hl
set_option maxHeartbeats 4000000 in
set_option maxRecDepth 100000 in
theorem law_c18 {p : Program} {l : Launch} {e : Env} {s : State} {m : MethodId} {below : List Frame} {meth : Method} {c : Code} {D : va_G} {b L : Nat} {xs : Nat → Int32} (hL : L ≤ 2560) (C0 : lw_At p s m meth c b L xs) (hZ : Zs (fun q : Nat => s.heap.size ≤ q) s s.heap) (cI cZ cO : ClassId) (jhe : Nat) (hb : Nat → Nat) (ab : Nat → Nat → Nat) (sl hh : Nat → Nat) (aa : Nat → Nat → Nat) (jhm : Nat) (jam : Nat → Nat) (hK : va_K D vwCl (tyL cI cZ cO) s) {i : Nat} {k : Int32} (hk : k = nI i) (hi : i + 5 ≤ L)
    (hnext : ∀ (Se Sx Sl Sw Ss Sd Sy Sz Sc : Bk) (ro : Nat) (Sr Sg : Bk) (Sp : Nat → Bk) (Sm : Bk) (H : Heap) (locs : List Loc) (ls : Array Slot), Rel Se Sx Sw Ss Sy Sz Sc ro Sg Sp Sm → va_P D vwCl (wL cI cZ cO jhe hb ab sl hh aa jhm jam Se Sx Sl Sw Ss Sd Sy Sz Sc ro Sr Sg Sp Sm) H → va_D (fun q : Nat => s.heap.size ≤ q) (wL cI cZ cO jhe hb ab sl hh aa jhm jam Se Sx Sl Sw Ss Sd Sy Sz Sc ro Sr Sg Sp Sm) → va_S (fun q : Nat => s.heap.size ≤ q) s.heap H locs → lv_has ls 4 [(0, .ref b), (1, .ref jhe), (2, .ref jhm), (3, .int k)] → W p l e room_1 s m #[Value.ref b] below meth c H locs 128 3705 (lw_Z below #[Value.ref b] s) (F0 m 881 ls [])) : ∀ (Se Sx Sl Sw Ss Sd Sy Sz Sc : Bk) (ro : Nat) (Sr Sg : Bk) (Sp : Nat → Bk) (Sm : Bk) (H : Heap) (locs : List Loc) (ls : Array Slot), Rel Se Sx Sw Ss Sy Sz Sc ro Sg Sp Sm → va_P D vwCl (wL cI cZ cO jhe hb ab sl hh aa jhm jam Se Sx Sl Sw Ss Sd Sy Sz Sc ro Sr Sg Sp Sm) H → va_D (fun q : Nat => s.heap.size ≤ q) (wL cI cZ cO jhe hb ab sl hh aa jhm jam Se Sx Sl Sw Ss Sd Sy Sz Sc ro Sr Sg Sp Sm) → va_S (fun q : Nat => s.heap.size ≤ q) s.heap H locs → lv_has ls 4 [(0, .ref b), (1, .ref jhe), (2, .ref jhm), (3, .int k)] → W p l e room_1 s m #[Value.ref b] below meth c H locs 128 3705 (lw_Z below #[Value.ref b] s) (F0 m 544 ls []) := by
  obtain ⟨hx, hbc, hr, hml, hown, hts, hX, hbl, hlocks, hgv⟩ := C0
  have ht : ∀ w ∈ wT, w.before #[Value.ref b] s = true := fun w h => hts w (wT_in h)
  have hown : s.vm.findClass "EyeDrinkLaw" = some m.cls := hown
  have hbc : c.code = cL_law := hbc
  have hC : CallFix p m c cL_law 4 s #[Value.ref b] wT "EyeDrinkLaw" := ⟨hx, hbc, hml, hown, ht⟩
  have hA : ∀ q : Nat, s.heap.size ≤ q → (fun q : Nat => s.heap.size ≤ q) q := fun _ h => h
  have hbA : ¬ (fun q : Nat => s.heap.size ≤ q) b := Nat.not_le.mpr hbl
  have hx1 : vp_in (k + (1 : Int32)) L := lawX hk 1 (by omega) hL
  have hx2 : vp_in (k + (2 : Int32)) L := lawX hk 2 (by omega) hL
  have hx3 : vp_in (k + (3 : Int32)) L := lawX hk 3 (by omega) hL
  have hx4 : vp_in (k + (4 : Int32)) L := lawX hk 4 (by omega) hL
  intro Se Sx Sl Sw Ss Sd Sy Sz Sc ro Sr Sg Sp Sm H locs ls hR hP hD hS hl
  refine lv_aload_n hx hbc dL_law_544 rfl (lv_at hl 1 rfl) ?_
  refine lv_aload_n hx hbc dL_law_545 rfl (lv_at hl 0 rfl) ?_
  refine lv_iload_n hx hbc dL_law_546 rfl (lv_at hl 3 rfl) ?_
  refine lv_iconst (v := (1 : Int32)) hx hbc dL_law_547 rfl ?_
  refine lv_iadd hx hbc dL_law_548 ?_
  refine va_sld hx hbc hX hbl hbA hS hx1 dL_law_549 ?_
  refine lv_aload_n hx hbc dL_law_550 rfl (lv_at hl 0 rfl) ?_
  refine lv_iload_n hx hbc dL_law_551 rfl (lv_at hl 3 rfl) ?_
  refine lv_iconst (v := (2 : Int32)) hx hbc dL_law_552 rfl ?_
  refine lv_iadd hx hbc dL_law_553 ?_
  refine va_sld hx hbc hX hbl hbA hS hx2 dL_law_554 ?_
  refine lv_aload_n hx hbc dL_law_555 rfl (lv_at hl 0 rfl) ?_
  refine lv_iload_n hx hbc dL_law_556 rfl (lv_at hl 3 rfl) ?_
  refine lv_iconst (v := (3 : Int32)) hx hbc dL_law_557 rfl ?_
  refine lv_iadd hx hbc dL_law_558 ?_
  refine va_sld hx hbc hX hbl hbA hS hx3 dL_law_559 ?_
  refine lv_aload_n hx hbc dL_law_560 rfl (lv_at hl 0 rfl) ?_
  refine lv_iload_n hx hbc dL_law_561 rfl (lv_at hl 3 rfl) ?_
  refine lv_iconst (v := (4 : Int32)) hx hbc dL_law_562 rfl ?_
  refine lv_iadd hx hbc dL_law_563 ?_
  refine va_sld hx hbc hX hbl hbA hS hx4 dL_law_564 ?_
  obtain ⟨u7, u8, e7, e8, er, hR⟩ := st_partners hR (xs (k + (1 : Int32)).toNatClampNeg) (xs (k + (2 : Int32)).toNatClampNeg) (xs (k + (3 : Int32)).toNatClampNeg) (xs (k + (4 : Int32)).toNatClampNeg)
  refine eX7_partners (rest := []) cI cZ cO jhe hb ab sl hh aa jhm jam Se Sx Sl Sw Ss Sd Sy Sz Sc ro Sr Sg Sp Sm (xs (k + (1 : Int32)).toNatClampNeg) (xs (k + (2 : Int32)).toNatClampNeg) (xs (k + (3 : Int32)).toNatClampNeg) (xs (k + (4 : Int32)).toNatClampNeg) u7 e7 hC wd3_78 ⟨Nat.le_of_ble_eq_true rfl, Nat.le_of_ble_eq_true rfl⟩ hP hD hK hZ hS hA hl.1 (Nat.le_of_ble_eq_true rfl) ⟨Nat.le_of_ble_eq_true rfl, Nat.le_of_ble_eq_true rfl⟩ dL_law_565 ?_
  refine lv_aload_n hx hbc dL_law_568 rfl (lv_at hl 2 rfl) ?_
  refine lv_aload_n hx hbc dL_law_569 rfl (lv_at hl 0 rfl) ?_
  refine lv_iload_n hx hbc dL_law_570 rfl (lv_at hl 3 rfl) ?_
  refine lv_iconst (v := (1 : Int32)) hx hbc dL_law_571 rfl ?_
  refine lv_iadd hx hbc dL_law_572 ?_
  refine va_sld hx hbc hX hbl hbA hS hx1 dL_law_573 ?_
  refine lv_aload_n hx hbc dL_law_574 rfl (lv_at hl 0 rfl) ?_
  refine lv_iload_n hx hbc dL_law_575 rfl (lv_at hl 3 rfl) ?_
  refine lv_iconst (v := (2 : Int32)) hx hbc dL_law_576 rfl ?_
  refine lv_iadd hx hbc dL_law_577 ?_
  refine va_sld hx hbc hX hbl hbA hS hx2 dL_law_578 ?_
  refine lv_aload_n hx hbc dL_law_579 rfl (lv_at hl 0 rfl) ?_
  refine lv_iload_n hx hbc dL_law_580 rfl (lv_at hl 3 rfl) ?_
  refine lv_iconst (v := (3 : Int32)) hx hbc dL_law_581 rfl ?_
  refine lv_iadd hx hbc dL_law_582 ?_
  refine va_sld hx hbc hX hbl hbA hS hx3 dL_law_583 ?_
  refine lv_aload_n hx hbc dL_law_584 rfl (lv_at hl 0 rfl) ?_
  refine lv_iload_n hx hbc dL_law_585 rfl (lv_at hl 3 rfl) ?_
  refine lv_iconst (v := (4 : Int32)) hx hbc dL_law_586 rfl ?_
  refine lv_iadd hx hbc dL_law_587 ?_
  refine va_sld hx hbc hX hbl hbA hS hx4 dL_law_588 ?_
  refine eX8_partners (rest := [.int u7]) cI cZ cO jhe hb ab sl hh aa jhm jam Se Sx Sl Sw Ss Sd Sy Sz Sc ro Sr Sg Sp Sm (xs (k + (1 : Int32)).toNatClampNeg) (xs (k + (2 : Int32)).toNatClampNeg) (xs (k + (3 : Int32)).toNatClampNeg) (xs (k + (4 : Int32)).toNatClampNeg) u8 e8 hC wd5_12 ⟨Nat.le_of_ble_eq_true rfl, Nat.le_of_ble_eq_true rfl⟩ hP hD hK hZ hS hA hl.1 (Nat.le_of_ble_eq_true rfl) ⟨Nat.le_of_ble_eq_true rfl, Nat.le_of_ble_eq_true rfl⟩ dL_law_589 (fun H locs hP hD hS => ?_)
  refine lv_icmp_eq (tgt := 881) hx hbc dL_law_592 (by decide) (fun _ => ?_) (fun c9 => absurd er c9)
  exact hnext _ _ _ _ _ _ _ _ _ _ _ _ _ _ _ _ _ hR hP hD hS hl
set_option maxHeartbeats 4000000 in
set_option maxRecDepth 100000 in
theorem law_c19 {p : Program} {l : Launch} {e : Env} {s : State} {m : MethodId} {below : List Frame} {meth : Method} {c : Code} {D : va_G} {b L : Nat} {xs : Nat → Int32} (hL : L ≤ 2560) (C0 : lw_At p s m meth c b L xs) (hZ : Zs (fun q : Nat => s.heap.size ≤ q) s s.heap) (cI cZ cO : ClassId) (jhe : Nat) (hb : Nat → Nat) (ab : Nat → Nat → Nat) (sl hh : Nat → Nat) (aa : Nat → Nat → Nat) (jhm : Nat) (jam : Nat → Nat) (hK : va_K D vwCl (tyL cI cZ cO) s) {i : Nat} {k : Int32} (hk : k = nI i) (hi : i + 5 ≤ L)
    (hnext : ∀ (Se Sx Sl Sw Ss Sd Sy Sz Sc : Bk) (ro : Nat) (Sr Sg : Bk) (Sp : Nat → Bk) (Sm : Bk) (H : Heap) (locs : List Loc) (ls : Array Slot), Rel Se Sx Sw Ss Sy Sz Sc ro Sg Sp Sm → va_P D vwCl (wL cI cZ cO jhe hb ab sl hh aa jhm jam Se Sx Sl Sw Ss Sd Sy Sz Sc ro Sr Sg Sp Sm) H → va_D (fun q : Nat => s.heap.size ≤ q) (wL cI cZ cO jhe hb ab sl hh aa jhm jam Se Sx Sl Sw Ss Sd Sy Sz Sc ro Sr Sg Sp Sm) → va_S (fun q : Nat => s.heap.size ≤ q) s.heap H locs → lv_has ls 4 [(0, .ref b), (1, .ref jhe), (2, .ref jhm), (3, .int k)] → W p l e room_1 s m #[Value.ref b] below meth c H locs 128 3705 (lw_Z below #[Value.ref b] s) (F0 m 881 ls [])) : ∀ (Se Sx Sl Sw Ss Sd Sy Sz Sc : Bk) (ro : Nat) (Sr Sg : Bk) (Sp : Nat → Bk) (Sm : Bk) (H : Heap) (locs : List Loc) (ls : Array Slot), Rel Se Sx Sw Ss Sy Sz Sc ro Sg Sp Sm → va_P D vwCl (wL cI cZ cO jhe hb ab sl hh aa jhm jam Se Sx Sl Sw Ss Sd Sy Sz Sc ro Sr Sg Sp Sm) H → va_D (fun q : Nat => s.heap.size ≤ q) (wL cI cZ cO jhe hb ab sl hh aa jhm jam Se Sx Sl Sw Ss Sd Sy Sz Sc ro Sr Sg Sp Sm) → va_S (fun q : Nat => s.heap.size ≤ q) s.heap H locs → lv_has ls 4 [(0, .ref b), (1, .ref jhe), (2, .ref jhm), (3, .int k)] → W p l e room_1 s m #[Value.ref b] below meth c H locs 128 3705 (lw_Z below #[Value.ref b] s) (F0 m 597 ls []) := by
  obtain ⟨hx, hbc, hr, hml, hown, hts, hX, hbl, hlocks, hgv⟩ := C0
  have ht : ∀ w ∈ wT, w.before #[Value.ref b] s = true := fun w h => hts w (wT_in h)
  have hown : s.vm.findClass "EyeDrinkLaw" = some m.cls := hown
  have hbc : c.code = cL_law := hbc
  have hC : CallFix p m c cL_law 4 s #[Value.ref b] wT "EyeDrinkLaw" := ⟨hx, hbc, hml, hown, ht⟩
  have hA : ∀ q : Nat, s.heap.size ≤ q → (fun q : Nat => s.heap.size ≤ q) q := fun _ h => h
  have hbA : ¬ (fun q : Nat => s.heap.size ≤ q) b := Nat.not_le.mpr hbl
  have hx1 : vp_in (k + (1 : Int32)) L := lawX hk 1 (by omega) hL
  have hx2 : vp_in (k + (2 : Int32)) L := lawX hk 2 (by omega) hL
  have hx3 : vp_in (k + (3 : Int32)) L := lawX hk 3 (by omega) hL
  have hx4 : vp_in (k + (4 : Int32)) L := lawX hk 4 (by omega) hL
  intro Se Sx Sl Sw Ss Sd Sy Sz Sc ro Sr Sg Sp Sm H locs ls hR hP hD hS hl
  refine lv_aload_n hx hbc dL_law_597 rfl (lv_at hl 1 rfl) ?_
  refine lv_aload_n hx hbc dL_law_598 rfl (lv_at hl 0 rfl) ?_
  refine lv_iload_n hx hbc dL_law_599 rfl (lv_at hl 3 rfl) ?_
  refine lv_iconst (v := (1 : Int32)) hx hbc dL_law_600 rfl ?_
  refine lv_iadd hx hbc dL_law_601 ?_
  refine va_sld hx hbc hX hbl hbA hS hx1 dL_law_602 ?_
  refine lv_aload_n hx hbc dL_law_603 rfl (lv_at hl 0 rfl) ?_
  refine lv_iload_n hx hbc dL_law_604 rfl (lv_at hl 3 rfl) ?_
  refine lv_iconst (v := (2 : Int32)) hx hbc dL_law_605 rfl ?_
  refine lv_iadd hx hbc dL_law_606 ?_
  refine va_sld hx hbc hX hbl hbA hS hx2 dL_law_607 ?_
  refine lv_aload_n hx hbc dL_law_608 rfl (lv_at hl 0 rfl) ?_
  refine lv_iload_n hx hbc dL_law_609 rfl (lv_at hl 3 rfl) ?_
  refine lv_iconst (v := (3 : Int32)) hx hbc dL_law_610 rfl ?_
  refine lv_iadd hx hbc dL_law_611 ?_
  refine va_sld hx hbc hX hbl hbA hS hx3 dL_law_612 ?_
  obtain ⟨u7, u8, e7, e8, er, hR⟩ := st_keeper hR (xs (k + (1 : Int32)).toNatClampNeg) (xs (k + (2 : Int32)).toNatClampNeg) (xs (k + (3 : Int32)).toNatClampNeg)
  refine eX7_keeper (rest := []) cI cZ cO jhe hb ab sl hh aa jhm jam Se Sx Sl Sw Ss Sd Sy Sz Sc ro Sr Sg Sp Sm (xs (k + (1 : Int32)).toNatClampNeg) (xs (k + (2 : Int32)).toNatClampNeg) (xs (k + (3 : Int32)).toNatClampNeg) u7 e7 hC wd3_94 ⟨Nat.le_of_ble_eq_true rfl, Nat.le_of_ble_eq_true rfl⟩ hP hD hK hZ hS hA hl.1 (Nat.le_of_ble_eq_true rfl) ⟨Nat.le_of_ble_eq_true rfl, Nat.le_of_ble_eq_true rfl⟩ dL_law_613 ?_
  refine lv_aload_n hx hbc dL_law_616 rfl (lv_at hl 2 rfl) ?_
  refine lv_aload_n hx hbc dL_law_617 rfl (lv_at hl 0 rfl) ?_
  refine lv_iload_n hx hbc dL_law_618 rfl (lv_at hl 3 rfl) ?_
  refine lv_iconst (v := (1 : Int32)) hx hbc dL_law_619 rfl ?_
  refine lv_iadd hx hbc dL_law_620 ?_
  refine va_sld hx hbc hX hbl hbA hS hx1 dL_law_621 ?_
  refine lv_aload_n hx hbc dL_law_622 rfl (lv_at hl 0 rfl) ?_
  refine lv_iload_n hx hbc dL_law_623 rfl (lv_at hl 3 rfl) ?_
  refine lv_iconst (v := (2 : Int32)) hx hbc dL_law_624 rfl ?_
  refine lv_iadd hx hbc dL_law_625 ?_
  refine va_sld hx hbc hX hbl hbA hS hx2 dL_law_626 ?_
  refine lv_aload_n hx hbc dL_law_627 rfl (lv_at hl 0 rfl) ?_
  refine lv_iload_n hx hbc dL_law_628 rfl (lv_at hl 3 rfl) ?_
  refine lv_iconst (v := (3 : Int32)) hx hbc dL_law_629 rfl ?_
  refine lv_iadd hx hbc dL_law_630 ?_
  refine va_sld hx hbc hX hbl hbA hS hx3 dL_law_631 ?_
  refine eX8_keeper (rest := [.int u7]) cI cZ cO jhe hb ab sl hh aa jhm jam Se Sx Sl Sw Ss Sd Sy Sz Sc ro Sr Sg Sp Sm (xs (k + (1 : Int32)).toNatClampNeg) (xs (k + (2 : Int32)).toNatClampNeg) (xs (k + (3 : Int32)).toNatClampNeg) u8 e8 hC wd5_17 ⟨Nat.le_of_ble_eq_true rfl, Nat.le_of_ble_eq_true rfl⟩ hP hD hK hZ hS hA hl.1 (Nat.le_of_ble_eq_true rfl) ⟨Nat.le_of_ble_eq_true rfl, Nat.le_of_ble_eq_true rfl⟩ dL_law_632 (fun H locs hP hD hS => ?_)
  refine lv_icmp_eq (tgt := 881) hx hbc dL_law_635 (by decide) (fun _ => ?_) (fun c9 => absurd er c9)
  exact hnext _ _ _ _ _ _ _ _ _ _ _ _ _ _ _ _ _ hR hP hD hS hl
set_option maxHeartbeats 4000000 in
set_option maxRecDepth 100000 in
theorem law_c20 {p : Program} {l : Launch} {e : Env} {s : State} {m : MethodId} {below : List Frame} {meth : Method} {c : Code} {D : va_G} {b L : Nat} {xs : Nat → Int32} (hL : L ≤ 2560) (C0 : lw_At p s m meth c b L xs) (hZ : Zs (fun q : Nat => s.heap.size ≤ q) s s.heap) (cI cZ cO : ClassId) (jhe : Nat) (hb : Nat → Nat) (ab : Nat → Nat → Nat) (sl hh : Nat → Nat) (aa : Nat → Nat → Nat) (jhm : Nat) (jam : Nat → Nat) (hK : va_K D vwCl (tyL cI cZ cO) s) {i : Nat} {k : Int32} (hk : k = nI i) (hi : i + 5 ≤ L)
    (hnext : ∀ (Se Sx Sl Sw Ss Sd Sy Sz Sc : Bk) (ro : Nat) (Sr Sg : Bk) (Sp : Nat → Bk) (Sm : Bk) (H : Heap) (locs : List Loc) (ls : Array Slot), Rel Se Sx Sw Ss Sy Sz Sc ro Sg Sp Sm → va_P D vwCl (wL cI cZ cO jhe hb ab sl hh aa jhm jam Se Sx Sl Sw Ss Sd Sy Sz Sc ro Sr Sg Sp Sm) H → va_D (fun q : Nat => s.heap.size ≤ q) (wL cI cZ cO jhe hb ab sl hh aa jhm jam Se Sx Sl Sw Ss Sd Sy Sz Sc ro Sr Sg Sp Sm) → va_S (fun q : Nat => s.heap.size ≤ q) s.heap H locs → lv_has ls 4 [(0, .ref b), (1, .ref jhe), (2, .ref jhm), (3, .int k)] → W p l e room_1 s m #[Value.ref b] below meth c H locs 128 3705 (lw_Z below #[Value.ref b] s) (F0 m 881 ls [])) : ∀ (Se Sx Sl Sw Ss Sd Sy Sz Sc : Bk) (ro : Nat) (Sr Sg : Bk) (Sp : Nat → Bk) (Sm : Bk) (H : Heap) (locs : List Loc) (ls : Array Slot), Rel Se Sx Sw Ss Sy Sz Sc ro Sg Sp Sm → va_P D vwCl (wL cI cZ cO jhe hb ab sl hh aa jhm jam Se Sx Sl Sw Ss Sd Sy Sz Sc ro Sr Sg Sp Sm) H → va_D (fun q : Nat => s.heap.size ≤ q) (wL cI cZ cO jhe hb ab sl hh aa jhm jam Se Sx Sl Sw Ss Sd Sy Sz Sc ro Sr Sg Sp Sm) → va_S (fun q : Nat => s.heap.size ≤ q) s.heap H locs → lv_has ls 4 [(0, .ref b), (1, .ref jhe), (2, .ref jhm), (3, .int k)] → W p l e room_1 s m #[Value.ref b] below meth c H locs 128 3705 (lw_Z below #[Value.ref b] s) (F0 m 640 ls []) := by
  obtain ⟨hx, hbc, hr, hml, hown, hts, hX, hbl, hlocks, hgv⟩ := C0
  have ht : ∀ w ∈ wT, w.before #[Value.ref b] s = true := fun w h => hts w (wT_in h)
  have hown : s.vm.findClass "EyeDrinkLaw" = some m.cls := hown
  have hbc : c.code = cL_law := hbc
  have hC : CallFix p m c cL_law 4 s #[Value.ref b] wT "EyeDrinkLaw" := ⟨hx, hbc, hml, hown, ht⟩
  have hA : ∀ q : Nat, s.heap.size ≤ q → (fun q : Nat => s.heap.size ≤ q) q := fun _ h => h
  have hbA : ¬ (fun q : Nat => s.heap.size ≤ q) b := Nat.not_le.mpr hbl
  have hx1 : vp_in (k + (1 : Int32)) L := lawX hk 1 (by omega) hL
  have hx2 : vp_in (k + (2 : Int32)) L := lawX hk 2 (by omega) hL
  have hx3 : vp_in (k + (3 : Int32)) L := lawX hk 3 (by omega) hL
  have hx4 : vp_in (k + (4 : Int32)) L := lawX hk 4 (by omega) hL
  intro Se Sx Sl Sw Ss Sd Sy Sz Sc ro Sr Sg Sp Sm H locs ls hR hP hD hS hl
  refine lv_aload_n hx hbc dL_law_640 rfl (lv_at hl 1 rfl) ?_
  refine lv_aload_n hx hbc dL_law_641 rfl (lv_at hl 0 rfl) ?_
  refine lv_iload_n hx hbc dL_law_642 rfl (lv_at hl 3 rfl) ?_
  refine lv_iconst (v := (1 : Int32)) hx hbc dL_law_643 rfl ?_
  refine lv_iadd hx hbc dL_law_644 ?_
  refine va_sld hx hbc hX hbl hbA hS hx1 dL_law_645 ?_
  refine lv_aload_n hx hbc dL_law_646 rfl (lv_at hl 0 rfl) ?_
  refine lv_iload_n hx hbc dL_law_647 rfl (lv_at hl 3 rfl) ?_
  refine lv_iconst (v := (2 : Int32)) hx hbc dL_law_648 rfl ?_
  refine lv_iadd hx hbc dL_law_649 ?_
  refine va_sld hx hbc hX hbl hbA hS hx2 dL_law_650 ?_
  obtain ⟨u7, u8, e7, e8, er, hR⟩ := st_byTurns hR (xs (k + (1 : Int32)).toNatClampNeg) (xs (k + (2 : Int32)).toNatClampNeg)
  refine eX7_byTurns (rest := []) cI cZ cO jhe hb ab sl hh aa jhm jam Se Sx Sl Sw Ss Sd Sy Sz Sc ro Sr Sg Sp Sm (xs (k + (1 : Int32)).toNatClampNeg) (xs (k + (2 : Int32)).toNatClampNeg) u7 e7 hC wd3_107 ⟨Nat.le_of_ble_eq_true rfl, Nat.le_of_ble_eq_true rfl⟩ hP hD hK hZ hS hA hl.1 (Nat.le_of_ble_eq_true rfl) ⟨Nat.le_of_ble_eq_true rfl, Nat.le_of_ble_eq_true rfl⟩ dL_law_651 ?_
  refine lv_aload_n hx hbc dL_law_654 rfl (lv_at hl 2 rfl) ?_
  refine lv_aload_n hx hbc dL_law_655 rfl (lv_at hl 0 rfl) ?_
  refine lv_iload_n hx hbc dL_law_656 rfl (lv_at hl 3 rfl) ?_
  refine lv_iconst (v := (1 : Int32)) hx hbc dL_law_657 rfl ?_
  refine lv_iadd hx hbc dL_law_658 ?_
  refine va_sld hx hbc hX hbl hbA hS hx1 dL_law_659 ?_
  refine lv_aload_n hx hbc dL_law_660 rfl (lv_at hl 0 rfl) ?_
  refine lv_iload_n hx hbc dL_law_661 rfl (lv_at hl 3 rfl) ?_
  refine lv_iconst (v := (2 : Int32)) hx hbc dL_law_662 rfl ?_
  refine lv_iadd hx hbc dL_law_663 ?_
  refine va_sld hx hbc hX hbl hbA hS hx2 dL_law_664 ?_
  refine eX8_byTurns (rest := [.int u7]) cI cZ cO jhe hb ab sl hh aa jhm jam Se Sx Sl Sw Ss Sd Sy Sz Sc ro Sr Sg Sp Sm (xs (k + (1 : Int32)).toNatClampNeg) (xs (k + (2 : Int32)).toNatClampNeg) u8 e8 hC wd5_22 ⟨Nat.le_of_ble_eq_true rfl, Nat.le_of_ble_eq_true rfl⟩ hP hD hK hZ hS hA hl.1 (Nat.le_of_ble_eq_true rfl) ⟨Nat.le_of_ble_eq_true rfl, Nat.le_of_ble_eq_true rfl⟩ dL_law_665 (fun H locs hP hD hS => ?_)
  refine lv_icmp_eq (tgt := 881) hx hbc dL_law_668 (by decide) (fun _ => ?_) (fun c9 => absurd er c9)
  exact hnext _ _ _ _ _ _ _ _ _ _ _ _ _ _ _ _ _ hR hP hD hS hl
set_option maxHeartbeats 4000000 in
set_option maxRecDepth 100000 in
theorem law_c21 {p : Program} {l : Launch} {e : Env} {s : State} {m : MethodId} {below : List Frame} {meth : Method} {c : Code} {D : va_G} {b L : Nat} {xs : Nat → Int32} (hL : L ≤ 2560) (C0 : lw_At p s m meth c b L xs) (hZ : Zs (fun q : Nat => s.heap.size ≤ q) s s.heap) (cI cZ cO : ClassId) (jhe : Nat) (hb : Nat → Nat) (ab : Nat → Nat → Nat) (sl hh : Nat → Nat) (aa : Nat → Nat → Nat) (jhm : Nat) (jam : Nat → Nat) (hK : va_K D vwCl (tyL cI cZ cO) s) {i : Nat} {k : Int32} (hk : k = nI i) (hi : i + 5 ≤ L)
    (hnext : ∀ (Se Sx Sl Sw Ss Sd Sy Sz Sc : Bk) (ro : Nat) (Sr Sg : Bk) (Sp : Nat → Bk) (Sm : Bk) (H : Heap) (locs : List Loc) (ls : Array Slot), Rel Se Sx Sw Ss Sy Sz Sc ro Sg Sp Sm → va_P D vwCl (wL cI cZ cO jhe hb ab sl hh aa jhm jam Se Sx Sl Sw Ss Sd Sy Sz Sc ro Sr Sg Sp Sm) H → va_D (fun q : Nat => s.heap.size ≤ q) (wL cI cZ cO jhe hb ab sl hh aa jhm jam Se Sx Sl Sw Ss Sd Sy Sz Sc ro Sr Sg Sp Sm) → va_S (fun q : Nat => s.heap.size ≤ q) s.heap H locs → lv_has ls 4 [(0, .ref b), (1, .ref jhe), (2, .ref jhm), (3, .int k)] → W p l e room_1 s m #[Value.ref b] below meth c H locs 128 3705 (lw_Z below #[Value.ref b] s) (F0 m 881 ls [])) : ∀ (Se Sx Sl Sw Ss Sd Sy Sz Sc : Bk) (ro : Nat) (Sr Sg : Bk) (Sp : Nat → Bk) (Sm : Bk) (H : Heap) (locs : List Loc) (ls : Array Slot), Rel Se Sx Sw Ss Sy Sz Sc ro Sg Sp Sm → va_P D vwCl (wL cI cZ cO jhe hb ab sl hh aa jhm jam Se Sx Sl Sw Ss Sd Sy Sz Sc ro Sr Sg Sp Sm) H → va_D (fun q : Nat => s.heap.size ≤ q) (wL cI cZ cO jhe hb ab sl hh aa jhm jam Se Sx Sl Sw Ss Sd Sy Sz Sc ro Sr Sg Sp Sm) → va_S (fun q : Nat => s.heap.size ≤ q) s.heap H locs → lv_has ls 4 [(0, .ref b), (1, .ref jhe), (2, .ref jhm), (3, .int k)] → W p l e room_1 s m #[Value.ref b] below meth c H locs 128 3705 (lw_Z below #[Value.ref b] s) (F0 m 673 ls []) := by
  obtain ⟨hx, hbc, hr, hml, hown, hts, hX, hbl, hlocks, hgv⟩ := C0
  have ht : ∀ w ∈ wT, w.before #[Value.ref b] s = true := fun w h => hts w (wT_in h)
  have hown : s.vm.findClass "EyeDrinkLaw" = some m.cls := hown
  have hbc : c.code = cL_law := hbc
  have hC : CallFix p m c cL_law 4 s #[Value.ref b] wT "EyeDrinkLaw" := ⟨hx, hbc, hml, hown, ht⟩
  have hA : ∀ q : Nat, s.heap.size ≤ q → (fun q : Nat => s.heap.size ≤ q) q := fun _ h => h
  have hbA : ¬ (fun q : Nat => s.heap.size ≤ q) b := Nat.not_le.mpr hbl
  have hx1 : vp_in (k + (1 : Int32)) L := lawX hk 1 (by omega) hL
  have hx2 : vp_in (k + (2 : Int32)) L := lawX hk 2 (by omega) hL
  have hx3 : vp_in (k + (3 : Int32)) L := lawX hk 3 (by omega) hL
  have hx4 : vp_in (k + (4 : Int32)) L := lawX hk 4 (by omega) hL
  intro Se Sx Sl Sw Ss Sd Sy Sz Sc ro Sr Sg Sp Sm H locs ls hR hP hD hS hl
  refine lv_aload_n hx hbc dL_law_673 rfl (lv_at hl 1 rfl) ?_
  refine lv_aload_n hx hbc dL_law_674 rfl (lv_at hl 0 rfl) ?_
  refine lv_iload_n hx hbc dL_law_675 rfl (lv_at hl 3 rfl) ?_
  refine lv_iconst (v := (1 : Int32)) hx hbc dL_law_676 rfl ?_
  refine lv_iadd hx hbc dL_law_677 ?_
  refine va_sld hx hbc hX hbl hbA hS hx1 dL_law_678 ?_
  refine lv_aload_n hx hbc dL_law_679 rfl (lv_at hl 0 rfl) ?_
  refine lv_iload_n hx hbc dL_law_680 rfl (lv_at hl 3 rfl) ?_
  refine lv_iconst (v := (2 : Int32)) hx hbc dL_law_681 rfl ?_
  refine lv_iadd hx hbc dL_law_682 ?_
  refine va_sld hx hbc hX hbl hbA hS hx2 dL_law_683 ?_
  refine lv_if_eq (tgt := 691) hx hbc dL_law_684 (by decide) (fun c1 => ?_) (fun c1 => ?_)
  · have h2 : (0 : Int32) = 0 ∨ (0 : Int32) = 1 := Or.inl rfl
    refine lv_iconst (v := (0 : Int32)) hx hbc dL_law_691 rfl ?_
    obtain ⟨u7, u8, e7, e8, er, hR⟩ := st_see hR (xs (k + (1 : Int32)).toNatClampNeg) (0 : Int32) h2
    refine eX7_see (rest := []) cI cZ cO jhe hb ab sl hh aa jhm jam Se Sx Sl Sw Ss Sd Sy Sz Sc ro Sr Sg Sp Sm (xs (k + (1 : Int32)).toNatClampNeg) (0 : Int32) u7 e7 hC wd3_121 ⟨Nat.le_of_ble_eq_true rfl, Nat.le_of_ble_eq_true rfl⟩ hP hD hK hZ hS hA hl.1 (Nat.le_of_ble_eq_true rfl) ⟨Nat.le_of_ble_eq_true rfl, Nat.le_of_ble_eq_true rfl⟩ dL_law_692 (fun H locs hP hD hS => ?_)
    refine lv_aload_n hx hbc dL_law_695 rfl (lv_at hl 2 rfl) ?_
    refine lv_aload_n hx hbc dL_law_696 rfl (lv_at hl 0 rfl) ?_
    refine lv_iload_n hx hbc dL_law_697 rfl (lv_at hl 3 rfl) ?_
    refine lv_iconst (v := (1 : Int32)) hx hbc dL_law_698 rfl ?_
    refine lv_iadd hx hbc dL_law_699 ?_
    refine va_sld hx hbc hX hbl hbA hS hx1 dL_law_700 ?_
    refine lv_aload_n hx hbc dL_law_701 rfl (lv_at hl 0 rfl) ?_
    refine lv_iload_n hx hbc dL_law_702 rfl (lv_at hl 3 rfl) ?_
    refine lv_iconst (v := (2 : Int32)) hx hbc dL_law_703 rfl ?_
    refine lv_iadd hx hbc dL_law_704 ?_
    refine va_sld hx hbc hX hbl hbA hS hx2 dL_law_705 ?_
    refine lv_if_eq (tgt := 713) hx hbc dL_law_706 (by decide) (fun _ => ?_) (fun c2 => absurd c1 c2)
    refine lv_iconst (v := (0 : Int32)) hx hbc dL_law_713 rfl ?_
    refine eX8_see (rest := [.int u7.1]) cI cZ cO jhe hb ab sl hh aa jhm jam Se Sx Sl Sw Ss Sd Sy Sz Sc ro Sr u7.2 Sp Sm (xs (k + (1 : Int32)).toNatClampNeg) (0 : Int32) u8 e8 hC wd5_26 ⟨Nat.le_of_ble_eq_true rfl, Nat.le_of_ble_eq_true rfl⟩ hP hD hK hZ hS hA hl.1 (Nat.le_of_ble_eq_true rfl) ⟨Nat.le_of_ble_eq_true rfl, Nat.le_of_ble_eq_true rfl⟩ dL_law_714 (fun H locs hP hD hS => ?_)
    refine lv_icmp_eq (tgt := 881) hx hbc dL_law_717 (by decide) (fun _ => ?_) (fun c9 => absurd er c9)
    exact hnext _ _ _ _ _ _ _ _ _ _ _ _ _ _ _ _ _ hR hP hD hS hl
  · have h2 : (1 : Int32) = 0 ∨ (1 : Int32) = 1 := Or.inr rfl
    refine lv_iconst (v := (1 : Int32)) hx hbc dL_law_687 rfl ?_
    refine lv_goto (tgt := 692) hx hbc dL_law_688 (by decide) ?_
    obtain ⟨u7, u8, e7, e8, er, hR⟩ := st_see hR (xs (k + (1 : Int32)).toNatClampNeg) (1 : Int32) h2
    refine eX7_see (rest := []) cI cZ cO jhe hb ab sl hh aa jhm jam Se Sx Sl Sw Ss Sd Sy Sz Sc ro Sr Sg Sp Sm (xs (k + (1 : Int32)).toNatClampNeg) (1 : Int32) u7 e7 hC wd3_121 ⟨Nat.le_of_ble_eq_true rfl, Nat.le_of_ble_eq_true rfl⟩ hP hD hK hZ hS hA hl.1 (Nat.le_of_ble_eq_true rfl) ⟨Nat.le_of_ble_eq_true rfl, Nat.le_of_ble_eq_true rfl⟩ dL_law_692 (fun H locs hP hD hS => ?_)
    refine lv_aload_n hx hbc dL_law_695 rfl (lv_at hl 2 rfl) ?_
    refine lv_aload_n hx hbc dL_law_696 rfl (lv_at hl 0 rfl) ?_
    refine lv_iload_n hx hbc dL_law_697 rfl (lv_at hl 3 rfl) ?_
    refine lv_iconst (v := (1 : Int32)) hx hbc dL_law_698 rfl ?_
    refine lv_iadd hx hbc dL_law_699 ?_
    refine va_sld hx hbc hX hbl hbA hS hx1 dL_law_700 ?_
    refine lv_aload_n hx hbc dL_law_701 rfl (lv_at hl 0 rfl) ?_
    refine lv_iload_n hx hbc dL_law_702 rfl (lv_at hl 3 rfl) ?_
    refine lv_iconst (v := (2 : Int32)) hx hbc dL_law_703 rfl ?_
    refine lv_iadd hx hbc dL_law_704 ?_
    refine va_sld hx hbc hX hbl hbA hS hx2 dL_law_705 ?_
    refine lv_if_eq (tgt := 713) hx hbc dL_law_706 (by decide) (fun c2 => absurd c2 c1) (fun _ => ?_)
    refine lv_iconst (v := (1 : Int32)) hx hbc dL_law_709 rfl ?_
    refine lv_goto (tgt := 714) hx hbc dL_law_710 (by decide) ?_
    refine eX8_see (rest := [.int u7.1]) cI cZ cO jhe hb ab sl hh aa jhm jam Se Sx Sl Sw Ss Sd Sy Sz Sc ro Sr u7.2 Sp Sm (xs (k + (1 : Int32)).toNatClampNeg) (1 : Int32) u8 e8 hC wd5_26 ⟨Nat.le_of_ble_eq_true rfl, Nat.le_of_ble_eq_true rfl⟩ hP hD hK hZ hS hA hl.1 (Nat.le_of_ble_eq_true rfl) ⟨Nat.le_of_ble_eq_true rfl, Nat.le_of_ble_eq_true rfl⟩ dL_law_714 (fun H locs hP hD hS => ?_)
    refine lv_icmp_eq (tgt := 881) hx hbc dL_law_717 (by decide) (fun _ => ?_) (fun c9 => absurd er c9)
    exact hnext _ _ _ _ _ _ _ _ _ _ _ _ _ _ _ _ _ hR hP hD hS hl
set_option maxHeartbeats 4000000 in
set_option maxRecDepth 100000 in
theorem law_c22 {p : Program} {l : Launch} {e : Env} {s : State} {m : MethodId} {below : List Frame} {meth : Method} {c : Code} {D : va_G} {b L : Nat} {xs : Nat → Int32} (hL : L ≤ 2560) (C0 : lw_At p s m meth c b L xs) (hZ : Zs (fun q : Nat => s.heap.size ≤ q) s s.heap) (cI cZ cO : ClassId) (jhe : Nat) (hb : Nat → Nat) (ab : Nat → Nat → Nat) (sl hh : Nat → Nat) (aa : Nat → Nat → Nat) (jhm : Nat) (jam : Nat → Nat) (hK : va_K D vwCl (tyL cI cZ cO) s) {i : Nat} {k : Int32} (hk : k = nI i) (hi : i + 5 ≤ L)
    (hnext : ∀ (Se Sx Sl Sw Ss Sd Sy Sz Sc : Bk) (ro : Nat) (Sr Sg : Bk) (Sp : Nat → Bk) (Sm : Bk) (H : Heap) (locs : List Loc) (ls : Array Slot), Rel Se Sx Sw Ss Sy Sz Sc ro Sg Sp Sm → va_P D vwCl (wL cI cZ cO jhe hb ab sl hh aa jhm jam Se Sx Sl Sw Ss Sd Sy Sz Sc ro Sr Sg Sp Sm) H → va_D (fun q : Nat => s.heap.size ≤ q) (wL cI cZ cO jhe hb ab sl hh aa jhm jam Se Sx Sl Sw Ss Sd Sy Sz Sc ro Sr Sg Sp Sm) → va_S (fun q : Nat => s.heap.size ≤ q) s.heap H locs → lv_has ls 4 [(0, .ref b), (1, .ref jhe), (2, .ref jhm), (3, .int k)] → W p l e room_1 s m #[Value.ref b] below meth c H locs 128 3705 (lw_Z below #[Value.ref b] s) (F0 m 881 ls [])) : ∀ (Se Sx Sl Sw Ss Sd Sy Sz Sc : Bk) (ro : Nat) (Sr Sg : Bk) (Sp : Nat → Bk) (Sm : Bk) (H : Heap) (locs : List Loc) (ls : Array Slot), Rel Se Sx Sw Ss Sy Sz Sc ro Sg Sp Sm → va_P D vwCl (wL cI cZ cO jhe hb ab sl hh aa jhm jam Se Sx Sl Sw Ss Sd Sy Sz Sc ro Sr Sg Sp Sm) H → va_D (fun q : Nat => s.heap.size ≤ q) (wL cI cZ cO jhe hb ab sl hh aa jhm jam Se Sx Sl Sw Ss Sd Sy Sz Sc ro Sr Sg Sp Sm) → va_S (fun q : Nat => s.heap.size ≤ q) s.heap H locs → lv_has ls 4 [(0, .ref b), (1, .ref jhe), (2, .ref jhm), (3, .int k)] → W p l e room_1 s m #[Value.ref b] below meth c H locs 128 3705 (lw_Z below #[Value.ref b] s) (F0 m 722 ls []) := by
  obtain ⟨hx, hbc, hr, hml, hown, hts, hX, hbl, hlocks, hgv⟩ := C0
  have ht : ∀ w ∈ wT, w.before #[Value.ref b] s = true := fun w h => hts w (wT_in h)
  have hown : s.vm.findClass "EyeDrinkLaw" = some m.cls := hown
  have hbc : c.code = cL_law := hbc
  have hC : CallFix p m c cL_law 4 s #[Value.ref b] wT "EyeDrinkLaw" := ⟨hx, hbc, hml, hown, ht⟩
  have hA : ∀ q : Nat, s.heap.size ≤ q → (fun q : Nat => s.heap.size ≤ q) q := fun _ h => h
  have hbA : ¬ (fun q : Nat => s.heap.size ≤ q) b := Nat.not_le.mpr hbl
  have hx1 : vp_in (k + (1 : Int32)) L := lawX hk 1 (by omega) hL
  have hx2 : vp_in (k + (2 : Int32)) L := lawX hk 2 (by omega) hL
  have hx3 : vp_in (k + (3 : Int32)) L := lawX hk 3 (by omega) hL
  have hx4 : vp_in (k + (4 : Int32)) L := lawX hk 4 (by omega) hL
  intro Se Sx Sl Sw Ss Sd Sy Sz Sc ro Sr Sg Sp Sm H locs ls hR hP hD hS hl
  refine lv_aload_n hx hbc dL_law_722 rfl (lv_at hl 1 rfl) ?_
  obtain ⟨u7, u8, e7, e8, er, hR⟩ := st_unsee hR
  refine eX7_unsee (rest := []) cI cZ cO jhe hb ab sl hh aa jhm jam Se Sx Sl Sw Ss Sd Sy Sz Sc ro Sr Sg Sp Sm  u7 e7 hC wd3_129 ⟨Nat.le_of_ble_eq_true rfl, Nat.le_of_ble_eq_true rfl⟩ hP hD hK hZ hS hA hl.1 (Nat.le_of_ble_eq_true rfl) ⟨Nat.le_of_ble_eq_true rfl, Nat.le_of_ble_eq_true rfl⟩ dL_law_723 (fun H locs hP hD hS => ?_)
  refine lv_aload_n hx hbc dL_law_726 rfl (lv_at hl 2 rfl) ?_
  refine eX8_unsee (rest := [.int u7.1]) cI cZ cO jhe hb ab sl hh aa jhm jam Se Sx Sl Sw Ss Sd Sy Sz Sc ro Sr (bO Sg u7.2) Sp Sm  u8 e8 hC wd5_30 ⟨Nat.le_of_ble_eq_true rfl, Nat.le_of_ble_eq_true rfl⟩ hP hD hK hZ hS hA hl.1 (Nat.le_of_ble_eq_true rfl) ⟨Nat.le_of_ble_eq_true rfl, Nat.le_of_ble_eq_true rfl⟩ dL_law_727 (fun H locs hP hD hS => ?_)
  refine lv_icmp_eq (tgt := 881) hx hbc dL_law_730 (by decide) (fun _ => ?_) (fun c9 => absurd er c9)
  exact hnext _ _ _ _ _ _ _ _ _ _ _ _ _ _ _ _ _ hR hP hD hS hl
set_option maxHeartbeats 4000000 in
set_option maxRecDepth 100000 in
theorem law_c23 {p : Program} {l : Launch} {e : Env} {s : State} {m : MethodId} {below : List Frame} {meth : Method} {c : Code} {D : va_G} {b L : Nat} {xs : Nat → Int32} (hL : L ≤ 2560) (C0 : lw_At p s m meth c b L xs) (hZ : Zs (fun q : Nat => s.heap.size ≤ q) s s.heap) (cI cZ cO : ClassId) (jhe : Nat) (hb : Nat → Nat) (ab : Nat → Nat → Nat) (sl hh : Nat → Nat) (aa : Nat → Nat → Nat) (jhm : Nat) (jam : Nat → Nat) (hK : va_K D vwCl (tyL cI cZ cO) s) {i : Nat} {k : Int32} (hk : k = nI i) (hi : i + 5 ≤ L)
    (hnext : ∀ (Se Sx Sl Sw Ss Sd Sy Sz Sc : Bk) (ro : Nat) (Sr Sg : Bk) (Sp : Nat → Bk) (Sm : Bk) (H : Heap) (locs : List Loc) (ls : Array Slot), Rel Se Sx Sw Ss Sy Sz Sc ro Sg Sp Sm → va_P D vwCl (wL cI cZ cO jhe hb ab sl hh aa jhm jam Se Sx Sl Sw Ss Sd Sy Sz Sc ro Sr Sg Sp Sm) H → va_D (fun q : Nat => s.heap.size ≤ q) (wL cI cZ cO jhe hb ab sl hh aa jhm jam Se Sx Sl Sw Ss Sd Sy Sz Sc ro Sr Sg Sp Sm) → va_S (fun q : Nat => s.heap.size ≤ q) s.heap H locs → lv_has ls 4 [(0, .ref b), (1, .ref jhe), (2, .ref jhm), (3, .int k)] → W p l e room_1 s m #[Value.ref b] below meth c H locs 128 3705 (lw_Z below #[Value.ref b] s) (F0 m 881 ls [])) : ∀ (Se Sx Sl Sw Ss Sd Sy Sz Sc : Bk) (ro : Nat) (Sr Sg : Bk) (Sp : Nat → Bk) (Sm : Bk) (H : Heap) (locs : List Loc) (ls : Array Slot), Rel Se Sx Sw Ss Sy Sz Sc ro Sg Sp Sm → va_P D vwCl (wL cI cZ cO jhe hb ab sl hh aa jhm jam Se Sx Sl Sw Ss Sd Sy Sz Sc ro Sr Sg Sp Sm) H → va_D (fun q : Nat => s.heap.size ≤ q) (wL cI cZ cO jhe hb ab sl hh aa jhm jam Se Sx Sl Sw Ss Sd Sy Sz Sc ro Sr Sg Sp Sm) → va_S (fun q : Nat => s.heap.size ≤ q) s.heap H locs → lv_has ls 4 [(0, .ref b), (1, .ref jhe), (2, .ref jhm), (3, .int k)] → W p l e room_1 s m #[Value.ref b] below meth c H locs 128 3705 (lw_Z below #[Value.ref b] s) (F0 m 735 ls []) := by
  obtain ⟨hx, hbc, hr, hml, hown, hts, hX, hbl, hlocks, hgv⟩ := C0
  have ht : ∀ w ∈ wT, w.before #[Value.ref b] s = true := fun w h => hts w (wT_in h)
  have hown : s.vm.findClass "EyeDrinkLaw" = some m.cls := hown
  have hbc : c.code = cL_law := hbc
  have hC : CallFix p m c cL_law 4 s #[Value.ref b] wT "EyeDrinkLaw" := ⟨hx, hbc, hml, hown, ht⟩
  have hA : ∀ q : Nat, s.heap.size ≤ q → (fun q : Nat => s.heap.size ≤ q) q := fun _ h => h
  have hbA : ¬ (fun q : Nat => s.heap.size ≤ q) b := Nat.not_le.mpr hbl
  have hx1 : vp_in (k + (1 : Int32)) L := lawX hk 1 (by omega) hL
  have hx2 : vp_in (k + (2 : Int32)) L := lawX hk 2 (by omega) hL
  have hx3 : vp_in (k + (3 : Int32)) L := lawX hk 3 (by omega) hL
  have hx4 : vp_in (k + (4 : Int32)) L := lawX hk 4 (by omega) hL
  intro Se Sx Sl Sw Ss Sd Sy Sz Sc ro Sr Sg Sp Sm H locs ls hR hP hD hS hl
  refine lv_aload_n hx hbc dL_law_735 rfl (lv_at hl 1 rfl) ?_
  refine lv_aload_n hx hbc dL_law_736 rfl (lv_at hl 0 rfl) ?_
  refine lv_iload_n hx hbc dL_law_737 rfl (lv_at hl 3 rfl) ?_
  refine lv_iconst (v := (1 : Int32)) hx hbc dL_law_738 rfl ?_
  refine lv_iadd hx hbc dL_law_739 ?_
  refine va_sld hx hbc hX hbl hbA hS hx1 dL_law_740 ?_
  obtain ⟨u7, u8, e7, e8, er, hR⟩ := st_knew hR (xs (k + (1 : Int32)).toNatClampNeg)
  refine eX7_knew (rest := []) cI cZ cO jhe hb ab sl hh aa jhm jam Se Sx Sl Sw Ss Sd Sy Sz Sc ro Sr Sg Sp Sm (xs (k + (1 : Int32)).toNatClampNeg) u7 e7 hC wd3_133 ⟨Nat.le_of_ble_eq_true rfl, Nat.le_of_ble_eq_true rfl⟩ hP hD hK hZ hS hA hl.1 (Nat.le_of_ble_eq_true rfl) ⟨Nat.le_of_ble_eq_true rfl, Nat.le_of_ble_eq_true rfl⟩ dL_law_741 ?_
  refine lv_aload_n hx hbc dL_law_744 rfl (lv_at hl 2 rfl) ?_
  refine lv_aload_n hx hbc dL_law_745 rfl (lv_at hl 0 rfl) ?_
  refine lv_iload_n hx hbc dL_law_746 rfl (lv_at hl 3 rfl) ?_
  refine lv_iconst (v := (1 : Int32)) hx hbc dL_law_747 rfl ?_
  refine lv_iadd hx hbc dL_law_748 ?_
  refine va_sld hx hbc hX hbl hbA hS hx1 dL_law_749 ?_
  refine eX8_knew (rest := [.int u7]) cI cZ cO jhe hb ab sl hh aa jhm jam Se Sx Sl Sw Ss Sd Sy Sz Sc ro Sr Sg Sp Sm (xs (k + (1 : Int32)).toNatClampNeg) u8 e8 hC wd5_34 ⟨Nat.le_of_ble_eq_true rfl, Nat.le_of_ble_eq_true rfl⟩ hP hD hK hZ hS hA hl.1 (Nat.le_of_ble_eq_true rfl) ⟨Nat.le_of_ble_eq_true rfl, Nat.le_of_ble_eq_true rfl⟩ dL_law_750 (fun H locs hP hD hS => ?_)
  refine lv_icmp_eq (tgt := 881) hx hbc dL_law_753 (by decide) (fun _ => ?_) (fun c9 => absurd er c9)
  exact hnext _ _ _ _ _ _ _ _ _ _ _ _ _ _ _ _ _ hR hP hD hS hl
set_option maxHeartbeats 4000000 in
set_option maxRecDepth 100000 in
theorem law_c24 {p : Program} {l : Launch} {e : Env} {s : State} {m : MethodId} {below : List Frame} {meth : Method} {c : Code} {D : va_G} {b L : Nat} {xs : Nat → Int32} (hL : L ≤ 2560) (C0 : lw_At p s m meth c b L xs) (hZ : Zs (fun q : Nat => s.heap.size ≤ q) s s.heap) (cI cZ cO : ClassId) (jhe : Nat) (hb : Nat → Nat) (ab : Nat → Nat → Nat) (sl hh : Nat → Nat) (aa : Nat → Nat → Nat) (jhm : Nat) (jam : Nat → Nat) (hK : va_K D vwCl (tyL cI cZ cO) s) {i : Nat} {k : Int32} (hk : k = nI i) (hi : i + 5 ≤ L)
    (hnext : ∀ (Se Sx Sl Sw Ss Sd Sy Sz Sc : Bk) (ro : Nat) (Sr Sg : Bk) (Sp : Nat → Bk) (Sm : Bk) (H : Heap) (locs : List Loc) (ls : Array Slot), Rel Se Sx Sw Ss Sy Sz Sc ro Sg Sp Sm → va_P D vwCl (wL cI cZ cO jhe hb ab sl hh aa jhm jam Se Sx Sl Sw Ss Sd Sy Sz Sc ro Sr Sg Sp Sm) H → va_D (fun q : Nat => s.heap.size ≤ q) (wL cI cZ cO jhe hb ab sl hh aa jhm jam Se Sx Sl Sw Ss Sd Sy Sz Sc ro Sr Sg Sp Sm) → va_S (fun q : Nat => s.heap.size ≤ q) s.heap H locs → lv_has ls 4 [(0, .ref b), (1, .ref jhe), (2, .ref jhm), (3, .int k)] → W p l e room_1 s m #[Value.ref b] below meth c H locs 128 3705 (lw_Z below #[Value.ref b] s) (F0 m 881 ls [])) : ∀ (Se Sx Sl Sw Ss Sd Sy Sz Sc : Bk) (ro : Nat) (Sr Sg : Bk) (Sp : Nat → Bk) (Sm : Bk) (H : Heap) (locs : List Loc) (ls : Array Slot), Rel Se Sx Sw Ss Sy Sz Sc ro Sg Sp Sm → va_P D vwCl (wL cI cZ cO jhe hb ab sl hh aa jhm jam Se Sx Sl Sw Ss Sd Sy Sz Sc ro Sr Sg Sp Sm) H → va_D (fun q : Nat => s.heap.size ≤ q) (wL cI cZ cO jhe hb ab sl hh aa jhm jam Se Sx Sl Sw Ss Sd Sy Sz Sc ro Sr Sg Sp Sm) → va_S (fun q : Nat => s.heap.size ≤ q) s.heap H locs → lv_has ls 4 [(0, .ref b), (1, .ref jhe), (2, .ref jhm), (3, .int k)] → W p l e room_1 s m #[Value.ref b] below meth c H locs 128 3705 (lw_Z below #[Value.ref b] s) (F0 m 758 ls []) := by
  obtain ⟨hx, hbc, hr, hml, hown, hts, hX, hbl, hlocks, hgv⟩ := C0
  have ht : ∀ w ∈ wT, w.before #[Value.ref b] s = true := fun w h => hts w (wT_in h)
  have hown : s.vm.findClass "EyeDrinkLaw" = some m.cls := hown
  have hbc : c.code = cL_law := hbc
  have hC : CallFix p m c cL_law 4 s #[Value.ref b] wT "EyeDrinkLaw" := ⟨hx, hbc, hml, hown, ht⟩
  have hA : ∀ q : Nat, s.heap.size ≤ q → (fun q : Nat => s.heap.size ≤ q) q := fun _ h => h
  have hbA : ¬ (fun q : Nat => s.heap.size ≤ q) b := Nat.not_le.mpr hbl
  have hx1 : vp_in (k + (1 : Int32)) L := lawX hk 1 (by omega) hL
  have hx2 : vp_in (k + (2 : Int32)) L := lawX hk 2 (by omega) hL
  have hx3 : vp_in (k + (3 : Int32)) L := lawX hk 3 (by omega) hL
  have hx4 : vp_in (k + (4 : Int32)) L := lawX hk 4 (by omega) hL
  intro Se Sx Sl Sw Ss Sd Sy Sz Sc ro Sr Sg Sp Sm H locs ls hR hP hD hS hl
  refine lv_aload_n hx hbc dL_law_758 rfl (lv_at hl 1 rfl) ?_
  refine lv_aload_n hx hbc dL_law_759 rfl (lv_at hl 0 rfl) ?_
  refine lv_iload_n hx hbc dL_law_760 rfl (lv_at hl 3 rfl) ?_
  refine lv_iconst (v := (1 : Int32)) hx hbc dL_law_761 rfl ?_
  refine lv_iadd hx hbc dL_law_762 ?_
  refine va_sld hx hbc hX hbl hbA hS hx1 dL_law_763 ?_
  refine lv_i2l hx hbc dL_law_764 rfl ?_
  refine lv_bipush (v := (32 : Int32)) hx hbc dL_law_765 rfl ?_
  refine lv_lshl hx hbc dL_law_767 rfl ?_
  refine lv_aload_n hx hbc dL_law_768 rfl (lv_at hl 0 rfl) ?_
  refine lv_iload_n hx hbc dL_law_769 rfl (lv_at hl 3 rfl) ?_
  refine lv_iconst (v := (2 : Int32)) hx hbc dL_law_770 rfl ?_
  refine lv_iadd hx hbc dL_law_771 ?_
  refine va_sld hx hbc hX hbl hbA hS hx2 dL_law_772 ?_
  refine lv_i2l hx hbc dL_law_773 rfl ?_
  refine lv_ldc2 hx hbc hown (ht _ wd5_62) dL_law_774 ?_
  refine lv_land hx hbc dL_law_777 ?_
  refine lv_lor hx hbc dL_law_778 ?_
  obtain ⟨u7, u8, e7, e8, er, hR⟩ := st_seed hR (((xs (k + (1 : Int32)).toNatClampNeg).toInt64 <<< ((32 : Int32).toInt64 &&& 63)) ||| ((xs (k + (2 : Int32)).toNatClampNeg).toInt64 &&& (4294967295 : Int64)))
  refine eX7_seed (rest := []) cI cZ cO jhe hb ab sl hh aa jhm jam Se Sx Sl Sw Ss Sd Sy Sz Sc ro Sr Sg Sp Sm (((xs (k + (1 : Int32)).toNatClampNeg).toInt64 <<< ((32 : Int32).toInt64 &&& 63)) ||| ((xs (k + (2 : Int32)).toNatClampNeg).toInt64 &&& (4294967295 : Int64))) u7 e7 hC wd3_154 ⟨Nat.le_of_ble_eq_true rfl, Nat.le_of_ble_eq_true rfl⟩ hP hD hK hZ hS hA hl.1 (Nat.le_of_ble_eq_true rfl) ⟨Nat.le_of_ble_eq_true rfl, Nat.le_of_ble_eq_true rfl⟩ dL_law_779 (fun H locs hP hD hS => ?_)
  refine lv_aload_n hx hbc dL_law_782 rfl (lv_at hl 2 rfl) ?_
  refine lv_aload_n hx hbc dL_law_783 rfl (lv_at hl 0 rfl) ?_
  refine lv_iload_n hx hbc dL_law_784 rfl (lv_at hl 3 rfl) ?_
  refine lv_iconst (v := (1 : Int32)) hx hbc dL_law_785 rfl ?_
  refine lv_iadd hx hbc dL_law_786 ?_
  refine va_sld hx hbc hX hbl hbA hS hx1 dL_law_787 ?_
  refine lv_i2l hx hbc dL_law_788 rfl ?_
  refine lv_bipush (v := (32 : Int32)) hx hbc dL_law_789 rfl ?_
  refine lv_lshl hx hbc dL_law_791 rfl ?_
  refine lv_aload_n hx hbc dL_law_792 rfl (lv_at hl 0 rfl) ?_
  refine lv_iload_n hx hbc dL_law_793 rfl (lv_at hl 3 rfl) ?_
  refine lv_iconst (v := (2 : Int32)) hx hbc dL_law_794 rfl ?_
  refine lv_iadd hx hbc dL_law_795 ?_
  refine va_sld hx hbc hX hbl hbA hS hx2 dL_law_796 ?_
  refine lv_i2l hx hbc dL_law_797 rfl ?_
  refine lv_ldc2 hx hbc hown (ht _ wd5_62) dL_law_798 ?_
  refine lv_land hx hbc dL_law_801 ?_
  refine lv_lor hx hbc dL_law_802 ?_
  refine eX8_seed (rest := [.long u7.1]) cI cZ cO jhe hb ab sl hh aa jhm jam (bO Se u7.2) Sx Sl Sw Ss Sd Sy Sz Sc ro Sr Sg Sp Sm (((xs (k + (1 : Int32)).toNatClampNeg).toInt64 <<< ((32 : Int32).toInt64 &&& 63)) ||| ((xs (k + (2 : Int32)).toNatClampNeg).toInt64 &&& (4294967295 : Int64))) u8 e8 hC wd5_42 ⟨Nat.le_of_ble_eq_true rfl, Nat.le_of_ble_eq_true rfl⟩ hP hD hK hZ hS hA hl.1 (Nat.le_of_ble_eq_true rfl) ⟨Nat.le_of_ble_eq_true rfl, Nat.le_of_ble_eq_true rfl⟩ dL_law_803 (fun H locs hP hD hS => ?_)
  refine W.lcmp hx hbc dL_law_806 ?_
  rw [er, show lg_cmp u8.1 u8.1 = 0 from by unfold lg_cmp; rw [if_neg (fun h => Int64.lt_irrefl h), if_pos rfl]]
  refine lv_if_eq (tgt := 881) hx hbc dL_law_807 (by decide) (fun _ => ?_) (fun c9 => absurd rfl c9)
  exact hnext _ _ _ _ _ _ _ _ _ _ _ _ _ _ _ _ _ hR hP hD hS hl
set_option maxHeartbeats 4000000 in
set_option maxRecDepth 100000 in
theorem law_c25 {p : Program} {l : Launch} {e : Env} {s : State} {m : MethodId} {below : List Frame} {meth : Method} {c : Code} {D : va_G} {b L : Nat} {xs : Nat → Int32} (hL : L ≤ 2560) (C0 : lw_At p s m meth c b L xs) (hZ : Zs (fun q : Nat => s.heap.size ≤ q) s s.heap) (cI cZ cO : ClassId) (jhe : Nat) (hb : Nat → Nat) (ab : Nat → Nat → Nat) (sl hh : Nat → Nat) (aa : Nat → Nat → Nat) (jhm : Nat) (jam : Nat → Nat) (hK : va_K D vwCl (tyL cI cZ cO) s) {i : Nat} {k : Int32} (hk : k = nI i) (hi : i + 5 ≤ L)
    (hnext : ∀ (Se Sx Sl Sw Ss Sd Sy Sz Sc : Bk) (ro : Nat) (Sr Sg : Bk) (Sp : Nat → Bk) (Sm : Bk) (H : Heap) (locs : List Loc) (ls : Array Slot), Rel Se Sx Sw Ss Sy Sz Sc ro Sg Sp Sm → va_P D vwCl (wL cI cZ cO jhe hb ab sl hh aa jhm jam Se Sx Sl Sw Ss Sd Sy Sz Sc ro Sr Sg Sp Sm) H → va_D (fun q : Nat => s.heap.size ≤ q) (wL cI cZ cO jhe hb ab sl hh aa jhm jam Se Sx Sl Sw Ss Sd Sy Sz Sc ro Sr Sg Sp Sm) → va_S (fun q : Nat => s.heap.size ≤ q) s.heap H locs → lv_has ls 4 [(0, .ref b), (1, .ref jhe), (2, .ref jhm), (3, .int k)] → W p l e room_1 s m #[Value.ref b] below meth c H locs 128 3705 (lw_Z below #[Value.ref b] s) (F0 m 881 ls [])) : ∀ (Se Sx Sl Sw Ss Sd Sy Sz Sc : Bk) (ro : Nat) (Sr Sg : Bk) (Sp : Nat → Bk) (Sm : Bk) (H : Heap) (locs : List Loc) (ls : Array Slot), Rel Se Sx Sw Ss Sy Sz Sc ro Sg Sp Sm → va_P D vwCl (wL cI cZ cO jhe hb ab sl hh aa jhm jam Se Sx Sl Sw Ss Sd Sy Sz Sc ro Sr Sg Sp Sm) H → va_D (fun q : Nat => s.heap.size ≤ q) (wL cI cZ cO jhe hb ab sl hh aa jhm jam Se Sx Sl Sw Ss Sd Sy Sz Sc ro Sr Sg Sp Sm) → va_S (fun q : Nat => s.heap.size ≤ q) s.heap H locs → lv_has ls 4 [(0, .ref b), (1, .ref jhe), (2, .ref jhm), (3, .int k)] → W p l e room_1 s m #[Value.ref b] below meth c H locs 128 3705 (lw_Z below #[Value.ref b] s) (F0 m 812 ls []) := by
  obtain ⟨hx, hbc, hr, hml, hown, hts, hX, hbl, hlocks, hgv⟩ := C0
  have ht : ∀ w ∈ wT, w.before #[Value.ref b] s = true := fun w h => hts w (wT_in h)
  have hown : s.vm.findClass "EyeDrinkLaw" = some m.cls := hown
  have hbc : c.code = cL_law := hbc
  have hC : CallFix p m c cL_law 4 s #[Value.ref b] wT "EyeDrinkLaw" := ⟨hx, hbc, hml, hown, ht⟩
  have hA : ∀ q : Nat, s.heap.size ≤ q → (fun q : Nat => s.heap.size ≤ q) q := fun _ h => h
  have hbA : ¬ (fun q : Nat => s.heap.size ≤ q) b := Nat.not_le.mpr hbl
  have hx1 : vp_in (k + (1 : Int32)) L := lawX hk 1 (by omega) hL
  have hx2 : vp_in (k + (2 : Int32)) L := lawX hk 2 (by omega) hL
  have hx3 : vp_in (k + (3 : Int32)) L := lawX hk 3 (by omega) hL
  have hx4 : vp_in (k + (4 : Int32)) L := lawX hk 4 (by omega) hL
  intro Se Sx Sl Sw Ss Sd Sy Sz Sc ro Sr Sg Sp Sm H locs ls hR hP hD hS hl
  refine lv_aload_n hx hbc dL_law_812 rfl (lv_at hl 1 rfl) ?_
  refine lv_aload_n hx hbc dL_law_813 rfl (lv_at hl 0 rfl) ?_
  refine lv_iload_n hx hbc dL_law_814 rfl (lv_at hl 3 rfl) ?_
  refine lv_iconst (v := (1 : Int32)) hx hbc dL_law_815 rfl ?_
  refine lv_iadd hx hbc dL_law_816 ?_
  refine va_sld hx hbc hX hbl hbA hS hx1 dL_law_817 ?_
  obtain ⟨u7, u8, e7, e8, er, hR⟩ := st_drinkers Sd hR (xs (k + (1 : Int32)).toNatClampNeg)
  refine eX7_drinkers (rest := []) cI cZ cO jhe hb ab sl hh aa jhm jam Se Sx Sl Sw Ss Sd Sy Sz Sc ro Sr Sg Sp Sm (xs (k + (1 : Int32)).toNatClampNeg) u7 e7 hC wd3_158 ⟨Nat.le_of_ble_eq_true rfl, Nat.le_of_ble_eq_true rfl⟩ hP hD hK hZ hS hA hl.1 (Nat.le_of_ble_eq_true rfl) ⟨Nat.le_of_ble_eq_true rfl, Nat.le_of_ble_eq_true rfl⟩ dL_law_818 (fun H locs hP hD hS => ?_)
  refine lv_aload_n hx hbc dL_law_821 rfl (lv_at hl 2 rfl) ?_
  refine lv_aload_n hx hbc dL_law_822 rfl (lv_at hl 0 rfl) ?_
  refine lv_iload_n hx hbc dL_law_823 rfl (lv_at hl 3 rfl) ?_
  refine lv_iconst (v := (1 : Int32)) hx hbc dL_law_824 rfl ?_
  refine lv_iadd hx hbc dL_law_825 ?_
  refine va_sld hx hbc hX hbl hbA hS hx1 dL_law_826 ?_
  refine eX8_drinkers (rest := [.int u7.1]) cI cZ cO jhe hb ab sl hh aa jhm jam (bO Se u7.2.1) Sx Sl Sw Ss u7.2.2 Sy Sz Sc ro Sr Sg Sp Sm (xs (k + (1 : Int32)).toNatClampNeg) u8 e8 hC wd5_46 ⟨Nat.le_of_ble_eq_true rfl, Nat.le_of_ble_eq_true rfl⟩ hP hD hK hZ hS hA hl.1 (Nat.le_of_ble_eq_true rfl) ⟨Nat.le_of_ble_eq_true rfl, Nat.le_of_ble_eq_true rfl⟩ dL_law_827 (fun H locs hP hD hS => ?_)
  refine lv_icmp_eq (tgt := 881) hx hbc dL_law_830 (by decide) (fun _ => ?_) (fun c9 => absurd er c9)
  exact hnext _ _ _ _ _ _ _ _ _ _ _ _ _ _ _ _ _ hR hP hD hS hl
set_option maxHeartbeats 4000000 in
set_option maxRecDepth 100000 in
theorem law_c26 {p : Program} {l : Launch} {e : Env} {s : State} {m : MethodId} {below : List Frame} {meth : Method} {c : Code} {D : va_G} {b L : Nat} {xs : Nat → Int32} (hL : L ≤ 2560) (C0 : lw_At p s m meth c b L xs) (hZ : Zs (fun q : Nat => s.heap.size ≤ q) s s.heap) (cI cZ cO : ClassId) (jhe : Nat) (hb : Nat → Nat) (ab : Nat → Nat → Nat) (sl hh : Nat → Nat) (aa : Nat → Nat → Nat) (jhm : Nat) (jam : Nat → Nat) (hK : va_K D vwCl (tyL cI cZ cO) s) {i : Nat} {k : Int32} (hk : k = nI i) (hi : i + 5 ≤ L)
    (hnext : ∀ (Se Sx Sl Sw Ss Sd Sy Sz Sc : Bk) (ro : Nat) (Sr Sg : Bk) (Sp : Nat → Bk) (Sm : Bk) (H : Heap) (locs : List Loc) (ls : Array Slot), Rel Se Sx Sw Ss Sy Sz Sc ro Sg Sp Sm → va_P D vwCl (wL cI cZ cO jhe hb ab sl hh aa jhm jam Se Sx Sl Sw Ss Sd Sy Sz Sc ro Sr Sg Sp Sm) H → va_D (fun q : Nat => s.heap.size ≤ q) (wL cI cZ cO jhe hb ab sl hh aa jhm jam Se Sx Sl Sw Ss Sd Sy Sz Sc ro Sr Sg Sp Sm) → va_S (fun q : Nat => s.heap.size ≤ q) s.heap H locs → lv_has ls 4 [(0, .ref b), (1, .ref jhe), (2, .ref jhm), (3, .int k)] → W p l e room_1 s m #[Value.ref b] below meth c H locs 128 3705 (lw_Z below #[Value.ref b] s) (F0 m 881 ls [])) : ∀ (Se Sx Sl Sw Ss Sd Sy Sz Sc : Bk) (ro : Nat) (Sr Sg : Bk) (Sp : Nat → Bk) (Sm : Bk) (H : Heap) (locs : List Loc) (ls : Array Slot), Rel Se Sx Sw Ss Sy Sz Sc ro Sg Sp Sm → va_P D vwCl (wL cI cZ cO jhe hb ab sl hh aa jhm jam Se Sx Sl Sw Ss Sd Sy Sz Sc ro Sr Sg Sp Sm) H → va_D (fun q : Nat => s.heap.size ≤ q) (wL cI cZ cO jhe hb ab sl hh aa jhm jam Se Sx Sl Sw Ss Sd Sy Sz Sc ro Sr Sg Sp Sm) → va_S (fun q : Nat => s.heap.size ≤ q) s.heap H locs → lv_has ls 4 [(0, .ref b), (1, .ref jhe), (2, .ref jhm), (3, .int k)] → W p l e room_1 s m #[Value.ref b] below meth c H locs 128 3705 (lw_Z below #[Value.ref b] s) (F0 m 835 ls []) := by
  obtain ⟨hx, hbc, hr, hml, hown, hts, hX, hbl, hlocks, hgv⟩ := C0
  have ht : ∀ w ∈ wT, w.before #[Value.ref b] s = true := fun w h => hts w (wT_in h)
  have hown : s.vm.findClass "EyeDrinkLaw" = some m.cls := hown
  have hbc : c.code = cL_law := hbc
  have hC : CallFix p m c cL_law 4 s #[Value.ref b] wT "EyeDrinkLaw" := ⟨hx, hbc, hml, hown, ht⟩
  have hA : ∀ q : Nat, s.heap.size ≤ q → (fun q : Nat => s.heap.size ≤ q) q := fun _ h => h
  have hbA : ¬ (fun q : Nat => s.heap.size ≤ q) b := Nat.not_le.mpr hbl
  have hx1 : vp_in (k + (1 : Int32)) L := lawX hk 1 (by omega) hL
  have hx2 : vp_in (k + (2 : Int32)) L := lawX hk 2 (by omega) hL
  have hx3 : vp_in (k + (3 : Int32)) L := lawX hk 3 (by omega) hL
  have hx4 : vp_in (k + (4 : Int32)) L := lawX hk 4 (by omega) hL
  intro Se Sx Sl Sw Ss Sd Sy Sz Sc ro Sr Sg Sp Sm H locs ls hR hP hD hS hl
  refine lv_aload_n hx hbc dL_law_835 rfl (lv_at hl 1 rfl) ?_
  refine lv_aload_n hx hbc dL_law_836 rfl (lv_at hl 0 rfl) ?_
  refine lv_iload_n hx hbc dL_law_837 rfl (lv_at hl 3 rfl) ?_
  refine lv_iconst (v := (1 : Int32)) hx hbc dL_law_838 rfl ?_
  refine lv_iadd hx hbc dL_law_839 ?_
  refine va_sld hx hbc hX hbl hbA hS hx1 dL_law_840 ?_
  by_cases h0 : (xs (k + (1 : Int32)).toNatClampNeg) = 0
  · obtain ⟨u7, u8, e7, e8, er, hR⟩ := st_keep_0 hR
    rw [h0]
    refine eX7_keep_0 (rest := []) cI cZ cO jhe hb ab sl hh aa jhm jam Se Sx Sl Sw Ss Sd Sy Sz Sc ro Sr Sg Sp Sm  u7 e7 hC wd3_171 ⟨Nat.le_of_ble_eq_true rfl, Nat.le_of_ble_eq_true rfl⟩ hP hD hK hZ hS hA hl.1 (Nat.le_of_ble_eq_true rfl) ⟨Nat.le_of_ble_eq_true rfl, Nat.le_of_ble_eq_true rfl⟩ dL_law_841 (fun H locs hP hD hS => ?_)
    refine lv_aload_n hx hbc dL_law_844 rfl (lv_at hl 2 rfl) ?_
    refine lv_aload_n hx hbc dL_law_845 rfl (lv_at hl 0 rfl) ?_
    refine lv_iload_n hx hbc dL_law_846 rfl (lv_at hl 3 rfl) ?_
    refine lv_iconst (v := (1 : Int32)) hx hbc dL_law_847 rfl ?_
    refine lv_iadd hx hbc dL_law_848 ?_
    refine va_sld hx hbc hX hbl hbA hS hx1 dL_law_849 ?_
    rw [h0]
    refine eX8_keep (rest := [.int u7.1]) cI cZ cO jhe hb ab sl hh aa jhm jam u7.2.1 Sx Sl Sw Ss Sd u7.2.2 Sz Sc ro Sr Sg Sp Sm (0 : Int32) u8 e8 hC wd5_54 ⟨Nat.le_of_ble_eq_true rfl, Nat.le_of_ble_eq_true rfl⟩ hP hD hK hZ hS hA hl.1 (Nat.le_of_ble_eq_true rfl) ⟨Nat.le_of_ble_eq_true rfl, Nat.le_of_ble_eq_true rfl⟩ dL_law_850 (fun H locs hP hD hS => ?_)
    refine lv_icmp_eq (tgt := 881) hx hbc dL_law_853 (by decide) (fun _ => ?_) (fun c9 => absurd er c9)
    exact hnext _ _ _ _ _ _ _ _ _ _ _ _ _ _ _ _ _ hR hP hD hS hl
  · have hz0 := h0
    by_cases h1 : (xs (k + (1 : Int32)).toNatClampNeg) = 1
    · obtain ⟨u7, u8, e7, e8, er, hR⟩ := st_keep_1 hR
      rw [h1]
      refine eX7_keep_1 (rest := []) cI cZ cO jhe hb ab sl hh aa jhm jam Se Sx Sl Sw Ss Sd Sy Sz Sc ro Sr Sg Sp Sm  u7 e7 hC wd3_171 ⟨Nat.le_of_ble_eq_true rfl, Nat.le_of_ble_eq_true rfl⟩ hP hD hK hZ hS hA hl.1 (Nat.le_of_ble_eq_true rfl) ⟨Nat.le_of_ble_eq_true rfl, Nat.le_of_ble_eq_true rfl⟩ dL_law_841 (fun H locs hP hD hS => ?_)
      refine lv_aload_n hx hbc dL_law_844 rfl (lv_at hl 2 rfl) ?_
      refine lv_aload_n hx hbc dL_law_845 rfl (lv_at hl 0 rfl) ?_
      refine lv_iload_n hx hbc dL_law_846 rfl (lv_at hl 3 rfl) ?_
      refine lv_iconst (v := (1 : Int32)) hx hbc dL_law_847 rfl ?_
      refine lv_iadd hx hbc dL_law_848 ?_
      refine va_sld hx hbc hX hbl hbA hS hx1 dL_law_849 ?_
      rw [h1]
      refine eX8_keep (rest := [.int u7.1]) cI cZ cO jhe hb ab sl hh aa jhm jam u7.2.1 Sx Sl Sw Ss Sd Sy u7.2.2 Sc ro Sr Sg Sp Sm (1 : Int32) u8 e8 hC wd5_54 ⟨Nat.le_of_ble_eq_true rfl, Nat.le_of_ble_eq_true rfl⟩ hP hD hK hZ hS hA hl.1 (Nat.le_of_ble_eq_true rfl) ⟨Nat.le_of_ble_eq_true rfl, Nat.le_of_ble_eq_true rfl⟩ dL_law_850 (fun H locs hP hD hS => ?_)
      refine lv_icmp_eq (tgt := 881) hx hbc dL_law_853 (by decide) (fun _ => ?_) (fun c9 => absurd er c9)
      exact hnext _ _ _ _ _ _ _ _ _ _ _ _ _ _ _ _ _ hR hP hD hS hl
    · have hz1 := h1
      obtain ⟨u7, u8, e7, e8, er, hR⟩ := st_keep_n hR (xs (k + (1 : Int32)).toNatClampNeg) h0 h1
      refine eX7_keep_n (rest := []) cI cZ cO jhe hb ab sl hh aa jhm jam Se Sx Sl Sw Ss Sd Sy Sz Sc ro Sr Sg Sp Sm (xs (k + (1 : Int32)).toNatClampNeg) u7 e7 hC wd3_171 ⟨Nat.le_of_ble_eq_true rfl, Nat.le_of_ble_eq_true rfl⟩ hP hD hK hZ hS hA hl.1 (Nat.le_of_ble_eq_true rfl) ⟨Nat.le_of_ble_eq_true rfl, Nat.le_of_ble_eq_true rfl⟩ dL_law_841 ?_
      refine lv_aload_n hx hbc dL_law_844 rfl (lv_at hl 2 rfl) ?_
      refine lv_aload_n hx hbc dL_law_845 rfl (lv_at hl 0 rfl) ?_
      refine lv_iload_n hx hbc dL_law_846 rfl (lv_at hl 3 rfl) ?_
      refine lv_iconst (v := (1 : Int32)) hx hbc dL_law_847 rfl ?_
      refine lv_iadd hx hbc dL_law_848 ?_
      refine va_sld hx hbc hX hbl hbA hS hx1 dL_law_849 ?_
      refine eX8_keep (rest := [.int u7]) cI cZ cO jhe hb ab sl hh aa jhm jam Se Sx Sl Sw Ss Sd Sy Sz Sc ro Sr Sg Sp Sm (xs (k + (1 : Int32)).toNatClampNeg) u8 e8 hC wd5_54 ⟨Nat.le_of_ble_eq_true rfl, Nat.le_of_ble_eq_true rfl⟩ hP hD hK hZ hS hA hl.1 (Nat.le_of_ble_eq_true rfl) ⟨Nat.le_of_ble_eq_true rfl, Nat.le_of_ble_eq_true rfl⟩ dL_law_850 (fun H locs hP hD hS => ?_)
      refine lv_icmp_eq (tgt := 881) hx hbc dL_law_853 (by decide) (fun _ => ?_) (fun c9 => absurd er c9)
      exact hnext _ _ _ _ _ _ _ _ _ _ _ _ _ _ _ _ _ hR hP hD hS hl
set_option maxHeartbeats 4000000 in
set_option maxRecDepth 100000 in
theorem law_c27 {p : Program} {l : Launch} {e : Env} {s : State} {m : MethodId} {below : List Frame} {meth : Method} {c : Code} {D : va_G} {b L : Nat} {xs : Nat → Int32} (hL : L ≤ 2560) (C0 : lw_At p s m meth c b L xs) (hZ : Zs (fun q : Nat => s.heap.size ≤ q) s s.heap) (cI cZ cO : ClassId) (jhe : Nat) (hb : Nat → Nat) (ab : Nat → Nat → Nat) (sl hh : Nat → Nat) (aa : Nat → Nat → Nat) (jhm : Nat) (jam : Nat → Nat) (hK : va_K D vwCl (tyL cI cZ cO) s) {i : Nat} {k : Int32} (hk : k = nI i) (hi : i + 5 ≤ L)
    (hnext : ∀ (Se Sx Sl Sw Ss Sd Sy Sz Sc : Bk) (ro : Nat) (Sr Sg : Bk) (Sp : Nat → Bk) (Sm : Bk) (H : Heap) (locs : List Loc) (ls : Array Slot), Rel Se Sx Sw Ss Sy Sz Sc ro Sg Sp Sm → va_P D vwCl (wL cI cZ cO jhe hb ab sl hh aa jhm jam Se Sx Sl Sw Ss Sd Sy Sz Sc ro Sr Sg Sp Sm) H → va_D (fun q : Nat => s.heap.size ≤ q) (wL cI cZ cO jhe hb ab sl hh aa jhm jam Se Sx Sl Sw Ss Sd Sy Sz Sc ro Sr Sg Sp Sm) → va_S (fun q : Nat => s.heap.size ≤ q) s.heap H locs → lv_has ls 4 [(0, .ref b), (1, .ref jhe), (2, .ref jhm), (3, .int k)] → W p l e room_1 s m #[Value.ref b] below meth c H locs 128 3705 (lw_Z below #[Value.ref b] s) (F0 m 881 ls [])) : ∀ (Se Sx Sl Sw Ss Sd Sy Sz Sc : Bk) (ro : Nat) (Sr Sg : Bk) (Sp : Nat → Bk) (Sm : Bk) (H : Heap) (locs : List Loc) (ls : Array Slot), Rel Se Sx Sw Ss Sy Sz Sc ro Sg Sp Sm → va_P D vwCl (wL cI cZ cO jhe hb ab sl hh aa jhm jam Se Sx Sl Sw Ss Sd Sy Sz Sc ro Sr Sg Sp Sm) H → va_D (fun q : Nat => s.heap.size ≤ q) (wL cI cZ cO jhe hb ab sl hh aa jhm jam Se Sx Sl Sw Ss Sd Sy Sz Sc ro Sr Sg Sp Sm) → va_S (fun q : Nat => s.heap.size ≤ q) s.heap H locs → lv_has ls 4 [(0, .ref b), (1, .ref jhe), (2, .ref jhm), (3, .int k)] → W p l e room_1 s m #[Value.ref b] below meth c H locs 128 3705 (lw_Z below #[Value.ref b] s) (F0 m 858 ls []) := by
  obtain ⟨hx, hbc, hr, hml, hown, hts, hX, hbl, hlocks, hgv⟩ := C0
  have ht : ∀ w ∈ wT, w.before #[Value.ref b] s = true := fun w h => hts w (wT_in h)
  have hown : s.vm.findClass "EyeDrinkLaw" = some m.cls := hown
  have hbc : c.code = cL_law := hbc
  have hC : CallFix p m c cL_law 4 s #[Value.ref b] wT "EyeDrinkLaw" := ⟨hx, hbc, hml, hown, ht⟩
  have hA : ∀ q : Nat, s.heap.size ≤ q → (fun q : Nat => s.heap.size ≤ q) q := fun _ h => h
  have hbA : ¬ (fun q : Nat => s.heap.size ≤ q) b := Nat.not_le.mpr hbl
  have hx1 : vp_in (k + (1 : Int32)) L := lawX hk 1 (by omega) hL
  have hx2 : vp_in (k + (2 : Int32)) L := lawX hk 2 (by omega) hL
  have hx3 : vp_in (k + (3 : Int32)) L := lawX hk 3 (by omega) hL
  have hx4 : vp_in (k + (4 : Int32)) L := lawX hk 4 (by omega) hL
  intro Se Sx Sl Sw Ss Sd Sy Sz Sc ro Sr Sg Sp Sm H locs ls hR hP hD hS hl
  refine lv_aload_n hx hbc dL_law_858 rfl (lv_at hl 1 rfl) ?_
  refine lv_aload_n hx hbc dL_law_859 rfl (lv_at hl 0 rfl) ?_
  refine lv_iload_n hx hbc dL_law_860 rfl (lv_at hl 3 rfl) ?_
  refine lv_iconst (v := (1 : Int32)) hx hbc dL_law_861 rfl ?_
  refine lv_iadd hx hbc dL_law_862 ?_
  refine va_sld hx hbc hX hbl hbA hS hx1 dL_law_863 ?_
  by_cases h0 : (xs (k + (1 : Int32)).toNatClampNeg) = 0
  · obtain ⟨u7, u8, e7, e8, er, hR⟩ := st_again_0 hR
    rw [h0]
    refine eX7_again_0 (rest := []) cI cZ cO jhe hb ab sl hh aa jhm jam Se Sx Sl Sw Ss Sd Sy Sz Sc ro Sr Sg Sp Sm  u7 e7 hC wd3_175 ⟨Nat.le_of_ble_eq_true rfl, Nat.le_of_ble_eq_true rfl⟩ hP hD hK hZ hS hA hl.1 (Nat.le_of_ble_eq_true rfl) ⟨Nat.le_of_ble_eq_true rfl, Nat.le_of_ble_eq_true rfl⟩ dL_law_864 (fun H locs hP hD hS => ?_)
    refine lv_aload_n hx hbc dL_law_867 rfl (lv_at hl 2 rfl) ?_
    refine lv_aload_n hx hbc dL_law_868 rfl (lv_at hl 0 rfl) ?_
    refine lv_iload_n hx hbc dL_law_869 rfl (lv_at hl 3 rfl) ?_
    refine lv_iconst (v := (1 : Int32)) hx hbc dL_law_870 rfl ?_
    refine lv_iadd hx hbc dL_law_871 ?_
    refine va_sld hx hbc hX hbl hbA hS hx1 dL_law_872 ?_
    rw [h0]
    refine eX8_again (rest := [.int u7.1]) cI cZ cO jhe hb ab sl hh aa jhm jam Se Sx Sl Sw u7.2.1 Sd Sy Sz (bO Sc u7.2.2) ro Sr Sg Sp Sm (0 : Int32) u8 e8 hC wd5_58 ⟨Nat.le_of_ble_eq_true rfl, Nat.le_of_ble_eq_true rfl⟩ hP hD hK hZ hS hA hl.1 (Nat.le_of_ble_eq_true rfl) ⟨Nat.le_of_ble_eq_true rfl, Nat.le_of_ble_eq_true rfl⟩ dL_law_873 (fun H locs hP hD hS => ?_)
    refine lv_icmp_eq (tgt := 881) hx hbc dL_law_876 (by decide) (fun _ => ?_) (fun c9 => absurd er c9)
    exact hnext _ _ _ _ _ _ _ _ _ _ _ _ _ _ _ _ _ hR hP hD hS hl
  · have hz0 := h0
    by_cases h1 : (xs (k + (1 : Int32)).toNatClampNeg) = 1
    · obtain ⟨u7, u8, e7, e8, er, hR⟩ := st_again_1 hR
      rw [h1]
      refine eX7_again_1 (rest := []) cI cZ cO jhe hb ab sl hh aa jhm jam Se Sx Sl Sw Ss Sd Sy Sz Sc ro Sr Sg Sp Sm  u7 e7 hC wd3_175 ⟨Nat.le_of_ble_eq_true rfl, Nat.le_of_ble_eq_true rfl⟩ hP hD hK hZ hS hA hl.1 (Nat.le_of_ble_eq_true rfl) ⟨Nat.le_of_ble_eq_true rfl, Nat.le_of_ble_eq_true rfl⟩ dL_law_864 (fun H locs hP hD hS => ?_)
      refine lv_aload_n hx hbc dL_law_867 rfl (lv_at hl 2 rfl) ?_
      refine lv_aload_n hx hbc dL_law_868 rfl (lv_at hl 0 rfl) ?_
      refine lv_iload_n hx hbc dL_law_869 rfl (lv_at hl 3 rfl) ?_
      refine lv_iconst (v := (1 : Int32)) hx hbc dL_law_870 rfl ?_
      refine lv_iadd hx hbc dL_law_871 ?_
      refine va_sld hx hbc hX hbl hbA hS hx1 dL_law_872 ?_
      rw [h1]
      refine eX8_again (rest := [.int u7.1]) cI cZ cO jhe hb ab sl hh aa jhm jam Se Sx Sl Sw u7.2.1 Sd Sy Sz (bO Sc u7.2.2) ro Sr Sg Sp Sm (1 : Int32) u8 e8 hC wd5_58 ⟨Nat.le_of_ble_eq_true rfl, Nat.le_of_ble_eq_true rfl⟩ hP hD hK hZ hS hA hl.1 (Nat.le_of_ble_eq_true rfl) ⟨Nat.le_of_ble_eq_true rfl, Nat.le_of_ble_eq_true rfl⟩ dL_law_873 (fun H locs hP hD hS => ?_)
      refine lv_icmp_eq (tgt := 881) hx hbc dL_law_876 (by decide) (fun _ => ?_) (fun c9 => absurd er c9)
      exact hnext _ _ _ _ _ _ _ _ _ _ _ _ _ _ _ _ _ hR hP hD hS hl
    · have hz1 := h1
      obtain ⟨u7, u8, e7, e8, er, hR⟩ := st_again_n hR (xs (k + (1 : Int32)).toNatClampNeg) h0 h1
      refine eX7_again_n (rest := []) cI cZ cO jhe hb ab sl hh aa jhm jam Se Sx Sl Sw Ss Sd Sy Sz Sc ro Sr Sg Sp Sm (xs (k + (1 : Int32)).toNatClampNeg) u7 e7 hC wd3_175 ⟨Nat.le_of_ble_eq_true rfl, Nat.le_of_ble_eq_true rfl⟩ hP hD hK hZ hS hA hl.1 (Nat.le_of_ble_eq_true rfl) ⟨Nat.le_of_ble_eq_true rfl, Nat.le_of_ble_eq_true rfl⟩ dL_law_864 ?_
      refine lv_aload_n hx hbc dL_law_867 rfl (lv_at hl 2 rfl) ?_
      refine lv_aload_n hx hbc dL_law_868 rfl (lv_at hl 0 rfl) ?_
      refine lv_iload_n hx hbc dL_law_869 rfl (lv_at hl 3 rfl) ?_
      refine lv_iconst (v := (1 : Int32)) hx hbc dL_law_870 rfl ?_
      refine lv_iadd hx hbc dL_law_871 ?_
      refine va_sld hx hbc hX hbl hbA hS hx1 dL_law_872 ?_
      refine eX8_again (rest := [.int u7]) cI cZ cO jhe hb ab sl hh aa jhm jam Se Sx Sl Sw Ss Sd Sy Sz Sc ro Sr Sg Sp Sm (xs (k + (1 : Int32)).toNatClampNeg) u8 e8 hC wd5_58 ⟨Nat.le_of_ble_eq_true rfl, Nat.le_of_ble_eq_true rfl⟩ hP hD hK hZ hS hA hl.1 (Nat.le_of_ble_eq_true rfl) ⟨Nat.le_of_ble_eq_true rfl, Nat.le_of_ble_eq_true rfl⟩ dL_law_873 (fun H locs hP hD hS => ?_)
      refine lv_icmp_eq (tgt := 881) hx hbc dL_law_876 (by decide) (fun _ => ?_) (fun c9 => absurd er c9)
      exact hnext _ _ _ _ _ _ _ _ _ _ _ _ _ _ _ _ _ hR hP hD hS hl
