/-! worlds up to their order -/
theorem va_P_all {D : va_G} {cl : List vw_C} {ws : va_W} {H : Heap} : va_P D cl ws H ↔ ∀ q ∈ ws, va_at D cl q H := ⟨fun h q hq => by
  obtain ⟨k, hk⟩ := List.getElem?_of_mem hq
  exact h k q hk, fun h k q hk => h q (List.mem_of_getElem? hk)⟩
theorem va_P.pm {D : va_G} {cl : List vw_C} {ws ws' : va_W} {H : Heap} (h : va_P D cl ws H) (hp : ws.Perm ws') : va_P D cl ws' H := va_P_all.mpr (fun q hq => va_P_all.mp h q (hp.mem_iff.mpr hq))
theorem va_D_all {A : Nat → Prop} {ws : va_W} : va_D A ws ↔ (ws.map Prod.fst).Nodup ∧ ∀ q ∈ ws, A q.1 := by
  constructor
  · intro h
    refine ⟨?_, fun q hq => ?_⟩
    · rw [List.nodup_iff_pairwise_ne, List.pairwise_iff_getElem]
      intro i j hi hj hij e
      rw [List.getElem_map, List.getElem_map] at e
      rw [List.length_map] at hi hj
      have := h.1 i j ws[i] ws[j] (List.getElem?_eq_getElem hi) (List.getElem?_eq_getElem hj) e
      omega
    · obtain ⟨k, hk⟩ := List.getElem?_of_mem hq
      exact h.2 k q hk
  · intro h
    refine ⟨fun i j p q hp hq e => ?_, fun k q hk => h.2 q (List.mem_of_getElem? hk)⟩
    have hn := h.1
    rw [List.nodup_iff_pairwise_ne, List.pairwise_iff_getElem] at hn
    obtain ⟨hi, ei⟩ := List.getElem?_eq_some_iff.mp hp
    obtain ⟨hj, ej⟩ := List.getElem?_eq_some_iff.mp hq
    rcases Nat.lt_trichotomy i j with q1 | q1 | q1
    · exact absurd (by rw [List.getElem_map, List.getElem_map, ei, ej]; exact e) (hn i j (by rw [List.length_map]; exact hi) (by rw [List.length_map]; exact hj) q1)
    · exact q1
    · exact absurd (by rw [List.getElem_map, List.getElem_map, ei, ej]; exact e.symm) (hn j i (by rw [List.length_map]; exact hj) (by rw [List.length_map]; exact hi) q1)
theorem va_D.pm {A : Nat → Prop} {ws ws' : va_W} (h : va_D A ws) (hp : ws.Perm ws') : va_D A ws' := by
  have h1 := va_D_all.mp h
  exact va_D_all.mpr ⟨(hp.map Prod.fst).nodup h1.1, fun q hq => h1.2 q (hp.mem_iff.mpr hq)⟩
theorem va_P.lf {D : va_G} {cl : List vw_C} {w1 w2 : va_W} {H : Heap} (h : va_P D cl (w1 ++ w2) H) : va_P D cl w1 H := va_P_all.mpr (fun q hq => va_P_all.mp h q (List.mem_append_left _ hq))
theorem va_D.lf {A : Nat → Prop} {w1 w2 : va_W} (h : va_D A (w1 ++ w2)) : va_D A w1 := by
  have h1 := va_D_all.mp h
  rw [List.map_append] at h1
  exact va_D_all.mpr ⟨(List.nodup_append.mp h1.1).1, fun q hq => h1.2 q (List.mem_append_left _ hq)⟩
theorem fr_jn {D : va_G} {A : Nat → Prop} {ws wc wr w1 ws' : va_W} {H H1 : Heap} (hp : ws.Perm (wc ++ wr)) (hp' : (w1 ++ wr).Perm ws') (hP : va_P D vwCl ws H) (hD : va_D A ws)
    (hk : ∀ q : Nat, q < H.size → ¬ va_A wc H.size q → H1[q]? = H[q]?) (hF : ∀ q, va_A wc H.size q → A q) (hP1 : va_P D vwCl w1 H1) (hD1 : va_D (va_A wc H.size) w1) : va_P D vwCl ws' H1 ∧ va_D A ws' := by
  have hPp := va_P_all.mp (hP.pm hp)
  have hDp := va_D_all.mp (hD.pm hp)
  rw [List.map_append] at hDp
  have hap : ∀ q ∈ wr, ¬ va_A wc H.size q.1 := by
    intro q hq h
    rcases h with ⟨k, e, h⟩ | h
    · exact (List.nodup_append.mp hDp.1).2.2 q.1 (List.mem_map.mpr ⟨(q.1, e), List.mem_of_getElem? h, rfl⟩) q.1 (List.mem_map.mpr ⟨q, hq, rfl⟩) rfl
    · have := (hPp q (List.mem_append_right _ hq)).lt
      omega
  have hD1' := va_D_all.mp hD1
  refine ⟨va_P.pm (va_P_all.mpr (fun q hq => ?_)) hp', va_D.pm (va_D_all.mpr ⟨?_, fun q hq => ?_⟩) hp'⟩
  · rcases List.mem_append.mp hq with h | h
    · exact va_P_all.mp hP1 q h
    · exact (hPp q (List.mem_append_right _ h)).kept (hk q.1 (hPp q (List.mem_append_right _ h)).lt (hap q h))
  · rw [List.map_append, List.nodup_append]
    refine ⟨hD1'.1, (List.nodup_append.mp hDp.1).2.1, fun a ha b hb e => ?_⟩
    obtain ⟨q1, h1, e1⟩ := List.mem_map.mp ha
    obtain ⟨q2, h2, e2⟩ := List.mem_map.mp hb
    exact hap q2 h2 (by rw [e2, ← e, ← e1]; exact hD1'.2 q1 h1)
  · rcases List.mem_append.mp hq with h | h
    · exact hF _ (hD1'.2 q h)
    · exact hDp.2 q (List.mem_append_right _ h)
theorem fr_free {A : Nat → Prop} {ws wc wr : va_W} {H0 H : Heap} {locs : List Loc} (hp : ws.Perm (wc ++ wr)) (hD : va_D A ws) (hS : va_S A H0 H locs) (hA : ∀ q, H0.size ≤ q → A q) : ∀ q, va_A wc H.size q → A q := by
  intro q h
  rcases h with ⟨k, e, h⟩ | h
  · exact (va_D_all.mp (hD.pm hp)).2 (q, e) (List.mem_append_left _ (List.mem_of_getElem? h))
  · exact hA q (Nat.le_trans hS.1 h)
theorem rg_fm {α : Type} (F : List α) : (List.range F.length).filterMap (fun i => F[i]?) = F := fm_map (by
  apply List.ext_getElem
  · simp
  · intro i h1 h2
    simp at h1 h2 ⊢
    )
theorem pm_idx {α : Type} {F wc wr : List α} (isC isR : List Nat) (h : (isC ++ isR).Perm (List.range F.length)) (hC : isC.map (fun i => F[i]?) = wc.map some) (hR : isR.map (fun i => F[i]?) = wr.map some) : F.Perm (wc ++ wr) := by
  have h1 := (h.filterMap (fun i => F[i]?)).symm
  rw [rg_fm, List.filterMap_append, fm_map hC, fm_map hR] at h1
  exact h1
theorem pm_idxZ {α : Type} {F wc wr Z : List α} (isC isR : List Nat) (h : (isC ++ isR).Perm (List.range F.length)) (hC : isC.map (fun i => F[i]?) = wc.map some) (hR : isR.map (fun i => F[i]?) = wr.map some) : (F ++ Z).Perm (wc ++ (wr ++ Z)) := by
  rw [← List.append_assoc]
  exact (pm_idx isC isR h hC hR).append_right Z
theorem pm_idxZ2 {α : Type} {F wc wr Z : List α} (n : Nat) (hn : F.length = n) (isC isR : List Nat) (h : (isC ++ isR).Perm (List.range n)) (hC : isC.map (fun i => F[i]?) = wc.map some) (hR : isR.map (fun i => F[i]?) = wr.map some) : (F ++ Z).Perm (wc ++ (wr ++ Z)) := pm_idxZ isC isR (by rw [hn]; exact h) hC hR
theorem pm_tl {α : Type} {F wc wr Z : List α} (n : Nat) (hn : F.length = n) (isC isR : List Nat) (h : (isC ++ isR).Perm (List.range n)) (hC : isC.map (fun i => F[i]?) = wc.map some) (hR : isR.map (fun i => F[i]?) = wr.map some) : (F ++ Z).Perm ((wc ++ Z) ++ wr) := by
  refine (pm_idxZ2 n hn isC isR h hC hR).trans ?_
  rw [List.append_assoc]
  exact List.perm_append_comm.append_left _
def slF (sl : Nat → Nat) : Nat → Option Nat := fun i => if i < 2 then some (sl i) else none
section KD
variable {p : Program} {l : Launch} {e : Env} {R : Room} {s : State} {m : MethodId} {args : Array Value} {below : List Frame} {meth : Method} {c : Code} {H : Heap} {locs : List Loc} {Q : State → Prop} {cc : ByteArray} {nL pc idx fr lo : Nat} {ls : Array Slot} {rest As st : List Value} {own : String} {y : MethodName} {bytes : ByteArray} {maxL n : Nat} {ret : Option FieldType} {D : va_G} {T : List (ClassId × FieldType)} {A : Nat → Prop} {b : Nat} {ws wc wr w1 ws' : va_W}
theorem k_wViP {v : Int32} (hC : CallFix p m c cc nL s args wT own) (hi : MI y bytes maxL ret n) (him : Cond.instanceMethod y ∈ wT) (hse : Cond.selects y.cls y y ∈ wT) (hlk : Cond.methodLink own idx y ∈ wT) (hM : Met l y (Cond.code y bytes maxL ret :: wT) (rmF fr lo) (va_Pc (.ref b :: As) (cW D T wc H.size)) (va_Qi (S := Unit) (fun r _ => r = v) (fun _ => qW D T (va_A wc H.size) w1) (va_A wc H.size)) 0 0 (va_A wc H.size)) (hR0 : fr + 1 ≤ R.frames ∧ 8 + (maxL + 11) + lo ≤ R.locals) (hP : va_P D vwCl ws H) (hD : va_D A ws) (hK : va_K D vwCl T s) (hZ : Zs A s s.heap) (hS : va_S A s.heap H locs) (hA : ∀ q, s.heap.size ≤ q → A q) (hp : ws.Perm (wc ++ wr)) (hp' : (w1 ++ wr).Perm ws') (hrec : ∃ cell : Cell, H[b]? = some cell ∧ cell.vm.isStatics = false ∧ s.vm.findClass y.cls = some cell.cls) (hz : ls.size = nL) (hln : As.length = n) (hstk : st = As.reverse ++ .ref b :: rest) (hw : (rest.map fun v => v.category).sum ≤ 8) {cells slots : Nat} (hcs : cells ≤ R.cells ∧ slots ≤ R.slots) (hdg : decode cc pc = .ok (.invokevirtual idx, 3))
    (kk : ∀ (H1 : Heap) (locs1 : List Loc), va_P D vwCl ws' H1 → va_D A ws' → va_S A s.heap H1 locs1 → W p l e R s m args below meth c H1 locs1 cells slots Q (F0 m (pc + 3) ls (.int v :: rest))) : W p l e R s m args below meth c H locs cells slots Q (F0 m pc ls st) := by
  have hF := fr_free hp hD hS hA
  have hPc := (hP.pm hp).lf
  have hDc := (hD.pm hp).lf
  refine va_calli (va_runV (C := y.cls) hC hM ⟨kB hC hi hlk hR0, hC.2.2.2.2 _ him, hC.2.2.2.2 _ hse⟩ ⟨fb_W, hrec, fun U hU hW => ⟨rfl, by rw [hU], by rw [hU]; exact hPc, va_K.moved hW.alike hK, hDc.weaken (fun _ _ _ _ => trivial), zW hZ hS hU hW hF⟩⟩ rfl hln hz hstk (lv_room (m := m) (pc := pc) (ls := ls) (rest := st) hw) hdg hcs) hS (fun q _ h => hF q h) hF (fun r u t H1 locs1 ht hvm hw1 hB hz1 hk1 hS1 => ?_)
  obtain ⟨hP1, hK1, hD1⟩ := hB
  rw [ht] at hP1
  obtain ⟨a1, a2⟩ := fr_jn hp hp' hP hD hk1 hF hP1 hD1
  rw [hw1]
  exact kk H1 locs1 a1 a2 hS1
theorem k_wVlP {v : Int64} (hC : CallFix p m c cc nL s args wT own) (hi : MI y bytes maxL ret n) (him : Cond.instanceMethod y ∈ wT) (hse : Cond.selects y.cls y y ∈ wT) (hlk : Cond.methodLink own idx y ∈ wT) (hM : Met l y (Cond.code y bytes maxL ret :: wT) (rmF fr lo) (va_Pc (.ref b :: As) (cW D T wc H.size)) (va_Ql (S := Unit) (fun r _ => r = v) (fun _ => qW D T (va_A wc H.size) w1) (va_A wc H.size)) 0 0 (va_A wc H.size)) (hR0 : fr + 1 ≤ R.frames ∧ 8 + (maxL + 11) + lo ≤ R.locals) (hP : va_P D vwCl ws H) (hD : va_D A ws) (hK : va_K D vwCl T s) (hZ : Zs A s s.heap) (hS : va_S A s.heap H locs) (hA : ∀ q, s.heap.size ≤ q → A q) (hp : ws.Perm (wc ++ wr)) (hp' : (w1 ++ wr).Perm ws') (hrec : ∃ cell : Cell, H[b]? = some cell ∧ cell.vm.isStatics = false ∧ s.vm.findClass y.cls = some cell.cls) (hz : ls.size = nL) (hln : As.length = n) (hstk : st = As.reverse ++ .ref b :: rest) (hw : (rest.map fun v => v.category).sum ≤ 8) {cells slots : Nat} (hcs : cells ≤ R.cells ∧ slots ≤ R.slots) (hdg : decode cc pc = .ok (.invokevirtual idx, 3))
    (kk : ∀ (H1 : Heap) (locs1 : List Loc), va_P D vwCl ws' H1 → va_D A ws' → va_S A s.heap H1 locs1 → W p l e R s m args below meth c H1 locs1 cells slots Q (F0 m (pc + 3) ls (.long v :: rest))) : W p l e R s m args below meth c H locs cells slots Q (F0 m pc ls st) := by
  have hF := fr_free hp hD hS hA
  have hPc := (hP.pm hp).lf
  have hDc := (hD.pm hp).lf
  refine va_calll (va_runV (C := y.cls) hC hM ⟨kB hC hi hlk hR0, hC.2.2.2.2 _ him, hC.2.2.2.2 _ hse⟩ ⟨fb_W, hrec, fun U hU hW => ⟨rfl, by rw [hU], by rw [hU]; exact hPc, va_K.moved hW.alike hK, hDc.weaken (fun _ _ _ _ => trivial), zW hZ hS hU hW hF⟩⟩ rfl hln hz hstk (lv_room (m := m) (pc := pc) (ls := ls) (rest := st) hw) hdg hcs) hS (fun q _ h => hF q h) hF (fun r u t H1 locs1 ht hvm hw1 hB hz1 hk1 hS1 => ?_)
  obtain ⟨hP1, hK1, hD1⟩ := hB
  rw [ht] at hP1
  obtain ⟨a1, a2⟩ := fr_jn hp hp' hP hD hk1 hF hP1 hD1
  rw [hw1]
  exact kk H1 locs1 a1 a2 hS1
theorem k_wVvP (hC : CallFix p m c cc nL s args wT own) (hi : MI y bytes maxL ret n) (him : Cond.instanceMethod y ∈ wT) (hse : Cond.selects y.cls y y ∈ wT) (hlk : Cond.methodLink own idx y ∈ wT) (hM : Met l y (Cond.code y bytes maxL ret :: wT) (rmF fr lo) (va_Pc (.ref b :: As) (cW D T wc H.size)) (va_Qv (S := Unit) (fun _ => True) (fun _ => qW D T (va_A wc H.size) w1) (va_A wc H.size)) 0 0 (va_A wc H.size)) (hR0 : fr + 1 ≤ R.frames ∧ 8 + (maxL + 11) + lo ≤ R.locals) (hP : va_P D vwCl ws H) (hD : va_D A ws) (hK : va_K D vwCl T s) (hZ : Zs A s s.heap) (hS : va_S A s.heap H locs) (hA : ∀ q, s.heap.size ≤ q → A q) (hp : ws.Perm (wc ++ wr)) (hp' : (w1 ++ wr).Perm ws') (hrec : ∃ cell : Cell, H[b]? = some cell ∧ cell.vm.isStatics = false ∧ s.vm.findClass y.cls = some cell.cls) (hz : ls.size = nL) (hln : As.length = n) (hstk : st = As.reverse ++ .ref b :: rest) (hw : (rest.map fun v => v.category).sum ≤ 8) {cells slots : Nat} (hcs : cells ≤ R.cells ∧ slots ≤ R.slots) (hdg : decode cc pc = .ok (.invokevirtual idx, 3))
    (kk : ∀ (H1 : Heap) (locs1 : List Loc), va_P D vwCl ws' H1 → va_D A ws' → va_S A s.heap H1 locs1 → W p l e R s m args below meth c H1 locs1 cells slots Q (F0 m (pc + 3) ls (rest))) : W p l e R s m args below meth c H locs cells slots Q (F0 m pc ls st) := by
  have hF := fr_free hp hD hS hA
  have hPc := (hP.pm hp).lf
  have hDc := (hD.pm hp).lf
  refine va_callv (va_runV (C := y.cls) hC hM ⟨kB hC hi hlk hR0, hC.2.2.2.2 _ him, hC.2.2.2.2 _ hse⟩ ⟨fb_W, hrec, fun U hU hW => ⟨rfl, by rw [hU], by rw [hU]; exact hPc, va_K.moved hW.alike hK, hDc.weaken (fun _ _ _ _ => trivial), zW hZ hS hU hW hF⟩⟩ rfl hln hz hstk (lv_room (m := m) (pc := pc) (ls := ls) (rest := st) hw) hdg hcs) hS (fun q _ h => hF q h) hF (fun u t H1 locs1 ht hvm hw1 hB hz1 hk1 hS1 => ?_)
  obtain ⟨hP1, hK1, hD1⟩ := hB
  rw [ht] at hP1
  obtain ⟨a1, a2⟩ := fr_jn hp hp' hP hD hk1 hF hP1 hD1
  exact kk H1 locs1 a1 a2 hS1
/-- a method of an object that reads, at any count of cells -/
theorem k_rVc {v : Int32} {cells slots : Nat} (hC : CallFix p m c cc nL s args wT own) (hi : MI y bytes maxL ret n) (him : Cond.instanceMethod y ∈ wT) (hse : Cond.selects y.cls y y ∈ wT) (hlk : Cond.methodLink own idx y ∈ wT) (hM : Met l y (Cond.code y bytes maxL ret :: wT) (rmF fr lo) (va_Pc (.ref b :: As) (cR D T wc)) (vp_Si (fun r => r = v)) 0 0 (fun _ => False)) (hR : fr + 1 ≤ R.frames ∧ 8 + (maxL + 11) + lo ≤ R.locals) (hP : va_P D vwCl wc H) (hK : va_K D vwCl T s) (hZ : Zs A s s.heap) (hS : va_S A s.heap H locs) (hrec : ∃ cell : Cell, H[b]? = some cell ∧ cell.vm.isStatics = false ∧ s.vm.findClass y.cls = some cell.cls) (hz : ls.size = nL) (hn : As.length = n) (hstk : st = As.reverse ++ .ref b :: rest) (hw : (rest.map fun v => v.category).sum ≤ 8) (hcs : cells ≤ R.cells ∧ slots ≤ R.slots) (hdg : decode cc pc = .ok (.invokevirtual idx, 3))
    (kk : W p l e R s m args below meth c H locs cells slots Q (F0 m (pc + 3) ls (.int v :: rest))) : W p l e R s m args below meth c H locs cells slots Q (F0 m pc ls st) :=
  vp_callSi (W.runV (C := y.cls) hC hM ⟨kB hC hi hlk hR, hC.2.2.2.2 _ him, hC.2.2.2.2 _ hse⟩ ⟨fb_R, hrec, fun U hU hW => ⟨rfl, by rw [hU]; exact hP, va_K.moved hW.alike hK, zR hZ hS hU hW⟩⟩ rfl hn hz hstk (lv_room (m := m) (pc := pc) (ls := ls) (rest := st) hw) hdg hcs) (fun r h => by rw [h]; exact kk)
end KD
/-! the pool of stands -/
def stC (cI : ClassId) (w h : Nat) (a : Nat → Nat) (S : Bk) : va_W := [(h, .inr (2, [.ref w, .ref (a 1), .ref (a 2), .ref (a 3), .int (S.1 0), .int (S.1 1), .int (S.1 2), .int (S.1 3)])), (a 1, .inl (cI, 4, .inl (S.2.1 1))), (a 2, .inl (cI, 4, .inl (S.2.1 2))), (a 3, .inl (cI, 4, .inl (S.2.1 3)))]
def plC (cI : ClassId) (w : Nat) (hh : Nat → Nat) (aa : Nat → Nat → Nat) (St : Nat → Bk) (n : Nat) : va_W := (List.range n).flatMap (fun j => stC cI w (hh j) (aa j) (St j))
def plX (cI : ClassId) (w : Nat) (hh : Nat → Nat) (aa : Nat → Nat → Nat) (St : Nat → Bk) (n k : Nat) : va_W := ((List.range n).erase k).flatMap (fun j => stC cI w (hh j) (aa j) (St j))
theorem plC_succ (cI : ClassId) (w : Nat) (hh : Nat → Nat) (aa : Nat → Nat → Nat) (St : Nat → Bk) (n : Nat) : plC cI w hh aa St (n + 1) = plC cI w hh aa St n ++ stC cI w (hh n) (aa n) (St n) := by
  unfold plC
  rw [List.range_succ, List.flatMap_append, List.flatMap_singleton]
theorem plC_len (cI : ClassId) (w : Nat) (hh : Nat → Nat) (aa : Nat → Nat → Nat) (St : Nat → Bk) : ∀ n, (plC cI w hh aa St n).length = 4 * n
  | 0 => rfl
  | n + 1 => by
    rw [plC_succ, List.length_append, plC_len cI w hh aa St n]
    show 4 * n + 4 = 4 * (n + 1)
    omega
theorem plC_get (cI : ClassId) (w : Nat) (hh : Nat → Nat) (aa : Nat → Nat → Nat) (St : Nat → Bk) {j : Nat} : ∀ n, j < n → (plC cI w hh aa St n)[4 * j]? = some (hh j, .inr (2, [.ref w, .ref (aa j 1), .ref (aa j 2), .ref (aa j 3), .int ((St j).1 0), .int ((St j).1 1), .int ((St j).1 2), .int ((St j).1 3)]))
  | 0, h => absurd h (Nat.not_lt_zero j)
  | n + 1, h => by
    rw [plC_succ]
    rcases Nat.lt_or_ge j n with q | q
    · rw [List.getElem?_append_left (by rw [plC_len]; omega)]
      exact plC_get cI w hh aa St n q
    · have e : j = n := by omega
      subst e
      rw [List.getElem?_append_right (by rw [plC_len]; omega), plC_len, Nat.sub_self]
      rfl
theorem plC_pm (cI : ClassId) (w : Nat) (hh : Nat → Nat) (aa : Nat → Nat → Nat) (St : Nat → Bk) {n k : Nat} (h : k < n) : (plC cI w hh aa St n).Perm (stC cI w (hh k) (aa k) (St k) ++ plX cI w hh aa St n k) := by
  have h1 := (List.perm_cons_erase (a := k) (l := List.range n) (List.mem_range.mpr h)).flatMap_right (fun j => stC cI w (hh j) (aa j) (St j))
  rw [List.flatMap_cons] at h1
  exact h1
theorem fm_cg {α β : Type} {f g : α → List β} : ∀ {l : List α}, (∀ a ∈ l, f a = g a) → l.flatMap f = l.flatMap g
  | [], _ => rfl
  | a :: l, h => by rw [List.flatMap_cons, List.flatMap_cons, h a List.mem_cons_self, fm_cg (fun b hb => h b (List.mem_cons_of_mem _ hb))]
theorem plX_up (cI : ClassId) (w : Nat) (hh : Nat → Nat) (aa : Nat → Nat → Nat) (St : Nat → Bk) (S : Bk) {n k : Nat} : plX cI w hh aa (va_up St k S) n k = plX cI w hh aa St n k := fm_cg (fun a ha => by
  have hne : a ≠ k := fun e => by
    subst e
    exact List.Nodup.not_mem_erase List.nodup_range ha
  show stC cI w (hh a) (aa a) (va_up St k S a) = _
  rw [show va_up St k S a = St a from if_neg hne])
theorem plC_up (cI : ClassId) (w : Nat) (hh : Nat → Nat) (aa : Nat → Nat → Nat) (St : Nat → Bk) (S : Bk) {n k : Nat} (h : k < n) : (stC cI w (hh k) (aa k) S ++ plX cI w hh aa St n k).Perm (plC cI w hh aa (va_up St k S) n) := by
  have h1 := plC_pm cI w hh aa (va_up St k S) h
  rw [plX_up, show va_up St k S k = S from if_pos rfl] at h1
  exact h1.symm
def rwF (hh : Nat → Nat) (ro : Nat) : Nat → Option Nat := fun i => if i < 14 then some (hh ((i + ro) % 14)) else none
def rwI (hh : Nat → Nat) (ro i : Nat) : Nat → Option Nat := fun k => if k + 1 < i then rwF hh ro (k + 1) else rwF hh ro k
theorem rwI_1 (hh : Nat → Nat) (ro : Nat) : rwI hh ro 1 = rwF hh ro := by
  funext k
  unfold rwI
  rw [if_neg (by omega)]
theorem rwI_s (hh : Nat → Nat) (ro : Nat) {i : Nat} (h1 : 1 ≤ i) (h : i < 14) : va_up (rwI hh ro i) (i - 1) (some (hh ((i + ro) % 14))) = rwI hh ro (i + 1) := by
  funext k
  unfold rwI va_up
  by_cases e : k = i - 1
  · subst e
    rw [if_pos rfl, if_pos (by omega)]
    unfold rwF
    rw [if_pos (by omega)]
    congr 4
    omega
  · rw [if_neg e]
    dsimp only
    by_cases e2 : k + 1 < i
    · rw [if_pos e2, if_pos (by omega)]
    · rw [if_neg e2, if_neg (by omega)]
theorem rwI_e (hh : Nat → Nat) (ro : Nat) : va_up (rwI hh ro 14) 13 (some (hh (ro % 14))) = rwF hh (ro + 1) := by
  funext k
  unfold rwI va_up rwF
  by_cases e : k = 13
  · subst e
    rw [if_pos rfl, if_pos (by omega)]
    congr 2
    omega
  · rw [if_neg e]
    dsimp only
    by_cases e2 : k + 1 < 14
    · rw [if_pos e2, if_pos (by omega), if_pos (by omega)]
      congr 3
      omega
    · rw [if_neg e2, if_neg (by omega), if_neg (by omega)]
theorem rwI_at (hh : Nat → Nat) (ro : Nat) {i : Nat} (h : i < 14) : rwI hh ro i i = some (hh ((i + ro) % 14)) := by
  unfold rwI rwF
  rw [if_neg (by omega), if_pos h]
abbrev acO (jhc jal : Nat) (Sc : Bk) : Nat × va_E := (jhc, .inr (0, [.ref jal, .int (Sc.1 0)]))
abbrev acR (cO : ClassId) (jal : Nat) (f : Nat → Option Nat) : Nat × va_E := (jal, .inl (cO, 14, .inr (.inr (.inr (.inr f)))))
abbrev acW (cI cO : ClassId) (jhw jhc jal : Nat) (hh : Nat → Nat) (aa : Nat → Nat → Nat) (Sc : Bk) (ro : Nat) (St : Nat → Bk) : va_W := acO jhc jal Sc :: acR cO jal (rwF hh ro) :: plC cI jhw hh aa St 14
