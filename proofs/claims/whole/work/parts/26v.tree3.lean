def sc (me : Bool) : Int := if me = true then 10 else 1
def nb (me : Bool) : Nat := if me = true then 1 else 0
def bb (bq : Nat) : Nat := if bq < 4 then 2 ^ bq else 0
theorem bb_l (bq : Nat) : bb bq < 16 := by
  unfold bb
  split
  · rcases (show bq = 0 ∨ bq = 1 ∨ bq = 2 ∨ bq = 3 by omega) with h | h | h | h <;> rw [h] <;> decide
  · omega
theorem p2b : ∀ b, b < 4 → ∀ q, q < 4 → bi (2 ^ b) q = if q = b then 1 else 0 := by decide
theorem bb_b {bq q : Nat} (hq : q < 4) : bi (bb bq) q = if q = bq then 1 else 0 := by
  unfold bb
  by_cases c : bq < 4
  · rw [if_pos c]; exact p2b bq c q hq
  · rw [if_neg c, if_neg (by omega)]
    show 0 / 2 ^ q % 2 = 0
    rw [Nat.zero_div]
theorem or_z : ∀ K, K < 16 → ∀ b, b < 16 → ∀ q, q < 4 → (bi (K ||| b) q = 0) = (bi K q = 0 ∧ bi b q = 0) := by
  intro K hK b hb q hq
  have h : ∀ K, K < 16 → ∀ b, b < 16 → ∀ q, q < 4 → (bi (K ||| b) q = 0 ↔ (bi K q = 0 ∧ bi b q = 0)) := by decide +kernel
  exact propext (h K hK b hb q hq)
theorem or_l : ∀ K, K < 16 → ∀ b, b < 16 → K ||| b < 16 := by decide +kernel
section
variable (nt nq nd : Nat) (wd : Nat → Nat → Nat) (th : Nat → Nat) (won : Int) (kn dn : Nat) (me : Bool) (bq : Nat)
/-- the class's entry of a place -/
noncomputable def cv (K O D : Nat) : Int := @ite Int (rch nt nq nd wd th (dx K kn) (dx D dn)) (Classical.propDecidable _) (sc me * Vv nt nq nd wd th won kn dn me bq K O D) 0
end
section
variable {nt nq nd : Nat} {wd : Nat → Nat → Nat} {th : Nat → Nat} {won : Int} {kn dn : Nat} {me : Bool} {bq : Nat} {Sw Ss Sr Sm : Bk}
theorem cv_y {K O D : Nat} (h : rch nt nq nd wd th (dx K kn) (dx D dn)) : cv nt nq nd wd th won kn dn me bq K O D = sc me * Vv nt nq nd wd th won kn dn me bq K O D := if_pos h
theorem cv_n {K O D : Nat} (h : ¬ rch nt nq nd wd th (dx K kn) (dx D dn)) : cv nt nq nd wd th won kn dn me bq K O D = 0 := if_neg h
theorem sc_p : 0 < sc me := by unfold sc; split <;> omega
theorem en_eq (hB : WB nt nq nd wd) {x K O y : Nat} (hK : K < 2 ^ nq) : (if me = true then (10 * (bse nt nq nd wd th won x y + sI (fun q => if bi K q = 1 then sgn O (sw wd y q nd) q else 0) nq) + sI (fun q => if bi K q = 1 then 0 else if me = true then sw wd y q nd * (2 * (wd 5 q : Int) - 10) else if sw wd y q nd < 0 then sw wd y q nd else -sw wd y q nd) nq) * 10 ^ (uc K nq) else (bse nt nq nd wd th won x y + sI (fun q => if bi K q = 1 then sgn O (sw wd y q nd) q else 0) nq) + sI (fun q => if bi K q = 1 then 0 else if me = true then sw wd y q nd * (2 * (wd 5 q : Int) - 10) else if sw wd y q nd < 0 then sw wd y q nd else -sw wd y q nd) nq) = sc me * eR nt nq nd wd th won me x K O y := by
  have hnq := hB.2.1
  have hp := p2 hnq
  rw [uc_e nq hnq K hK]
  unfold sc eR
  cases me with
  | false =>
    simp only [Bool.false_eq_true, if_false]
    rw [Int.one_mul, Int.add_assoc, ← sI_add]
    congr 1
    refine sI_cg (fun q hq => ?_)
    by_cases c : bi K q = 1
    · simp only [c, if_true, Int.add_zero]
    · simp only [c, if_false, Int.zero_add]
  | true =>
    simp only [if_true]
    have e : sI (fun q => if bi K q = 1 then sgn O (sw wd y q nd) q * 10 ^ (nq - pc K) else sw wd y q nd * (2 * (wd 5 q : Int) - 10) * 10 ^ (nq - pc K - 1)) nq * 10 = sI (fun q => if bi K q = 1 then sgn O (sw wd y q nd) q else 0) nq * (10 * 10 ^ (nq - pc K)) + sI (fun q => if bi K q = 1 then 0 else sw wd y q nd * (2 * (wd 5 q : Int) - 10)) nq * 10 ^ (nq - pc K) := by
      rw [← sI_mul, ← sI_mul, ← sI_mul, ← sI_add]
      refine sI_cg (fun q hq => ?_)
      by_cases c : bi K q = 1
      · simp only [c, if_true, Int.zero_mul, Int.add_zero]
        rw [Int.mul_assoc, Int.mul_comm (10 ^ (nq - pc K)) 10]
      · have c0 : bi K q = 0 := (bz K (by omega) q (by omega)).resolve_right c
        have lt := pc_lt nq hnq K hK q hq c0
        obtain ⟨p, hp2⟩ : ∃ p, nq - pc K = p + 1 := ⟨nq - pc K - 1, by omega⟩
        simp only [c, if_false, Int.zero_mul, Int.zero_add]
        rw [hp2, p10s, show p + 1 - 1 = p by omega, Int.mul_assoc, Int.mul_comm (10 ^ p) 10]
    generalize sI (fun q => if bi K q = 1 then sgn O (sw wd y q nd) q * 10 ^ (nq - pc K) else sw wd y q nd * (2 * (wd 5 q : Int) - 10) * 10 ^ (nq - pc K - 1)) nq = A at e ⊢
    generalize sI (fun q => if bi K q = 1 then sgn O (sw wd y q nd) q else 0) nq = B at e ⊢
    generalize sI (fun q => if bi K q = 1 then 0 else sw wd y q nd * (2 * (wd 5 q : Int) - 10)) nq = C at e ⊢
    generalize (10 : Int) ^ (nq - pc K) = T at e ⊢
    rw [Int.add_mul, Int.mul_add, Int.add_mul, Int.mul_add, Int.mul_comm 10 A, e, Int.mul_comm 10 B, Int.mul_assoc B 10 T, Int.mul_assoc 10 (bse nt nq nd wd th won x y) T]
    omega
theorem end7 (h : CC nt nq nd wd th won kn dn Sw Ss) {x y K O : Nat} (hK : K < 2 ^ nq) (hO : O < 16) (h0 : Sr.1 0 = nI (nb me)) (h2 : Sr.1 2 = zI (bse nt nq nd wd th won x y)) (h4 : ∀ q, q < nq → Sr.2.1 4 q = zI (sw wd y q nd)) : fX5_ending Sw Sr (nI K) (nI O) = some (zI (sc me * eR nt nq nd wd th won me x K O y)) := by
  obtain ⟨hB, hwc, -⟩ := h
  have hnq := hB.2.1
  have hp := p2 hnq
  have w1 := hwc.2.1
  have hme : (Sr.1 0 = 0) = (me = false) := by
    rw [h0]
    cases me
    · exact propext ⟨fun _ => rfl, fun _ => rfl⟩
    · exact propext ⟨fun e => absurd e (by decide), fun e => absurd e (by decide)⟩
  rw [← en_eq hB hK]
  unfold fX5_ending
  rw [h2]
  have e0 : zI (bse nt nq nd wd th won x y) = zI (bse nt nq nd wd th won x y + sI (fun q => if bi K q = 1 then sgn O (sw wd y q nd) q else 0) 0) := by
    show _ = zI (_ + 0); rw [Int.add_zero]
  rw [e0]
  refine lk4_run (fun n => zI (bse nt nq nd wd th won x y + sI (fun q => if bi K q = 1 then sgn O (sw wd y q nd) q else 0) n)) (fun n => zI (sI (fun q => if bi K q = 1 then 0 else if me = true then sw wd y q nd * (2 * (wd 5 q : Int) - 10) else if sw wd y q nd < 0 then sw wd y q nd else -sw wd y q nd) n)) (fun n => zI (10 ^ uc K n)) (fun n => nI n) nq (fun k n hn => ?_) (fun k => ?_) 1000 (by omega)
  · have s := sw_b hB (y := y) (q := n) (Nat.le_refl nd)
    obtain ⟨g0, g1, g2⟩ := hwc.2.2.2.2.1 n hn
    unfold sX5_ending_14 gX5_ending_64 gX5_ending_105 gX5_ending_115
    show _ = k (zI (_ + (sI _ n + if bi K n = 1 then sgn O (sw wd y n nd) n else 0))) (zI (sI _ n + if bi K n = 1 then 0 else if me = true then sw wd y n nd * (2 * (wd 5 n : Int) - 10) else if sw wd y n nd < 0 then sw wd y n nd else -sw wd y n nd)) (zI (10 ^ (uc K n + if bi K n = 1 then 0 else 1))) (nI (n + 1))
    rw [w1, if_neg (nI_ge hn (by omega)), inB_in (show n < 4 by omega) (by omega), nI_cl (by omega), h4 n hn, bit_e (show K < 2147483648 by omega) (by omega), bit_e (show O < 2147483648 by omega) (by omega), nI_succ]
    by_cases c : bi K n = 1
    · rw [if_pos (show nI (K / 2 ^ n % 2) = 1 by rw [show K / 2 ^ n % 2 = 1 from c]; rfl), if_pos c, if_pos c, if_pos c, Int.add_zero, Nat.add_zero, ← Int.add_assoc]
      unfold sgn
      by_cases c2 : bi O n = 1
      · rw [if_pos (show nI (O / 2 ^ n % 2) = 1 by rw [show O / 2 ^ n % 2 = 1 from c2]; rfl), if_pos c2, zI_add]
      · have c3 : O / 2 ^ n % 2 = 0 := (bz O hO n (by omega)).resolve_right c2
        rw [if_neg (show ¬ nI (O / 2 ^ n % 2) = 1 by rw [c3]; decide), if_neg c2, zI_neg, zI_add]
    · have c3 : K / 2 ^ n % 2 = 0 := (bz K (by omega) n (by omega)).resolve_right c
      rw [if_neg (show ¬ nI (K / 2 ^ n % 2) = 1 by rw [c3]; decide), if_neg c, if_neg c, if_neg c, Int.add_zero, p10s, show (10 : Int32) = zI 10 from rfl, zI_mul, Int.mul_comm]
      cases hm : me with
      | false =>
        rw [if_pos (show Sr.1 0 = 0 by rw [hme, hm]), if_neg (show ¬ (false = true) by decide)]
        have e : ((0 : Int32) ≤ zI (sw wd y n nd)) = (0 ≤ sw wd y n nd) := by
          rw [show (0 : Int32) = zI 0 from rfl, zI_le (by omega) (by omega) (by omega) (by omega)]
        by_cases c4 : 0 ≤ sw wd y n nd
        · rw [if_pos (by rw [e]; exact c4), if_neg (by omega), zI_neg, zI_add]
        · rw [if_neg (by rw [e]; exact c4), if_pos (by omega), show (0 : Int32) = zI 0 from rfl, zI_sub, zI_neg, zI_add, Int.zero_sub, Int.neg_neg]
      | true =>
        rw [if_neg (show ¬ Sr.1 0 = 0 by rw [hme, hm]; decide), if_pos (show true = true from rfl), inB_in (show n < 4 by omega) (by omega), g2, show (2 : Int32) = zI 2 from rfl, zI_n, zI_mul, zI_sub, zI_mul, zI_add]
  · unfold sX5_ending_14
    rw [w1, if_pos (nI_le (Nat.le_refl nq) (by omega))]
    cases hm : me with
    | false =>
      rw [if_pos (show Sr.1 0 = 0 by rw [hme, hm]), if_neg (show ¬ (false = true) by decide), zI_add]
    | true =>
      rw [if_neg (show ¬ Sr.1 0 = 0 by rw [hme, hm]; decide), if_pos (show true = true from rfl), show (10 : Int32) = zI 10 from rfl, zI_mul, zI_add, zI_mul]
theorem bh7 (h : CC nt nq nd wd th won kn dn Sw Ss) {K O D q : Nat} (hq : q < nq) (hK : K < 16) (hO : O < 16) (hD : D < 16) (hs : O &&& K = O) {a b : Int} (h0 : Sr.1 0 = nI (nb me)) (ha : Sr.2.1 2 ((t3 (K ||| 2 ^ q) + t3 O) * 16 + D) = zI a) (hb : Sr.2.1 2 ((t3 (K ||| 2 ^ q) + t3 (O ||| 2 ^ q)) * 16 + D) = zI b) (ba : -2000000000 ≤ a ∧ a ≤ 2000000000) (bb : -2000000000 ≤ b ∧ b ≤ 2000000000) : fX5_behind Sw Sr (nI q) (nI K) (nI O) (nI D) = some (zI (bh wd me q a b)) := by
  obtain ⟨hB, hwc, -⟩ := h
  have hnq := hB.2.1
  obtain ⟨g0, g1, g2⟩ := hwc.2.2.2.2.1 q hq
  have k16 := or16 K hK q (by omega)
  have o16 := or16 O hO q (by omega)
  have s2 := sub_c2 O hO K hK q (by omega) hs
  have l1 := t3_l _ k16
  have l2 := t3_l _ hO
  have l3 := t3_l _ o16
  have e1 : nI K ||| ((1 : Int32) <<< (nI q &&& 31)) = nI (K ||| 2 ^ q) := by rw [shl1_e (by omega), fa_or]
  have e2 : nI O ||| ((1 : Int32) <<< (nI q &&& 31)) = nI (O ||| 2 ^ q) := by rw [shl1_e (by omega), fa_or]
  unfold fX5_behind
  rw [e1, e2, place_e k16 hO hD s2.1, bd_some, place_e k16 o16 hD s2.2, bd_some, inB_in (show (t3 (K ||| 2 ^ q) + t3 O) * 16 + D < 1296 by omega) (by omega), inB_in (show (t3 (K ||| 2 ^ q) + t3 (O ||| 2 ^ q)) * 16 + D < 1296 by omega) (by omega), inB_in (show q < 4 by omega) (by omega), nI_cl (by omega), nI_cl (by omega), nI_cl (by omega), ha, hb, g2, h0]
  unfold bh
  cases me with
  | false =>
    rw [show nb false = 0 from rfl, if_pos (show nI 0 = 0 from rfl), if_neg (show ¬ (false = true) by decide)]
    have e : (zI b < zI a) = (b < a) := zI_lt (by omega) (by omega) (by omega) (by omega)
    by_cases c : b < a
    · rw [if_pos (by rw [e]; exact c), if_neg (by omega)]
    · rw [if_neg (by rw [e]; exact c)]
      by_cases c2 : a < b
      · rw [if_pos c2]
      · rw [if_neg c2, show a = b by omega]
  | true =>
    rw [show nb true = 1 from rfl, if_neg (show ¬ nI 1 = 0 by decide), if_pos (show true = true from rfl), show (10 : Int32) = zI 10 from rfl, zI_n, zI_sub, zI_mul, zI_mul, zI_add, Int.mul_comm a, Int.mul_comm b]
theorem bh_s {q : Nat} {a b s : Int} (hs : 0 < s) : bh wd me q (s * a) (s * b) = s * bh wd me q a b := by
  unfold bh
  cases me with
  | false =>
    rw [if_neg (show ¬ (false = true) by decide), if_neg (show ¬ (false = true) by decide)]
    by_cases c : a < b
    · rw [if_pos c, if_pos (Int.mul_lt_mul_of_pos_left c hs)]
    · rw [if_neg c, if_neg (fun h => c (Int.lt_of_mul_lt_mul_left h (Int.le_of_lt hs)))]
  | true =>
    rw [if_pos (show true = true from rfl), if_pos (show true = true from rfl), Int.mul_add, Int.mul_left_comm s (10 - (wd 5 q : Int)) a, Int.mul_left_comm s (wd 5 q : Int) b]
theorem bh_0 {q : Nat} : bh wd me q 0 0 = 0 := by
  unfold bh
  cases me with
  | false => rw [if_neg (show ¬ (false = true) by decide), if_neg (by omega)]
  | true => rw [if_pos (show true = true from rfl), Int.mul_zero, Int.mul_zero]; rfl
end
