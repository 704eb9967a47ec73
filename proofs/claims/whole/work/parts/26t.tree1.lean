theorem mul9 {a c : Int} {b : Nat} (ha : -c ≤ a ∧ a ≤ c) (hb : b ≤ 9) : -(9 * c) ≤ a * (b : Int) ∧ a * (b : Int) ≤ 9 * c := by
  rcases (show b = 0 ∨ b = 1 ∨ b = 2 ∨ b = 3 ∨ b = 4 ∨ b = 5 ∨ b = 6 ∨ b = 7 ∨ b = 8 ∨ b = 9 by omega) with h | h | h | h | h | h | h | h | h | h <;> subst h <;> omega
def dx (K k : Nat) : Nat := K &&& (15 ^^^ k)
theorem dx_l {K k : Nat} (hK : K < 16) (hk : k < 16) : dx K k < 16 := an_l K hK k hk
theorem dx_b {K k i : Nat} (hK : K < 16) (hk : k < 16) (hi : i < 4) : bi (dx K k) i = if bi K i = 1 ∧ bi k i = 0 then 1 else 0 := an_b K hK k hk i hi
def uc (K : Nat) : Nat → Nat
  | 0 => 0
  | n + 1 => uc K n + if bi K n = 1 then 0 else 1
theorem uc_e : ∀ n, n ≤ 4 → ∀ K, K < 2 ^ n → uc K n = n - pc K := by decide +kernel
section
variable (nt nq nd : Nat) (wd : Nat → Nat → Nat) (th : Nat → Nat) (won : Int) (kn dn : Nat) (me : Bool) (bq : Nat)
/-- the value of a place -/
def Vf : Nat → Nat → Nat → Nat → Int
  | 0, K, O, D => eR nt nq nd wd th won me (dx K kn) K O (dx D dn)
  | m + 1, K, O, D => mx (mx (eR nt nq nd wd th won me (dx K kn) K O (dx D dn)) (fun q => bh wd me q (Vf m (K ||| 2 ^ q) O D) (Vf m (K ||| 2 ^ q) (O ||| 2 ^ q) D)) (fun q => q ≠ bq ∧ bi K q = 0 ∧ (wd 4 q : Int) ≤ lf nq nd wd th (dx K kn) (dx D dn) (wd 3 q)) nq) (fun d => Vf m K O (D ||| 2 ^ d)) (fun d => bi D d = 0 ∧ (wd 10 d : Int) ≤ lf nq nd wd th (dx K kn) (dx D dn) (wd 9 d)) nd
def Vv (K O D : Nat) : Int := Vf nt nq nd wd th won kn dn me bq (nq - pc K + (nd - pc D)) K O D
end
section
variable {nt nq nd : Nat} {wd : Nat → Nat → Nat} {th : Nat → Nat} {won : Int} {kn dn : Nat} {me : Bool} {bq : Nat}
theorem lfq_b (hB : WB nt nq nd wd) {x t n : Nat} (hn : n ≤ nq) : -36 ≤ lfq wd x t n ∧ lfq wd x t n ≤ 36 := by
  have hnq := hB.2.1
  have h := sI_b (f := fun q => if bi x q = 1 ∧ wd 3 q = t then (wd 4 q : Int) else 0) (c := 9) (by omega) (n := n) (fun i hi => by
    have := (hB.2.2.2.2.1 i (by omega)).2.2.1
    show -9 ≤ (if _ then _ else _) ∧ (if _ then _ else _) ≤ (9 : Int)
    split <;> omega)
  unfold lfq
  omega
theorem lfd_b (hB : WB nt nq nd wd) {x t n : Nat} (hn : n ≤ nd) : -36 ≤ lfd wd x t n ∧ lfd wd x t n ≤ 36 := by
  have hnq := hB.2.2.1
  have h := sI_b (f := fun q => if bi x q = 1 ∧ wd 9 q = t then (wd 10 q : Int) else 0) (c := 9) (by omega) (n := n) (fun i hi => by
    have := (hB.2.2.2.2.2 i (by omega)).2.2.2.2
    show -9 ≤ (if _ then _ else _) ∧ (if _ then _ else _) ≤ (9 : Int)
    split <;> omega)
  unfold lfd
  omega
theorem lf_b (hB : WB nt nq nd wd) (hth : ∀ t, t < nt → th t ≤ 9) {x y t : Nat} (ht : t < nt) : -81 ≤ lf nq nd wd th x y t ∧ lf nq nd wd th x y t ≤ 81 := by
  have h1 := lfq_b hB (x := x) (t := t) (Nat.le_refl nq)
  have h2 := lfd_b hB (x := y) (t := t) (Nat.le_refl nd)
  have h3 := hth t ht
  unfold lf
  omega
theorem wI_b (hB : WB nt nq nd wd) {l : Nat → Int} (hl : ∀ t, t < nt → -81 ≤ l t ∧ l t ≤ 81) : -2916 ≤ wI wd l nt ∧ wI wd l nt ≤ 2916 := by
  have hnt := hB.1
  have h := sI_b (f := fun t => if wd 2 t = 3 ∧ l t < (wd 0 t : Int) then 0 else l t * (wd 1 t : Int)) (c := 729) (by omega) (n := nt) (fun i hi => by
    have h1 := (hB.2.2.2.1 i hi).2.2.1
    have h2 := mul9 (c := 81) (hl i hi) h1
    show -729 ≤ (if _ then _ else _) ∧ (if _ then _ else _) ≤ (729 : Int)
    split <;> omega)
  unfold wI
  omega
theorem wI_0 (hB : WB nt nq nd wd) {l : Nat → Int} : ∀ {n : Nat}, n ≤ nt → (∀ t, t < n → 0 ≤ l t) → 0 ≤ wI wd l n
  | 0, _, _ => Int.le_refl 0
  | n + 1, hn, hl => by
    have i := wI_0 hB (l := l) (n := n) (by omega) (fun t ht => hl t (by omega))
    have h1 : 0 ≤ l n * (wd 1 n : Int) := Int.mul_nonneg (hl n (by omega)) (by omega)
    show 0 ≤ wI wd l n + if _ then _ else _
    split <;> omega
theorem sw_b (hB : WB nt nq nd wd) {y q n : Nat} (hn : n ≤ nd) : -36 ≤ sw wd y q n ∧ sw wd y q n ≤ 36 := by
  have hnd := hB.2.2.1
  have h := sI_b (f := fun d => if bi y d = 1 ∧ wd 6 d = q then sg wd d else 0) (c := 9) (by omega) (n := n) (fun i hi => by
    have := (hB.2.2.2.2.2 i (by omega)).2.2.1
    have s : -9 ≤ sg wd i ∧ sg wd i ≤ 9 := by
      unfold sg
      split <;> omega
    show -9 ≤ (if _ then _ else _) ∧ (if _ then _ else _) ≤ (9 : Int)
    split <;> omega)
  unfold sw
  omega
theorem p10s (p : Nat) : (10 : Int) ^ (p + 1) = 10 * 10 ^ p := by rw [Int.pow_succ, Int.mul_comm]
theorem p10p (p : Nat) : (1 : Int) ≤ 10 ^ p := by
  induction p with
  | zero => exact Int.le_refl 1
  | succ p ih => rw [p10s]; omega
theorem mulT {a c T : Int} (ha : -c ≤ a ∧ a ≤ c) (hT : 0 ≤ T) : -(c * T) ≤ a * T ∧ a * T ≤ c * T := by
  have h1 := Int.mul_le_mul_of_nonneg_right ha.2 hT
  have h2 := Int.mul_le_mul_of_nonneg_right ha.1 hT
  rw [Int.neg_mul] at h2
  exact ⟨h2, h1⟩
theorem sgn_b {O q : Nat} {s c : Int} (h : -c ≤ s ∧ s ≤ c) : -c ≤ sgn O s q ∧ sgn O s q ≤ c := by
  unfold sgn
  split <;> omega
theorem eS_b (hB : WB nt nq nd wd) {K O y : Nat} (hK : K < 2 ^ nq) : -(144 * 10 ^ (nq - pc K)) ≤ sI (fun q => if bi K q = 1 then sgn O (sw wd y q nd) q * 10 ^ (nq - pc K) else sw wd y q nd * (2 * (wd 5 q : Int) - 10) * 10 ^ (nq - pc K - 1)) nq ∧ sI (fun q => if bi K q = 1 then sgn O (sw wd y q nd) q * 10 ^ (nq - pc K) else sw wd y q nd * (2 * (wd 5 q : Int) - 10) * 10 ^ (nq - pc K - 1)) nq ≤ 144 * 10 ^ (nq - pc K) := by
  have hnq := hB.2.1
  have hp := p2 hnq
  have hT := p10p (nq - pc K)
  have h := sI_b (f := fun q => if bi K q = 1 then sgn O (sw wd y q nd) q * 10 ^ (nq - pc K) else sw wd y q nd * (2 * (wd 5 q : Int) - 10) * 10 ^ (nq - pc K - 1)) (c := 36 * 10 ^ (nq - pc K)) (by omega) (n := nq) (fun i hi => by
    have s := sw_b hB (y := y) (q := i) (Nat.le_refl nd)
    show _ ≤ (if _ then _ else _) ∧ (if _ then _ else _) ≤ _
    by_cases c : bi K i = 1
    · rw [if_pos c]
      exact mulT (sgn_b s) (by omega)
    · rw [if_neg c]
      have c0 : bi K i = 0 := (bz K (by omega) i (by omega)).resolve_right c
      have lt := pc_lt nq hnq K hK i hi c0
      obtain ⟨p, hp2⟩ : ∃ p, nq - pc K = p + 1 := ⟨nq - pc K - 1, by omega⟩
      rw [hp2, p10s, show p + 1 - 1 = p by omega]
      have h5 := (hB.2.2.2.2.1 i hi).2.2.2.1
      have m : -360 ≤ sw wd y i nd * (2 * (wd 5 i : Int) - 10) ∧ sw wd y i nd * (2 * (wd 5 i : Int) - 10) ≤ 360 := by
        rcases (show wd 5 i = 0 ∨ wd 5 i = 1 ∨ wd 5 i = 2 ∨ wd 5 i = 3 ∨ wd 5 i = 4 ∨ wd 5 i = 5 ∨ wd 5 i = 6 ∨ wd 5 i = 7 ∨ wd 5 i = 8 ∨ wd 5 i = 9 by omega) with h | h | h | h | h | h | h | h | h | h <;> rw [h] <;> omega
      have := mulT m (show (0 : Int) ≤ 10 ^ p by have := p10p p; omega)
      omega)
  have e : (nq : Int) * (36 * 10 ^ (nq - pc K)) ≤ 144 * 10 ^ (nq - pc K) := by
    have key : ∀ T : Int, 1 ≤ T → (nq : Int) * (36 * T) ≤ 144 * T := fun T hT => by
      rcases (show nq = 0 ∨ nq = 1 ∨ nq = 2 ∨ nq = 3 ∨ nq = 4 by omega) with h | h | h | h | h <;> rw [h] <;> omega
    exact key _ hT
  omega
theorem eW_b (hB : WB nt nq nd wd) {K O y : Nat} : -144 ≤ sI (fun q => if bi K q = 1 then sgn O (sw wd y q nd) q else if sw wd y q nd < 0 then sw wd y q nd else -sw wd y q nd) nq ∧ sI (fun q => if bi K q = 1 then sgn O (sw wd y q nd) q else if sw wd y q nd < 0 then sw wd y q nd else -sw wd y q nd) nq ≤ 144 := by
  have hnq := hB.2.1
  have h := sI_b (f := fun q => if bi K q = 1 then sgn O (sw wd y q nd) q else if sw wd y q nd < 0 then sw wd y q nd else -sw wd y q nd) (c := 36) (by omega) (n := nq) (fun i hi => by
    have s := sw_b hB (y := y) (q := i) (Nat.le_refl nd)
    have g := sgn_b (O := O) (q := i) s
    by_cases c1 : bi K i = 1
    · show _ ≤ (if bi K i = 1 then _ else _) ∧ (if bi K i = 1 then _ else _) ≤ _
      rw [if_pos c1]; exact g
    · show _ ≤ (if bi K i = 1 then _ else (if sw wd y i nd < 0 then sw wd y i nd else -sw wd y i nd)) ∧ (if bi K i = 1 then _ else (if sw wd y i nd < 0 then sw wd y i nd else -sw wd y i nd)) ≤ _
      rw [if_neg c1]
      split <;> omega)
  omega
theorem bse_b (hB : WB nt nq nd wd) (hth : ∀ t, t < nt → th t ≤ 9) (hw : -36 ≤ won ∧ won ≤ 36) {x y : Nat} : -3952 ≤ bse nt nq nd wd th won x y ∧ bse nt nq nd wd th won x y ≤ 3952 := by
  have := wI_b hB (l := lf nq nd wd th x y) (fun t ht => lf_b hB hth ht)
  unfold bse
  omega
def Mb (nq : Nat) (me : Bool) (K : Nat) : Int := if me = true then 6000 * 10 ^ (nq - pc K) else 6000
theorem eR_b (hB : WB nt nq nd wd) (hth : ∀ t, t < nt → th t ≤ 9) (hw : -36 ≤ won ∧ won ≤ 36) {x K O y : Nat} (hK : K < 2 ^ nq) : -Mb nq me K ≤ eR nt nq nd wd th won me x K O y ∧ eR nt nq nd wd th won me x K O y ≤ Mb nq me K := by
  have h1 := bse_b hB hth hw (x := x) (y := y)
  have hT := p10p (nq - pc K)
  have h2 := mulT h1 (show (0 : Int) ≤ 10 ^ (nq - pc K) by omega)
  have h3 := eS_b hB (O := O) (y := y) hK
  have h4 := eW_b hB (K := K) (O := O) (y := y)
  unfold Mb eR
  split <;> omega
theorem eR_0 (hB : WB nt nq nd wd) (hw : -36 ≤ won ∧ won ≤ 36) {x K O y : Nat} (hK : K < 2 ^ nq) (hr : rch nt nq nd wd th x y) : 0 < eR nt nq nd wd th won me x K O y := by
  have h1 := wI_0 hB (l := lf nq nd wd th x y) (Nat.le_refl nt) hr
  have hb : 964 ≤ bse nt nq nd wd th won x y := by unfold bse; omega
  have hT := p10p (nq - pc K)
  have h2 := Int.mul_le_mul_of_nonneg_right hb (show (0 : Int) ≤ 10 ^ (nq - pc K) by omega)
  have h3 := eS_b hB (O := O) (y := y) hK
  have h4 := eW_b hB (K := K) (O := O) (y := y)
  unfold eR
  split <;> omega
theorem bh_b (hB : WB nt nq nd wd) {q : Nat} (hq : q < nq) {K : Nat} (hK : K < 2 ^ nq) (h0 : bi K q = 0) {a b : Int} (ha : -Mb nq me (K ||| 2 ^ q) ≤ a ∧ a ≤ Mb nq me (K ||| 2 ^ q)) (hb : -Mb nq me (K ||| 2 ^ q) ≤ b ∧ b ≤ Mb nq me (K ||| 2 ^ q)) : -Mb nq me K ≤ bh wd me q a b ∧ bh wd me q a b ≤ Mb nq me K := by
  have hnq := hB.2.1
  have hp := p2 hnq
  have lt := pc_lt nq hnq K hK q hq h0
  have po := pc_or K (by omega) q (by omega) h0
  have h5 := (hB.2.2.2.2.1 q hq).2.2.2.1
  unfold Mb at *
  unfold bh
  rw [po] at ha hb
  cases me with
  | false =>
    rw [if_neg (by decide)] at *
    rw [if_neg (by decide)]
    split <;> omega
  | true =>
    rw [if_pos rfl] at *
    obtain ⟨p, hp2⟩ : ∃ p, nq - pc K = p + 1 := ⟨nq - pc K - 1, by omega⟩
    rw [show nq - (pc K + 1) = p by omega] at ha hb
    rw [hp2, p10s]
    rcases (show wd 5 q = 0 ∨ wd 5 q = 1 ∨ wd 5 q = 2 ∨ wd 5 q = 3 ∨ wd 5 q = 4 ∨ wd 5 q = 5 ∨ wd 5 q = 6 ∨ wd 5 q = 7 ∨ wd 5 q = 8 ∨ wd 5 q = 9 by omega) with h | h | h | h | h | h | h | h | h | h <;> rw [h] <;> omega
theorem Vf_b (hB : WB nt nq nd wd) (hth : ∀ t, t < nt → th t ≤ 9) (hw : -36 ≤ won ∧ won ≤ 36) : ∀ (m K O D : Nat), K < 2 ^ nq → -Mb nq me K ≤ Vf nt nq nd wd th won kn dn me bq m K O D ∧ Vf nt nq nd wd th won kn dn me bq m K O D ≤ Mb nq me K
  | 0, K, O, D, hK => eR_b hB hth hw hK
  | m + 1, K, O, D, hK => by
    have hnq := hB.2.1
    have h0 := eR_b (me := me) hB hth hw (x := dx K kn) (O := O) (y := dx D dn) hK
    unfold Vf
    refine mx_b (mx_b h0 (fun q hq c => ?_)) (fun d hd c => ?_)
    · exact (bh_b hB hq hK c.2.1 (Vf_b hB hth hw m _ O D (or_lt hK hq)) (Vf_b hB hth hw m _ _ D (or_lt hK hq))).2
    · exact (Vf_b hB hth hw m K O _ hK).2
theorem V_b (hB : WB nt nq nd wd) (hth : ∀ t, t < nt → th t ≤ 9) (hw : -36 ≤ won ∧ won ≤ 36) (K O D : Nat) (hK : K < 2 ^ nq) : -60000000 ≤ Vv nt nq nd wd th won kn dn me bq K O D ∧ Vv nt nq nd wd th won kn dn me bq K O D ≤ 60000000 := by
  have h := Vf_b (me := me) (bq := bq) (kn := kn) (dn := dn) hB hth hw (nq - pc K + (nd - pc D)) K O D hK
  have hnq := hB.2.1
  have hM : Mb nq me K ≤ 60000000 := by
    unfold Mb
    split
    · rcases (show nq - pc K = 0 ∨ nq - pc K = 1 ∨ nq - pc K = 2 ∨ nq - pc K = 3 ∨ nq - pc K = 4 by omega) with h | h | h | h | h <;> rw [h] <;> decide
    · omega
  unfold Vv
  omega
theorem V_eq (hB : WB nt nq nd wd) {K O D : Nat} (hK : K < 2 ^ nq) (hD : D < 2 ^ nd) : Vv nt nq nd wd th won kn dn me bq K O D = mx (mx (eR nt nq nd wd th won me (dx K kn) K O (dx D dn)) (fun q => bh wd me q (Vv nt nq nd wd th won kn dn me bq (K ||| 2 ^ q) O D) (Vv nt nq nd wd th won kn dn me bq (K ||| 2 ^ q) (O ||| 2 ^ q) D)) (fun q => q ≠ bq ∧ bi K q = 0 ∧ (wd 4 q : Int) ≤ lf nq nd wd th (dx K kn) (dx D dn) (wd 3 q)) nq) (fun d => Vv nt nq nd wd th won kn dn me bq K O (D ||| 2 ^ d)) (fun d => bi D d = 0 ∧ (wd 10 d : Int) ≤ lf nq nd wd th (dx K kn) (dx D dn) (wd 9 d)) nd := by
  have hnq := hB.2.1
  have hnd := hB.2.2.1
  have hp := p2 hnq
  have hp2 := p2 hnd
  have l1 := pc_le nq hnq K hK
  have l2 := pc_le nd hnd D hD
  by_cases c : nq - pc K + (nd - pc D) = 0
  · have h1 : Vv nt nq nd wd th won kn dn me bq K O D = eR nt nq nd wd th won me (dx K kn) K O (dx D dn) := by
      unfold Vv
      rw [c]; rfl
    rw [h1, mx_no, mx_no]
    · intro i hi q
      have := pc_lt nq hnq K hK i hi q.2.1
      omega
    · intro i hi q
      have := pc_lt nd hnd D hD i hi q.1
      omega
  · obtain ⟨m, hm⟩ : ∃ m, nq - pc K + (nd - pc D) = m + 1 := ⟨nq - pc K + (nd - pc D) - 1, by omega⟩
    have h1 : Vv nt nq nd wd th won kn dn me bq K O D = Vf nt nq nd wd th won kn dn me bq (m + 1) K O D := by
      unfold Vv
      rw [hm]
    rw [h1]
    unfold Vf
    rw [mx_cg (f := fun q => bh wd me q (Vf nt nq nd wd th won kn dn me bq m (K ||| 2 ^ q) O D) (Vf nt nq nd wd th won kn dn me bq m (K ||| 2 ^ q) (O ||| 2 ^ q) D)) (g := fun q => bh wd me q (Vv nt nq nd wd th won kn dn me bq (K ||| 2 ^ q) O D) (Vv nt nq nd wd th won kn dn me bq (K ||| 2 ^ q) (O ||| 2 ^ q) D))]
    · refine mx_cg (fun d hd q => ?_)
      have lt := pc_lt nd hnd D hD d hd q.1
      have po := pc_or D (by omega) d (by omega) q.1
      unfold Vv
      rw [po, show nq - pc K + (nd - (pc D + 1)) = m by omega]
    · intro i hi q
      have lt := pc_lt nq hnq K hK i hi q.2.1
      have po := pc_or K (by omega) i (by omega) q.2.1
      unfold Vv
      show bh wd me i _ _ = bh wd me i _ _
      rw [po, show nq - (pc K + 1) + (nd - pc D) = m by omega]
theorem V_0 (hB : WB nt nq nd wd) (hw : -36 ≤ won ∧ won ≤ 36) {K O D : Nat} (hK : K < 2 ^ nq) (hD : D < 2 ^ nd) (hr : rch nt nq nd wd th (dx K kn) (dx D dn)) : 0 < Vv nt nq nd wd th won kn dn me bq K O D := by
  rw [V_eq hB hK hD]
  have h1 := eR_0 (me := me) hB hw (K := K) (O := O) hK hr
  have h2 := mx_ge (b := eR nt nq nd wd th won me (dx K kn) K O (dx D dn)) (f := fun q => bh wd me q (Vv nt nq nd wd th won kn dn me bq (K ||| 2 ^ q) O D) (Vv nt nq nd wd th won kn dn me bq (K ||| 2 ^ q) (O ||| 2 ^ q) D)) (p := fun q => q ≠ bq ∧ bi K q = 0 ∧ (wd 4 q : Int) ≤ lf nq nd wd th (dx K kn) (dx D dn) (wd 3 q)) nq
  have h3 := mx_ge (b := mx (eR nt nq nd wd th won me (dx K kn) K O (dx D dn)) (fun q => bh wd me q (Vv nt nq nd wd th won kn dn me bq (K ||| 2 ^ q) O D) (Vv nt nq nd wd th won kn dn me bq (K ||| 2 ^ q) (O ||| 2 ^ q) D)) (fun q => q ≠ bq ∧ bi K q = 0 ∧ (wd 4 q : Int) ≤ lf nq nd wd th (dx K kn) (dx D dn) (wd 3 q)) nq) (f := fun d => Vv nt nq nd wd th won kn dn me bq K O (D ||| 2 ^ d)) (p := fun d => bi D d = 0 ∧ (wd 10 d : Int) ≤ lf nq nd wd th (dx K kn) (dx D dn) (wd 9 d)) nd
  omega
theorem bi_or (x d i : Nat) : bi (x ||| 2 ^ d) i = if i = d then 1 else bi x i := bt_or x d i
theorem lf_q {x y q t : Nat} (hq : q < nq) (h0 : bi x q = 0) : lf nq nd wd th (x ||| 2 ^ q) y t = lf nq nd wd th x y t - if wd 3 q = t then (wd 4 q : Int) else 0 := by
  have h := sI_up (f := fun i => if bi x i = 1 ∧ wd 3 i = t then (wd 4 i : Int) else 0) (g := fun i => if bi (x ||| 2 ^ q) i = 1 ∧ wd 3 i = t then (wd 4 i : Int) else 0) (q := q) (fun i hi => by
    have e := bi_or x q i
    rw [if_neg hi] at e
    simp only [e]) (n := nq)
  have e1 : (if bi (x ||| 2 ^ q) q = 1 ∧ wd 3 q = t then (wd 4 q : Int) else 0) = if wd 3 q = t then (wd 4 q : Int) else 0 := by
    have e := bi_or x q q
    rw [if_pos rfl] at e
    simp only [e, true_and]
  have e2 : (if bi x q = 1 ∧ wd 3 q = t then (wd 4 q : Int) else 0) = 0 := if_neg (fun z => absurd z.1 (by rw [h0]; decide))
  rw [if_pos hq, e1, e2] at h
  unfold lf lfq
  rw [h]
  omega
theorem lf_d {x y d t : Nat} (hd : d < nd) (h0 : bi y d = 0) : lf nq nd wd th x (y ||| 2 ^ d) t = lf nq nd wd th x y t - if wd 9 d = t then (wd 10 d : Int) else 0 := by
  have h := sI_up (f := fun i => if bi y i = 1 ∧ wd 9 i = t then (wd 10 i : Int) else 0) (g := fun i => if bi (y ||| 2 ^ d) i = 1 ∧ wd 9 i = t then (wd 10 i : Int) else 0) (q := d) (fun i hi => by
    have e := bi_or y d i
    rw [if_neg hi] at e
    simp only [e]) (n := nd)
  have e1 : (if bi (y ||| 2 ^ d) d = 1 ∧ wd 9 d = t then (wd 10 d : Int) else 0) = if wd 9 d = t then (wd 10 d : Int) else 0 := by
    have e := bi_or y d d
    rw [if_pos rfl] at e
    simp only [e, true_and]
  have e2 : (if bi y d = 1 ∧ wd 9 d = t then (wd 10 d : Int) else 0) = 0 := if_neg (fun z => absurd z.1 (by rw [h0]; decide))
  rw [if_pos hd, e1, e2] at h
  unfold lf lfd
  rw [h]
  omega
theorem rch_q (hB : WB nt nq nd wd) {x y q : Nat} (hq : q < nq) (h0 : bi x q = 0) (hr : rch nt nq nd wd th x y) : rch nt nq nd wd th (x ||| 2 ^ q) y ↔ (wd 4 q : Int) ≤ lf nq nd wd th x y (wd 3 q) := by
  have hb := (hB.2.2.2.2.1 q hq).1
  constructor
  · intro h
    have := h (wd 3 q) hb
    rw [lf_q hq h0, if_pos rfl] at this
    omega
  · intro h t ht
    rw [lf_q hq h0]
    have := hr t ht
    split
    · rename_i c; subst c; omega
    · omega
theorem rch_d (hB : WB nt nq nd wd) {x y d : Nat} (hd : d < nd) (h0 : bi y d = 0) (hr : rch nt nq nd wd th x y) : rch nt nq nd wd th x (y ||| 2 ^ d) ↔ (wd 10 d : Int) ≤ lf nq nd wd th x y (wd 9 d) := by
  have hb := (hB.2.2.2.2.2 d hd).2.2.2.1
  constructor
  · intro h
    have := h (wd 9 d) hb
    rw [lf_d hd h0, if_pos rfl] at this
    omega
  · intro h t ht
    rw [lf_d hd h0]
    have := hr t ht
    split
    · rename_i c; subst c; omega
    · omega
end
