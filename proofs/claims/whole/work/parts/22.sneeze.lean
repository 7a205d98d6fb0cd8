/-! SNEEZES: chances as numbers of cases; the class's way -/
def TN (A : Nat → Nat) (g x s : Nat) : Nat := A s * x + (if g ≤ s then A (s - g) * (10 - x) else 0)
def gvr (σ : SG) (set t n : Nat) : Prop := set.testBit n = true ∧ 0 < gv σ n t
def wyN (σ : SG) (set t x : Nat) : Nat → Nat → Nat
  | 0 => fun s => if s = 0 then 1 else 0
  | n + 1 => if set.testBit n = true ∧ 0 < gv σ n t then TN (wyN σ set t x n) (gv σ n t) x else wyN σ set t x n
def whN (σ : SG) (set t : Nat) : Nat → Nat
  | 0 => 1
  | n + 1 => if set.testBit n = true ∧ 0 < gv σ n t then whN σ set t n * 10 else whN σ set t n
def lsN (A : Nat → Nat) : Nat → Nat
  | 0 => 0
  | k + 1 => lsN A k + A k
def frac (a b : Nat) (up_ : Bool) : Nat := if up_ then a / Nat.gcd a b else b / Nat.gcd a b
theorem lsN_mono (A : Nat → Nat) {a b : Nat} (h : a ≤ b) : lsN A a ≤ lsN A b := by
  induction b with
  | zero => rw [show a = 0 by omega]; exact Nat.le_refl _
  | succ b ih =>
    by_cases e : a = b + 1
    · rw [e]; exact Nat.le_refl _
    · have := ih (by omega)
      rw [lsN]
      omega
theorem lsN_TN (A : Nat → Nat) (g x : Nat) : ∀ k, lsN (TN A g x) k = lsN A k * x + lsN A (k - g) * (10 - x)
  | 0 => by simp [lsN]
  | k + 1 => by
    rw [lsN, lsN_TN A g x k, lsN, TN]
    by_cases h : g ≤ k
    · rw [if_pos h, show k + 1 - g = (k - g) + 1 by omega, lsN, Nat.add_mul, Nat.add_mul]
      omega
    · rw [if_neg h, show k + 1 - g = 0 by omega, show k - g = 0 by omega, Nat.add_mul]
      omega
theorem lsN_le (σ : SG) (set t : Nat) {x : Nat} (hx : x ≤ 10) : ∀ n k, lsN (wyN σ set t x n) k ≤ whN σ set t n
  | 0, k => by
    induction k with
    | zero => simp [lsN]
    | succ k ih =>
      rw [lsN]
      by_cases h : k = 0
      · subst h
        simp [lsN, wyN, whN]
      · have : wyN σ set t x 0 k = 0 := by simp [wyN, h]
        omega
  | n + 1, k => by
    rw [wyN, whN]
    split
    · rw [lsN_TN]
      have h1 := lsN_le σ set t hx n k
      have h2 := lsN_le σ set t hx n (k - gv σ n t)
      have h3 : lsN (wyN σ set t x n) k * x ≤ whN σ set t n * x := Nat.mul_le_mul_right x h1
      have h4 : lsN (wyN σ set t x n) (k - gv σ n t) * (10 - x) ≤ whN σ set t n * (10 - x) := Nat.mul_le_mul_right _ h2
      have h5 : whN σ set t n * x + whN σ set t n * (10 - x) = whN σ set t n * 10 := by rw [← Nat.mul_add, show x + (10 - x) = 10 by omega]
      omega
    · exact lsN_le σ set t hx n k
theorem wyN_le (σ : SG) (set t : Nat) {x : Nat} (hx : x ≤ 10) (n s : Nat) : wyN σ set t x n s ≤ whN σ set t n := by
  have := lsN_le σ set t hx n (s + 1)
  rw [lsN] at this
  omega
theorem whN_b (σ : SG) (set t : Nat) : ∀ n, 1 ≤ whN σ set t n ∧ whN σ set t n ≤ 10 ^ n
  | 0 => by simp [whN]
  | n + 1 => by
    have := whN_b σ set t n
    rw [whN, Nat.pow_succ]
    split <;> omega
theorem whN_12 {σ : SG} (ok : Ok σ) (set t : Nat) {n : Nat} (h : n ≤ nM σ) : 1 ≤ whN σ set t n ∧ whN σ set t n ≤ 1000000000000 := by
  have h1 := whN_b σ set t n
  have h2 : 10 ^ n ≤ 10 ^ 12 := Nat.pow_le_pow_right (by omega) (by have := ok.nums; omega)
  omega
/-- a giver's part taken out of the spread -/
theorem wyN_congr (σ : SG) (set set' t x : Nat) : ∀ n, (∀ i, i < n → set.testBit i = set'.testBit i) → wyN σ set t x n = wyN σ set' t x n
  | 0, _ => rfl
  | n + 1, h => by rw [wyN, wyN, wyN_congr σ set set' t x n (fun i hi => h i (by omega)), h n (by omega)]
theorem TN_comm (A : Nat → Nat) (g g' x : Nat) : TN (TN A g x) g' x = TN (TN A g' x) g x := by
  funext s
  unfold TN
  by_cases h1 : g ≤ s
  · by_cases h2 : g' ≤ s
    · by_cases h3 : g + g' ≤ s
      · simp only [if_pos h1, if_pos h2, if_pos (show g ≤ s - g' by omega), if_pos (show g' ≤ s - g by omega), show s - g' - g = s - g - g' by omega]
        simp only [Nat.add_mul]
        have e1 : A (s - g) * (10 - x) * x = A (s - g) * x * (10 - x) := by rw [Nat.mul_assoc, Nat.mul_comm (10 - x) x, ← Nat.mul_assoc]
        have e2 : A (s - g') * (10 - x) * x = A (s - g') * x * (10 - x) := by rw [Nat.mul_assoc, Nat.mul_comm (10 - x) x, ← Nat.mul_assoc]
        omega
      · simp only [if_pos h1, if_pos h2, if_neg (show ¬ g ≤ s - g' by omega), if_neg (show ¬ g' ≤ s - g by omega)]
        simp only [Nat.add_mul, Nat.zero_mul]
        have e1 : A (s - g) * (10 - x) * x = A (s - g) * x * (10 - x) := by rw [Nat.mul_assoc, Nat.mul_comm (10 - x) x, ← Nat.mul_assoc]
        have e2 : A (s - g') * (10 - x) * x = A (s - g') * x * (10 - x) := by rw [Nat.mul_assoc, Nat.mul_comm (10 - x) x, ← Nat.mul_assoc]
        omega
    · simp only [if_pos h1, if_neg h2, if_neg (show ¬ g' ≤ s - g by omega)]
      simp only [Nat.add_mul, Nat.zero_mul]
      have e1 : A (s - g) * (10 - x) * x = A (s - g) * x * (10 - x) := by rw [Nat.mul_assoc, Nat.mul_comm (10 - x) x, ← Nat.mul_assoc]
      omega
  · by_cases h2 : g' ≤ s
    · simp only [if_neg h1, if_pos h2, if_neg (show ¬ g ≤ s - g' by omega)]
      simp only [Nat.add_mul, Nat.zero_mul]
      have e2 : A (s - g') * (10 - x) * x = A (s - g') * x * (10 - x) := by rw [Nat.mul_assoc, Nat.mul_comm (10 - x) x, ← Nat.mul_assoc]
      omega
    · simp only [if_neg h1, if_neg h2]
theorem wo_bit {a m i : Nat} (ha : a < 2 ^ 12) (hm : m < 12) : (wo a m).testBit i = (a.testBit i && !decide (m = i)) := by
  unfold wo
  rw [Nat.testBit_and, Nat.testBit_xor, Nat.testBit_two_pow]
  have h4 : (4095 : Nat).testBit i = decide (i < 12) := by
    rw [show (4095 : Nat) = 2 ^ 12 - 1 from rfl, Nat.testBit_two_pow_sub_one]
  rw [h4]
  by_cases h12 : i < 12
  · simp [h12]
  · have : a.testBit i = false := Nat.testBit_lt_two_pow (Nat.lt_of_lt_of_le ha (Nat.pow_le_pow_right (by omega) (by omega)))
    simp [this]
theorem wyN_wo (σ : SG) {set m : Nat} (t x : Nat) (hs : set < 2 ^ 12) (hm : m < 12) (hb : set.testBit m = true) : ∀ n, m < n → wyN σ set t x n = if 0 < gv σ m t then TN (wyN σ (wo set m) t x n) (gv σ m t) x else wyN σ (wo set m) t x n
  | 0, h => by omega
  | n + 1, h => by
    have hbit : ∀ i, i ≠ m → (wo set m).testBit i = set.testBit i := fun i hi => by
      rw [wo_bit hs hm]
      have : ¬ m = i := fun q => hi q.symm
      simp [this]
    by_cases e : n = m
    · subst e
      have e1 : (wo set n).testBit n = false := by rw [wo_bit hs hm]; simp
      have e2 := wyN_congr σ set (wo set n) t x n (fun i hi => (hbit i (by omega)).symm)
      rw [wyN, wyN, e1, e2]
      by_cases h0 : 0 < gv σ n t
      · rw [if_pos ⟨hb, h0⟩, if_pos h0, if_neg (fun q => by cases q.1)]
      · rw [if_neg (fun q => h0 q.2), if_neg h0, if_neg (fun q => by cases q.1)]
    · have ih := wyN_wo σ t x hs hm hb n (by omega)
      rw [wyN, wyN, hbit n e, ih]
      by_cases h0 : 0 < gv σ m t
      · rw [if_pos h0, if_pos h0]
        by_cases h1 : set.testBit n = true ∧ 0 < gv σ n t
        · rw [if_pos h1, if_pos h1, TN_comm]
        · rw [if_neg h1, if_neg h1]
      · rw [if_neg h0, if_neg h0]
theorem lZ_nat (n : Nat) : lZ (n : Int) = lN n := Int64.ofInt_eq_ofNat
theorem lZ_mod {a b : Nat} (ha : a < 2 ^ 62) (hb : b < 2 ^ 62) (h0 : 0 < b) : lZ (a : Int) - lZ (a : Int) / lZ (b : Int) * lZ (b : Int) = lZ ((a % b : Nat) : Int) := by rw [lZ_nat, lZ_nat, lZ_nat, pk_lRem (by omega) h0 (by omega)]
theorem lZ_div {a b : Nat} (ha : a < 2 ^ 62) (hb : b < 2 ^ 62) (h0 : 0 < b) : lZ (a : Int) / lZ (b : Int) = lZ ((a / b : Nat) : Int) := by rw [lZ_nat, lZ_nat, lZ_nat, pk_lDiv (by omega) h0 (by omega)]
theorem lZ_n0 {b : Nat} (hb : b < 2 ^ 62) (h0 : 0 < b) : ¬ lZ (b : Int) = 0 := fun q => by
  have := (lZ_eq (a := (b : Int)) (b := 0) (by omega) (by omega)).mp q
  omega
section WL
variable {M : MD} {d : Nat} {Post : Option Value → HI → HL → Prop} {pc : Nat} {lv : LV} {st : List Value} {hi : HI} {hl : HL}
theorem wz_lrem {a b : Nat} (hd : decode M.2.1 pc = .ok (.lrem, 1)) (ha : a < 2 ^ 62) (hb : b < 2 ^ 62) (h0 : 0 < b) (k : Wp M d Post (pc + 1) lv (.long (lZ ((a % b : Nat) : Int)) :: st) hi hl) : Wp M d Post pc lv (.long (lZ (b : Int)) :: .long (lZ (a : Int)) :: st) hi hl := wp_lrem hd (lZ_n0 hb h0) (by rw [lZ_mod ha hb h0]; exact k)
theorem wz_ldiv {a b : Nat} (hd : decode M.2.1 pc = .ok (.ldiv, 1)) (ha : a < 2 ^ 62) (hb : b < 2 ^ 62) (h0 : 0 < b) (k : Wp M d Post (pc + 1) lv (.long (lZ ((a / b : Nat) : Int)) :: st) hi hl) : Wp M d Post pc lv (.long (lZ (b : Int)) :: .long (lZ (a : Int)) :: st) hi hl := wp_ldiv hd (lZ_n0 hb h0) (by rw [lZ_div ha hb h0]; exact k)
theorem rl1 {h : HL} {k i c j : Nat} {v x : Int64} (hc : c ≠ k) (e : h c j = x) : setL h k i v c j = x := by rw [setL_ne _ _ _ hc]; exact e
theorem rlS {h : HL} {k i j : Nat} {v x : Int64} (hj : j ≠ i) (e : h k j = x) : setL h k i v k j = x := by rw [setL_at_ne _ _ _ hj]; exact e
theorem rlA {h : HL} {k i : Nat} {v x : Int64} (e : v = x) : setL h k i v k i = x := by rw [setL_at]; exact e
/-- is a long zero? -/
theorem cmp0_eq {n : Nat} : (if (0 : Int) < (n : Int) then (1 : Int) else if (n : Int) = 0 then 0 else -1) = 0 ↔ n = 0 := by
  split
  · constructor
    · intro h; exact absurd h (by decide)
    · intro h; omega
  · split
    · constructor
      · intro _; omega
      · intro _; rfl
    · constructor
      · intro h; exact absurd h (by decide)
      · intro h; omega
theorem cmp0_r (n : Nat) : inR (if (0 : Int) < (n : Int) then (1 : Int) else if (n : Int) = 0 then 0 else -1) := by
  repeat' split
  all_goals omega
end WL
section SNEEZE
variable {σ : SG} {hi : HI} {hl : HL}
theorem ct_SN_admit {A : Nat → Nat} {B g x : Nat} (d : Nat) (hx : x ≤ 10) (hg : 1 ≤ g ∧ g ≤ 3) (hA : ∀ s, s < 37 → hl 38 s = lZ (A s)) (hB : hl 37 3 = lZ B) : Ct M_SN_admit d [.ref 37, .int (zI g), .int (zI x)] hi hl (fun v hi' hl' => v = none ∧ hi = hi' ∧ (∀ s, s < 37 → hl' 38 s = lZ (TN A g x s)) ∧ hl' 37 3 = lZ ((B * 10 : Nat) : Int)) := by
  have e10 : (10 : Int) - (x : Int) = ((10 - x : Nat) : Int) := by omega
  have loop : ∀ k, k ≤ 37 → ∀ h : HL, (∀ s, s < k → h 38 s = lZ (A s)) → (∀ s, k ≤ s → s < 37 → h 38 s = lZ (TN A g x s)) → h 37 3 = lZ B → Wp M_SN_admit d (fun v hi' hl' => v = none ∧ hi = hi' ∧ (∀ s, s < 37 → hl' 38 s = lZ (TN A g x s)) ∧ hl' 37 3 = lZ ((B * 10 : Nat) : Int)) 3 [some (.ref 37), some (.int (zI g)), some (.int (zI x)), some (.int (zI ((k : Int) - 1))), none, none] [] hi h := by
    intro k
    induction k with
    | zero =>
      intro hk h e1 e2 e3
      refine wp_iload_n d_SN_admit_3 rfl ?_
      refine wz_if_lt (tgt := 56) d_SN_admit_4 (by decide) (by omega) (fun h4 => ?_) (fun h4 => ?_)
      · refine wp_aload_n d_SN_admit_56 rfl ?_
        refine wp_dup d_SN_admit_57 rfl ?_
        refine wz_getJ (e3) d_SN_admit_58 f_SN_33 (by decide) rfl rfl ?_
        refine wz_ldc2 (z := 10) d_SN_admit_61 cs_SN_69 rfl ?_
        refine wz_lmul d_SN_admit_64 ?_
        refine wp_putJ d_SN_admit_65 f_SN_33 pk_SN_3 (by decide) rfl rfl ?_
        exact wp_vret d_SN_admit_68 rfl (⟨rfl, rfl, fun s hs => rl1 (by decide) (e2 s (by omega) hs), rlA rfl⟩)
      · exact absurd h4 (by omega)
    | succ k ih =>
      intro hk h e1 e2 e3
      rw [show ((k + 1 : Nat) : Int) - 1 = (k : Int) by omega]
      have tail : ∀ y : Nat, y = (if g ≤ k then A (k - g) * (10 - x) else 0) → Wp M_SN_admit d (fun v hi' hl' => v = none ∧ hi = hi' ∧ (∀ s, s < 37 → hl' 38 s = lZ (TN A g x s)) ∧ hl' 37 3 = lZ ((B * 10 : Nat) : Int)) 30 [some (.ref 37), some (.int (zI g)), some (.int (zI x)), some (.int (zI k)), none, none] [.long (lZ (y : Int))] hi h := by
        intro y hy
        refine wp_lstore (lv' := [_, _, _, _, _, _]) d_SN_admit_30 (by decide) rfl ?_
        refine wp_aload_n d_SN_admit_32 rfl ?_
        refine wp_getR d_SN_admit_33 f_SN_19 (by decide) rfl rfl ?_
        refine wp_iload_n d_SN_admit_36 rfl ?_
        refine wp_aload_n d_SN_admit_37 rfl ?_
        refine wp_getR d_SN_admit_38 f_SN_19 (by decide) rfl rfl ?_
        refine wp_iload_n d_SN_admit_41 rfl ?_
        refine wz_lald (e1 k (by omega)) (rfl) ((by omega)) d_SN_admit_42 (by decide) rfl (by decide) ?_
        refine wp_iload_n d_SN_admit_43 rfl ?_
        refine wz_i2l d_SN_admit_44 (by omega) ?_
        refine wz_lmul d_SN_admit_45 ?_
        refine wp_lload d_SN_admit_46 rfl ?_
        refine wz_ladd d_SN_admit_48 ?_
        refine wz_last (rfl) ((by omega)) d_SN_admit_49 (by decide) rfl (by decide) ?_
        refine wz_iinc (lv' := [_, _, _, _, _, _]) d_SN_admit_50 rfl (by decide) rfl ?_
        refine wp_goto (tgt := 3) d_SN_admit_53 (by decide) ?_
        refine wp_drop (lv' := [some _, some _, some _, some _, none, none]) ⟨rfl, rfl, rfl, rfl, trivial⟩ ?_
        refine ih (by omega) _ (fun s hs => rlS (by omega) (e1 s (by omega))) (fun s h1 h2 => ?_) (rl1 (by decide) e3)
        by_cases z : s = k
        · subst z
          refine rlA ?_
          rw [TN, ← hy]
          rfl
        · exact rlS z (e2 s (by omega) h2)
      refine wp_iload_n d_SN_admit_3 rfl ?_
      refine wz_if_lt (tgt := 56) d_SN_admit_4 (by decide) (by omega) (fun h4 => ?_) (fun h4 => ?_)
      · exact absurd h4 (by omega)
      · refine wp_iload_n d_SN_admit_7 rfl ?_
        refine wp_iload_n d_SN_admit_8 rfl ?_
        refine wz_icmp_lt (tgt := 29) d_SN_admit_9 (by decide) (by omega) (by omega) (fun h9 => ?_) (fun h9 => ?_)
        · refine wp_lconst (v := lZ 0) d_SN_admit_29 rfl ?_
          exact tail 0 (by rw [if_neg (by omega)])
        · refine wp_aload_n d_SN_admit_12 rfl ?_
          refine wp_getR d_SN_admit_13 f_SN_19 (by decide) rfl rfl ?_
          refine wp_iload_n d_SN_admit_16 rfl ?_
          refine wp_iload_n d_SN_admit_17 rfl ?_
          refine wz_isub d_SN_admit_18 ?_
          refine wz_lald (j := k - g) (e1 (k - g) (by omega)) (by omega) (by omega) d_SN_admit_19 (by decide) rfl (by decide) ?_
          refine wp_bipush (v := zI 10) d_SN_admit_20 rfl ?_
          refine wp_iload_n d_SN_admit_22 rfl ?_
          refine wz_isub d_SN_admit_23 ?_
          rw [e10]
          refine wz_i2l d_SN_admit_24 (by omega) ?_
          refine wz_lmul d_SN_admit_25 ?_
          refine wp_goto (tgt := 30) d_SN_admit_26 (by decide) ?_
          exact tail (A (k - g) * (10 - x)) (by rw [if_pos (by omega)])
  refine ct_intro (lv := [_, _, _, _, _, _]) (by decide +kernel) (Nat.le_of_ble_eq_true rfl) rfl ?_
  refine wp_bipush (v := zI 36) d_SN_admit_0 rfl ?_
  refine wp_istore_n (lv' := [_, _, _, _, _, _]) d_SN_admit_2 (by decide) rfl ?_
  exact loop 37 (by omega) hl (fun s hs => hA s hs) (fun s h1 h2 => by omega) hB
theorem ct_SN_spread {set j x : Nat} (ok : Ok σ) (hA : AX σ hi) (hs : set < 2 ^ 12) (hj : j ≤ 100) (hx : x ≤ 10) : Ct M_SN_spread 3 [.ref 37, .int (zI set), .int (zI j), .int (zI x)] hi hl (fun v hi' hl' => v = none ∧ hi = hi' ∧ (∀ s, s < 37 → hl' 38 s = lZ (wyN σ set (j + lt σ) x (nM σ) s)) ∧ hl' 37 3 = lZ (whN σ set (j + lt σ) (nM σ))) := by
  have hn := ok.nums
  generalize hP : (fun (v : Option Value) (hi' : HI) (hl' : HL) => v = none ∧ hi = hi' ∧ (∀ s, s < 37 → hl' 38 s = lZ (wyN σ set (j + lt σ) x (nM σ) s)) ∧ hl' 37 3 = lZ (whN σ set (j + lt σ) (nM σ))) = Post
  have loop2 : ∀ k i, i + k = nM σ → ∀ h : HL, (∀ s, s < 37 → h 38 s = lZ (wyN σ set (j + lt σ) x i s)) → h 37 3 = lZ (whN σ set (j + lt σ) i) → Wp M_SN_spread 3 Post 39 [some (.ref 37), some (.int (zI set)), some (.int (zI j)), some (.int (zI x)), some (.int (zI i)), none] [] hi h := by
    intro k
    induction k with
    | zero =>
      intro i hik h e1 e2
      refine wp_iload d_SN_spread_39 rfl ?_
      refine wp_aload_n d_SN_spread_41 rfl ?_
      refine wp_getR d_SN_spread_42 f_SN_15 (by decide) rfl rfl ?_
      refine wz_getI (hA.1.n) d_SN_spread_45 f_SN_62 (by decide) rfl rfl ?_
      refine wz_icmp_ge (tgt := 99) d_SN_spread_48 (by decide) (by omega) (by omega) (fun h48 => ?_) (fun h48 => ?_)
      · subst hP
        have hi2 : i = nM σ := by omega
        rw [hi2] at e1 e2
        exact wp_vret d_SN_spread_99 rfl (⟨rfl, rfl, e1, e2⟩)
      · exact absurd h48 (by omega)
    | succ k ih =>
      intro i hik h e1 e2
      have hg := gv_le ok (m := i) (t := j + lt σ) (by omega)
      refine wp_iload d_SN_spread_39 rfl ?_
      refine wp_aload_n d_SN_spread_41 rfl ?_
      refine wp_getR d_SN_spread_42 f_SN_15 (by decide) rfl rfl ?_
      refine wz_getI (hA.1.n) d_SN_spread_45 f_SN_62 (by decide) rfl rfl ?_
      refine wz_icmp_ge (tgt := 99) d_SN_spread_48 (by decide) (by omega) (by omega) (fun h48 => ?_) (fun h48 => ?_)
      · exact absurd h48 (by omega)
      · refine wp_aload_n d_SN_spread_51 rfl ?_
        refine wp_getR d_SN_spread_52 f_SN_15 (by decide) rfl rfl ?_
        refine wp_iload d_SN_spread_55 rfl ?_
        refine wp_iload_n d_SN_spread_57 rfl ?_
        refine wp_aload_n d_SN_spread_58 rfl ?_
        refine wp_getR d_SN_spread_59 f_SN_15 (by decide) rfl rfl ?_
        refine wz_getI (hA.1.late) d_SN_spread_62 f_SN_54 (by decide) rfl rfl ?_
        refine wz_iadd d_SN_spread_65 ?_
        refine wp_callV (ct_PE_givenAt (m := i) (t := j + lt σ) 0 ok hA.1 (by omega) (by omega)) d_SN_spread_66 k_SN_58 (by decide) rfl rfl rfl rfl (Nat.le_of_ble_eq_true rfl) (by omega) ?_
        rintro _ _ _ ⟨rfl, rfl, rfl⟩
        refine wp_istore (lv' := [_, _, _, _, _, _]) d_SN_spread_69 (by decide) rfl ?_
        refine wp_iload_n d_SN_spread_71 rfl ?_
        refine wp_iload d_SN_spread_72 rfl ?_
        refine wp_ishr d_SN_spread_74 ?_
        refine wp_iconst (v := zI 1) d_SN_spread_75 rfl ?_
        refine wp_iand d_SN_spread_76 ?_
        rw [zI_bit (by omega) (by omega)]
        refine wp_iconst (v := zI 1) d_SN_spread_77 rfl ?_
        refine wp_icmp_ne (tgt := 93) d_SN_spread_78 (by decide) (fun h78 => ?_) (fun h78 => ?_)
        · have e : ¬ (set.testBit i = true ∧ 0 < gv σ i (j + lt σ)) := fun q => h78 (bI_t q.1)
          refine wz_iinc (lv' := [_, _, _, _, _, _]) d_SN_spread_93 rfl (by decide) rfl ?_
          refine wp_goto (tgt := 39) d_SN_spread_96 (by decide) ?_
          refine wp_drop (lv' := [some _, some _, some _, some _, some _, none]) ⟨rfl, rfl, rfl, rfl, rfl, trivial⟩ ?_
          exact ih (i + 1) (by omega) h (fun s hs2 => by rw [wyN, if_neg e]; exact e1 s hs2) (by rw [whN, if_neg e]; exact e2)
        · have q : set.testBit i = true := Decidable.byContradiction fun q => by rw [bI_f q] at h78; exact absurd h78 (by decide)
          refine wp_iload d_SN_spread_81 rfl ?_
          refine wz_if_le (tgt := 93) d_SN_spread_83 (by decide) (by omega) (fun h83 => ?_) (fun h83 => ?_)
          · have e : ¬ (set.testBit i = true ∧ 0 < gv σ i (j + lt σ)) := fun q => by omega
            refine wz_iinc (lv' := [_, _, _, _, _, _]) d_SN_spread_93 rfl (by decide) rfl ?_
            refine wp_goto (tgt := 39) d_SN_spread_96 (by decide) ?_
            refine wp_drop (lv' := [some _, some _, some _, some _, some _, none]) ⟨rfl, rfl, rfl, rfl, rfl, trivial⟩ ?_
            exact ih (i + 1) (by omega) h (fun s hs2 => by rw [wyN, if_neg e]; exact e1 s hs2) (by rw [whN, if_neg e]; exact e2)
          · have e : set.testBit i = true ∧ 0 < gv σ i (j + lt σ) := ⟨q, by omega⟩
            refine wp_aload_n d_SN_spread_86 rfl ?_
            refine wp_iload d_SN_spread_87 rfl ?_
            refine wp_iload_n d_SN_spread_89 rfl ?_
            refine wp_callV (ct_SN_admit (A := wyN σ set (j + lt σ) x i) (B := whN σ set (j + lt σ) i) (g := gv σ i (j + lt σ)) (x := x) 0 hx (by omega) e1 e2) d_SN_spread_90 k_SN_65 (by decide) rfl rfl rfl rfl (Nat.le_of_ble_eq_true rfl) (by omega) ?_
            rintro _ _ h2 ⟨rfl, rfl, e3, e4⟩
            refine wz_iinc (lv' := [_, _, _, _, _, _]) d_SN_spread_93 rfl (by decide) rfl ?_
            refine wp_goto (tgt := 39) d_SN_spread_96 (by decide) ?_
            refine wp_drop (lv' := [some _, some _, some _, some _, some _, none]) ⟨rfl, rfl, rfl, rfl, rfl, trivial⟩ ?_
            exact ih (i + 1) (by omega) h2 (fun s hs2 => by rw [wyN, if_pos e]; exact e3 s hs2) (by rw [whN, if_pos e]; exact e4)
  have loop1 : ∀ k i, i + k = 37 → ∀ h : HL, (∀ s, s < i → h 38 s = lZ 0) → Wp M_SN_spread 3 Post 3 [some (.ref 37), some (.int (zI set)), some (.int (zI j)), some (.int (zI x)), some (.int (zI i)), none] [] hi h := by
    intro k
    induction k with
    | zero =>
      intro i hik h e1
      refine wp_iload d_SN_spread_3 rfl ?_
      refine wp_bipush (v := zI 36) d_SN_spread_5 rfl ?_
      refine wz_icmp_gt (tgt := 24) d_SN_spread_7 (by decide) (by omega) (by omega) (fun h7 => ?_) (fun h7 => ?_)
      · refine wp_aload_n d_SN_spread_24 rfl ?_
        refine wp_getR d_SN_spread_25 f_SN_19 (by decide) rfl rfl ?_
        refine wp_iconst (v := zI 0) d_SN_spread_28 rfl ?_
        refine wp_lconst (v := lZ 1) d_SN_spread_29 rfl ?_
        refine wz_last (j := 0) rfl (by decide) d_SN_spread_30 (by decide) rfl (by decide) ?_
        refine wp_aload_n d_SN_spread_31 rfl ?_
        refine wp_lconst (v := lZ 1) d_SN_spread_32 rfl ?_
        refine wp_putJ d_SN_spread_33 f_SN_33 pk_SN_3 (by decide) rfl rfl ?_
        refine wp_iconst (v := zI 0) d_SN_spread_36 rfl ?_
        refine wp_istore (lv' := [_, _, _, _, _, _]) d_SN_spread_37 (by decide) rfl ?_
        refine loop2 (nM σ) 0 (by omega) _ (fun s hs2 => rl1 (by decide) ?_) (rlA rfl)
        by_cases z : s = 0
        · subst z
          exact rlA rfl
        · refine rlS z ?_
          rw [e1 s (by omega)]
          show lZ 0 = lZ (((if s = 0 then 1 else 0 : Nat)) : Int)
          rw [if_neg z]
          rfl
      · exact absurd h7 (by omega)
    | succ k ih =>
      intro i hik h e1
      refine wp_iload d_SN_spread_3 rfl ?_
      refine wp_bipush (v := zI 36) d_SN_spread_5 rfl ?_
      refine wz_icmp_gt (tgt := 24) d_SN_spread_7 (by decide) (by omega) (by omega) (fun h7 => ?_) (fun h7 => ?_)
      · exact absurd h7 (by omega)
      · refine wp_aload_n d_SN_spread_10 rfl ?_
        refine wp_getR d_SN_spread_11 f_SN_19 (by decide) rfl rfl ?_
        refine wp_iload d_SN_spread_14 rfl ?_
        refine wp_lconst (v := lZ 0) d_SN_spread_16 rfl ?_
        refine wz_last (rfl) ((by omega)) d_SN_spread_17 (by decide) rfl (by decide) ?_
        refine wz_iinc (lv' := [_, _, _, _, _, _]) d_SN_spread_18 rfl (by decide) rfl ?_
        refine wp_goto (tgt := 3) d_SN_spread_21 (by decide) ?_
        refine ih (i + 1) (by omega) _ (fun s hs2 => ?_)
        by_cases z : s = i
        · subst z
          exact rlA rfl
        · exact rlS z (e1 s (by omega))
  subst hP
  refine ct_intro (lv := [_, _, _, _, _, _]) (by decide +kernel) (Nat.le_of_ble_eq_true rfl) rfl ?_
  refine wp_iconst (v := zI 0) d_SN_spread_0 rfl ?_
  refine wp_istore (lv' := [_, _, _, _, _, _]) d_SN_spread_1 (by decide) rfl ?_
  exact loop1 37 0 (by omega) hl (fun s hs2 => absurd hs2 (by omega))
theorem ct_SN_casesUnder {A : Nat → Nat} {z : Int} (d : Nat) (hz : -10 ≤ z ∧ z ≤ 37) (hA : ∀ s, s < 37 → hl 38 s = lZ (A s)) : Ct M_SN_casesUnder d [.ref 37, .int (zI z)] hi hl (ansL (lZ (lsN A z.toNat)) hi hl) := by
  have loop : ∀ k i, i + k = z.toNat → Wp M_SN_casesUnder d (ansL (lZ (lsN A z.toNat)) hi hl) 5 [some (.ref 37), some (.int (zI z)), some (.long (lZ (lsN A i))), none, some (.int (zI i))] [] hi hl := by
    intro k
    induction k with
    | zero =>
      intro i hik
      refine wp_iload d_SN_casesUnder_5 rfl ?_
      refine wp_iload_n d_SN_casesUnder_7 rfl ?_
      refine wz_icmp_ge (tgt := 34) d_SN_casesUnder_8 (by decide) (by omega) (by omega) (fun h8 => ?_) (fun h8 => ?_)
      · refine wp_lload_n d_SN_casesUnder_34 rfl ?_
        exact wp_lret d_SN_casesUnder_35 rfl (⟨by rw [← hik]; rfl, rfl, rfl⟩)
      · exact absurd h8 (by omega)
    | succ k ih =>
      intro i hik
      refine wp_iload d_SN_casesUnder_5 rfl ?_
      refine wp_iload_n d_SN_casesUnder_7 rfl ?_
      refine wz_icmp_ge (tgt := 34) d_SN_casesUnder_8 (by decide) (by omega) (by omega) (fun h8 => ?_) (fun h8 => ?_)
      · exact absurd h8 (by omega)
      · refine wp_iload d_SN_casesUnder_11 rfl ?_
        refine wp_bipush (v := zI 36) d_SN_casesUnder_13 rfl ?_
        refine wz_icmp_gt (tgt := 34) d_SN_casesUnder_15 (by decide) (by omega) (by omega) (fun h15 => ?_) (fun h15 => ?_)
        · exact absurd h15 (by omega)
        · refine wp_lload_n d_SN_casesUnder_18 rfl ?_
          refine wp_aload_n d_SN_casesUnder_19 rfl ?_
          refine wp_getR d_SN_casesUnder_20 f_SN_19 (by decide) rfl rfl ?_
          refine wp_iload d_SN_casesUnder_23 rfl ?_
          refine wz_lald (hA i (by omega)) (rfl) ((by omega)) d_SN_casesUnder_25 (by decide) rfl (by decide) ?_
          refine wz_ladd d_SN_casesUnder_26 ?_
          refine wp_lstore_n (lv' := [_, _, _, _, _]) d_SN_casesUnder_27 (by decide) rfl ?_
          refine wz_iinc (lv' := [_, _, _, _, _]) d_SN_casesUnder_28 rfl (by decide) rfl ?_
          refine wp_goto (tgt := 5) d_SN_casesUnder_31 (by decide) ?_
          exact ih (i + 1) (by omega)
  refine ct_intro (lv := [_, _, _, _, _]) (by decide +kernel) (Nat.le_of_ble_eq_true rfl) rfl ?_
  refine wp_lconst (v := lZ 0) d_SN_casesUnder_0 rfl ?_
  refine wp_lstore_n (lv' := [_, _, _, _, _]) d_SN_casesUnder_1 (by decide) rfl ?_
  refine wp_iconst (v := zI 0) d_SN_casesUnder_2 rfl ?_
  refine wp_istore (lv' := [_, _, _, _, _]) d_SN_casesUnder_3 (by decide) rfl ?_
  exact loop z.toNat 0 (by omega)
theorem ct_SN_reduce {a b : Nat} (d : Nat) (hab : a ≤ b) (hb : 1 ≤ b ∧ b ≤ 100000000000000) : Ct M_SN_reduce d [.ref 37, .long (lZ a), .long (lZ b)] hi hl (fun v hi' hl' => v = none ∧ hi = hi' ∧ hl' 37 4 = lZ (frac a b true) ∧ hl' 37 5 = lZ (frac a b false)) := by
  have hG : 1 ≤ Nat.gcd a b := Nat.gcd_pos_of_pos_right a (by omega)
  have hG2 : Nat.gcd a b ≤ b := Nat.gcd_le_right a (by omega)
  generalize hP : (fun (v : Option Value) (hi' : HI) (hl' : HL) => v = none ∧ hi = hi' ∧ hl' 37 4 = lZ (frac a b true) ∧ hl' 37 5 = lZ (frac a b false)) = Post
  have ending : Wp M_SN_reduce d Post 45 [some (.ref 37), some (.long (lZ a)), none, some (.long (lZ b)), none, some (.long (lZ (Nat.gcd a b))), none, none, none, none, none, none] [] hi hl := by
    refine wp_aload_n d_SN_reduce_45 rfl ?_
    refine wp_lload d_SN_reduce_46 rfl ?_
    refine wp_lconst (v := lZ 0) d_SN_reduce_48 rfl ?_
    refine wz_lcmp d_SN_reduce_49 (by omega) (by omega) ?_
    refine wz_if_ne (tgt := 57) d_SN_reduce_50 (by decide) (cmp0_r _) (fun h50 => ?_) (fun h50 => ?_)
    · refine wp_lload_n d_SN_reduce_57 rfl ?_
      refine wp_lload d_SN_reduce_58 rfl ?_
      refine wz_ldiv d_SN_reduce_60 (by omega) (by omega) (by omega) ?_
      refine wp_putJ d_SN_reduce_61 f_SN_71 pk_SN_4 (by decide) rfl rfl ?_
      refine wp_aload_n d_SN_reduce_64 rfl ?_
      refine wp_lload d_SN_reduce_65 rfl ?_
      refine wp_lconst (v := lZ 0) d_SN_reduce_67 rfl ?_
      refine wz_lcmp d_SN_reduce_68 (by omega) (by omega) ?_
      refine wz_if_ne (tgt := 76) d_SN_reduce_69 (by decide) (cmp0_r _) (fun h69 => ?_) (fun h69 => ?_)
      · refine wp_lload_n d_SN_reduce_76 rfl ?_
        refine wp_lload d_SN_reduce_77 rfl ?_
        refine wz_ldiv d_SN_reduce_79 (by omega) (by omega) (by omega) ?_
        refine wp_putJ d_SN_reduce_80 f_SN_74 pk_SN_5 (by decide) rfl rfl ?_
        subst hP
        exact wp_vret d_SN_reduce_83 rfl (⟨rfl, rfl, rlS (by decide) (rlA rfl), rlA rfl⟩)
      · exact absurd (cmp0_eq.mp h69) (by omega)
    · exact absurd (cmp0_eq.mp h50) (by omega)
  have fin : ∀ (c : Nat) (i : Nat), c = Nat.gcd a b → i ≤ 200 → Wp M_SN_reduce d Post 9 [some (.ref 37), some (.long (lZ a)), none, some (.long (lZ b)), none, some (.long (lZ c)), none, some (.long (lZ ((0 : Nat) : Int))), none, some (.int (zI i)), none, none] [] hi hl := by
    intro c i hc hi2
    subst hc
    refine wp_iload d_SN_reduce_9 rfl ?_
    refine wp_sipush (v := zI 200) d_SN_reduce_11 rfl ?_
    refine wz_icmp_ge (tgt := 45) d_SN_reduce_14 (by decide) (by omega) (by omega) (fun h14 => ?_) (fun h14 => ?_)
    · refine wp_drop (lv' := [some _, some _, none, some _, none, some _, none, none, none, none, none, none]) ⟨rfl, rfl, rfl, rfl, trivial⟩ ?_
      exact ending
    · refine wp_lload d_SN_reduce_17 rfl ?_
      refine wp_lconst (v := lZ 0) d_SN_reduce_19 rfl ?_
      refine wz_lcmp d_SN_reduce_20 (by omega) (by omega) ?_
      refine wz_if_eq (tgt := 45) d_SN_reduce_21 (by decide) (cmp0_r 0) (fun h21 => ?_) (fun h21 => ?_)
      · refine wp_drop (lv' := [some _, some _, none, some _, none, some _, none, none, none, none, none, none]) ⟨rfl, rfl, rfl, rfl, trivial⟩ ?_
        exact ending
      · exact absurd (cmp0_eq.mpr rfl) h21
  have step : ∀ (c r i : Nat), 0 < r → c ≤ 100000000000000 → r ≤ 100000000000000 → i < 200 → Wp M_SN_reduce d Post 9 [some (.ref 37), some (.long (lZ a)), none, some (.long (lZ b)), none, some (.long (lZ r)), none, some (.long (lZ ((c % r : Nat) : Int))), none, some (.int (zI ((i + 1 : Nat) : Int))), none, none] [] hi hl → Wp M_SN_reduce d Post 9 [some (.ref 37), some (.long (lZ a)), none, some (.long (lZ b)), none, some (.long (lZ c)), none, some (.long (lZ r)), none, some (.int (zI i)), none, none] [] hi hl := by
    intro c r i hr hc hr2 hi2 k
    refine wp_iload d_SN_reduce_9 rfl ?_
    refine wp_sipush (v := zI 200) d_SN_reduce_11 rfl ?_
    refine wz_icmp_ge (tgt := 45) d_SN_reduce_14 (by decide) (by omega) (by omega) (fun h14 => ?_) (fun h14 => ?_)
    · exact absurd h14 (by omega)
    · refine wp_lload d_SN_reduce_17 rfl ?_
      refine wp_lconst (v := lZ 0) d_SN_reduce_19 rfl ?_
      refine wz_lcmp d_SN_reduce_20 (by omega) (by omega) ?_
      refine wz_if_eq (tgt := 45) d_SN_reduce_21 (by decide) (cmp0_r r) (fun h21 => ?_) (fun h21 => ?_)
      · exact absurd (cmp0_eq.mp h21) (by omega)
      · refine wp_lload d_SN_reduce_24 rfl ?_
        refine wp_lload d_SN_reduce_26 rfl ?_
        refine wz_lrem d_SN_reduce_28 (by omega) (by omega) hr ?_
        refine wp_lstore (lv' := [_, _, _, _, _, _, _, _, _, _, _, _]) d_SN_reduce_29 (by decide) rfl ?_
        refine wp_lload d_SN_reduce_31 rfl ?_
        refine wp_lstore (lv' := [_, _, _, _, _, _, _, _, _, _, _, _]) d_SN_reduce_33 (by decide) rfl ?_
        refine wp_lload d_SN_reduce_35 rfl ?_
        refine wp_lstore (lv' := [_, _, _, _, _, _, _, _, _, _, _, _]) d_SN_reduce_37 (by decide) rfl ?_
        refine wz_iinc (lv' := [_, _, _, _, _, _, _, _, _, _, _, _]) d_SN_reduce_39 rfl (by decide) rfl ?_
        refine wp_goto (tgt := 9) d_SN_reduce_42 (by decide) ?_
        refine wp_drop (lv' := [some _, some _, none, some _, none, some _, none, some _, none, some _, none, none]) ⟨rfl, rfl, rfl, rfl, rfl, rfl, trivial⟩ ?_
        exact k
  have loop : ∀ j c r i : Nat, r < 2 ^ j → i + 2 * j ≤ 200 → c ≤ 100000000000000 → r ≤ 100000000000000 → Nat.gcd c r = Nat.gcd a b → Wp M_SN_reduce d Post 9 [some (.ref 37), some (.long (lZ a)), none, some (.long (lZ b)), none, some (.long (lZ c)), none, some (.long (lZ r)), none, some (.int (zI i)), none, none] [] hi hl := by
    intro j
    induction j with
    | zero =>
      intro c r i hr hi2 hc hr2 hg
      have : r = 0 := by omega
      subst this
      exact fin c i (by rw [← hg, Nat.gcd_zero_right]) (by omega)
    | succ j ih =>
      intro c r i hr hi2 hc hr2 hg
      by_cases h0 : r = 0
      · subst h0
        exact fin c i (by rw [← hg, Nat.gcd_zero_right]) (by omega)
      · have hpos : 0 < r := by omega
        have hlt := Nat.mod_lt c hpos
        have hg2 : Nat.gcd r (c % r) = Nat.gcd a b := by rw [← hg, Nat.gcd_comm c r, Nat.gcd_rec r c, Nat.gcd_comm]
        refine step c r i hpos hc hr2 (by omega) ?_
        by_cases h1 : c % r = 0
        · rw [h1] at hg2 ⊢
          exact fin r (i + 1) (by rw [← hg2, Nat.gcd_zero_right]) (by omega)
        · have hpos2 : 0 < c % r := by omega
          have hlt2 := Nat.mod_lt r hpos2
          have hg3 : Nat.gcd (c % r) (r % (c % r)) = Nat.gcd a b := by rw [← hg2, Nat.gcd_comm r (c % r), Nat.gcd_rec (c % r) r, Nat.gcd_comm]
          refine step r (c % r) (i + 1) hpos2 hr2 (by omega) (by omega) ?_
          have hhalf : 2 * (r % (c % r)) < r := by
            have h3 : r % (c % r) + (c % r) * (r / (c % r)) = r := Nat.mod_add_div r (c % r)
            have h4 : 1 ≤ r / (c % r) := Nat.div_pos (by omega) hpos2
            have h5 : c % r ≤ (c % r) * (r / (c % r)) := Nat.le_mul_of_pos_right _ h4
            omega
          exact ih (c % r) (r % (c % r)) (i + 1 + 1) (by rw [Nat.pow_succ] at hr; omega) (by omega) (by omega) (by omega) hg3
  subst hP
  refine ct_intro (lv := [_, _, _, _, _, _, _, _, _, _, _, _]) (by decide +kernel) (Nat.le_of_ble_eq_true rfl) rfl ?_
  refine wp_lload_n d_SN_reduce_0 rfl ?_
  refine wp_lstore (lv' := [_, _, _, _, _, _, _, _, _, _, _, _]) d_SN_reduce_1 (by decide) rfl ?_
  refine wp_lload_n d_SN_reduce_3 rfl ?_
  refine wp_lstore (lv' := [_, _, _, _, _, _, _, _, _, _, _, _]) d_SN_reduce_4 (by decide) rfl ?_
  refine wp_iconst (v := zI 0) d_SN_reduce_6 rfl ?_
  refine wp_istore (lv' := [_, _, _, _, _, _, _, _, _, _, _, _]) d_SN_reduce_7 (by decide) rfl ?_
  exact loop 60 b a 0 (by omega) (by omega) (by omega) (by omega) (Nat.gcd_comm b a)
/-- STEADY and BLAME -/
def stN (σ : SG) (p j x : Nat) : Nat × Nat := (whN σ (sit σ p) (j + lt σ) (nM σ) - lsN (wyN σ (sit σ p) (j + lt σ) x (nM σ)) (dr σ p), whN σ (sit σ p) (j + lt σ) (nM σ))
def blAll (σ : SG) (m j x : Nat) : Nat := lsN (wyN σ (sit σ (pl σ m)) (j + lt σ) x (nM σ)) (dr σ (pl σ m))
def blG (σ : SG) (m j x : Nat) : Nat := if gv σ m (j + lt σ) = 0 then 0 else lsN (wyN σ (wo (sit σ (pl σ m)) m) (j + lt σ) x (nM σ)) (dr σ (pl σ m)) * x
def r_steady (σ : SG) (a b c : Int) (u : Bool) : Int := if inP σ a ∧ inB σ b then (if 0 ≤ c ∧ c ≤ 10 then frac (stN σ a.toNat b.toNat c.toNat).1 (stN σ a.toNat b.toNat c.toNat).2 u else -2) else -1
def r_blame (σ : SG) (a b c : Int) (u : Bool) : Int := if inM σ a ∧ inB σ b then (if 0 ≤ c ∧ c ≤ 10 then (if blAll σ a.toNat b.toNat c.toNat = 0 then -3 else frac (blG σ a.toNat b.toNat c.toNat) (blAll σ a.toNat b.toNat c.toNat) u) else -2) else -1
theorem ct_SN_weighEnough {p j x : Nat} (ok : Ok σ) (hA : AX σ hi) (hp : p < nP σ) (hj : j ≤ 100) (hx : x ≤ 10) : Ct M_SN_weighEnough 4 [.ref 37, .int (zI p), .int (zI j), .int (zI x)] hi hl (fun v hi' hl' => v = none ∧ hi = hi' ∧ hl' 37 4 = lZ (frac (stN σ p j x).1 (stN σ p j x).2 true) ∧ hl' 37 5 = lZ (frac (stN σ p j x).1 (stN σ p j x).2 false)) := by
  have hn := ok.nums
  have hd := ok.dr hp
  have hw := whN_12 ok (sit σ p) (j + lt σ) (Nat.le_refl (nM σ))
  have hls := lsN_le σ (sit σ p) (j + lt σ) hx (nM σ) (dr σ p)
  refine ct_intro (lv := [_, _, _, _]) (by decide +kernel) (Nat.le_of_ble_eq_true rfl) rfl ?_
  refine wp_aload_n d_SN_weighEnough_0 rfl ?_
  refine wp_aload_n d_SN_weighEnough_1 rfl ?_
  refine wp_getR d_SN_weighEnough_2 f_SN_15 (by decide) rfl rfl ?_
  refine wp_iload_n d_SN_weighEnough_5 rfl ?_
  refine wp_callV (ct_PE_sittingAt (p := p) 0 ok hA.1 (by omega)) d_SN_weighEnough_6 k_SN_23 (by decide) rfl rfl rfl rfl (Nat.le_of_ble_eq_true rfl) (by omega) ?_
  rintro _ _ _ ⟨rfl, rfl, rfl⟩
  refine wp_iload_n d_SN_weighEnough_9 rfl ?_
  refine wp_iload_n d_SN_weighEnough_10 rfl ?_
  refine wp_callV (ct_SN_spread (set := sit σ p) (j := j) (x := x) ok hA (sit_lt ok p) hj hx) d_SN_weighEnough_11 k_SN_29 (by decide) rfl rfl rfl rfl (Nat.le_of_ble_eq_true rfl) (by omega) ?_
  rintro _ _ h2 ⟨rfl, rfl, e1, e2⟩
  refine wp_aload_n d_SN_weighEnough_14 rfl ?_
  refine wp_aload_n d_SN_weighEnough_15 rfl ?_
  refine wz_getJ (e2) d_SN_weighEnough_16 f_SN_33 (by decide) rfl rfl ?_
  refine wp_aload_n d_SN_weighEnough_19 rfl ?_
  refine wp_aload_n d_SN_weighEnough_20 rfl ?_
  refine wp_getR d_SN_weighEnough_21 f_SN_9 (by decide) rfl rfl ?_
  refine wp_getR d_SN_weighEnough_24 f_SN_37 (by decide) rfl rfl ?_
  refine wp_iload_n d_SN_weighEnough_27 rfl ?_
  refine wz_iald (hA.2.1.dr hp) (rfl) ((by omega)) d_SN_weighEnough_28 (by decide) rfl (by decide) ?_
  refine wp_callV (ct_SN_casesUnder (A := wyN σ (sit σ p) (j + lt σ) x (nM σ)) (z := (dr σ p : Int)) 0 (by omega) e1) d_SN_weighEnough_29 k_SN_43 (by decide) rfl rfl rfl rfl (Nat.le_of_ble_eq_true rfl) (by omega) ?_
  rintro _ _ _ ⟨rfl, rfl, rfl⟩
  refine wz_lsub d_SN_weighEnough_32 ?_
  refine wp_aload_n d_SN_weighEnough_33 rfl ?_
  refine wz_getJ (e2) d_SN_weighEnough_34 f_SN_33 (by decide) rfl rfl ?_
  refine wz_st (st' := [.long (lZ ((stN σ p j x).2 : Int)), .long (lZ ((stN σ p j x).1 : Int)), .ref 37]) ?_ ?_
  · have : (whN σ (sit σ p) (j + lt σ) (nM σ) : Int) - (lsN (wyN σ (sit σ p) (j + lt σ) x (nM σ)) ((dr σ p : Int)).toNat : Int) = ((stN σ p j x).1 : Int) := by
      rw [nC]
      show _ = ((whN σ (sit σ p) (j + lt σ) (nM σ) - lsN (wyN σ (sit σ p) (j + lt σ) x (nM σ)) (dr σ p) : Nat) : Int)
      omega
    rw [this]
    rfl
  · refine wp_callV (ct_SN_reduce (a := (stN σ p j x).1) (b := (stN σ p j x).2) 0 (Nat.sub_le _ _) (by show 1 ≤ whN σ (sit σ p) (j + lt σ) (nM σ) ∧ whN σ (sit σ p) (j + lt σ) (nM σ) ≤ 100000000000000; omega)) d_SN_weighEnough_37 k_SN_47 (by decide) rfl rfl rfl rfl (Nat.le_of_ble_eq_true rfl) (by omega) ?_
    rintro _ _ h3 ⟨rfl, rfl, e3, e4⟩
    exact wp_vret d_SN_weighEnough_40 rfl (⟨rfl, rfl, e3, e4⟩)
theorem blAll_eq (ok : Ok σ) {m j x : Nat} (hm : m < nM σ) : blAll σ m j x = if 0 < gv σ m (j + lt σ) then x * lsN (wyN σ (wo (sit σ (pl σ m)) m) (j + lt σ) x (nM σ)) (dr σ (pl σ m)) + (10 - x) * lsN (wyN σ (wo (sit σ (pl σ m)) m) (j + lt σ) x (nM σ)) (dr σ (pl σ m) - gv σ m (j + lt σ)) else lsN (wyN σ (wo (sit σ (pl σ m)) m) (j + lt σ) x (nM σ)) (dr σ (pl σ m)) := by
  have hn := ok.nums
  have hb : (sit σ (pl σ m)).testBit m = true := by
    unfold sit
    rw [sitN_bit]
    simp [hm]
  rw [blAll, wyN_wo σ (j + lt σ) x (sit_lt ok _) (by omega) hb (nM σ) hm]
  split
  · rw [lsN_TN, Nat.mul_comm x, Nat.mul_comm (10 - x)]
  · rfl
theorem ct_SN_weighGuilt {m j x : Nat} (ok : Ok σ) (hA : AX σ hi) (hm : m < nM σ) (hj : j ≤ 100) (hx : x ≤ 10) : Ct M_SN_weighGuilt 4 [.ref 37, .int (zI m), .int (zI j), .int (zI x)] hi hl (fun v hi' hl' => hi = hi' ∧ ((blAll σ m j x = 0 ∧ v = some (.int 0)) ∨ (blAll σ m j x ≠ 0 ∧ v = some (.int 1) ∧ hl' 37 4 = lZ (frac (blG σ m j x) (blAll σ m j x) true) ∧ hl' 37 5 = lZ (frac (blG σ m j x) (blAll σ m j x) false)))) := by
  have hn := ok.nums
  have hmm := ok.m hm
  have hd := ok.dr hmm.2.2.2.2.1
  have hg := gv_le ok (m := m) (t := j + lt σ) hm
  have hw := whN_12 ok (wo (sit σ (pl σ m)) m) (j + lt σ) (Nat.le_refl (nM σ))
  have hl1 := lsN_le σ (wo (sit σ (pl σ m)) m) (j + lt σ) hx (nM σ) (dr σ (pl σ m))
  have hl2 := lsN_le σ (wo (sit σ (pl σ m)) m) (j + lt σ) hx (nM σ) (dr σ (pl σ m) - gv σ m (j + lt σ))
  have hall := blAll_eq ok (j := j) (x := x) hm
  generalize hP : (fun (v : Option Value) (hi' : HI) (hl' : HL) => hi = hi' ∧ ((blAll σ m j x = 0 ∧ v = some (.int 0)) ∨ (blAll σ m j x ≠ 0 ∧ v = some (.int 1) ∧ hl' 37 4 = lZ (frac (blG σ m j x) (blAll σ m j x) true) ∧ hl' 37 5 = lZ (frac (blG σ m j x) (blAll σ m j x) false)))) = Post
  have fin : ∀ (u v : Nat) (h : HL), u + v = blAll σ m j x → u = blG σ m j x → u + v ≤ 100000000000000 → Wp M_SN_weighGuilt 4 Post 114 [some (.ref 37), some (.int (zI m)), some (.int (zI j)), some (.int (zI x)), none, none, none, some (.long (lZ u)), none, some (.long (lZ v)), none] [] hi h := by
    intro u v h e1 e2 e3
    refine wp_lload d_SN_weighGuilt_114 rfl ?_
    refine wp_lload d_SN_weighGuilt_116 rfl ?_
    refine wz_ladd d_SN_weighGuilt_118 ?_
    refine wz_topl (y := lZ ((u + v : Nat) : Int)) rfl ?_
    refine wp_lconst (v := lZ 0) d_SN_weighGuilt_119 rfl ?_
    refine wz_lcmp d_SN_weighGuilt_120 (by omega) (by omega) ?_
    refine wz_if_ne (tgt := 126) d_SN_weighGuilt_121 (by decide) (cmp0_r _) (fun h121 => ?_) (fun h121 => ?_)
    · have hne : u + v ≠ 0 := fun q => h121 (cmp0_eq.mpr q)
      refine wp_aload_n d_SN_weighGuilt_126 rfl ?_
      refine wp_lload d_SN_weighGuilt_127 rfl ?_
      refine wp_lload d_SN_weighGuilt_129 rfl ?_
      refine wp_lload d_SN_weighGuilt_131 rfl ?_
      refine wz_ladd d_SN_weighGuilt_133 ?_
      refine wz_topl (y := lZ ((u + v : Nat) : Int)) rfl ?_
      refine wp_callV (ct_SN_reduce (a := u) (b := u + v) 0 (by omega) (by omega)) d_SN_weighGuilt_134 k_SN_47 (by decide) rfl rfl rfl rfl (Nat.le_of_ble_eq_true rfl) (by omega) ?_
      rintro _ _ h2 ⟨rfl, rfl, e4, e5⟩
      refine wp_iconst (v := zI 1) d_SN_weighGuilt_137 rfl ?_
      subst hP
      rw [e1, e2] at e4 e5
      exact wp_iret d_SN_weighGuilt_138 (Or.inr ⟨rfl, by first | exact bI_01 _ | exact Or.inl rfl | exact Or.inr rfl⟩) (⟨rfl, Or.inr ⟨by omega, rfl, e4, e5⟩⟩)
    · have h0 : u + v = 0 := cmp0_eq.mp h121
      refine wp_iconst (v := zI 0) d_SN_weighGuilt_124 rfl ?_
      subst hP
      exact wp_iret d_SN_weighGuilt_125 (Or.inr ⟨rfl, by first | exact bI_01 _ | exact Or.inl rfl | exact Or.inr rfl⟩) (⟨rfl, Or.inl ⟨by omega, rfl⟩⟩)
  subst hP
  refine ct_intro (lv := [_, _, _, _, _, _, _, _, _, _, _]) (by decide +kernel) (Nat.le_of_ble_eq_true rfl) rfl ?_
  refine wp_aload_n d_SN_weighGuilt_0 rfl ?_
  refine wp_getR d_SN_weighGuilt_1 f_SN_15 (by decide) rfl rfl ?_
  refine wp_getR d_SN_weighGuilt_4 f_SN_51 (by decide) rfl rfl ?_
  refine wp_iload_n d_SN_weighGuilt_7 rfl ?_
  refine wz_iald (hA.1.pl hm) (rfl) ((by omega)) d_SN_weighGuilt_8 (by decide) rfl (by decide) ?_
  refine wp_istore (lv' := [_, _, _, _, _, _, _, _, _, _, _]) d_SN_weighGuilt_9 (by decide) rfl ?_
  refine wp_aload_n d_SN_weighGuilt_11 rfl ?_
  refine wp_getR d_SN_weighGuilt_12 f_SN_9 (by decide) rfl rfl ?_
  refine wp_getR d_SN_weighGuilt_15 f_SN_37 (by decide) rfl rfl ?_
  refine wp_iload d_SN_weighGuilt_18 rfl ?_
  refine wz_iald (hA.2.1.dr hmm.2.2.2.2.1) (rfl) ((by omega)) d_SN_weighGuilt_20 (by decide) rfl (by decide) ?_
  refine wp_istore (lv' := [_, _, _, _, _, _, _, _, _, _, _]) d_SN_weighGuilt_21 (by decide) rfl ?_
  refine wp_aload_n d_SN_weighGuilt_23 rfl ?_
  refine wp_getR d_SN_weighGuilt_24 f_SN_15 (by decide) rfl rfl ?_
  refine wp_iload_n d_SN_weighGuilt_27 rfl ?_
  refine wp_iload_n d_SN_weighGuilt_28 rfl ?_
  refine wp_aload_n d_SN_weighGuilt_29 rfl ?_
  refine wp_getR d_SN_weighGuilt_30 f_SN_15 (by decide) rfl rfl ?_
  refine wz_getI (hA.1.late) d_SN_weighGuilt_33 f_SN_54 (by decide) rfl rfl ?_
  refine wz_iadd d_SN_weighGuilt_36 ?_
  refine wp_callV (ct_PE_givenAt (m := m) (t := j + lt σ) 0 ok hA.1 hm (by omega)) d_SN_weighGuilt_37 k_SN_58 (by decide) rfl rfl rfl rfl (Nat.le_of_ble_eq_true rfl) (by omega) ?_
  rintro _ _ _ ⟨rfl, rfl, rfl⟩
  refine wp_istore (lv' := [_, _, _, _, _, _, _, _, _, _, _]) d_SN_weighGuilt_40 (by decide) rfl ?_
  refine wp_aload_n d_SN_weighGuilt_42 rfl ?_
  refine wp_aload_n d_SN_weighGuilt_43 rfl ?_
  refine wp_getR d_SN_weighGuilt_44 f_SN_15 (by decide) rfl rfl ?_
  refine wp_iload d_SN_weighGuilt_47 rfl ?_
  refine wp_callV (ct_PE_sittingAt (p := pl σ m) 0 ok hA.1 (by omega)) d_SN_weighGuilt_49 k_SN_23 (by decide) rfl rfl rfl rfl (Nat.le_of_ble_eq_true rfl) (by omega) ?_
  rintro _ _ _ ⟨rfl, rfl, rfl⟩
  refine wp_iconst (v := zI 1) d_SN_weighGuilt_52 rfl ?_
  refine wp_iload_n d_SN_weighGuilt_53 rfl ?_
  refine wp_ishl d_SN_weighGuilt_54 ?_
  refine wp_iconst (v := zI (-1)) d_SN_weighGuilt_55 rfl ?_
  refine wp_ixor d_SN_weighGuilt_56 ?_
  refine wp_iand d_SN_weighGuilt_57 ?_
  refine wz_top (zI_wo (n := sit σ (pl σ m)) (m := m) (sit_lt ok _) (by omega)) ?_
  refine wp_iload_n d_SN_weighGuilt_58 rfl ?_
  refine wp_iload_n d_SN_weighGuilt_59 rfl ?_
  refine wp_callV (ct_SN_spread (set := wo (sit σ (pl σ m)) m) (j := j) (x := x) ok hA (wo_lt m (sit_lt ok _)) hj hx) d_SN_weighGuilt_60 k_SN_29 (by decide) rfl rfl rfl rfl (Nat.le_of_ble_eq_true rfl) (by omega) ?_
  rintro _ _ h2 ⟨rfl, rfl, e1, e2⟩
  refine wp_iload d_SN_weighGuilt_63 rfl ?_
  refine wz_if_le (tgt := 80) d_SN_weighGuilt_65 (by decide) (by omega) (fun h65 => ?_) (fun h65 => ?_)
  · have g0 : gv σ m (j + lt σ) = 0 := by omega
    refine wp_lconst (v := lZ 0) d_SN_weighGuilt_80 rfl ?_
    refine wp_lstore (lv' := [_, _, _, _, _, _, _, _, _, _, _]) d_SN_weighGuilt_81 (by decide) rfl ?_
    refine wp_iload d_SN_weighGuilt_83 rfl ?_
    refine wz_if_le (tgt := 106) d_SN_weighGuilt_85 (by decide) (by omega) (fun h85 => ?_) (fun h85 => ?_)
    · refine wp_aload_n d_SN_weighGuilt_106 rfl ?_
      refine wp_iload d_SN_weighGuilt_107 rfl ?_
      refine wp_callV (ct_SN_casesUnder (A := wyN σ (wo (sit σ (pl σ m)) m) (j + lt σ) x (nM σ)) (z := (dr σ (pl σ m) : Int)) 0 (by omega) e1) d_SN_weighGuilt_109 k_SN_43 (by decide) rfl rfl rfl rfl (Nat.le_of_ble_eq_true rfl) (by omega) ?_
      rintro _ _ _ ⟨rfl, rfl, rfl⟩
      rw [nC]
      refine wp_lstore (lv' := [_, _, _, _, _, _, _, _, _, _, _]) d_SN_weighGuilt_112 (by decide) rfl ?_
      refine wp_drop (lv' := [some _, some _, some _, some _, none, none, none, some _, none, some _, none]) ⟨rfl, rfl, rfl, rfl, rfl, rfl, trivial⟩ ?_
      rw [if_neg (by omega)] at hall
      exact fin 0 _ h2 (by rw [hall]; omega) (by rw [blG, if_pos g0]) (by omega)
    · exact absurd h85 (by omega)
  · have g1 : 0 < gv σ m (j + lt σ) := by omega
    rw [if_pos g1] at hall
    have hm1 : x * lsN (wyN σ (wo (sit σ (pl σ m)) m) (j + lt σ) x (nM σ)) (dr σ (pl σ m)) ≤ 10 * 1000000000000 := Nat.mul_le_mul (by omega) (by omega)
    have hm2 : (10 - x) * lsN (wyN σ (wo (sit σ (pl σ m)) m) (j + lt σ) x (nM σ)) (dr σ (pl σ m) - gv σ m (j + lt σ)) ≤ 10 * 1000000000000 := Nat.mul_le_mul (by omega) (by omega)
    refine wp_iload_n d_SN_weighGuilt_68 rfl ?_
    refine wz_i2l d_SN_weighGuilt_69 (by omega) ?_
    refine wp_aload_n d_SN_weighGuilt_70 rfl ?_
    refine wp_iload d_SN_weighGuilt_71 rfl ?_
    refine wp_callV (ct_SN_casesUnder (A := wyN σ (wo (sit σ (pl σ m)) m) (j + lt σ) x (nM σ)) (z := (dr σ (pl σ m) : Int)) 0 (by omega) e1) d_SN_weighGuilt_73 k_SN_43 (by decide) rfl rfl rfl rfl (Nat.le_of_ble_eq_true rfl) (by omega) ?_
    rintro _ _ _ ⟨rfl, rfl, rfl⟩
    rw [nC]
    refine wz_lmul d_SN_weighGuilt_76 ?_
    refine wp_goto (tgt := 81) d_SN_weighGuilt_77 (by decide) ?_
    refine wp_lstore (lv' := [_, _, _, _, _, _, _, _, _, _, _]) d_SN_weighGuilt_81 (by decide) rfl ?_
    refine wp_iload d_SN_weighGuilt_83 rfl ?_
    refine wz_if_le (tgt := 106) d_SN_weighGuilt_85 (by decide) (by omega) (fun h85 => ?_) (fun h85 => ?_)
    · exact absurd h85 (by omega)
    · refine wp_bipush (v := zI 10) d_SN_weighGuilt_88 rfl ?_
      refine wp_iload_n d_SN_weighGuilt_90 rfl ?_
      refine wz_isub d_SN_weighGuilt_91 ?_
      refine wz_i2l d_SN_weighGuilt_92 (by omega) ?_
      refine wp_aload_n d_SN_weighGuilt_93 rfl ?_
      refine wp_iload d_SN_weighGuilt_94 rfl ?_
      refine wp_iload d_SN_weighGuilt_96 rfl ?_
      refine wz_isub d_SN_weighGuilt_98 ?_
      refine wp_callV (ct_SN_casesUnder (A := wyN σ (wo (sit σ (pl σ m)) m) (j + lt σ) x (nM σ)) (z := (dr σ (pl σ m) : Int) - (gv σ m (j + lt σ) : Int)) 0 (by omega) e1) d_SN_weighGuilt_99 k_SN_43 (by decide) rfl rfl rfl rfl (Nat.le_of_ble_eq_true rfl) (by omega) ?_
      rintro _ _ _ ⟨rfl, rfl, rfl⟩
      rw [show ((dr σ (pl σ m) : Int) - (gv σ m (j + lt σ) : Int)).toNat = dr σ (pl σ m) - gv σ m (j + lt σ) by omega]
      rw [show (10 : Int) - (x : Int) = ((10 - x : Nat) : Int) by omega]
      refine wz_lmul d_SN_weighGuilt_102 ?_
      refine wp_goto (tgt := 112) d_SN_weighGuilt_103 (by decide) ?_
      refine wp_lstore (lv' := [_, _, _, _, _, _, _, _, _, _, _]) d_SN_weighGuilt_112 (by decide) rfl ?_
      refine wp_drop (lv' := [some _, some _, some _, some _, none, none, none, some _, none, some _, none]) ⟨rfl, rfl, rfl, rfl, rfl, rfl, trivial⟩ ?_
      exact fin (x * lsN (wyN σ (wo (sit σ (pl σ m)) m) (j + lt σ) x (nM σ)) (dr σ (pl σ m))) ((10 - x) * lsN (wyN σ (wo (sit σ (pl σ m)) m) (j + lt σ) x (nM σ)) (dr σ (pl σ m) - gv σ m (j + lt σ))) h2 hall.symm (by rw [blG, if_neg (by omega), Nat.mul_comm]) (by omega)
theorem cx_steady {a b c : Int} {u : Nat} (ok : Ok σ) (hA : AX σ hi) (ha : inR a) (hb : inR b) (hc : inR c) (hu : u ≤ 1) : Ct M_BB_steady 9 [.ref 0, .int (zI a), .int (zI b), .int (zI c), .int (zI u)] hi hl (pXl σ (lZ (r_steady σ a b c (decide (u = 1)))) hi) := by
  have hn := ok.nums
  refine ct_intro (lv := [_, _, _, _, _]) (by decide +kernel) (Nat.le_of_ble_eq_true rfl) rfl ?_
  refine wp_aload_n d_BB_steady_0 rfl ?_
  refine wp_getR d_BB_steady_1 f_BB_19 (by decide) rfl rfl ?_
  refine wp_iload_n d_BB_steady_4 rfl ?_
  refine wp_iload_n d_BB_steady_5 rfl ?_
  refine wp_callV (ct_PI_hasBoth ok hA.2.1 ha hb) d_BB_steady_6 k_BB_111 (by decide) rfl rfl rfl rfl (Nat.le_of_ble_eq_true rfl) (by omega) ?_
  rintro _ _ _ ⟨rfl, rfl, rfl⟩
  refine wz_if_neB (tgt := 16) d_BB_steady_9 (by decide) (fun h9 => ?_) (fun h9 => ?_)
  · rw [r_steady, if_pos h9]
    refine wp_iload_n d_BB_steady_16 rfl ?_
    refine wz_if_lt (tgt := 26) d_BB_steady_17 (by decide) (by omega) (fun h17 => ?_) (fun h17 => ?_)
    · refine wz_ldc2 (z := -2) d_BB_steady_26 cs_BB_203 rfl ?_
      rw [if_neg (by omega)]
      exact wp_lret d_BB_steady_29 rfl (⟨rfl, hA, fun _ _ => rfl⟩)
    · refine wp_iload_n d_BB_steady_20 rfl ?_
      refine wp_bipush (v := zI 10) d_BB_steady_21 rfl ?_
      refine wz_icmp_le (tgt := 30) d_BB_steady_23 (by decide) (by omega) (by omega) (fun h23 => ?_) (fun h23 => ?_)
      · obtain ⟨p, rfl, hpp⟩ := toN h9.1
        obtain ⟨j, rfl, hj⟩ := toN h9.2
        obtain ⟨x, rfl, hx⟩ := toN (show 0 ≤ c ∧ c < (11 : Nat) by omega)
        rw [if_pos ⟨h17, h23⟩, nC, nC, nC]
        refine wp_aload_n d_BB_steady_30 rfl ?_
        refine wp_getR d_BB_steady_31 f_BB_67 (by decide) rfl rfl ?_
        refine wp_iload_n d_BB_steady_34 rfl ?_
        refine wp_iload_n d_BB_steady_35 rfl ?_
        refine wp_iload_n d_BB_steady_36 rfl ?_
        refine wp_callV (ct_SN_weighEnough (p := p) (j := j) (x := x) ok hA hpp (by omega) (by omega)) d_BB_steady_37 k_BB_205 (by decide) rfl rfl rfl rfl (Nat.le_of_ble_eq_true rfl) (by omega) ?_
        rintro _ _ h2 ⟨rfl, rfl, e3, e4⟩
        refine wp_iload d_BB_steady_40 rfl ?_
        refine wz_if_eq (tgt := 55) d_BB_steady_42 (by decide) (by omega) (fun h42 => ?_) (fun h42 => ?_)
        · refine wp_aload_n d_BB_steady_55 rfl ?_
          refine wp_getR d_BB_steady_56 f_BB_67 (by decide) rfl rfl ?_
          refine wz_getJ (e4) d_BB_steady_59 f_BB_213 (by decide) rfl rfl ?_
          exact wp_lret d_BB_steady_62 rfl (⟨by rw [show decide (u = 1) = false from by simp; omega], hA, fun _ _ => rfl⟩)
        · refine wp_aload_n d_BB_steady_45 rfl ?_
          refine wp_getR d_BB_steady_46 f_BB_67 (by decide) rfl rfl ?_
          refine wz_getJ (e3) d_BB_steady_49 f_BB_209 (by decide) rfl rfl ?_
          refine wp_goto (tgt := 62) d_BB_steady_52 (by decide) ?_
          exact wp_lret d_BB_steady_62 rfl (⟨by rw [show decide (u = 1) = true from by simp; omega], hA, fun _ _ => rfl⟩)
      · refine wz_ldc2 (z := -2) d_BB_steady_26 cs_BB_203 rfl ?_
        rw [if_neg (by omega)]
        exact wp_lret d_BB_steady_29 rfl (⟨rfl, hA, fun _ _ => rfl⟩)
  · refine wz_ldc2 (z := -1) d_BB_steady_12 cs_BB_201 rfl ?_
    rw [r_steady, if_neg h9]
    exact wp_lret d_BB_steady_15 rfl (⟨rfl, hA, fun _ _ => rfl⟩)
theorem cx_blame {a b c : Int} {u : Nat} (ok : Ok σ) (hA : AX σ hi) (ha : inR a) (hb : inR b) (hc : inR c) (hu : u ≤ 1) : Ct M_BB_blame 9 [.ref 0, .int (zI a), .int (zI b), .int (zI c), .int (zI u)] hi hl (pXl σ (lZ (r_blame σ a b c (decide (u = 1)))) hi) := by
  have hn := ok.nums
  refine ct_intro (lv := [_, _, _, _, _]) (by decide +kernel) (Nat.le_of_ble_eq_true rfl) rfl ?_
  refine wp_aload_n d_BB_blame_0 rfl ?_
  refine wp_getR d_BB_blame_1 f_BB_26 (by decide) rfl rfl ?_
  refine wp_iload_n d_BB_blame_4 rfl ?_
  refine wp_callV (ct_PE_has 0 ok hA.1 ha) d_BB_blame_5 k_BB_118 (by decide) rfl rfl rfl rfl (Nat.le_of_ble_eq_true rfl) (by omega) ?_
  rintro _ _ _ ⟨rfl, rfl, rfl⟩
  refine wz_if_eqB (tgt := 22) d_BB_blame_8 (by decide) (fun h8 => ?_) (fun h8 => ?_)
  · refine wz_ldc2 (z := -1) d_BB_blame_22 cs_BB_201 rfl ?_
    rw [r_blame, if_neg (fun q => h8 q.1)]
    exact wp_lret d_BB_blame_25 rfl (⟨rfl, hA, fun _ _ => rfl⟩)
  · refine wp_aload_n d_BB_blame_11 rfl ?_
    refine wp_getR d_BB_blame_12 f_BB_19 (by decide) rfl rfl ?_
    refine wp_iload_n d_BB_blame_15 rfl ?_
    refine wp_callV (ct_PI_hasBeat 0 ok hA.2.1 hb) d_BB_blame_16 k_BB_140 (by decide) rfl rfl rfl rfl (Nat.le_of_ble_eq_true rfl) (by omega) ?_
    rintro _ _ _ ⟨rfl, rfl, rfl⟩
    refine wz_if_neB (tgt := 26) d_BB_blame_19 (by decide) (fun h19 => ?_) (fun h19 => ?_)
    · rw [r_blame, if_pos ⟨h8, h19⟩]
      refine wp_iload_n d_BB_blame_26 rfl ?_
      refine wz_if_lt (tgt := 36) d_BB_blame_27 (by decide) (by omega) (fun h27 => ?_) (fun h27 => ?_)
      · refine wz_ldc2 (z := -2) d_BB_blame_36 cs_BB_203 rfl ?_
        rw [if_neg (by omega)]
        exact wp_lret d_BB_blame_39 rfl (⟨rfl, hA, fun _ _ => rfl⟩)
      · refine wp_iload_n d_BB_blame_30 rfl ?_
        refine wp_bipush (v := zI 10) d_BB_blame_31 rfl ?_
        refine wz_icmp_le (tgt := 40) d_BB_blame_33 (by decide) (by omega) (by omega) (fun h33 => ?_) (fun h33 => ?_)
        · obtain ⟨m, rfl, hm⟩ := toN h8
          obtain ⟨j, rfl, hj⟩ := toN h19
          obtain ⟨x, rfl, hx⟩ := toN (show 0 ≤ c ∧ c < (11 : Nat) by omega)
          rw [if_pos ⟨h27, h33⟩, nC, nC, nC]
          refine wp_aload_n d_BB_blame_40 rfl ?_
          refine wp_getR d_BB_blame_41 f_BB_67 (by decide) rfl rfl ?_
          refine wp_iload_n d_BB_blame_44 rfl ?_
          refine wp_iload_n d_BB_blame_45 rfl ?_
          refine wp_iload_n d_BB_blame_46 rfl ?_
          refine wp_callV (ct_SN_weighGuilt (m := m) (j := j) (x := x) ok hA hm (by omega) (by omega)) d_BB_blame_47 k_BB_216 (by decide) rfl rfl rfl rfl (Nat.le_of_ble_eq_true rfl) (by omega) ?_
          rintro _ _ h2 ⟨rfl, ⟨k1, rfl⟩ | ⟨k1, rfl, e3, e4⟩⟩
          · refine wz_if_ne (a := 0) (tgt := 57) d_BB_blame_50 (by decide) (by omega) (fun q => absurd rfl q) (fun _ => ?_)
            refine wz_ldc2 (z := -3) d_BB_blame_53 cs_BB_220 rfl ?_
            rw [if_pos k1]
            exact wp_lret d_BB_blame_56 rfl (⟨rfl, hA, fun _ _ => rfl⟩)
          · refine wz_if_ne (a := 1) (tgt := 57) d_BB_blame_50 (by decide) (by omega) (fun _ => ?_) (fun q => absurd q (by decide))
            rw [if_neg k1]
            refine wp_iload d_BB_blame_57 rfl ?_
            refine wz_if_eq (tgt := 72) d_BB_blame_59 (by decide) (by omega) (fun h59 => ?_) (fun h59 => ?_)
            · refine wp_aload_n d_BB_blame_72 rfl ?_
              refine wp_getR d_BB_blame_73 f_BB_67 (by decide) rfl rfl ?_
              refine wz_getJ (e4) d_BB_blame_76 f_BB_213 (by decide) rfl rfl ?_
              exact wp_lret d_BB_blame_79 rfl (⟨by rw [show decide (u = 1) = false from by simp; omega], hA, fun _ _ => rfl⟩)
            · refine wp_aload_n d_BB_blame_62 rfl ?_
              refine wp_getR d_BB_blame_63 f_BB_67 (by decide) rfl rfl ?_
              refine wz_getJ (e3) d_BB_blame_66 f_BB_209 (by decide) rfl rfl ?_
              refine wp_goto (tgt := 79) d_BB_blame_69 (by decide) ?_
              exact wp_lret d_BB_blame_79 rfl (⟨by rw [show decide (u = 1) = true from by simp; omega], hA, fun _ _ => rfl⟩)
        · refine wz_ldc2 (z := -2) d_BB_blame_36 cs_BB_203 rfl ?_
          rw [if_neg (by omega)]
          exact wp_lret d_BB_blame_39 rfl (⟨rfl, hA, fun _ _ => rfl⟩)
    · refine wz_ldc2 (z := -1) d_BB_blame_22 cs_BB_201 rfl ?_
      rw [r_blame, if_neg (fun q => h19 q.2)]
      exact wp_lret d_BB_blame_25 rfl (⟨rfl, hA, fun _ _ => rfl⟩)
end SNEEZE
