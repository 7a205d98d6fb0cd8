/-! NUMBERS: the machine's ints and longs as whole numbers -/
def zI (z : Int) : Int32 := Int32.ofInt z
def lZ (z : Int) : Int64 := Int64.ofInt z
abbrev inR (z : Int) : Prop := -2147483648 ≤ z ∧ z ≤ 2147483647
abbrev inL (z : Int) : Prop := -9223372036854775808 ≤ z ∧ z ≤ 9223372036854775807
theorem zI_add (a b : Int) : zI a + zI b = zI (a + b) := (Int32.ofInt_add a b).symm
theorem zI_sub (a b : Int) : zI a - zI b = zI (a - b) := (Int32.ofInt_sub a b).symm
theorem zI_mul (a b : Int) : zI a * zI b = zI (a * b) := (Int32.ofInt_mul a b).symm
theorem zI_neg (a : Int) : - zI a = zI (-a) := (Int32.ofInt_neg a).symm
theorem lZ_add (a b : Int) : lZ a + lZ b = lZ (a + b) := (Int64.ofInt_add a b).symm
theorem lZ_sub (a b : Int) : lZ a - lZ b = lZ (a - b) := (Int64.ofInt_sub a b).symm
theorem lZ_mul (a b : Int) : lZ a * lZ b = lZ (a * b) := (Int64.ofInt_mul a b).symm
theorem zI_toInt {z : Int} (h : inR z) : (zI z).toInt = z := Int32.toInt_ofInt_of_le (by omega) (by omega)
theorem lZ_toInt {z : Int} (h : inL z) : (lZ z).toInt = z := Int64.toInt_ofInt_of_le (by omega) (by omega)
theorem zI_of (x : Int32) : zI x.toInt = x := Int32.ofInt_toInt x
theorem lZ_of (x : Int64) : lZ x.toInt = x := Int64.ofInt_toInt x
theorem inR_of (x : Int32) : inR x.toInt := by
  have h1 := x.toInt_lt
  have h2 := x.le_toInt
  omega
theorem inL_of (x : Int64) : inL x.toInt := by
  have h1 := x.toInt_lt
  have h2 := x.le_toInt
  omega
theorem zI_nat (n : Nat) : zI (n : Int) = nI n := Int32.ofInt_eq_ofNat
theorem zI_lt {a b : Int} (ha : inR a) (hb : inR b) : zI a < zI b ↔ a < b := by rw [Int32.lt_iff_toInt_lt, zI_toInt ha, zI_toInt hb]
theorem zI_le {a b : Int} (ha : inR a) (hb : inR b) : zI a ≤ zI b ↔ a ≤ b := by rw [Int32.le_iff_toInt_le, zI_toInt ha, zI_toInt hb]
theorem zI_eq {a b : Int} (ha : inR a) (hb : inR b) : zI a = zI b ↔ a = b := by rw [← Int32.toInt_inj, zI_toInt ha, zI_toInt hb]
theorem lZ_lt {a b : Int} (ha : inL a) (hb : inL b) : lZ a < lZ b ↔ a < b := by rw [Int64.lt_iff_toInt_lt, lZ_toInt ha, lZ_toInt hb]
theorem lZ_le {a b : Int} (ha : inL a) (hb : inL b) : lZ a ≤ lZ b ↔ a ≤ b := by rw [Int64.le_iff_toInt_le, lZ_toInt ha, lZ_toInt hb]
theorem lZ_eq {a b : Int} (ha : inL a) (hb : inL b) : lZ a = lZ b ↔ a = b := by rw [← Int64.toInt_inj, lZ_toInt ha, lZ_toInt hb]
theorem zI_0 : (0 : Int32) = zI 0 := rfl
theorem zI_1 : (1 : Int32) = zI 1 := rfl
theorem zI_tdiv {a b : Int} (ha : inR a) (hm : -2147483648 < a) (hb : inR b) (h : 0 < b) : zI a / zI b = zI (a.tdiv b) := by
  apply Int32.toInt_inj.mp
  have hne : zI b ≠ -1 := fun q => by
    have := congrArg Int32.toInt q
    rw [zI_toInt hb] at this
    have h2 : (-1 : Int32).toInt = -1 := by decide
    omega
  have h3 : inR (a.tdiv b) := by
    have h1 := Int.natAbs_tdiv_le_natAbs a b
    omega
  rw [Int32.toInt_div_of_ne_right _ _ hne, zI_toInt ha, zI_toInt hb, zI_toInt h3]
theorem zI_tmod {a b : Int} (ha : inR a) (hm : -2147483648 < a) (hb : inR b) (h : 0 < b) : zI a - zI a / zI b * zI b = zI (a.tmod b) := by
  rw [zI_tdiv ha hm hb h, zI_mul, zI_sub]
  congr 1
  have := Int.tmod_add_mul_tdiv a b
  rw [Int.mul_comm] at this
  omega
theorem zI_mod {a b : Int} (h0 : 0 ≤ a) (ha : inR a) (hb : inR b) (h : 0 < b) : zI a - zI a / zI b * zI b = zI (a % b) := by
  rw [zI_tmod ha (by omega) hb h, Int.tmod_eq_emod_of_nonneg h0]
theorem zI_div {a b : Int} (h0 : 0 ≤ a) (ha : inR a) (hb : inR b) (h : 0 < b) : zI a / zI b = zI (a / b) := by
  rw [zI_tdiv ha (by omega) hb h, Int.tdiv_eq_ediv_of_nonneg h0]
theorem zI_ne0 {b : Int} (hb : inR b) (h : b ≠ 0) : ¬ zI b = 0 := fun q => h ((zI_eq hb (by omega)).mp q)
def bI (c : Prop) [Decidable c] : Int32 := if c then 1 else 0
theorem bI_t {c : Prop} [Decidable c] (h : c) : bI c = 1 := by simp [bI, h]
theorem bI_f {c : Prop} [Decidable c] (h : ¬ c) : bI c = 0 := by simp [bI, h]
theorem bI_01 (c : Prop) [Decidable c] : bI c = 0 ∨ bI c = 1 := by by_cases h : c <;> simp [bI, h]
theorem bI_cong {c c' : Prop} [Decidable c] [Decidable c'] (h : c ↔ c') : bI c = bI c' := by by_cases q : c <;> simp [bI, q, ← h]
theorem sh_amt {i : Nat} (h : i < 32) : ((nI i &&& 31).toBitVec.smod 32).toNat = i := by
  have : ∀ j : Fin 32, ((nI j.val &&& 31).toBitVec.smod 32).toNat = j.val := by decide
  exact this ⟨i, h⟩
theorem zI_shr {n i : Nat} (hn : n < 2147483648) (hi : i < 32) : zI (n : Int) >>> (zI (i : Int) &&& 31) = zI ((n / 2 ^ i : Nat) : Int) := by
  rw [zI_nat, zI_nat, zI_nat, pk_shrN hn _ i (sh_amt hi)]
theorem zI_shl {n i : Nat} (hi : i < 32) (h : n * 2 ^ i < 2147483648) : zI (n : Int) <<< (zI (i : Int) &&& 31) = zI ((n * 2 ^ i : Nat) : Int) := by
  rw [zI_nat, zI_nat, zI_nat, pk_shlN _ i (sh_amt hi) (by omega)]
theorem nI_and (a b : Nat) : nI a &&& nI b = nI (a &&& b) := by
  apply Int32.toBitVec_inj.mp
  show BitVec.ofNat 32 a &&& BitVec.ofNat 32 b = BitVec.ofNat 32 (a &&& b)
  apply BitVec.eq_of_getLsbD_eq
  intro i hi
  simp [hi]
theorem nI_or (a b : Nat) : nI a ||| nI b = nI (a ||| b) := by
  apply Int32.toBitVec_inj.mp
  show BitVec.ofNat 32 a ||| BitVec.ofNat 32 b = BitVec.ofNat 32 (a ||| b)
  apply BitVec.eq_of_getLsbD_eq
  intro i hi
  simp [hi]
theorem zI_and (a b : Nat) : zI (a : Int) &&& zI (b : Int) = zI ((a &&& b : Nat) : Int) := by rw [zI_nat, zI_nat, zI_nat, nI_and]
theorem zI_or (a b : Nat) : zI (a : Int) ||| zI (b : Int) = zI ((a ||| b : Nat) : Int) := by rw [zI_nat, zI_nat, zI_nat, nI_or]
/-- the bit i of n, as the machine asks for it: n >> i & 1 -/
theorem zI_bit {n i : Nat} (hn : n < 2147483648) (hi : i < 32) : (zI (n : Int) >>> (zI (i : Int) &&& 31)) &&& zI 1 = bI (n.testBit i = true) := by
  rw [zI_shr hn hi, show (1 : Int) = ((1 : Nat) : Int) from rfl, zI_and, Nat.and_one_is_mod]
  have h := Nat.testBit_eq_decide_div_mod_eq (x := n) (i := i)
  by_cases hb : n.testBit i = true
  · rw [bI_t hb]
    rw [hb] at h
    have : n / 2 ^ i % 2 = 1 := by simpa using h.symm
    rw [this]; rfl
  · rw [bI_f hb]
    have h2 : n.testBit i = false := by simpa using hb
    rw [h2] at h
    have : ¬ n / 2 ^ i % 2 = 1 := by simpa using h.symm
    rw [show n / 2 ^ i % 2 = 0 by omega]; rfl
section WZ
variable {M : MD} {d : Nat} {Post : Option Value → HI → HL → Prop} {pc : Nat} {lv : LV} {st : List Value} {hi : HI} {hl : HL}
/-- another text of the top -/
theorem wz_top {x y : Int32} (h : x = y) (k : Wp M d Post pc lv (.int y :: st) hi hl) : Wp M d Post pc lv (.int x :: st) hi hl := h ▸ k
theorem wz_topl {x y : Int64} (h : x = y) (k : Wp M d Post pc lv (.long y :: st) hi hl) : Wp M d Post pc lv (.long x :: st) hi hl := h ▸ k
theorem wz_st {st' : List Value} (h : st = st') (k : Wp M d Post pc lv st' hi hl) : Wp M d Post pc lv st hi hl := h ▸ k
theorem wz_lv {lv' : LV} (h : lv = lv') (k : Wp M d Post pc lv' st hi hl) : Wp M d Post pc lv st hi hl := h ▸ k
theorem wz_hi {hi' : HI} (h : hi = hi') (k : Wp M d Post pc lv st hi' hl) : Wp M d Post pc lv st hi hl := h ▸ k
theorem wz_hl {hl' : HL} (h : hl = hl') (k : Wp M d Post pc lv st hi hl') : Wp M d Post pc lv st hi hl := h ▸ k
theorem wz_iadd {a b : Int} (hd : decode M.2.1 pc = .ok (.iadd, 1)) (k : Wp M d Post (pc + 1) lv (.int (zI (a + b)) :: st) hi hl) : Wp M d Post pc lv (.int (zI b) :: .int (zI a) :: st) hi hl := wp_iadd hd (by rw [zI_add]; exact k)
theorem wz_isub {a b : Int} (hd : decode M.2.1 pc = .ok (.isub, 1)) (k : Wp M d Post (pc + 1) lv (.int (zI (a - b)) :: st) hi hl) : Wp M d Post pc lv (.int (zI b) :: .int (zI a) :: st) hi hl := wp_isub hd (by rw [zI_sub]; exact k)
theorem wz_imul {a b : Int} (hd : decode M.2.1 pc = .ok (.imul, 1)) (k : Wp M d Post (pc + 1) lv (.int (zI (a * b)) :: st) hi hl) : Wp M d Post pc lv (.int (zI b) :: .int (zI a) :: st) hi hl := wp_imul hd (by rw [zI_mul]; exact k)
theorem wz_ladd {a b : Int} (hd : decode M.2.1 pc = .ok (.ladd, 1)) (k : Wp M d Post (pc + 1) lv (.long (lZ (a + b)) :: st) hi hl) : Wp M d Post pc lv (.long (lZ b) :: .long (lZ a) :: st) hi hl := wp_ladd hd (by rw [lZ_add]; exact k)
theorem wz_lsub {a b : Int} (hd : decode M.2.1 pc = .ok (.lsub, 1)) (k : Wp M d Post (pc + 1) lv (.long (lZ (a - b)) :: st) hi hl) : Wp M d Post pc lv (.long (lZ b) :: .long (lZ a) :: st) hi hl := wp_lsub hd (by rw [lZ_sub]; exact k)
theorem wz_lmul {a b : Int} (hd : decode M.2.1 pc = .ok (.lmul, 1)) (k : Wp M d Post (pc + 1) lv (.long (lZ (a * b)) :: st) hi hl) : Wp M d Post pc lv (.long (lZ b) :: .long (lZ a) :: st) hi hl := wp_lmul hd (by rw [lZ_mul]; exact k)
theorem wz_ineg {a : Int} (hd : decode M.2.1 pc = .ok (.ineg, 1)) (k : Wp M d Post (pc + 1) lv (.int (zI (-a)) :: st) hi hl) : Wp M d Post pc lv (.int (zI a) :: st) hi hl := wp_ineg hd (by rw [zI_neg]; exact k)
theorem wz_irem {a b : Int} (hd : decode M.2.1 pc = .ok (.irem, 1)) (h0 : 0 ≤ a) (ha : inR a) (hb : inR b) (h : 0 < b) (k : Wp M d Post (pc + 1) lv (.int (zI (a % b)) :: st) hi hl) : Wp M d Post pc lv (.int (zI b) :: .int (zI a) :: st) hi hl := wp_irem hd (zI_ne0 hb (by omega)) (by rw [zI_mod h0 ha hb h]; exact k)
theorem wz_iremT {a b : Int} (hd : decode M.2.1 pc = .ok (.irem, 1)) (ha : inR a) (hm : -2147483648 < a) (hb : inR b) (h : 0 < b) (k : Wp M d Post (pc + 1) lv (.int (zI (a.tmod b)) :: st) hi hl) : Wp M d Post pc lv (.int (zI b) :: .int (zI a) :: st) hi hl := wp_irem hd (zI_ne0 hb (by omega)) (by rw [zI_tmod ha hm hb h]; exact k)
theorem wz_idiv {a b : Int} (hd : decode M.2.1 pc = .ok (.idiv, 1)) (h0 : 0 ≤ a) (ha : inR a) (hb : inR b) (h : 0 < b) (k : Wp M d Post (pc + 1) lv (.int (zI (a / b)) :: st) hi hl) : Wp M d Post pc lv (.int (zI b) :: .int (zI a) :: st) hi hl := wp_idiv hd (zI_ne0 hb (by omega)) (by rw [zI_div h0 ha hb h]; exact k)
theorem wz_iinc {n : Nat} {b a : Int} {lv' : LV} (hd : decode M.2.1 pc = .ok (.iinc n b, 3)) (hg : lvg lv n = some (.int (zI a))) (hn : n < M.2.2.1) (hlv : lset lv n (.int (zI (a + b))) = lv') (k : Wp M d Post (pc + 3) lv' st hi hl) : Wp M d Post pc lv st hi hl := wp_iinc hd hg (zI_add a b) hn hlv k
theorem wz_i2l {a : Int} (hd : decode M.2.1 pc = .ok (.i2l, 1)) (ha : inR a) (k : Wp M d Post (pc + 1) lv (.long (lZ a) :: st) hi hl) : Wp M d Post pc lv (.int (zI a) :: st) hi hl := wp_i2l hd (by
  have : (zI a).toInt64 = lZ a := by
    apply Int64.toInt_inj.mp
    rw [Int32.toInt_toInt64, zI_toInt ha, lZ_toInt (by omega)]
  rw [this]; exact k)
theorem lcmp_z {a b : Int} (ha : inL a) (hb : inL b) : lg_cmp (lZ a) (lZ b) = zI (if b < a then 1 else if a = b then 0 else -1) := by
  unfold lg_cmp
  simp only [gt_iff_lt, lZ_lt hb ha, lZ_eq ha hb]
  split
  · rfl
  · split <;> rfl
theorem wz_lcmp {a b : Int} (hd : decode M.2.1 pc = .ok (.lcmp, 1)) (ha : inL a) (hb : inL b) (k : Wp M d Post (pc + 1) lv (.int (zI (if b < a then 1 else if a = b then 0 else -1)) :: st) hi hl) : Wp M d Post pc lv (.long (lZ b) :: .long (lZ a) :: st) hi hl := wp_lcmp hd (by rw [lcmp_z ha hb]; exact k)
theorem wz_icmp_eq {a b off : Int} {tgt : Nat} (hd : decode M.2.1 pc = .ok (.if_icmp .eq off, 3)) (ht : (pc : Int) + off = (tgt : Int)) (ha : inR a) (hb : inR b) (kt : a = b → Wp M d Post tgt lv st hi hl) (kf : ¬ a = b → Wp M d Post (pc + 3) lv st hi hl) : Wp M d Post pc lv (.int (zI b) :: .int (zI a) :: st) hi hl := wp_icmp_eq hd ht (fun h => kt ((zI_eq ha hb).mp h)) (fun h => kf (fun q => h ((zI_eq ha hb).mpr q)))
theorem wz_if_eq {a off : Int} {tgt : Nat} (hd : decode M.2.1 pc = .ok (.ifCond .eq off, 3)) (ht : (pc : Int) + off = (tgt : Int)) (ha : inR a) (kt : a = 0 → Wp M d Post tgt lv st hi hl) (kf : ¬ a = 0 → Wp M d Post (pc + 3) lv st hi hl) : Wp M d Post pc lv (.int (zI a) :: st) hi hl := by
  have hb : inR 0 := by omega
  exact wp_if_eq hd ht (fun h => kt ((zI_eq ha hb).mp h)) (fun h => kf (fun q => h ((zI_eq ha hb).mpr q)))
theorem wz_icmp_ne {a b off : Int} {tgt : Nat} (hd : decode M.2.1 pc = .ok (.if_icmp .ne off, 3)) (ht : (pc : Int) + off = (tgt : Int)) (ha : inR a) (hb : inR b) (kt : ¬ a = b → Wp M d Post tgt lv st hi hl) (kf : a = b → Wp M d Post (pc + 3) lv st hi hl) : Wp M d Post pc lv (.int (zI b) :: .int (zI a) :: st) hi hl := wp_icmp_ne hd ht (fun h => kt (fun q => h ((zI_eq ha hb).mpr q))) (fun h => kf ((zI_eq ha hb).mp h))
theorem wz_if_ne {a off : Int} {tgt : Nat} (hd : decode M.2.1 pc = .ok (.ifCond .ne off, 3)) (ht : (pc : Int) + off = (tgt : Int)) (ha : inR a) (kt : ¬ a = 0 → Wp M d Post tgt lv st hi hl) (kf : a = 0 → Wp M d Post (pc + 3) lv st hi hl) : Wp M d Post pc lv (.int (zI a) :: st) hi hl := by
  have hb : inR 0 := by omega
  exact wp_if_ne hd ht (fun h => kt (fun q => h ((zI_eq ha hb).mpr q))) (fun h => kf ((zI_eq ha hb).mp h))
theorem wz_icmp_lt {a b off : Int} {tgt : Nat} (hd : decode M.2.1 pc = .ok (.if_icmp .lt off, 3)) (ht : (pc : Int) + off = (tgt : Int)) (ha : inR a) (hb : inR b) (kt : a < b → Wp M d Post tgt lv st hi hl) (kf : b ≤ a → Wp M d Post (pc + 3) lv st hi hl) : Wp M d Post pc lv (.int (zI b) :: .int (zI a) :: st) hi hl := wp_icmp_lt hd ht (fun h => kt ((zI_lt ha hb).mp h)) (fun h => kf (Int.not_lt.mp (fun q => h ((zI_lt ha hb).mpr q))))
theorem wz_if_lt {a off : Int} {tgt : Nat} (hd : decode M.2.1 pc = .ok (.ifCond .lt off, 3)) (ht : (pc : Int) + off = (tgt : Int)) (ha : inR a) (kt : a < 0 → Wp M d Post tgt lv st hi hl) (kf : 0 ≤ a → Wp M d Post (pc + 3) lv st hi hl) : Wp M d Post pc lv (.int (zI a) :: st) hi hl := by
  have hb : inR 0 := by omega
  exact wp_if_lt hd ht (fun h => kt ((zI_lt ha hb).mp h)) (fun h => kf (Int.not_lt.mp (fun q => h ((zI_lt ha hb).mpr q))))
theorem wz_icmp_ge {a b off : Int} {tgt : Nat} (hd : decode M.2.1 pc = .ok (.if_icmp .ge off, 3)) (ht : (pc : Int) + off = (tgt : Int)) (ha : inR a) (hb : inR b) (kt : b ≤ a → Wp M d Post tgt lv st hi hl) (kf : a < b → Wp M d Post (pc + 3) lv st hi hl) : Wp M d Post pc lv (.int (zI b) :: .int (zI a) :: st) hi hl := wp_icmp_ge hd ht (fun h => kt ((zI_le hb ha).mp h)) (fun h => kf (Int.not_le.mp (fun q => h ((zI_le hb ha).mpr q))))
theorem wz_if_ge {a off : Int} {tgt : Nat} (hd : decode M.2.1 pc = .ok (.ifCond .ge off, 3)) (ht : (pc : Int) + off = (tgt : Int)) (ha : inR a) (kt : 0 ≤ a → Wp M d Post tgt lv st hi hl) (kf : a < 0 → Wp M d Post (pc + 3) lv st hi hl) : Wp M d Post pc lv (.int (zI a) :: st) hi hl := by
  have hb : inR 0 := by omega
  exact wp_if_ge hd ht (fun h => kt ((zI_le hb ha).mp h)) (fun h => kf (Int.not_le.mp (fun q => h ((zI_le hb ha).mpr q))))
theorem wz_icmp_gt {a b off : Int} {tgt : Nat} (hd : decode M.2.1 pc = .ok (.if_icmp .gt off, 3)) (ht : (pc : Int) + off = (tgt : Int)) (ha : inR a) (hb : inR b) (kt : b < a → Wp M d Post tgt lv st hi hl) (kf : a ≤ b → Wp M d Post (pc + 3) lv st hi hl) : Wp M d Post pc lv (.int (zI b) :: .int (zI a) :: st) hi hl := wp_icmp_gt hd ht (fun h => kt ((zI_lt hb ha).mp h)) (fun h => kf (Int.not_lt.mp (fun q => h ((zI_lt hb ha).mpr q))))
theorem wz_if_gt {a off : Int} {tgt : Nat} (hd : decode M.2.1 pc = .ok (.ifCond .gt off, 3)) (ht : (pc : Int) + off = (tgt : Int)) (ha : inR a) (kt : 0 < a → Wp M d Post tgt lv st hi hl) (kf : a ≤ 0 → Wp M d Post (pc + 3) lv st hi hl) : Wp M d Post pc lv (.int (zI a) :: st) hi hl := by
  have hb : inR 0 := by omega
  exact wp_if_gt hd ht (fun h => kt ((zI_lt hb ha).mp h)) (fun h => kf (Int.not_lt.mp (fun q => h ((zI_lt hb ha).mpr q))))
theorem wz_icmp_le {a b off : Int} {tgt : Nat} (hd : decode M.2.1 pc = .ok (.if_icmp .le off, 3)) (ht : (pc : Int) + off = (tgt : Int)) (ha : inR a) (hb : inR b) (kt : a ≤ b → Wp M d Post tgt lv st hi hl) (kf : b < a → Wp M d Post (pc + 3) lv st hi hl) : Wp M d Post pc lv (.int (zI b) :: .int (zI a) :: st) hi hl := wp_icmp_le hd ht (fun h => kt ((zI_le ha hb).mp h)) (fun h => kf (Int.not_le.mp (fun q => h ((zI_le ha hb).mpr q))))
theorem wz_if_le {a off : Int} {tgt : Nat} (hd : decode M.2.1 pc = .ok (.ifCond .le off, 3)) (ht : (pc : Int) + off = (tgt : Int)) (ha : inR a) (kt : a ≤ 0 → Wp M d Post tgt lv st hi hl) (kf : 0 < a → Wp M d Post (pc + 3) lv st hi hl) : Wp M d Post pc lv (.int (zI a) :: st) hi hl := by
  have hb : inR 0 := by omega
  exact wp_if_le hd ht (fun h => kt ((zI_le ha hb).mp h)) (fun h => kf (Int.not_le.mp (fun q => h ((zI_le ha hb).mpr q))))
theorem wz_if_eqB {c : Prop} [Decidable c] {off : Int} {tgt : Nat} (hd : decode M.2.1 pc = .ok (.ifCond .eq off, 3)) (ht : (pc : Int) + off = (tgt : Int)) (kt : ¬ c → Wp M d Post tgt lv st hi hl) (kf : c → Wp M d Post (pc + 3) lv st hi hl) : Wp M d Post pc lv (.int (bI c) :: st) hi hl := wp_if_eq hd ht (fun h => kt (fun q => by rw [bI_t q] at h; exact absurd h (by decide))) (fun h => kf (Decidable.byContradiction fun q => h (bI_f q)))
theorem wz_if_neB {c : Prop} [Decidable c] {off : Int} {tgt : Nat} (hd : decode M.2.1 pc = .ok (.ifCond .ne off, 3)) (ht : (pc : Int) + off = (tgt : Int)) (kt : c → Wp M d Post tgt lv st hi hl) (kf : ¬ c → Wp M d Post (pc + 3) lv st hi hl) : Wp M d Post pc lv (.int (bI c) :: st) hi hl := wp_if_ne hd ht (fun h => kt (Decidable.byContradiction fun q => h (bI_f q))) (fun h => kf (fun q => by rw [bI_t q] at h; exact absurd h (by decide)))
theorem wz_getI {q ci f idx : Nat} {fs : List (Option (Option Nat))} {z : Int} (hv : hi q f = zI z) (hd : decode M.2.1 pc = .ok (.getfield idx, 3)) (hf : Fld M.1.cls idx ci f) (hq : q < 61) (hs : shp q = .inr (ci, fs)) (ht : fs[f]? = some none) (k : Wp M d Post (pc + 3) lv (.int (zI z) :: st) hi hl) : Wp M d Post pc lv (.ref q :: st) hi hl := wp_getI hd hf hq hs ht (hv ▸ k)
theorem wz_getJ {q ci f idx : Nat} {fs : List (Option (Option Nat))} {z : Int} (hv : hl q f = lZ z) (hd : decode M.2.1 pc = .ok (.getfield idx, 3)) (hf : Fld M.1.cls idx ci f) (hq : q < 61) (hs : shp q = .inr (ci, fs)) (ht : fs[f]? = some (some none)) (k : Wp M d Post (pc + 3) lv (.long (lZ z) :: st) hi hl) : Wp M d Post pc lv (.ref q :: st) hi hl := wp_getJ hd hf hq hs ht (hv ▸ k)
theorem wz_iald {q n j : Nat} {a z : Int} (hv : hi q j = zI z) (hj : a = (j : Int)) (hjn : j < n) (hd : decode M.2.1 pc = .ok (.iaload, 1)) (hq : q < 61) (hs : shp q = .inl (0, n)) (hn : n ≤ 384) (k : Wp M d Post (pc + 1) lv (.int (zI z) :: st) hi hl) : Wp M d Post pc lv (.int (zI a) :: .ref q :: st) hi hl := wp_iald hd hq hs hn (by rw [hj, zI_nat]) hjn (hv ▸ k)
theorem wz_bald {q n j : Nat} {a z : Int} (hv : hi q j = zI z) (hj : a = (j : Int)) (hjn : j < n) (hd : decode M.2.1 pc = .ok (.baload, 1)) (hq : q < 61) (hs : shp q = .inl (1, n)) (hn : n ≤ 384) (k : Wp M d Post (pc + 1) lv (.int (zI z) :: st) hi hl) : Wp M d Post pc lv (.int (zI a) :: .ref q :: st) hi hl := wp_bald hd hq hs hn (by rw [hj, zI_nat]) hjn (hv ▸ k)
theorem wz_zald {q n j : Nat} {a z : Int} (hv : hi q j = zI z) (hj : a = (j : Int)) (hjn : j < n) (hd : decode M.2.1 pc = .ok (.baload, 1)) (hq : q < 61) (hs : shp q = .inl (2, n)) (hn : n ≤ 384) (k : Wp M d Post (pc + 1) lv (.int (zI z) :: st) hi hl) : Wp M d Post pc lv (.int (zI a) :: .ref q :: st) hi hl := wp_zald hd hq hs hn (by rw [hj, zI_nat]) hjn (hv ▸ k)
theorem wz_lald {q n j : Nat} {a z : Int} (hv : hl q j = lZ z) (hj : a = (j : Int)) (hjn : j < n) (hd : decode M.2.1 pc = .ok (.laload, 1)) (hq : q < 61) (hs : shp q = .inl (3, n)) (hn : n ≤ 384) (k : Wp M d Post (pc + 1) lv (.long (lZ z) :: st) hi hl) : Wp M d Post pc lv (.int (zI a) :: .ref q :: st) hi hl := wp_lald hd hq hs hn (by rw [hj, zI_nat]) hjn (hv ▸ k)
theorem wz_iast {q n j : Nat} {a : Int} {x : Int32} (hj : a = (j : Int)) (hjn : j < n) (hd : decode M.2.1 pc = .ok (.iastore, 1)) (hq : q < 61) (hs : shp q = .inl (0, n)) (hn : n ≤ 384) (k : Wp M d Post (pc + 1) lv st (setI hi q j x) hl) : Wp M d Post pc lv (.int x :: .int (zI a) :: .ref q :: st) hi hl := wp_iast hd hq hs hn (by rw [hj, zI_nat]) hjn k
theorem wz_bast {q n j : Nat} {a : Int} {x : Int32} (hj : a = (j : Int)) (hjn : j < n) (hd : decode M.2.1 pc = .ok (.bastore, 1)) (hq : q < 61) (hs : shp q = .inl (1, n)) (hn : n ≤ 384) (k : Wp M d Post (pc + 1) lv st (setI hi q j (vp_nar .byte x)) hl) : Wp M d Post pc lv (.int x :: .int (zI a) :: .ref q :: st) hi hl := wp_bast hd hq hs hn (by rw [hj, zI_nat]) hjn k
theorem nar_z {x : Int32} (h : x = 0 ∨ x = 1) : vp_nar .boolean x = x := by rcases h with rfl | rfl <;> rfl
theorem wz_zast {q n j : Nat} {a : Int} {x : Int32} (hj : a = (j : Int)) (hjn : j < n) (hx : x = 0 ∨ x = 1) (hd : decode M.2.1 pc = .ok (.bastore, 1)) (hq : q < 61) (hs : shp q = .inl (2, n)) (hn : n ≤ 384) (k : Wp M d Post (pc + 1) lv st (setI hi q j x) hl) : Wp M d Post pc lv (.int x :: .int (zI a) :: .ref q :: st) hi hl := wp_zast hd hq hs hn (by rw [hj, zI_nat]) hjn (by rw [nar_z hx]; exact k)
theorem wz_last {q n j : Nat} {a : Int} {x : Int64} (hj : a = (j : Int)) (hjn : j < n) (hd : decode M.2.1 pc = .ok (.lastore, 1)) (hq : q < 61) (hs : shp q = .inl (3, n)) (hn : n ≤ 384) (k : Wp M d Post (pc + 1) lv st hi (setL hl q j x)) : Wp M d Post pc lv (.long x :: .int (zI a) :: .ref q :: st) hi hl := wp_last hd hq hs hn (by rw [hj, zI_nat]) hjn k
end WZ
