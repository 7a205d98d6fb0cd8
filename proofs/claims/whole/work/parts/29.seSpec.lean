/-! SEATS: the numbers -/
/-- a set of bits -/
def bs (g : Nat → Bool) : Nat → Nat
  | 0 => 0
  | n + 1 => bs g n ||| (if g n = true then 2 ^ n else 0)
theorem bs_lt (g : Nat → Bool) : ∀ n, bs g n < 2 ^ n
  | 0 => by simp [bs]
  | n + 1 => by
    have h := bs_lt g n
    refine Nat.or_lt_two_pow (by rw [Nat.pow_succ]; omega) ?_
    split
    · rw [Nat.pow_succ]; have := Nat.two_pow_pos n; omega
    · exact Nat.two_pow_pos _
theorem bs_bit (g : Nat → Bool) (m : Nat) : ∀ n, (bs g n).testBit m = (decide (m < n) && g m)
  | 0 => by simp [bs]
  | n + 1 => by
    rw [bs, Nat.testBit_or, bs_bit g m n]
    by_cases hm : m = n
    · subst hm
      by_cases hp : g m = true <;> simp [hp, Nat.testBit_two_pow_self]
    · have h2 : (if g n = true then 2 ^ n else 0 : Nat).testBit m = false := by
        split
        · exact Nat.testBit_two_pow_of_ne (fun q => hm q.symm)
        · simp
      rw [h2]
      by_cases h : m < n
      · simp [h, Nat.lt_succ_of_lt h]
      · have : ¬ m < n + 1 := by omega
        simp [h, this]
/-- what is in a and not in b -/
def mns (a b : Nat) : Nat := a &&& (4095 ^^^ b)
theorem bit_4095 (i : Nat) : (4095 : Nat).testBit i = decide (i < 12) := by
  rw [show (4095 : Nat) = 2 ^ 12 - 1 from rfl, Nat.testBit_two_pow_sub_one]
theorem mns_bit {a b i : Nat} (ha : a < 4096) : (mns a b).testBit i = (a.testBit i && !b.testBit i) := by
  rw [mns, Nat.testBit_and, Nat.testBit_xor, bit_4095]
  by_cases h12 : i < 12
  · simp [h12]
  · have : a.testBit i = false := Nat.testBit_lt_two_pow (Nat.lt_of_lt_of_le (show a < 2 ^ 12 from ha) (Nat.pow_le_pow_right (by omega) (by omega)))
    simp [this]
theorem mns_le (a b : Nat) : mns a b ≤ a := Nat.and_le_left
theorem zI_mns {a b : Nat} (ha : a < 4096) : zI (a : Int) &&& (zI (b : Int) ^^^ zI (-1)) = zI ((mns a b : Nat) : Int) := by
  rw [zI_nat, zI_nat, zI_nat]
  apply Int32.toBitVec_inj.1
  show BitVec.ofNat 32 a &&& (BitVec.ofNat 32 b ^^^ BitVec.allOnes 32) = BitVec.ofNat 32 (mns a b)
  apply BitVec.eq_of_getLsbD_eq
  intro i hi
  simp only [BitVec.getLsbD_and, BitVec.getLsbD_xor, BitVec.getLsbD_ofNat, BitVec.getLsbD_allOnes, mns_bit ha, hi, decide_true, Bool.true_and, Bool.bne_true]
theorem sub_of {h w i : Nat} (hh : h < 4096) (e : mns h w = 0) (hb : h.testBit i = true) : w.testBit i = true := by
  have := mns_bit (b := w) (i := i) hh
  rw [e, hb] at this
  simpa using this.symm
theorem sub_le {h w : Nat} (hh : h < 4096) (e : mns h w = 0) : h ≤ w := by
  have : h &&& w = h := by
    apply Nat.eq_of_testBit_eq
    intro i
    rw [Nat.testBit_and]
    by_cases b : h.testBit i = true
    · rw [b, sub_of hh e b]; rfl
    · simp [b]
  rw [← this]
  exact Nat.and_le_right
theorem mns_0 {h w : Nat} (hh : h < 4096) (e : ∀ i, h.testBit i = true → w.testBit i = true) : mns h w = 0 := by
  apply Nat.eq_of_testBit_eq
  intro i
  rw [mns_bit hh]
  by_cases b : h.testBit i = true
  · simp [b, e i b]
  · simp [b]
theorem bit6 {w m : Nat} (hw : w < 64) (h : w.testBit m = true) : m < 6 := by
  refine Nat.lt_of_not_le (fun q => ?_)
  have : w.testBit m = false := Nat.testBit_lt_two_pow (Nat.lt_of_lt_of_le (show w < 2 ^ 6 from hw) (Nat.pow_le_pow_right (by omega) q))
  rw [this] at h
  simp at h
theorem smf_add (f g : Nat → Int) : ∀ n, smf (fun i => f i + g i) n = smf f n + smf g n
  | 0 => rfl
  | n + 1 => by
    rw [smf, smf, smf, smf_add f g n]
    omega
theorem smf_mul (c : Int) (f : Nat → Int) : ∀ n, smf (fun i => c * f i) n = c * smf f n
  | 0 => by simp [smf]
  | n + 1 => by rw [smf, smf, smf_mul c f n, Int.mul_add]
def figI (i : Nat) : Int := match i with
  | 0 => 7776
  | 1 => 1296
  | 2 => 216
  | 3 => 36
  | 4 => 6
  | _ => 1
def seatS (set : Nat) : Int := smf (fun i => if set.testBit i = true then figI i else 0) 6
theorem figI_b (i : Nat) : 1 ≤ figI i ∧ figI i ≤ 7776 := by
  unfold figI
  split <;> omega
theorem seatS_b (set : Nat) : 0 ≤ seatS set ∧ seatS set ≤ 9331 := by
  unfold seatS
  have h : ∀ i x : Nat, 0 ≤ (if set.testBit i = true then (x : Int) else 0) ∧ (if set.testBit i = true then (x : Int) else 0) ≤ x := fun i x => by split <;> omega
  have a0 := h 0 7776
  have a1 := h 1 1296
  have a2 := h 2 216
  have a3 := h 3 36
  have a4 := h 4 6
  have a5 := h 5 1
  simp only [smf, figI]
  omega
section SES
variable {σ : SG}
/-- what a set makes that sits at the pipe p -/
def prS (σ : SG) (p set : Nat) : Int := sag σ p set (lt σ) * 46656 + p * seatS set
def bwN (g : Nat → Int) (who : Nat) : Nat → Int
  | 0 => 2147483647
  | n + 1 => if mns n who = 0 then min (bwN g who n) (g n) else bwN g who n
theorem bwN_le (g : Nat → Int) (who : Nat) : ∀ n h, h < n → mns h who = 0 → bwN g who n ≤ g h
  | 0, _, q, _ => absurd q (by omega)
  | n + 1, h, q, e => by
    rw [bwN]
    by_cases z : h = n
    · subst z
      rw [if_pos e]; omega
    · have := bwN_le g who n h (by omega) e
      split <;> omega
theorem bwN_at (g : Nat → Int) (who : Nat) : ∀ n, bwN g who n = 2147483647 ∨ ∃ h, h < n ∧ mns h who = 0 ∧ bwN g who n = g h
  | 0 => Or.inl rfl
  | n + 1 => by
    rw [bwN]
    have ih := bwN_at g who n
    by_cases e : mns n who = 0
    · rw [if_pos e]
      by_cases q : bwN g who n ≤ g n
      · rw [Int.min_eq_left q]
        rcases ih with z | ⟨h, h1, h2, h3⟩
        · exact Or.inl z
        · exact Or.inr ⟨h, by omega, h2, h3⟩
      · rw [Int.min_eq_right (by omega)]
        exact Or.inr ⟨n, by omega, e, rfl⟩
    · rw [if_neg e]
      rcases ih with z | ⟨h, h1, h2, h3⟩
      · exact Or.inl z
      · exact Or.inr ⟨h, by omega, h2, h3⟩
theorem bwN_nn {g : Nat → Int} {who : Nat} (h : ∀ x, x ≤ who → 0 ≤ g x) : ∀ n, n ≤ who + 1 → 0 ≤ bwN g who n ∧ bwN g who n ≤ 2147483647
  | 0, _ => by simp [bwN]
  | n + 1, hn => by
    have h1 := bwN_nn h n (by omega)
    have h2 := h n (by omega)
    rw [bwN]
    split <;> omega
/-- the best of a set at the pipes up to q -/
def bq (σ : SG) : Nat → Nat → Int
  | 0, who => prS σ 0 who
  | q + 1, who => bwN (fun here => prS σ (q + 1) here + bq σ q (mns who here)) who (who + 1)
theorem msA_b2 {c : Int} (hc : 0 ≤ c) {dn w : Nat → Int} {j : Nat} (hd : 0 ≤ dn j ∧ dn j ≤ 9) (hw : 0 ≤ w j) : 0 ≤ msA c dn w j ∧ msA c dn w j ≤ 9 := by
  have := stA_b hc dn w j
  unfold msA lfA
  omega
theorem smA_b2 {c : Int} (hc : 0 ≤ c) {dn w : Nat → Int} (h : ∀ j, (0 ≤ dn j ∧ dn j ≤ 9) ∧ 0 ≤ w j) : ∀ n, 0 ≤ smA c dn w n ∧ smA c dn w n ≤ 9 * n
  | 0 => by simp [smA]
  | n + 1 => by
    have h1 := smA_b2 hc h n
    have h2 := msA_b2 hc (h n).1 (h n).2
    rw [smA]
    omega
theorem sag_b2 (ok : Ok σ) {p : Nat} (hp : p < nP σ) (set k : Nat) : 0 ≤ sag σ p set k ∧ sag σ p set k ≤ 216 := by
  have hn := ok.nums
  have := smA_b2 (c := rm σ) (by omega) (dn := dnS σ p) (w := wnd σ set k) (fun j => ⟨dnS_b ok hp j, (wnd_b ok set k j).1⟩) (nB σ)
  unfold sag
  omega
theorem prS_b (ok : Ok σ) {p : Nat} (hp : p < nP σ) (set : Nat) : 0 ≤ prS σ p set ∧ prS σ p set ≤ 10200000 := by
  have hn := ok.nums
  have h1 := sag_b2 ok hp set (lt σ)
  have h2 := seatS_b set
  have h3 : 0 ≤ (p : Int) * seatS set ∧ (p : Int) * seatS set ≤ 5 * 9331 := ⟨Int.mul_nonneg (by omega) h2.1, Int.mul_le_mul (by omega) h2.2 h2.1 (by omega)⟩
  unfold prS
  omega
theorem bq_b (ok : Ok σ) : ∀ q who, q < nP σ → 0 ≤ bq σ q who ∧ bq σ q who ≤ 10200000 * ((q : Int) + 1)
  | 0, who, h => by
    have := prS_b ok h who
    rw [bq]
    omega
  | q + 1, who, h => by
    have hn := ok.nums
    have h1 := bwN_nn (g := fun here => prS σ (q + 1) here + bq σ q (mns who here)) (who := who) (fun x _ => by have a := prS_b ok h x; have b := bq_b ok q (mns who x) (by omega); show 0 ≤ prS σ (q + 1) x + bq σ q (mns who x); omega) (who + 1) (Nat.le_refl _)
    have h2 := bwN_le (fun here => prS σ (q + 1) here + bq σ q (mns who here)) who (who + 1) 0 (by omega) (mns_0 (by omega) (fun i q => by simp at q))
    have a := prS_b ok h 0
    have b := bq_b ok q (mns who 0) (by omega)
    have h3 : bwN (fun here => prS σ (q + 1) here + bq σ q (mns who here)) who (who + 1) ≤ prS σ (q + 1) 0 + bq σ q (mns who 0) := h2
    rw [bq]
    omega
/-- who of a set sits at p -/
def sbS (who : Nat) (f : Nat → Nat) (p : Nat) : Nat := bs (fun m => who.testBit m && decide (f m = p)) 6
theorem sbS_bit {who : Nat} (hw : who < 64) (f : Nat → Nat) (p m : Nat) : (sbS who f p).testBit m = (who.testBit m && decide (f m = p)) := by
  rw [sbS, bs_bit]
  by_cases h : who.testBit m = true
  · simp [bit6 hw h]
  · simp [h]
theorem sbS_lt (who : Nat) (f : Nat → Nat) (p : Nat) : sbS who f p < 64 := bs_lt _ 6
def CS (σ : SG) (q who : Nat) (f : Nat → Nat) : Int := smf (fun p => prS σ p (sbS who f p)) (q + 1)
theorem bq_le (σ : SG) (f : Nat → Nat) : ∀ q who, who < 64 → (∀ m, who.testBit m = true → f m ≤ q) → bq σ q who ≤ CS σ q who f
  | 0, who, hw, hf => by
    have e : sbS who f 0 = who := by
      apply Nat.eq_of_testBit_eq
      intro i
      rw [sbS_bit hw]
      by_cases b : who.testBit i = true
      · have := hf i b
        simp [b, show f i = 0 by omega]
      · simp [b]
    rw [CS, smf, smf, e, bq]
    omega
  | q + 1, who, hw, hf => by
    have h1 : mns (sbS who f (q + 1)) who = 0 := mns_0 (by have := sbS_lt who f (q + 1); omega) (fun i b => by rw [sbS_bit hw] at b; simp at b; exact b.1)
    have h2 := sub_le (by have := sbS_lt who f (q + 1); omega) h1
    have hr := mns_le who (sbS who f (q + 1))
    have h3 : bq σ (q + 1) who ≤ prS σ (q + 1) (sbS who f (q + 1)) + bq σ q (mns who (sbS who f (q + 1))) := by
      rw [bq]
      exact bwN_le (fun here => prS σ (q + 1) here + bq σ q (mns who here)) who (who + 1) _ (by omega) h1
    have h4 := bq_le σ f q (mns who (sbS who f (q + 1))) (by omega) (fun m b => by
      rw [mns_bit (by omega), sbS_bit hw] at b
      by_cases c : who.testBit m = true
      · have := hf m c
        simp [c] at b
        omega
      · simp [c] at b)
    have h5 : CS σ q (mns who (sbS who f (q + 1))) f = smf (fun p => prS σ p (sbS who f p)) (q + 1) := by
      refine smf_cong _ (fun p hp => ?_)
      have : sbS (mns who (sbS who f (q + 1))) f p = sbS who f p := by
        apply Nat.eq_of_testBit_eq
        intro i
        rw [sbS_bit (by omega), sbS_bit hw, mns_bit (by omega), sbS_bit hw]
        by_cases c : who.testBit i = true <;> by_cases d : f i = p
        · have : ¬ p = q + 1 := by omega
          simp [c, d, this]
        · simp [c, d]
        · simp [c]
        · simp [c]
      show prS σ p (sbS (mns who (sbS who f (q + 1))) f p) = prS σ p (sbS who f p)
      rw [this]
    have h6 : CS σ (q + 1) who f = smf (fun p => prS σ p (sbS who f p)) (q + 1) + prS σ (q + 1) (sbS who f (q + 1)) := rfl
    omega
theorem bq_at (ok : Ok σ) : ∀ q who, q < nP σ → who < 64 → ∃ f : Nat → Nat, (∀ m, f m ≤ q) ∧ bq σ q who = CS σ q who f
  | 0, who, _, hw => by
    refine ⟨fun _ => 0, fun _ => Nat.le_refl _, ?_⟩
    have e : sbS who (fun _ => 0) 0 = who := by
      apply Nat.eq_of_testBit_eq
      intro i
      rw [sbS_bit hw]
      simp
    rw [CS, smf, smf, e, bq]
    omega
  | q + 1, who, hq, hw => by
    have hn := ok.nums
    have hb := bq_b ok (q + 1) who hq
    rcases bwN_at (fun here => prS σ (q + 1) here + bq σ q (mns who here)) who (who + 1) with z | ⟨h, h1, h2, h3⟩
    · exfalso
      rw [bq, z] at hb
      omega
    · have hr := mns_le who h
      obtain ⟨f', g1, g2⟩ := bq_at ok q (mns who h) (by omega) (by omega)
      refine ⟨fun m => if h.testBit m = true then q + 1 else f' m, fun m => ?_, ?_⟩
      · show (if h.testBit m = true then q + 1 else f' m) ≤ q + 1
        have := g1 m
        split <;> omega
      · have h4 : bq σ (q + 1) who = prS σ (q + 1) h + bq σ q (mns who h) := by rw [bq]; exact h3
        have e1 : sbS who (fun m => if h.testBit m = true then q + 1 else f' m) (q + 1) = h := by
          apply Nat.eq_of_testBit_eq
          intro i
          rw [sbS_bit hw]
          by_cases b : h.testBit i = true
          · simp [b, sub_of (by omega) h2 b]
          · have := g1 i
            simp [b, show ¬ f' i = q + 1 by omega]
        have e2 : ∀ p, p < q + 1 → sbS who (fun m => if h.testBit m = true then q + 1 else f' m) p = sbS (mns who h) f' p := fun p hp => by
          apply Nat.eq_of_testBit_eq
          intro i
          rw [sbS_bit hw, sbS_bit (by omega), mns_bit (by omega)]
          by_cases b : h.testBit i = true
          · simp [b, show ¬ q + 1 = p by omega]
          · simp [b]
        have e3 : smf (fun p => prS σ p (sbS who (fun m => if h.testBit m = true then q + 1 else f' m) p)) (q + 1) = CS σ q (mns who h) f' := smf_cong _ (fun p hp => by
          show prS σ p (sbS who (fun m => if h.testBit m = true then q + 1 else f' m) p) = prS σ p (sbS (mns who h) f' p)
          rw [e2 p hp])
        have h6 : CS σ (q + 1) who (fun m => if h.testBit m = true then q + 1 else f' m) = smf (fun p => prS σ p (sbS who (fun m => if h.testBit m = true then q + 1 else f' m) p)) (q + 1) + prS σ (q + 1) (sbS who (fun m => if h.testBit m = true then q + 1 else f' m) (q + 1)) := rfl
        rw [h6, e3, e1, h4, g2]
        omega
/-- the figures of all pipes together are the figures of all seats -/
theorem seat_sum {who : Nat} (hw : who < 64) (f : Nat → Nat) : ∀ q : Nat, smf (fun p => (p : Int) * seatS (sbS who f p)) q = smf (fun i => if who.testBit i = true ∧ f i < q then (f i : Int) * figI i else 0) 6
  | 0 => by
    have : smf (fun i => if who.testBit i = true ∧ f i < 0 then (f i : Int) * figI i else 0) 6 = smf (fun _ => 0) 6 := smf_cong _ (fun i _ => if_neg (fun q => by have := q.2; omega))
    rw [this]
    rfl
  | q + 1 => by
    rw [smf, seat_sum hw f q, seatS, ← smf_mul, ← smf_add]
    refine smf_cong _ (fun i _ => ?_)
    show (if who.testBit i = true ∧ f i < q then (f i : Int) * figI i else 0) + (q : Int) * (if (sbS who f q).testBit i = true then figI i else 0) = if who.testBit i = true ∧ f i < q + 1 then (f i : Int) * figI i else 0
    rw [sbS_bit hw]
    by_cases b : who.testBit i = true
    · rcases Nat.lt_trichotomy (f i) q with z | z | z
      · have c1 : ¬ (who.testBit i && decide (f i = q)) = true := by simp [b]; omega
        rw [if_pos ⟨b, z⟩, if_neg c1, if_pos ⟨b, by omega⟩]
        simp
      · have c1 : (who.testBit i && decide (f i = q)) = true := by simp [b, z]
        rw [if_neg (fun y => by have := y.2; omega), if_pos c1, if_pos ⟨b, by omega⟩, z]
        simp
      · have c1 : ¬ (who.testBit i && decide (f i = q)) = true := by simp [b]; omega
        rw [if_neg (fun y => by have := y.2; omega), if_neg c1, if_neg (fun y => by have := y.2; omega)]
        simp
    · have c1 : ¬ (who.testBit i && decide (f i = q)) = true := by simp [b]
      rw [if_neg (fun y => b y.1), if_neg c1, if_neg (fun y => b y.1)]
      simp
/-- the seat of m by the way v -/
def sd (σ : SG) (v m : Nat) : Nat := v / nP σ ^ (nM σ - (m + 1)) % nP σ
/-- who sits at p by the way v -/
def sv (σ : SG) (v p : Nat) : Nat := bs (fun m => decide (sd σ v m = p)) (nM σ)
def TT (σ : SG) (v : Nat) : Int := smf (fun p => sag σ p (sv σ v p) (lt σ)) (nP σ)
def ws (σ : SG) : Nat := nP σ ^ nM σ
def bt (σ : SG) : Int × Nat := fm (TT σ) (ws σ)
def pre6 (σ : SG) (v : Nat) : Nat → Nat
  | 0 => 0
  | m + 1 => 6 * pre6 σ v m + (if m < nM σ then sd σ v m else 0)
theorem sd_lt (ok : Ok σ) (v m : Nat) : sd σ v m < nP σ := Nat.mod_lt _ (by have := ok.nums; omega)
theorem pre6_mono (ok : Ok σ) {v v' : Nat} (h0 : v < ws σ) (h0' : v' < ws σ) (hle : v ≤ v') : ∀ m, (v / nP σ ^ (nM σ - m) < v' / nP σ ^ (nM σ - m) → pre6 σ v m < pre6 σ v' m) ∧ (v / nP σ ^ (nM σ - m) = v' / nP σ ^ (nM σ - m) → pre6 σ v m = pre6 σ v' m)
  | 0 => by
    have hn := ok.nums
    refine ⟨fun h => absurd h ?_, fun _ => rfl⟩
    unfold ws at h0 h0'
    rw [Nat.sub_zero, Nat.div_eq_of_lt h0, Nat.div_eq_of_lt h0']
    omega
  | m + 1 => by
    have hn := ok.nums
    obtain ⟨i1, i2⟩ := pre6_mono ok h0 h0' hle m
    rw [pre6, pre6]
    by_cases hm : m < nM σ
    · rw [if_pos hm, if_pos hm]
      have d1 := sd_lt ok v m
      have d2 := sd_lt ok v' m
      have e : ∀ v, v / nP σ ^ (nM σ - m) = v / nP σ ^ (nM σ - (m + 1)) / nP σ := fun v => by
        rw [Nat.div_div_eq_div_mul, ← Nat.pow_succ, show (nM σ - (m + 1)).succ = nM σ - m by omega]
      rw [e, e] at i1 i2
      unfold sd at d1 d2 ⊢
      have hA := Nat.div_le_div_right (c := nP σ ^ (nM σ - (m + 1))) hle
      obtain ⟨a, ha⟩ : ∃ a, v / nP σ ^ (nM σ - (m + 1)) = a := ⟨_, rfl⟩
      obtain ⟨a', ha'⟩ : ∃ a, v' / nP σ ^ (nM σ - (m + 1)) = a := ⟨_, rfl⟩
      rw [ha, ha'] at i1 i2 hA ⊢
      rw [ha] at d1
      rw [ha'] at d2
      have hB := Nat.div_le_div_right (c := nP σ) hA
      have x1 := Nat.div_add_mod a (nP σ)
      have x2 := Nat.div_add_mod a' (nP σ)
      refine ⟨fun h => ?_, fun h => ?_⟩
      · by_cases q : a / nP σ = a' / nP σ
        · have := i2 q
          rw [q] at x1
          omega
        · have := i1 (by omega)
          omega
      · rw [h] at i2 ⊢
        have := i2 rfl
        omega
    · rw [if_neg hm, if_neg hm]
      have e : nM σ - (m + 1) = nM σ - m := by omega
      rw [e]
      refine ⟨fun h => ?_, fun h => ?_⟩
      · have := i1 h
        omega
      · have := i2 h
        omega
theorem fm_spec {V : Nat → Int} (h : ∀ v, V v < 2147483647) : ∀ n, 0 < n → (fm V n).2 < n ∧ V (fm V n).2 = (fm V n).1 ∧ ∀ v, v < (fm V n).2 → (fm V n).1 < V v
  | 0, h0 => absurd h0 (by omega)
  | n + 1, _ => by
    rw [fm]
    by_cases q : V n < (fm V n).1
    · rw [if_pos q]
      exact ⟨Nat.lt_succ_self n, rfl, fun v hv => by have := fm_le V n v hv; show V n < V v; omega⟩
    · rw [if_neg q]
      by_cases z : n = 0
      · subst z
        have := h 0
        rw [fm] at q
        exact absurd this q
      · obtain ⟨a, b, c⟩ := fm_spec h n (by omega)
        exact ⟨by omega, b, c⟩
end SES
