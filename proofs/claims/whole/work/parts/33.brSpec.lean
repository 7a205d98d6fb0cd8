/-! BRIBES: the numbers -/
theorem smG_anti (c : Int) (dn : Nat → Int) {w w' : Nat → Int} (h : ∀ j, w' j ≤ w j) : ∀ k j (s s' : Int), s' ≤ s → smG c dn w k j s ≤ smG c dn w' k j s'
  | 0, _, _, _, _ => by simp [smG]
  | k + 1, j, s, s', hs => by
    have h1 := h j
    rw [smG, smG]
    have ih := smG_anti c dn h k (j + 1) (max 0 (min (s + w j - dn j) c)) (max 0 (min (s' + w' j - dn j) c)) (by omega)
    omega
theorem smA_anti (c : Int) (dn : Nat → Int) {w w' : Nat → Int} (h : ∀ j, w' j ≤ w j) (n : Nat) : smA c dn w n ≤ smA c dn w' n := by
  have e : ∀ w', smG c dn w' n 0 0 = smA c dn w' n := fun w' => by
    have q := smG_smA c dn w' n 0
    rw [Nat.zero_add, smA, stA] at q
    omega
  have := smG_anti c dn h n 0 0 0 (Int.le_refl _)
  rw [e, e] at this
  exact this
theorem smf_le {f g : Nat → Int} : ∀ n, (∀ i, i < n → f i ≤ g i) → smf f n ≤ smf g n
  | 0, _ => Int.le_refl _
  | n + 1, h => by
    have h1 := smf_le n (fun i hi => h i (by omega))
    have h2 := h n (by omega)
    rw [smf, smf]
    omega
/-- the weight of a set: first how many, then its number -/
def wI (S : Nat) : Int := smf (fun m => if S.testBit m = true then 4096 + ((2 ^ m : Nat) : Int) else 0) 12
theorem wI_n (S : Nat) : ∀ n, smf (fun m => if S.testBit m = true then 4096 + ((2 ^ m : Nat) : Int) else 0) n = (cnt S n : Int) * 4096 + ((S % 2 ^ n : Nat) : Int)
  | 0 => by simp [smf, cnt, Nat.mod_one]
  | n + 1 => by
    have h := Nat.mod_pow_succ (x := S) (b := 2) (k := n)
    have t := Nat.testBit_eq_decide_div_mod_eq (x := S) (i := n)
    rw [smf, wI_n S n, cnt, h]
    by_cases b : S.testBit n = true
    · rw [b] at t
      have t2 : S / 2 ^ n % 2 = 1 := by simpa using t.symm
      rw [if_pos b, if_pos b, t2, Nat.mul_one]
      omega
    · have b' : S.testBit n = false := by simpa using b
      rw [b'] at t
      have t2 : ¬ S / 2 ^ n % 2 = 1 := by simpa using t.symm
      rw [if_neg b, if_neg b, show S / 2 ^ n % 2 = 0 by omega, Nat.mul_zero]
      omega
theorem wI_eq {S : Nat} (h : S < 4096) : wI S = (cnt S 12 : Int) * 4096 + S := by
  rw [wI, wI_n, Nat.mod_eq_of_lt (show S < 2 ^ 12 from h)]
section BRS
variable {σ : SG} {p : Nat}
/-- who may be bribed at p -/
def es (σ : SG) (p : Nat) : Nat := bs (fun m => decide (pl σ m = p) && decide (br σ m = 0)) (nM σ)
theorem es_bit (σ : SG) (p m : Nat) : (es σ p).testBit m = true ↔ m < nM σ ∧ pl σ m = p ∧ br σ m = 0 := by
  rw [es, bs_bit]
  simp
theorem es_lt (ok : Ok σ) (p : Nat) : es σ p < 4096 := Nat.lt_of_lt_of_le (bs_lt _ _) (Nat.pow_le_pow_right (n := 2) (by omega) ok.nums.2.2.1)
def dm (σ : SG) (m j : Nat) : Int := if (j + lt σ + ph σ m) % (lu σ m + 1) = lu σ m then (fo σ m : Int) else 0
theorem dm_nn (σ : SG) (m j : Nat) : 0 ≤ dm σ m j := by
  unfold dm
  split <;> omega
def dW (σ : SG) (p k a j m : Nat) : Int := if k ≤ m ∧ (es σ p).testBit m = true ∧ a.testBit m = false then dm σ m j else 0
/-- the wind at p as those from k on are settled, and a are bribed -/
def WB (σ : SG) (p k a j : Nat) : Int := (forS σ (sit σ p) : Int) - smf (dW σ p k a j) (nM σ)
theorem dW_b (ok : Ok σ) {k a j m : Nat} (hm : m < nM σ) : 0 ≤ dW σ p k a j m ∧ dW σ p k a j m ≤ 3 := by
  have := ok.m hm
  unfold dW dm
  repeat' split
  all_goals omega
theorem WB_b (ok : Ok σ) (p k a j : Nat) : -2000 ≤ WB σ p k a j ∧ WB σ p k a j ≤ 2000 := by
  have hn := ok.nums
  have h : ∀ n, n ≤ nM σ → 0 ≤ smf (dW σ p k a j) n ∧ smf (dW σ p k a j) n ≤ 3 * n := by
    intro n
    induction n with
    | zero => intro _; simp [smf]
    | succ n ih =>
      intro hn
      have h1 := ih (by omega)
      have h2 := dW_b (p := p) (k := k) (a := a) (j := j) ok (show n < nM σ by omega)
      rw [smf]
      omega
  have h1 := h (nM σ) (Nat.le_refl _)
  have h2 := forS_b ok (sit σ p)
  unfold WB
  omega
def Fp (σ : SG) (p a : Nat) : Int := FF σ p (WB σ p 0 a)
theorem Fp_b (ok : Ok σ) (hpp : p < nP σ) (a : Nat) : 0 ≤ Fp σ p a ∧ Fp σ p a ≤ 48216 := FF_b ok hpp (fun j => WB_b ok p 0 a j)
/-- the organ with a set bribed -/
def bet (σ : SG) (a : Nat) : SG := fun f m => if f = 7 ∧ a.testBit m = true then 1 else σ f m
theorem bet_br (a m : Nat) : br (bet σ a) m = if a.testBit m = true then 1 else br σ m := by
  unfold br bet
  by_cases h : a.testBit m = true
  · rw [if_pos ⟨rfl, h⟩, if_pos h]
  · rw [if_neg (fun q => h q.2), if_neg h]
theorem bet_kf (s f m a : Nat) : kf (bet σ a) s f m = kf σ s f m := by
  unfold kf bet
  rw [if_neg (fun q => by have := q.1; omega)]
theorem Ok_bet (ok : Ok σ) (a : Nat) : Ok (bet σ a) := by
  refine ⟨ok.1, ok.2.1, ok.2.2.1, fun m hm => ?_, ok.2.2.2.2.1, fun s hs => ⟨(ok.2.2.2.2.2 s hs).1, fun hk => ⟨((ok.2.2.2.2.2 s hs).2 hk).1, ((ok.2.2.2.2.2 s hs).2 hk).2.1, fun m hm => by rw [bet_kf, bet_kf, bet_kf, bet_kf, bet_kf]; exact ((ok.2.2.2.2.2 s hs).2 hk).2.2 m hm⟩⟩⟩
  have h := ok.m (show m < nM σ from hm)
  refine ⟨h.1, h.2.1, h.2.2.1, h.2.2.2.1, h.2.2.2.2.1, h.2.2.2.2.2.1, ?_⟩
  rw [bet_br]
  split
  · omega
  · exact h.2.2.2.2.2.2
theorem gv_bet (ok : Ok σ) {a m : Nat} (hm : m < nM σ) (j : Nat) : (gv (bet σ a) m (j + lt σ) : Int) = (fo σ m : Int) - (if br σ m = 0 ∧ a.testBit m = false then dm σ m j else 0) := by
  have e1 : gv (bet σ a) m (j + lt σ) = if (j + lt σ + ph σ m) % (lu σ m + 1) = lu σ m ∧ br (bet σ a) m = 0 then 0 else fo σ m := rfl
  rw [e1, bet_br]
  unfold dm
  by_cases b : a.testBit m = true
  · simp [b]
  · have b' : a.testBit m = false := by simpa using b
    rw [if_neg b]
    by_cases c : br σ m = 0 <;> by_cases d : (j + lt σ + ph σ m) % (lu σ m + 1) = lu σ m <;> simp [b', c, d]
theorem air_bet (ok : Ok σ) (p a j : Nat) : ∀ N, N ≤ nM σ → (airN (bet σ a) (sit σ p) (lt σ) j N : Int) = (forN σ (sit σ p) N : Int) - smf (dW σ p 0 (a &&& es σ p) j) N
  | 0, _ => rfl
  | N + 1, h => by
    have ih := air_bet ok p a j N (by omega)
    rw [airN, forN, smf]
    have e : dW σ p 0 (a &&& es σ p) j N = if (sit σ p).testBit N = true then (if br σ N = 0 ∧ a.testBit N = false then dm σ N j else 0) else 0 := by
      unfold dW
      by_cases s : (sit σ p).testBit N = true
      · rw [if_pos s]
        have s2 := (sit_bit σ p N).mp s
        by_cases c : br σ N = 0
        · have e3 : (es σ p).testBit N = true := (es_bit σ p N).mpr ⟨s2.1, s2.2, c⟩
          by_cases b : a.testBit N = true
          · simp [e3, b]
          · simp [e3, b, c]
        · have e3 : ¬ (es σ p).testBit N = true := fun q => c ((es_bit σ p N).mp q).2.2
          rw [if_neg (fun q => e3 q.2.1), if_neg (fun q => c q.1)]
      · rw [if_neg s]
        have e3 : ¬ (es σ p).testBit N = true := fun q => s ((sit_bit σ p N).mpr ⟨((es_bit σ p N).mp q).1, ((es_bit σ p N).mp q).2.1⟩)
        rw [if_neg (fun q => e3 q.2.1)]
    rw [e]
    by_cases s : (sit σ p).testBit N = true
    · have h2 := gv_bet ok (a := a) (show N < nM σ by omega) j
      rw [if_pos s, if_pos s, if_pos s]
      omega
    · rw [if_neg s, if_neg s, if_neg s]
      omega
theorem sag_bet (ok : Ok σ) (p a : Nat) : sag (bet σ a) p (sit σ p) (lt σ) = Fp σ p (a &&& es σ p) := by
  have e : sag (bet σ a) p (sit σ p) (lt σ) = smA (rm σ) (dnS σ p) (wnd (bet σ a) (sit σ p) (lt σ)) (nB σ) := rfl
  rw [e, Fp, FF]
  refine smA_cong _ (fun j _ => ?_)
  exact air_bet ok p a j (nM σ) (Nat.le_refl _)
theorem sit_bet (a p : Nat) : sit (bet σ a) p = sit σ p := by
  have h : ∀ n, sitN (bet σ a) p n = sitN σ p n := by
    intro n
    induction n with
    | zero => rfl
    | succ n ih => rw [sitN, sitN, ih]; rfl
  exact h (nM σ)
theorem tot_bet (ok : Ok σ) (a : Nat) : tot (bet σ a) (lt σ) = smf (fun p => Fp σ p (a &&& es σ p)) (nP σ) := by
  have h : ∀ n, totN (bet σ a) (lt σ) n = smf (fun p => Fp σ p (a &&& es σ p)) n := by
    intro n
    induction n with
    | zero => rfl
    | succ n ih => rw [totN, smf, ih, sit_bet, sag_bet ok]
  exact h (nP σ)
/-- the best at p of the sets below a number -/
def bb (σ : SG) (p : Nat) : Nat → Nat × Int
  | 0 => (13, -9)
  | a + 1 => if mns a (es σ p) = 0 ∧ Fp σ p a ≤ 0 ∧ cnt a 12 < (bb σ p a).1 then (cnt a 12, (a : Int)) else bb σ p a
theorem bb_stay (σ : SG) (p s : Nat) : ∀ n, (∀ a, s ≤ a → a < s + n → ¬ (mns a (es σ p) = 0 ∧ Fp σ p a ≤ 0 ∧ cnt a 12 < (bb σ p s).1)) → bb σ p (s + n) = bb σ p s
  | 0, _ => rfl
  | n + 1, h => by
    have e := bb_stay σ p s n (fun a h1 h2 => h a h1 (by omega))
    rw [← Nat.add_assoc, bb, e, if_neg (h (s + n) (by omega) (by omega))]
theorem bb_spec (σ : SG) (p : Nat) : ∀ n, (bb σ p n = (13, -9) ∧ ∀ a, a < n → mns a (es σ p) = 0 → 0 < Fp σ p a) ∨ ∃ b : Nat, b < n ∧ bb σ p n = (cnt b 12, (b : Int)) ∧ mns b (es σ p) = 0 ∧ Fp σ p b ≤ 0 ∧ ∀ a, a < n → mns a (es σ p) = 0 → Fp σ p a ≤ 0 → cnt b 12 < cnt a 12 ∨ (cnt b 12 = cnt a 12 ∧ b ≤ a)
  | 0 => Or.inl ⟨rfl, fun a h => absurd h (by omega)⟩
  | n + 1 => by
    have hc := cnt_n n 12
    rw [bb]
    rcases bb_spec σ p n with ⟨e, h⟩ | ⟨b, b1, b2, b3, b4, b5⟩
    · rw [e]
      by_cases q : mns n (es σ p) = 0 ∧ Fp σ p n ≤ 0
      · rw [if_pos ⟨q.1, q.2, show cnt n 12 < 13 by omega⟩]
        refine Or.inr ⟨n, by omega, rfl, q.1, q.2, fun a h1 h2 h3 => ?_⟩
        by_cases z : a = n
        · rw [z]; exact Or.inr ⟨rfl, Nat.le_refl _⟩
        · have := h a (by omega) h2
          omega
      · rw [if_neg (fun z => q ⟨z.1, z.2.1⟩)]
        refine Or.inl ⟨rfl, fun a h1 h2 => ?_⟩
        by_cases z : a = n
        · subst z
          refine Int.lt_of_not_ge (fun y => q ⟨h2, y⟩)
        · exact h a (by omega) h2
    · rw [b2]
      by_cases q : mns n (es σ p) = 0 ∧ Fp σ p n ≤ 0 ∧ cnt n 12 < cnt b 12
      · rw [if_pos q]
        refine Or.inr ⟨n, by omega, rfl, q.1, q.2.1, fun a h1 h2 h3 => ?_⟩
        by_cases z : a = n
        · rw [z]; exact Or.inr ⟨rfl, Nat.le_refl _⟩
        · have := b5 a (by omega) h2 h3
          have := q.2.2
          omega
      · rw [if_neg q]
        refine Or.inr ⟨b, by omega, rfl, b3, b4, fun a h1 h2 h3 => ?_⟩
        by_cases z : a = n
        · subst z
          by_cases y : cnt a 12 < cnt b 12
          · exact absurd ⟨h2, h3, y⟩ q
          · omega
        · exact b5 a (by omega) h2 h3
/-- those that are bribed -/
def bset (σ : SG) : Nat → Nat
  | 0 => 0
  | n + 1 => bset σ n ||| br σ n * 2 ^ n
theorem bset_bit (ok : Ok σ) (m : Nat) : ∀ n, n ≤ nM σ → ((bset σ n).testBit m = true ↔ m < n ∧ br σ m = 1)
  | 0, _ => by simp [bset]
  | n + 1, h => by
    have ih := bset_bit ok m n (by omega)
    have hb := (ok.m (show n < nM σ by omega)).2.2.2.2.2.2
    rw [bset, Nat.testBit_or]
    have hb2 : br σ n = 0 ∨ br σ n = 1 := by omega
    by_cases e : m = n
    · subst e
      rcases hb2 with z | z
      · rw [z, Nat.zero_mul, Nat.zero_testBit, Bool.or_false, ih]
        omega
      · rw [z, Nat.one_mul, Nat.testBit_two_pow_self, Bool.or_true]
        simp
    · have : (br σ n * 2 ^ n).testBit m = false := by
        rcases hb2 with z | z
        · rw [z, Nat.zero_mul, Nat.zero_testBit]
        · rw [z, Nat.one_mul]; exact Nat.testBit_two_pow_of_ne (fun q => e q.symm)
      rw [this, Bool.or_false, ih]
      omega
theorem bset_lt (ok : Ok σ) : ∀ n, n ≤ nM σ → bset σ n < 2 ^ n
  | 0, _ => by simp [bset]
  | n + 1, h => by
    have ih := bset_lt ok n (by omega)
    have hb := (ok.m (show n < nM σ by omega)).2.2.2.2.2.2
    have h2 := Nat.two_pow_pos n
    refine Nat.or_lt_two_pow (by rw [Nat.pow_succ]; omega) ?_
    rw [Nat.pow_succ, Nat.mul_comm]
    exact Nat.mul_lt_mul_of_pos_left (by omega) h2
def rb (σ : SG) : Nat → Int
  | 0 => -9
  | a + 1 => if a &&& bset σ (nM σ) = 0 ∧ (rb σ a = -9 ∨ cnt a 12 < cnt (rb σ a).toNat 12) ∧ tot (bet σ a) (lt σ) = 0 then (a : Int) else rb σ a
def mayB (σ : SG) (a : Nat) : Prop := a &&& bset σ (nM σ) = 0 ∧ tot (bet σ a) (lt σ) = 0
theorem rb_spec (σ : SG) : ∀ n, (rb σ n = -9 ∧ ∀ a, a < n → ¬ mayB σ a) ∨ ∃ b : Nat, b < n ∧ rb σ n = (b : Int) ∧ mayB σ b ∧ ∀ a, a < n → mayB σ a → cnt b 12 < cnt a 12 ∨ (cnt b 12 = cnt a 12 ∧ b ≤ a)
  | 0 => Or.inl ⟨rfl, fun a h => absurd h (by omega)⟩
  | n + 1 => by
    rw [rb]
    rcases rb_spec σ n with ⟨e, h⟩ | ⟨b, b1, b2, b3, b5⟩
    · rw [e]
      by_cases q : mayB σ n
      · rw [if_pos ⟨q.1, Or.inl rfl, q.2⟩]
        refine Or.inr ⟨n, by omega, rfl, q, fun a h1 h2 => ?_⟩
        by_cases z : a = n
        · rw [z]; exact Or.inr ⟨rfl, Nat.le_refl _⟩
        · exact absurd h2 (h a (by omega))
      · rw [if_neg (fun z => q ⟨z.1, z.2.2⟩)]
        refine Or.inl ⟨rfl, fun a h1 => ?_⟩
        by_cases z : a = n
        · rw [z]; exact q
        · exact h a (by omega)
    · rw [b2, Int.toNat_natCast]
      by_cases q : n &&& bset σ (nM σ) = 0 ∧ (((b : Nat) : Int) = -9 ∨ cnt n 12 < cnt b 12) ∧ tot (bet σ n) (lt σ) = 0
      · rw [if_pos q]
        have q2 : cnt n 12 < cnt b 12 := by
          rcases q.2.1 with z | z
          · omega
          · exact z
        refine Or.inr ⟨n, by omega, rfl, ⟨q.1, q.2.2⟩, fun a h1 h2 => ?_⟩
        by_cases z : a = n
        · rw [z]; exact Or.inr ⟨rfl, Nat.le_refl _⟩
        · have := b5 a (by omega) h2
          omega
      · rw [if_neg q]
        refine Or.inr ⟨b, by omega, rfl, b3, fun a h1 h2 => ?_⟩
        by_cases z : a = n
        · subst z
          by_cases y : cnt a 12 < cnt b 12
          · exact absurd ⟨h2.1, Or.inr y, h2.2⟩ q
          · omega
        · exact b5 a (by omega) h2
/-- a set of those that may be bribed -/
theorem may_bits (ok : Ok σ) {a m : Nat} (ha : a < 2 ^ nM σ) (h : a &&& bset σ (nM σ) = 0) (b : a.testBit m = true) : m < nM σ ∧ br σ m = 0 := by
  have hm : m < nM σ := by
    refine Nat.lt_of_not_le (fun q => ?_)
    have : a.testBit m = false := Nat.testBit_lt_two_pow (Nat.lt_of_lt_of_le ha (Nat.pow_le_pow_right (by omega) q))
    rw [this] at b
    simp at b
  refine ⟨hm, ?_⟩
  have hb := (ok.m hm).2.2.2.2.2.2
  by_cases z : br σ m = 1
  · have : (a &&& bset σ (nM σ)).testBit m = true := by
      rw [Nat.testBit_and, b, (bset_bit ok m (nM σ) (Nat.le_refl _)).mpr ⟨hm, z⟩]
      rfl
    rw [h, Nat.zero_testBit] at this
    simp at this
  · omega
theorem w_sum {S : Nat} (hS : ∀ m, S.testBit m = true → m < nM σ ∧ br σ m = 0) : ∀ q, smf (fun p => wI (S &&& es σ p)) q = smf (fun m => if S.testBit m = true ∧ pl σ m < q then 4096 + ((2 ^ m : Nat) : Int) else 0) 12
  | 0 => by
    have : smf (fun m => if S.testBit m = true ∧ pl σ m < 0 then 4096 + ((2 ^ m : Nat) : Int) else 0) 12 = smf (fun _ => 0) 12 := smf_cong _ (fun i _ => if_neg (fun q => by have := q.2; omega))
    rw [this]
    rfl
  | q + 1 => by
    rw [smf, w_sum hS q, wI, ← smf_add]
    refine smf_cong _ (fun m _ => ?_)
    show (if S.testBit m = true ∧ pl σ m < q then 4096 + ((2 ^ m : Nat) : Int) else 0) + (if (S &&& es σ q).testBit m = true then 4096 + ((2 ^ m : Nat) : Int) else 0) = if S.testBit m = true ∧ pl σ m < q + 1 then 4096 + ((2 ^ m : Nat) : Int) else 0
    rw [Nat.testBit_and]
    by_cases b : S.testBit m = true
    · obtain ⟨b1, b2⟩ := hS m b
      rcases Nat.lt_trichotomy (pl σ m) q with z | z | z
      · have c1 : ¬ (es σ q).testBit m = true := fun y => by have := ((es_bit σ q m).mp y).2.1; omega
        rw [if_pos ⟨b, z⟩, if_neg (by simp [c1]), if_pos ⟨b, by omega⟩]
        omega
      · have c1 : (es σ q).testBit m = true := (es_bit σ q m).mpr ⟨b1, z, b2⟩
        rw [if_neg (fun y => by have := y.2; omega), if_pos (by simp [b, c1]), if_pos ⟨b, by omega⟩]
        omega
      · have c1 : ¬ (es σ q).testBit m = true := fun y => by have := ((es_bit σ q m).mp y).2.1; omega
        rw [if_neg (fun y => by have := y.2; omega), if_neg (by simp [c1]), if_neg (fun y => by have := y.2; omega)]
        omega
    · rw [if_neg (fun y => b y.1), if_neg (by simp [b]), if_neg (fun y => b y.1)]
      omega
theorem w_all (ok : Ok σ) {S : Nat} (hS : ∀ m, S.testBit m = true → m < nM σ ∧ br σ m = 0) : smf (fun p => wI (S &&& es σ p)) (nP σ) = wI S := by
  rw [w_sum hS, wI]
  refine smf_cong _ (fun m _ => ?_)
  by_cases b : S.testBit m = true
  · have := (ok.m (hS m b).1).2.2.2.2.1
    rw [if_pos ⟨b, this⟩, if_pos b]
  · rw [if_neg (fun y => b y.1), if_neg b]
/-- what the class makes of all pipes -/
def orB (σ : SG) : Nat → Nat
  | 0 => 0
  | q + 1 => orB σ q ||| (bb σ q (2 ^ nM σ)).2.toNat
theorem orB_bit (σ : SG) (m : Nat) : ∀ q, (orB σ q).testBit m = true ↔ ∃ p, p < q ∧ ((bb σ p (2 ^ nM σ)).2.toNat).testBit m = true
  | 0 => by simp [orB]
  | q + 1 => by
    rw [orB, Nat.testBit_or, Bool.or_eq_true, orB_bit σ m q]
    constructor
    · rintro (⟨p, h1, h2⟩ | h)
      · exact ⟨p, by omega, h2⟩
      · exact ⟨q, by omega, h⟩
    · rintro ⟨p, h1, h2⟩
      by_cases z : p = q
      · subst z; exact Or.inr h2
      · exact Or.inl ⟨p, by omega, h2⟩
theorem smf_0 {f : Nat → Int} : ∀ n, (∀ i, i < n → 0 ≤ f i) → smf f n = 0 → ∀ i, i < n → f i = 0
  | 0, _, _, i, hi => absurd hi (by omega)
  | n + 1, h, e, i, hi => by
    have h0 : ∀ k, k ≤ n → 0 ≤ smf f k := by
      intro k
      induction k with
      | zero => intro _; simp [smf]
      | succ k ih =>
        intro hk
        have := ih (by omega)
        have := h k (by omega)
        rw [smf]
        omega
    have h1 := h0 n (Nat.le_refl _)
    have h2 := h n (by omega)
    rw [smf] at e
    by_cases z : i = n
    · rw [z]; omega
    · exact smf_0 n (fun i hi => h i (by omega)) (by omega) i (by omega)
theorem and_sub {a p : Nat} (ha : a < 4096) : mns (a &&& es σ p) (es σ p) = 0 := mns_0 (Nat.lt_of_le_of_lt Nat.and_le_left ha) (fun i b => by rw [Nat.testBit_and] at b; simp at b; exact b.2)
theorem rb_none (ok : Ok σ) (hpp : p < nP σ) (h : (bb σ p (2 ^ nM σ)).2 = -9) : rb σ (2 ^ nM σ) = -9 := by
  have hn := ok.nums
  have hl : 2 ^ nM σ ≤ 4096 := Nat.pow_le_pow_right (n := 2) (by omega) hn.2.2.1
  rcases bb_spec σ p (2 ^ nM σ) with ⟨_, e⟩ | ⟨b, _, e, _⟩
  · rcases rb_spec σ (2 ^ nM σ) with ⟨f, _⟩ | ⟨b, b1, _, b3, _⟩
    · exact f
    · exfalso
      have h1 := e (b &&& es σ p) (Nat.lt_of_le_of_lt Nat.and_le_left b1) (and_sub (by omega))
      have h2 := b3.2
      rw [tot_bet ok] at h2
      have h3 := smf_0 (nP σ) (fun i hi => (Fp_b ok hi _).1) h2 p hpp
      omega
  · rw [e] at h
    exact absurd h (by show ¬ ((b : Nat) : Int) = -9; omega)
theorem rb_some (ok : Ok σ) (h : ∀ p, p < nP σ → (bb σ p (2 ^ nM σ)).2 ≠ -9) : rb σ (2 ^ nM σ) = (orB σ (nP σ) : Int) := by
  have hn := ok.nums
  have hl : 2 ^ nM σ ≤ 4096 := Nat.pow_le_pow_right (n := 2) (by omega) hn.2.2.1
  have hw : ∀ p, p < nP σ → ∃ b : Nat, b < 2 ^ nM σ ∧ (bb σ p (2 ^ nM σ)).2.toNat = b ∧ mns b (es σ p) = 0 ∧ Fp σ p b ≤ 0 ∧ ∀ a, a < 2 ^ nM σ → mns a (es σ p) = 0 → Fp σ p a ≤ 0 → wI b ≤ wI a := by
    intro p hp
    rcases bb_spec σ p (2 ^ nM σ) with ⟨e, _⟩ | ⟨b, b1, b2, b3, b4, b5⟩
    · exact absurd (by rw [e]) (h p hp)
    · refine ⟨b, b1, by rw [b2]; rfl, b3, b4, fun a a1 a2 a3 => ?_⟩
      have := b5 a a1 a2 a3
      rw [wI_eq (by omega), wI_eq (by omega)]
      omega
  have hub : ∀ m, (orB σ (nP σ)).testBit m = true → m < nM σ ∧ br σ m = 0 := by
    intro m hm
    obtain ⟨p, p1, p2⟩ := (orB_bit σ m _).mp hm
    obtain ⟨b, b1, b2, b3, _⟩ := hw p p1
    rw [b2] at p2
    have := (es_bit σ p m).mp (sub_of (by omega) b3 p2)
    exact ⟨this.1, this.2.2⟩
  have hue : ∀ p, p < nP σ → orB σ (nP σ) &&& es σ p = (bb σ p (2 ^ nM σ)).2.toNat := by
    intro p hp
    obtain ⟨b, b1, b2, b3, _⟩ := hw p hp
    apply Nat.eq_of_testBit_eq
    intro m
    rw [Nat.testBit_and, b2]
    by_cases c : b.testBit m = true
    · have c1 : (orB σ (nP σ)).testBit m = true := (orB_bit σ m _).mpr ⟨p, hp, by rw [b2]; exact c⟩
      rw [c, c1, sub_of (by omega) b3 c]
      rfl
    · have c' : b.testBit m = false := by simpa using c
      rw [c']
      by_cases d : (orB σ (nP σ)).testBit m = true
      · by_cases f : (es σ p).testBit m = true
        · exfalso
          obtain ⟨p', p1, p2⟩ := (orB_bit σ m _).mp d
          obtain ⟨b', _, b2', b3', _⟩ := hw p' p1
          rw [b2'] at p2
          have g1 := (es_bit σ p' m).mp (sub_of (by omega) b3' p2)
          have g2 := (es_bit σ p m).mp f
          have : p' = p := by omega
          subst this
          rw [← b2', b2] at p2
          exact c p2
        · simp [f]
      · simp [d]
  have hul : orB σ (nP σ) < 2 ^ nM σ := Nat.lt_pow_two_of_testBit _ (fun i hi => by
    cases q : (orB σ (nP σ)).testBit i with
    | false => rfl
    | true => have := (hub i q).1; omega)
  have hum : mayB σ (orB σ (nP σ)) := by
    refine ⟨?_, ?_⟩
    · apply Nat.eq_of_testBit_eq
      intro m
      rw [Nat.testBit_and, Nat.zero_testBit]
      by_cases d : (orB σ (nP σ)).testBit m = true
      · have := hub m d
        have e : ¬ (bset σ (nM σ)).testBit m = true := fun q => by have := ((bset_bit ok m (nM σ) (Nat.le_refl _)).mp q).2; omega
        simp [e]
      · simp [d]
    · rw [tot_bet ok]
      have : smf (fun p => Fp σ p (orB σ (nP σ) &&& es σ p)) (nP σ) = smf (fun _ => 0) (nP σ) := by
        refine smf_cong _ (fun p hp => ?_)
        obtain ⟨b, b1, b2, b3, b4, _⟩ := hw p hp
        show Fp σ p (orB σ (nP σ) &&& es σ p) = 0
        rw [hue p hp, b2]
        have := (Fp_b ok hp b).1
        omega
      rw [this]
      have z : ∀ n, smf (fun _ => 0) n = 0 := by
        intro n
        induction n with
        | zero => rfl
        | succ n ih => rw [smf, ih]; rfl
      exact z _
  rcases rb_spec σ (2 ^ nM σ) with ⟨_, e⟩ | ⟨b, b1, b2, b3, b5⟩
  · exact absurd hum (e _ hul)
  · rw [b2]
    have i1 : wI b ≤ wI (orB σ (nP σ)) := by
      have := b5 _ hul hum
      rw [wI_eq (by omega), wI_eq (by omega)]
      omega
    have hbb : ∀ m, b.testBit m = true → m < nM σ ∧ br σ m = 0 := fun m hm => may_bits ok b1 b3.1 hm
    have i2 : wI (orB σ (nP σ)) ≤ wI b := by
      rw [← w_all ok hub, ← w_all ok hbb]
      refine smf_le _ (fun p hp => ?_)
      obtain ⟨c, c1, c2, c3, c4, c5⟩ := hw p hp
      show wI (orB σ (nP σ) &&& es σ p) ≤ wI (b &&& es σ p)
      rw [hue p hp, c2]
      refine c5 _ (Nat.lt_of_le_of_lt Nat.and_le_left b1) (and_sub (by omega)) ?_
      have h2 := b3.2
      rw [tot_bet ok] at h2
      have := smf_0 (nP σ) (fun i hi => (Fp_b ok hi _).1) h2 p hp
      omega
    have i3 : wI b = wI (orB σ (nP σ)) := by omega
    have k1 := cnt_n b 12
    have k2 := cnt_n (orB σ (nP σ)) 12
    rw [wI_eq (by omega), wI_eq (by omega)] at i3
    omega
end BRS
