/-! THE STATE OF AN ORGAN as numbers, and what it is in the cells of the class (PV, IV, TV, KV) and of the reference (AM) -/
abbrev SG : Type := Nat → Nat → Nat
def nP (σ : SG) : Nat := σ 0 0
def nM (σ : SG) : Nat := σ 0 1
def nB (σ : SG) : Nat := σ 0 2
def lt (σ : SG) : Nat := σ 0 3
def rm (σ : SG) : Nat := σ 0 4
def tl (σ : SG) : Nat := σ 0 5
def dr (σ : SG) (p : Nat) : Nat := σ 1 p
def sn (σ : SG) (j : Nat) : Nat := σ 2 j
def lu (σ : SG) (m : Nat) : Nat := σ 3 m
def fo (σ : SG) (m : Nat) : Nat := σ 4 m
def pl (σ : SG) (m : Nat) : Nat := σ 5 m
def ph (σ : SG) (m : Nat) : Nat := σ 6 m
def br (σ : SG) (m : Nat) : Nat := σ 7 m
def tx (σ : SG) (i : Nat) : Nat := σ 8 i
def kp (σ : SG) (s : Nat) : Nat := σ 9 s
def klt (σ : SG) (s : Nat) : Nat := σ 10 s
def krm (σ : SG) (s : Nat) : Nat := σ 11 s
/-- what a slot keeps of the people: s = 0, 1; f = 3 lungs, 4 force, 5 place, 6 phase, 7 bribed -/
def kf (σ : SG) (s f m : Nat) : Nat := σ (20 + 10 * s + f) m
def up (σ : SG) (f i v : Nat) : SG := fun f' i' => if f' = f ∧ i' = i then v else σ f' i'
def okM (σ : SG) (l f p h b : Nat) : Prop := 1 ≤ l ∧ l ≤ 9 ∧ 1 ≤ f ∧ f ≤ 3 ∧ p < nP σ ∧ h ≤ l ∧ b ≤ 1
def Ok (σ : SG) : Prop := (1 ≤ nP σ ∧ nP σ ≤ 6 ∧ nM σ ≤ 12 ∧ nB σ ≤ 24 ∧ lt σ ≤ 99 ∧ rm σ ≤ 9 ∧ tl σ ≤ 104) ∧ (∀ p, p < nP σ → 1 ≤ dr σ p ∧ dr σ p ≤ 9) ∧ (∀ j, j < nB σ → sn σ j < 64) ∧ (∀ m, m < nM σ → okM σ (lu σ m) (fo σ m) (pl σ m) (ph σ m) (br σ m)) ∧ (∀ i, i < tl σ → tx σ i < 256) ∧
  (∀ s, s < 2 → kp σ s ≤ 1 ∧ (kp σ s = 1 → klt σ s ≤ 99 ∧ krm σ s ≤ 9 ∧ ∀ m, m < nM σ → okM σ (kf σ s 3 m) (kf σ s 4 m) (kf σ s 5 m) (kf σ s 6 m) (kf σ s 7 m)))
/-- the class's people -/
def PV (σ : SG) (hi : HI) : Prop := hi 6 0 = zI (nM σ) ∧ hi 6 1 = zI (lt σ) ∧ hi 6 2 = zI (rm σ) ∧ (∀ m, m < nM σ → hi 7 m = zI (lu σ m)) ∧ (∀ m, m < nM σ → hi 8 m = zI (fo σ m)) ∧ (∀ m, m < nM σ → hi 9 m = zI (pl σ m)) ∧ (∀ m, m < nM σ → hi 10 m = zI (ph σ m)) ∧ (∀ m, m < nM σ → hi 11 m = zI (br σ m))
/-- its pipes and hymn -/
def IV (σ : SG) (hi : HI) : Prop := hi 3 0 = zI (nP σ) ∧ hi 3 1 = zI (nB σ) ∧ (∀ p, p < nP σ → hi 4 p = zI (dr σ p)) ∧ (∀ j, j < nB σ → hi 5 j = zI (sn σ j))
/-- its text: bytes with their signs -/
def sgn8 (n : Nat) : Int := if n < 128 then n else (n : Int) - 256
def TV (σ : SG) (hi : HI) : Prop := hi 1 1 = zI (tl σ) ∧ ∀ i, i < tl σ → hi 2 i = zI (sgn8 (tx σ i))
def KV (σ : SG) (hi : HI) : Prop := ∀ s, s < 2 → hi 40 s = zI (kp σ s) ∧ (kp σ s = 1 → hi (12 + 6 * s) 0 = zI (nM σ) ∧ hi (12 + 6 * s) 1 = zI (klt σ s) ∧ hi (12 + 6 * s) 2 = zI (krm σ s) ∧ ∀ m, m < nM σ → hi (13 + 6 * s) m = zI (kf σ s 3 m) ∧ hi (14 + 6 * s) m = zI (kf σ s 4 m) ∧ hi (15 + 6 * s) m = zI (kf σ s 5 m) ∧ hi (16 + 6 * s) m = zI (kf σ s 6 m) ∧ hi (17 + 6 * s) m = zI (kf σ s 7 m))
/-- the class -/
def AX (σ : SG) (hi : HI) : Prop := PV σ hi ∧ IV σ hi ∧ TV σ hi ∧ KV σ hi
/-- the reference -/
def AMp (σ : SG) (hi : HI) : Prop := hi 41 10 = zI (nM σ) ∧ hi 41 12 = zI (lt σ) ∧ hi 41 13 = zI (rm σ) ∧ (∀ m, m < nM σ → hi 46 (5 * m) = zI (lu σ m)) ∧ (∀ m, m < nM σ → hi 46 (5 * m + 1) = zI (fo σ m)) ∧ (∀ m, m < nM σ → hi 46 (5 * m + 2) = zI (pl σ m)) ∧ (∀ m, m < nM σ → hi 46 (5 * m + 3) = zI (ph σ m)) ∧ (∀ m, m < nM σ → hi 46 (5 * m + 4) = zI (br σ m))
def AMi (σ : SG) (hi : HI) : Prop := hi 41 9 = zI (nP σ) ∧ hi 41 11 = zI (nB σ) ∧ (∀ p, p < nP σ → hi 45 p = zI (dr σ p)) ∧ (∀ j, j < nB σ → hi 47 j = zI (sn σ j))
def AMt (σ : SG) (hi : HI) : Prop := hi 41 15 = zI (tl σ) ∧ ∀ i, i < tl σ → hi 48 i = zI (tx σ i)
def AMk (σ : SG) (hi : HI) : Prop := ∀ s, s < 2 → hi 58 s = zI (kp σ s) ∧ (kp σ s = 1 → hi 60 (2 * s) = zI (klt σ s) ∧ hi 60 (2 * s + 1) = zI (krm σ s) ∧ ∀ m, m < nM σ → ∀ f, f < 5 → hi 59 (60 * s + 5 * m + f) = zI (kf σ s (3 + f) m))
def AM (σ : SG) (hi : HI) : Prop := AMp σ hi ∧ AMi σ hi ∧ AMt σ hi ∧ AMk σ hi
section VIEWS
variable {σ : SG} {hi hi' : HI}
theorem PV.keep (h : PV σ hi) (e : ∀ c, 6 ≤ c → c ≤ 11 → hi' c = hi c) : PV σ hi' := by
  unfold PV at h ⊢
  rw [e 6 (by omega) (by omega), e 7 (by omega) (by omega), e 8 (by omega) (by omega), e 9 (by omega) (by omega), e 10 (by omega) (by omega), e 11 (by omega) (by omega)]
  exact h
theorem IV.keep (h : IV σ hi) (e : ∀ c, 3 ≤ c → c ≤ 5 → hi' c = hi c) : IV σ hi' := by
  unfold IV at h ⊢
  rw [e 3 (by omega) (by omega), e 4 (by omega) (by omega), e 5 (by omega) (by omega)]
  exact h
theorem PV.n (h : PV σ hi) : hi 6 0 = zI (nM σ) := h.1
theorem PV.late (h : PV σ hi) : hi 6 1 = zI (lt σ) := h.2.1
theorem PV.room (h : PV σ hi) : hi 6 2 = zI (rm σ) := h.2.2.1
theorem PV.lu (h : PV σ hi) {m : Nat} (hm : m < nM σ) : hi 7 m = zI (lu σ m) := h.2.2.2.1 m hm
theorem PV.fo (h : PV σ hi) {m : Nat} (hm : m < nM σ) : hi 8 m = zI (fo σ m) := h.2.2.2.2.1 m hm
theorem PV.pl (h : PV σ hi) {m : Nat} (hm : m < nM σ) : hi 9 m = zI (pl σ m) := h.2.2.2.2.2.1 m hm
theorem PV.ph (h : PV σ hi) {m : Nat} (hm : m < nM σ) : hi 10 m = zI (ph σ m) := h.2.2.2.2.2.2.1 m hm
theorem PV.br (h : PV σ hi) {m : Nat} (hm : m < nM σ) : hi 11 m = zI (br σ m) := h.2.2.2.2.2.2.2 m hm
theorem IV.np (h : IV σ hi) : hi 3 0 = zI (nP σ) := h.1
theorem IV.nb (h : IV σ hi) : hi 3 1 = zI (nB σ) := h.2.1
theorem IV.dr (h : IV σ hi) {p : Nat} (hm : p < nP σ) : hi 4 p = zI (dr σ p) := h.2.2.1 p hm
theorem IV.sn (h : IV σ hi) {j : Nat} (hm : j < nB σ) : hi 5 j = zI (sn σ j) := h.2.2.2 j hm
theorem Ok.nums (h : Ok σ) : 1 ≤ nP σ ∧ nP σ ≤ 6 ∧ nM σ ≤ 12 ∧ nB σ ≤ 24 ∧ lt σ ≤ 99 ∧ rm σ ≤ 9 ∧ tl σ ≤ 104 := h.1
theorem Ok.dr (h : Ok σ) {p : Nat} (hp : p < nP σ) : 1 ≤ dr σ p ∧ dr σ p ≤ 9 := h.2.1 p hp
theorem Ok.sn (h : Ok σ) {j : Nat} (hj : j < nB σ) : sn σ j < 64 := h.2.2.1 j hj
theorem Ok.m (h : Ok σ) {m : Nat} (hm : m < nM σ) : 1 ≤ lu σ m ∧ lu σ m ≤ 9 ∧ 1 ≤ fo σ m ∧ fo σ m ≤ 3 ∧ pl σ m < nP σ ∧ ph σ m ≤ lu σ m ∧ br σ m ≤ 1 := h.2.2.2.1 m hm
end VIEWS
/-- an answer, and nothing changed -/
def ans (x : Int32) (hi : HI) (hl : HL) : Option Value → HI → HL → Prop := fun r hi' hl' => r = some (.int x) ∧ hi = hi' ∧ hl = hl'
def ansL (x : Int64) (hi : HI) (hl : HL) : Option Value → HI → HL → Prop := fun r hi' hl' => r = some (.long x) ∧ hi = hi' ∧ hl = hl'
theorem wz_ldc {M : MD} {d : Nat} {Post : Option Value → HI → HL → Prop} {pc : Nat} {lv : LV} {st : List Value} {hi : HI} {hl : HL} {index : Nat} {v : Int32} {z : Int} (hd : decode M.2.1 pc = .ok (.ldc index, 2)) (hw : Cond.constant M.1.cls index v ∈ gtbl) (hv : v = zI z) (k : Wp M d Post (pc + 2) lv (.int (zI z) :: st) hi hl) : Wp M d Post pc lv st hi hl := wp_ldc hd hw (hv ▸ k)
theorem wz_ldc2 {M : MD} {d : Nat} {Post : Option Value → HI → HL → Prop} {pc : Nat} {lv : LV} {st : List Value} {hi : HI} {hl : HL} {index : Nat} {v : Int64} {z : Int} (hd : decode M.2.1 pc = .ok (.ldc2_w index, 3)) (hw : Cond.constantLong M.1.cls index v ∈ gtbl) (hv : v = lZ z) (k : Wp M d Post (pc + 3) lv (.long (lZ z) :: st) hi hl) : Wp M d Post pc lv st hi hl := wp_ldc2 hd hw (hv ▸ k)
/-! what the people give -/
/-- what PERSON m gives at the time t -/
def gv (σ : SG) (m t : Nat) : Nat := if (t + ph σ m) % (lu σ m + 1) = lu σ m ∧ br σ m = 0 then 0 else fo σ m
/-- who of the first n sits at the pipe, as bits -/
def sitN (σ : SG) (p : Nat) : Nat → Nat
  | 0 => 0
  | n + 1 => sitN σ p n ||| (if pl σ n = p then 2 ^ n else 0)
def sit (σ : SG) (p : Nat) : Nat := sitN σ p (nM σ)
theorem sitN_lt (σ : SG) (p : Nat) : ∀ n, sitN σ p n < 2 ^ n
  | 0 => by simp [sitN]
  | n + 1 => by
    have h := sitN_lt σ p n
    refine Nat.or_lt_two_pow (by rw [Nat.pow_succ]; omega) ?_
    split
    · rw [Nat.pow_succ]; have := Nat.two_pow_pos n; omega
    · exact Nat.two_pow_pos _
theorem sitN_bit (σ : SG) (p m : Nat) : ∀ n, (sitN σ p n).testBit m = (decide (m < n) && decide (pl σ m = p))
  | 0 => by simp [sitN]
  | n + 1 => by
    rw [sitN, Nat.testBit_or, sitN_bit σ p m n]
    by_cases hm : m = n
    · subst hm
      by_cases hp : pl σ m = p <;> simp [hp, Nat.testBit_two_pow_self]
    · have h2 : (if pl σ n = p then 2 ^ n else 0 : Nat).testBit m = false := by
        split
        · exact Nat.testBit_two_pow_of_ne (fun q => hm q.symm)
        · simp
      rw [h2]
      by_cases h : m < n
      · simp [h, Nat.lt_succ_of_lt h]
      · have : ¬ m < n + 1 := by omega
        simp [h, this]
/-- the force of a set -/
def forN (σ : SG) (set : Nat) : Nat → Nat
  | 0 => 0
  | n + 1 => forN σ set n + (if set.testBit n = true then fo σ n else 0)
def forS (σ : SG) (set : Nat) : Nat := forN σ set (nM σ)
def brN (σ : SG) : Nat → Nat
  | 0 => 0
  | n + 1 => brN σ n + br σ n
