/-! SEATS: the best plan as one number is the best way -/
section SEM
variable {σ : SG}
theorem full_bit (N m : Nat) : (2 ^ N - 1).testBit m = decide (m < N) := Nat.testBit_two_pow_sub_one N m
theorem full_lt {N : Nat} (h : N ≤ 6) : 2 ^ N - 1 < 64 := by
  have := Nat.pow_le_pow_right (show 0 < 2 by omega) h
  have h2 := Nat.two_pow_pos N
  have h3 : (2 : Nat) ^ 6 = 64 := rfl
  omega
theorem CS_way (ok : Ok σ) (h6 : nM σ ≤ 6) {f : Nat → Nat} {v : Nat} (hf : ∀ m, m < nM σ → f m = sd σ v m) : CS σ (nP σ - 1) (2 ^ nM σ - 1) f = TT σ v * 46656 + (pre6 σ v 6 : Int) := by
  have hn := ok.nums
  have hw := full_lt h6
  have e1 : ∀ p, sbS (2 ^ nM σ - 1) f p = sv σ v p := fun p => by
    apply Nat.eq_of_testBit_eq
    intro i
    rw [sbS_bit hw, full_bit, sv, bs_bit]
    by_cases b : i < nM σ
    · rw [hf i b]
    · simp [b]
  have e2 : CS σ (nP σ - 1) (2 ^ nM σ - 1) f = smf (fun p => 46656 * sag σ p (sv σ v p) (lt σ) + (p : Int) * seatS (sbS (2 ^ nM σ - 1) f p)) (nP σ) := by
    rw [CS, show nP σ - 1 + 1 = nP σ by omega]
    refine smf_cong _ (fun p _ => ?_)
    show prS σ p (sbS (2 ^ nM σ - 1) f p) = 46656 * sag σ p (sv σ v p) (lt σ) + (p : Int) * seatS (sbS (2 ^ nM σ - 1) f p)
    rw [prS, e1 p, Int.mul_comm]
  have e3 : smf (fun i => if (2 ^ nM σ - 1).testBit i = true ∧ f i < nP σ then (f i : Int) * figI i else 0) 6 = smf (fun i => ((if i < nM σ then sd σ v i else 0 : Nat) : Int) * figI i) 6 := by
    refine smf_cong _ (fun i _ => ?_)
    show (if (2 ^ nM σ - 1).testBit i = true ∧ f i < nP σ then (f i : Int) * figI i else 0) = ((if i < nM σ then sd σ v i else 0 : Nat) : Int) * figI i
    rw [full_bit]
    by_cases b : i < nM σ
    · have := sd_lt ok v i
      rw [if_pos ⟨by simp [b], by rw [hf i b]; exact this⟩, if_pos b, hf i b]
    · rw [if_neg (fun q => by simp [b] at q), if_neg b]
      simp
  rw [e2, smf_add, smf_mul, seat_sum hw f (nP σ), e3]
  have e4 : smf (fun p => sag σ p (sv σ v p) (lt σ)) (nP σ) = TT σ v := rfl
  rw [e4]
  simp only [smf, figI, pre6]
  omega
def hvN (P : Nat) (f : Nat → Nat) : Nat → Nat
  | 0 => 0
  | m + 1 => P * hvN P f m + f m
theorem hvN_lt {P : Nat} {f : Nat → Nat} (h : ∀ m, f m < P) : ∀ m, hvN P f m < P ^ m
  | 0 => by simp [hvN]
  | m + 1 => by
    have h1 := hvN_lt h m
    have h2 := h m
    have h3 : P * (hvN P f m + 1) ≤ P * P ^ m := Nat.mul_le_mul_left P h1
    rw [hvN, Nat.pow_succ, Nat.mul_comm (P ^ m)]
    rw [Nat.mul_add] at h3
    omega
theorem hvN_div {P : Nat} {f : Nat → Nat} (h : ∀ m, f m < P) (m : Nat) : ∀ k, hvN P f (m + k) / P ^ k = hvN P f m
  | 0 => by simp
  | k + 1 => by
    have h1 := h (m + k)
    rw [← Nat.add_assoc, hvN, Nat.pow_succ, Nat.mul_comm (P ^ k), ← Nat.div_div_eq_div_mul, Nat.add_comm, Nat.add_mul_div_left _ _ (by omega), Nat.div_eq_of_lt h1, Nat.zero_add]
    exact hvN_div h m k
theorem hvN_sd {f : Nat → Nat} (h : ∀ m, f m < nP σ) {m : Nat} (hm : m < nM σ) : sd σ (hvN (nP σ) f (nM σ)) m = f m := by
  have e := hvN_div h (m + 1) (nM σ - (m + 1))
  rw [show m + 1 + (nM σ - (m + 1)) = nM σ by omega] at e
  rw [sd, e, hvN, Nat.mul_add_mod, Nat.mod_eq_of_lt (h m)]
theorem pre6_lt (ok : Ok σ) (v : Nat) : ∀ m, pre6 σ v m < 6 ^ m
  | 0 => by simp [pre6]
  | m + 1 => by
    have hn := ok.nums
    have h1 := pre6_lt ok v m
    have h2 := sd_lt ok v m
    rw [pre6, Nat.pow_succ]
    split <;> omega
theorem TT_b (ok : Ok σ) (v : Nat) : 0 ≤ TT σ v ∧ TT σ v ≤ 1296 := by
  have hn := ok.nums
  have h : ∀ n, n ≤ nP σ → 0 ≤ smf (fun p => sag σ p (sv σ v p) (lt σ)) n ∧ smf (fun p => sag σ p (sv σ v p) (lt σ)) n ≤ 216 * n := by
    intro n
    induction n with
    | zero => intro _; simp [smf]
    | succ n ih =>
      intro hn
      have h1 := ih (by omega)
      have h2 := sag_b2 ok (p := n) (by omega) (sv σ v n) (lt σ)
      rw [smf]
      omega
  have := h (nP σ) (Nat.le_refl _)
  unfold TT
  omega
theorem ws_pos (ok : Ok σ) : 0 < ws σ := Nat.pow_pos (by have := ok.nums; omega)
theorem seat_plan (ok : Ok σ) (h6 : nM σ ≤ 6) : bq σ (nP σ - 1) (2 ^ nM σ - 1) = (bt σ).1 * 46656 + (pre6 σ (bt σ).2 6 : Int) := by
  have hn := ok.nums
  have hw := full_lt h6
  have hwp := ws_pos ok
  obtain ⟨s1, s2, s3⟩ := fm_spec (V := TT σ) (fun v => by have := TT_b ok v; omega) (ws σ) hwp
  have hm := fm_le (TT σ) (ws σ)
  change (bt σ).2 < ws σ at s1
  change TT σ (bt σ).2 = (bt σ).1 at s2
  change ∀ v, v < (bt σ).2 → (bt σ).1 < TT σ v at s3
  change ∀ v, v < ws σ → (bt σ).1 ≤ TT σ v at hm
  have a1 := bq_le σ (sd σ (bt σ).2) (nP σ - 1) (2 ^ nM σ - 1) hw (fun m _ => by have := sd_lt ok (bt σ).2 m; omega)
  rw [CS_way ok h6 (fun m _ => rfl), s2] at a1
  obtain ⟨f, f1, f2⟩ := bq_at ok (nP σ - 1) (2 ^ nM σ - 1) (by omega) hw
  have f1' : ∀ m, f m < nP σ := fun m => by have := f1 m; omega
  rw [CS_way ok h6 (v := hvN (nP σ) f (nM σ)) (fun m hm => (hvN_sd f1' hm).symm)] at f2
  obtain ⟨v, hv⟩ : ∃ v, v = hvN (nP σ) f (nM σ) := ⟨_, rfl⟩
  have hvl : v < ws σ := by rw [hv]; exact hvN_lt f1' (nM σ)
  rw [← hv] at f2
  have p1 := pre6_lt ok (bt σ).2 6
  have p2 : (6 : Nat) ^ 6 = 46656 := rfl
  have q1 := hm v hvl
  by_cases z : TT σ v = (bt σ).1
  · have hle : (bt σ).2 ≤ v := Nat.le_of_not_lt (fun q => by have := s3 v q; omega)
    have mono := pre6_mono ok s1 hvl hle 6
    rw [show nM σ - 6 = 0 by omega, Nat.pow_zero, Nat.div_one, Nat.div_one] at mono
    rw [z] at f2
    rcases Nat.lt_or_eq_of_le hle with y | y
    · have := mono.1 y
      omega
    · have := mono.2 y
      omega
  · omega
theorem plan_least (ok : Ok σ) (h6 : nM σ ≤ 6) : bq σ (nP σ - 1) (2 ^ nM σ - 1) / 46656 = (bt σ).1 := by
  rw [seat_plan ok h6]
  have p1 := pre6_lt ok (bt σ).2 6
  have p2 : (6 : Nat) ^ 6 = 46656 := rfl
  omega
theorem plan_seat (ok : Ok σ) (h6 : nM σ ≤ 6) {m : Nat} (hm : m < nM σ) : bq σ (nP σ - 1) (2 ^ nM σ - 1) / figI m % 6 = (sd σ (bt σ).2 m : Int) := by
  rw [seat_plan ok h6]
  have hn := ok.nums
  have d : ∀ i, (if i < nM σ then sd σ (bt σ).2 i else 0) ≤ 5 := fun i => by
    have := sd_lt ok (bt σ).2 i
    split <;> omega
  have d0 := d 0
  have d1 := d 1
  have d2 := d 2
  have d3 := d 3
  have d4 := d 4
  have d5 := d 5
  have e : sd σ (bt σ).2 m = (if m < nM σ then sd σ (bt σ).2 m else 0) := (if_pos hm).symm
  rw [e]
  simp only [pre6]
  have hmm : m = 0 ∨ m = 1 ∨ m = 2 ∨ m = 3 ∨ m = 4 ∨ m = 5 := by omega
  rcases hmm with rfl | rfl | rfl | rfl | rfl | rfl <;> simp only [figI] <;> omega
end SEM
