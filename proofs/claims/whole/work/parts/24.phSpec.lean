/-! PHASES: the numbers -/
/-- what is missing from the beat j on, over k beats, with s in the store -/
def smG (c : Int) (dn w : Nat → Int) : Nat → Nat → Int → Int
  | 0, _, _ => 0
  | k + 1, j, s => max 0 (-(s + w j - dn j)) + smG c dn w k (j + 1) (max 0 (min (s + w j - dn j) c))
theorem smG_smA (c : Int) (dn w : Nat → Int) : ∀ k j, smA c dn w j + smG c dn w k j (stA c dn w j) = smA c dn w (j + k)
  | 0, j => by simp [smG]
  | k + 1, j => by
    have h := smG_smA c dn w k (j + 1)
    rw [show j + (k + 1) = j + 1 + k by omega, ← h, smG, smA, stA, msA, lfA]
    omega
theorem smG_slope (c : Int) (dn w : Nat → Int) : ∀ k j (s e : Int), 0 ≤ e → smG c dn w k j s ≤ smG c dn w k j (s + e) + e
  | 0, _, _, _, he => by simp [smG]; exact he
  | k + 1, j, s, e, he => by
    rw [smG, smG]
    obtain ⟨y, hy⟩ : ∃ y, s + w j - dn j = y := ⟨_, rfl⟩
    rw [hy, show s + e + w j - dn j = y + e by omega]
    have h := smG_slope c dn w k (j + 1) (max 0 (min y c)) (max 0 (min (y + e) c) - max 0 (min y c)) (by omega)
    rw [show max 0 (min y c) + (max 0 (min (y + e) c) - max 0 (min y c)) = max 0 (min (y + e) c) by omega] at h
    omega
theorem four_step {z00 z10 z01 z11 : Int} (h1 : z10 ≤ z00) (h2 : z01 ≤ z00) (h3 : z11 ≤ z10 + z01 - z00) : ∃ t : Int, max 0 z10 ≤ t ∧ max 0 z01 ≤ t ∧ max 0 z11 ≤ max 0 z10 + max 0 z01 - t ∧ t ≤ max 0 z00 ∧ max 0 (-z10) + max 0 (-z01) + (max 0 z00 - t) ≤ max 0 (-z11) + max 0 (-z00) := by
  refine ⟨min (max 0 z00) (max 0 z10 + max 0 z01 - max 0 z11), ?_, ?_, ?_, ?_, ?_⟩ <;> omega
theorem smG_four {c : Int} (hc : 0 ≤ c) (dn w00 w10 w01 w11 : Nat → Int) (h1 : ∀ j, w10 j ≤ w00 j) (h2 : ∀ j, w01 j ≤ w00 j) (h3 : ∀ j, w11 j ≤ w10 j + w01 j - w00 j) : ∀ k j (s00 s10 s01 s11 : Int), s10 ≤ s00 → s01 ≤ s00 → s11 ≤ s10 + s01 - s00 → smG c dn w10 k j s10 + smG c dn w01 k j s01 ≤ smG c dn w11 k j s11 + smG c dn w00 k j s00
  | 0, _, _, _, _, _, _, _, _ => by simp [smG]
  | k + 1, j, s00, s10, s01, s11, a1, a2, a3 => by
    have b1 := h1 j
    have b2 := h2 j
    have b3 := h3 j
    rw [smG, smG, smG, smG]
    obtain ⟨y00, e00⟩ : ∃ y, s00 + w00 j - dn j = y := ⟨_, rfl⟩
    obtain ⟨y10, e10⟩ : ∃ y, s10 + w10 j - dn j = y := ⟨_, rfl⟩
    obtain ⟨y01, e01⟩ : ∃ y, s01 + w01 j - dn j = y := ⟨_, rfl⟩
    obtain ⟨y11, e11⟩ : ∃ y, s11 + w11 j - dn j = y := ⟨_, rfl⟩
    rw [e00, e10, e01, e11]
    have c1 : y10 ≤ y00 := by omega
    have c2 : y01 ≤ y00 := by omega
    have c3 : y11 ≤ y10 + y01 - y00 := by omega
    obtain ⟨t, t1, t2, t3, t4, t5⟩ := four_step (z00 := min y00 c) (z10 := min y10 c) (z01 := min y01 c) (z11 := min y11 c) (by omega) (by omega) (by omega)
    have i1 := smG_four hc dn w00 w10 w01 w11 h1 h2 h3 k (j + 1) t (max 0 (min y10 c)) (max 0 (min y01 c)) (max 0 (min y11 c)) t1 t2 t3
    have i2 := smG_slope c dn w00 k (j + 1) t (max 0 (min y00 c) - t) (by omega)
    rw [show t + (max 0 (min y00 c) - t) = max 0 (min y00 c) by omega] at i2
    have m : ∀ y : Int, max 0 (-y) = max 0 (-(min y c)) := fun y => by omega
    rw [m y00, m y10, m y01, m y11]
    omega
theorem smA_four {c : Int} (hc : 0 ≤ c) (dn w a b : Nat → Int) (ha : ∀ j, 0 ≤ a j) (hb : ∀ j, 0 ≤ b j) (n : Nat) : smA c dn (fun j => w j - a j) n + smA c dn (fun j => w j - b j) n ≤ smA c dn (fun j => w j - a j - b j) n + smA c dn w n := by
  have h := smG_four hc dn w (fun j => w j - a j) (fun j => w j - b j) (fun j => w j - a j - b j) (fun j => by have := ha j; show w j - a j ≤ w j; omega) (fun j => by have := hb j; show w j - b j ≤ w j; omega) (fun j => by show w j - a j - b j ≤ w j - a j + (w j - b j) - w j; omega) n 0 0 0 0 0 (by omega) (by omega) (by omega)
  have e : ∀ w', smG c dn w' n 0 0 = smA c dn w' n := fun w' => by
    have q := smG_smA c dn w' n 0
    rw [Nat.zero_add, smA, stA] at q
    omega
  rw [e, e, e, e] at h
  exact h
/-! the members of a set -/
def cnt (set : Nat) : Nat → Nat
  | 0 => 0
  | n + 1 => cnt set n + (if set.testBit n = true then 1 else 0)
theorem cnt_mono (set a : Nat) : ∀ k, cnt set a ≤ cnt set (a + k)
  | 0 => Nat.le_refl _
  | k + 1 => Nat.le_trans (cnt_mono set a k) (by rw [← Nat.add_assoc, cnt]; omega)
theorem cnt_le (set : Nat) {a b : Nat} (h : a ≤ b) : cnt set a ≤ cnt set b := by
  have := cnt_mono set a (b - a)
  rwa [show a + (b - a) = b by omega] at this
theorem cnt_n (set : Nat) : ∀ n, cnt set n ≤ n
  | 0 => Nat.le_refl _
  | n + 1 => by
    have := cnt_n set n
    rw [cnt]
    split <;> omega
def mbF (set : Nat) : Nat → Nat → Nat → Nat
  | 0, m, _ => m
  | k + 1, m, left => if set.testBit m = true ∧ left = 0 then m else mbF set k (m + 1) (left - (if set.testBit m = true then 1 else 0))
/-- the member i of a set -/
def mb (set i : Nat) : Nat := mbF set 12 0 i
theorem mbF_at {set m : Nat} (hb : set.testBit m = true) (hm : m < 12) : ∀ k a, a + k = 12 → a ≤ m → mbF set k a (cnt set m - cnt set a) = m
  | 0, a, h1, h2 => absurd h2 (by omega)
  | k + 1, a, h1, h2 => by
    rw [mbF]
    by_cases e : a = m
    · subst e
      rw [if_pos ⟨hb, by omega⟩]
    · have h3 : cnt set (a + 1) ≤ cnt set m := cnt_le set (by omega)
      have h4 := mbF_at hb hm k (a + 1) (by omega) (by omega)
      rw [cnt] at h3 h4
      by_cases q : set.testBit a = true
      · rw [if_pos q] at h3 h4 ⊢
        rw [if_neg (fun z => by have := z.2; omega), ← Nat.sub_sub] at *
        exact h4
      · rw [if_neg q] at h3 h4 ⊢
        rw [if_neg (fun z => q z.1)]
        exact h4
theorem mb_at {set m : Nat} (hb : set.testBit m = true) (hm : m < 12) : mb set (cnt set m) = m := by
  have := mbF_at hb hm 12 0 rfl (by omega)
  rw [cnt] at this
  exact this
theorem cnt_ex (set : Nat) : ∀ n i, i < cnt set n → ∃ m, m < n ∧ set.testBit m = true ∧ cnt set m = i
  | 0, i, h => absurd h (by simp [cnt])
  | n + 1, i, h => by
    by_cases q : i < cnt set n
    · obtain ⟨m, a, b, c⟩ := cnt_ex set n i q
      exact ⟨m, by omega, b, c⟩
    · rw [cnt] at h
      by_cases b : set.testBit n = true
      · rw [if_pos b] at h
        exact ⟨n, by omega, b, by omega⟩
      · rw [if_neg b] at h
        omega
theorem mb_spec {set i : Nat} (h : i < cnt set 12) : mb set i < 12 ∧ set.testBit (mb set i) = true ∧ cnt set (mb set i) = i := by
  obtain ⟨m, a, b, c⟩ := cnt_ex set 12 i h
  have e := mb_at b a
  rw [c] at e
  rw [e]
  exact ⟨a, b, c⟩
def smf (f : Nat → Int) : Nat → Int
  | 0 => 0
  | n + 1 => smf f n + f n
theorem smf_cong {f g : Nat → Int} : ∀ n, (∀ i, i < n → f i = g i) → smf f n = smf g n
  | 0, _ => rfl
  | n + 1, h => by rw [smf, smf, smf_cong n (fun i hi => h i (by omega)), h n (by omega)]
theorem smf_nn {f : Nat → Int} (h : ∀ i, 0 ≤ f i) : ∀ n, 0 ≤ smf f n
  | 0 => by simp [smf]
  | n + 1 => by
    have := smf_nn h n
    have := h n
    rw [smf]
    omega
theorem smf_bits (set : Nat) (f : Nat → Int) : ∀ N, N ≤ 12 → smf (fun m => if set.testBit m = true then f m else 0) N = smf (fun i => f (mb set i)) (cnt set N)
  | 0, _ => rfl
  | N + 1, h => by
    rw [smf, smf_bits set f N (by omega), cnt]
    by_cases b : set.testBit N = true
    · rw [if_pos b, if_pos b, smf, mb_at b (by omega)]
    · rw [if_neg b, if_neg b]
      simp
/-! a number of figures, one for each that sits -/
section PHS
variable {σ : SG} {p : Nat}
def rx (σ : SG) (set i : Nat) : Nat := lu σ (mb set i) + 1
def RR (σ : SG) (set : Nat) : Nat → Nat → Nat
  | 0, _ => 1
  | q + 1, i => rx σ set i * RR σ set q (i + 1)
theorem RR_pos (σ : SG) (set : Nat) : ∀ q i, 0 < RR σ set q i
  | 0, _ => by simp [RR]
  | q + 1, i => by rw [RR]; exact Nat.mul_pos (by simp [rx]) (RR_pos σ set q (i + 1))
theorem RR_split (σ : SG) (set b : Nat) : ∀ a i, RR σ set (a + b) i = RR σ set a i * RR σ set b (i + a)
  | 0, i => by simp [RR]
  | a + 1, i => by
    rw [show a + 1 + b = (a + b) + 1 by omega, RR, RR, RR_split σ set b a (i + 1), Nat.mul_assoc, show i + 1 + a = i + (a + 1) by omega]
def dig (σ : SG) (set n i v : Nat) : Nat := v / RR σ set (n - (i + 1)) (i + 1) % rx σ set i
theorem dig_le (σ : SG) (set n i v : Nat) : dig σ set n i v ≤ lu σ (mb set i) := by
  have : dig σ set n i v < rx σ set i := Nat.mod_lt _ (by simp [rx])
  unfold rx at this
  omega
theorem dig_low {σ : SG} {set n one q i B v : Nat} (h : one + q = n) (hi : i < one) (hB : RR σ set q one ∣ B) (h1 : B ≤ v) (h2 : v < B + RR σ set q one) : dig σ set n i v = dig σ set n i B := by
  obtain ⟨t, rfl⟩ := hB
  have e : RR σ set (n - (i + 1)) (i + 1) = RR σ set q one * RR σ set (one - (i + 1)) (i + 1) := by
    rw [show n - (i + 1) = (one - (i + 1)) + q by omega, RR_split, show i + 1 + (one - (i + 1)) = one by omega, Nat.mul_comm]
  have hp := RR_pos σ set q one
  unfold dig
  rw [e, ← Nat.div_div_eq_div_mul, ← Nat.div_div_eq_div_mul, Nat.mul_div_cancel_left t hp]
  have : v / RR σ set q one = t := by
    rw [Nat.div_eq_iff hp]
    rw [Nat.mul_comm] at h1 h2
    omega
  rw [this]
theorem dig_one {σ : SG} {set n one q s B v : Nat} (h : one + (q + 1) = n) (hB : RR σ set (q + 1) one ∣ B) (hs : s < rx σ set one) (h1 : B + s * RR σ set q (one + 1) ≤ v) (h2 : v < B + (s + 1) * RR σ set q (one + 1)) : dig σ set n one v = s := by
  obtain ⟨t, rfl⟩ := hB
  have hp := RR_pos σ set q (one + 1)
  unfold dig
  rw [show n - (one + 1) = q by omega]
  have e : v / RR σ set q (one + 1) = s + rx σ set one * t := by
    rw [Nat.div_eq_iff hp]
    rw [RR] at h1 h2
    have x : rx σ set one * RR σ set q (one + 1) * t = rx σ set one * t * RR σ set q (one + 1) := by rw [Nat.mul_right_comm]
    rw [x] at h1 h2
    rw [Nat.add_mul] at h2 ⊢
    omega
  rw [e, Nat.add_mul_mod_self_left, Nat.mod_eq_of_lt hs]
theorem dig_high {σ : SG} {set n one q s i v : Nat} (h : one + (q + 1) = n) (hi : one < i) (hin : i < n) : dig σ set n i (v + s * RR σ set q (one + 1)) = dig σ set n i v := by
  have e : RR σ set q (one + 1) = RR σ set (i - (one + 1)) (one + 1) * (rx σ set i * RR σ set (n - (i + 1)) (i + 1)) := by
    rw [show q = (i - (one + 1)) + ((n - (i + 1)) + 1) by omega, RR_split, show one + 1 + (i - (one + 1)) = i by omega, RR]
  unfold dig
  rw [e, show s * (RR σ set (i - (one + 1)) (one + 1) * (rx σ set i * RR σ set (n - (i + 1)) (i + 1))) = rx σ set i * (s * RR σ set (i - (one + 1)) (one + 1)) * RR σ set (n - (i + 1)) (i + 1) by ac_rfl, Nat.add_mul_div_right _ _ (RR_pos σ set _ _), Nat.add_mul_mod_self_left]
/-- what is missing at the beat j as the sitter i breathes in by s -/
def dl (σ : SG) (set i s j : Nat) : Int := if (j + lt σ + s) % (lu σ (mb set i) + 1) = lu σ (mb set i) ∧ br σ (mb set i) = 0 then (fo σ (mb set i) : Int) else 0
theorem dl_nn (σ : SG) (set i s j : Nat) : 0 ≤ dl σ set i s j := by
  unfold dl
  split <;> omega
/-- how many sit -/
def nS (σ : SG) (p : Nat) : Nat := cnt (sit σ p) 12
def dg (σ : SG) (p i v : Nat) : Nat := dig σ (sit σ p) (nS σ p) i v
def Rq (σ : SG) (p q i : Nat) : Nat := RR σ (sit σ p) q i
/-- the wind as the first q that sit breathe in by the figures of v -/
def WW (σ : SG) (p q v j : Nat) : Int := (forS σ (sit σ p) : Int) - smf (fun i => dl σ (sit σ p) i (dg σ p i v) j) q
def FF (σ : SG) (p : Nat) (w : Nat → Int) : Int := smA (rm σ) (dnS σ p) w (nB σ)
def VV (σ : SG) (p v : Nat) : Int := FF σ p (WW σ p (nS σ p) v)
def fm (V : Nat → Int) : Nat → Int × Nat
  | 0 => (2147483647, 0)
  | n + 1 => if V n < (fm V n).1 then (V n, n) else fm V n
theorem fm_le (V : Nat → Int) : ∀ n v, v < n → (fm V n).1 ≤ V v
  | 0, _, h => absurd h (by omega)
  | n + 1, v, h => by
    rw [fm]
    split
    · rename_i q
      by_cases e : v = n
      · rw [e]; exact Int.le_refl _
      · have := fm_le V n v (by omega)
        show V n ≤ V v
        omega
    · rename_i q
      by_cases e : v = n
      · rw [e]; omega
      · exact fm_le V n v (by omega)
theorem fm_stay (V : Nat → Int) (a : Nat) : ∀ k, (∀ v, a ≤ v → v < a + k → (fm V a).1 ≤ V v) → fm V (a + k) = fm V a
  | 0, _ => rfl
  | k + 1, h => by
    have e := fm_stay V a k (fun v h1 h2 => h v h1 (by omega))
    rw [← Nat.add_assoc, fm, e, if_neg]
    have := h (a + k) (by omega) (by omega)
    omega
def mnN (F : Nat → Int) : Nat → Int
  | 0 => 2147483647
  | n + 1 => min (mnN F n) (F n)
theorem mnN_le (F : Nat → Int) : ∀ n s, s < n → mnN F n ≤ F s
  | 0, _, h => absurd h (by omega)
  | n + 1, s, h => by
    rw [mnN]
    by_cases e : s = n
    · rw [e]; omega
    · have := mnN_le F n s (by omega)
      omega
/-- the last phase that is tried -/
def lP (σ : SG) (m : Nat) : Nat := if br σ m = 0 then lu σ m else 0
def bth (σ : SG) (m : Nat) : Nat := if br σ m = 0 then fo σ m else 0
/-- the sags if just one breathes in, by its best phase -/
def la (σ : SG) (p i : Nat) : Int := mnN (fun s => FF σ p (fun j => (forS σ (sit σ p) : Int) - dl σ (sit σ p) i s j)) (lP σ (mb (sit σ p) i) + 1)
def Fz (σ : SG) (p : Nat) : Int := FF σ p (fun _ => (forS σ (sit σ p) : Int))
def tc (σ : SG) (p : Nat) : Nat → Nat → Int
  | 0, _ => 0
  | q + 1, i => tc σ p q (i + 1) + la σ p i - Fz σ p
theorem la_le (σ : SG) (p i v : Nat) : la σ p i ≤ FF σ p (fun j => (forS σ (sit σ p) : Int) - dl σ (sit σ p) i (dg σ p i v) j) := by
  have hd := dig_le σ (sit σ p) (nS σ p) i v
  unfold la
  by_cases hb : br σ (mb (sit σ p) i) = 0
  · refine mnN_le _ _ (dg σ p i v) ?_
    rw [lP, if_pos hb]
    unfold dg
    omega
  · have e : (fun j => (forS σ (sit σ p) : Int) - dl σ (sit σ p) i (dg σ p i v) j) = (fun j => (forS σ (sit σ p) : Int) - dl σ (sit σ p) i 0 j) := by
      funext j
      rw [dl, dl, if_neg (fun q => hb q.2), if_neg (fun q => hb q.2)]
    rw [e]
    exact mnN_le _ _ 0 (by omega)
theorem VV_ge (σ : SG) (p v : Nat) : ∀ q one, one + q = nS σ p → FF σ p (WW σ p one v) + tc σ p q one ≤ VV σ p v
  | 0, one, h => by
    rw [VV, ← h, tc]
    simp
  | q + 1, one, h => by
    have i1 := VV_ge σ p v q (one + 1) (by omega)
    have i2 := la_le σ p one v
    have i3 := smA_four (c := rm σ) (by omega) (dnS σ p) (fun _ => (forS σ (sit σ p) : Int)) (fun j => smf (fun i => dl σ (sit σ p) i (dg σ p i v) j) one) (fun j => dl σ (sit σ p) one (dg σ p one v) j) (fun j => smf_nn (fun i => dl_nn _ _ _ _ _) _) (fun j => dl_nn _ _ _ _ _) (nB σ)
    have e1 : (fun j => (forS σ (sit σ p) : Int) - smf (fun i => dl σ (sit σ p) i (dg σ p i v) j) one) = WW σ p one v := rfl
    have e2 : (fun j => (forS σ (sit σ p) : Int) - smf (fun i => dl σ (sit σ p) i (dg σ p i v) j) one - dl σ (sit σ p) one (dg σ p one v) j) = WW σ p (one + 1) v := by
      funext j
      rw [WW, smf]
      omega
    rw [e1, e2] at i3
    rw [tc]
    unfold Fz
    unfold FF at i1 i2 ⊢
    omega
end PHS
