/-! Math, and Mass: the wind, and how a pipe plays by it -/
section MATHS
variable {hi : HI} {hl : HL}
theorem ct_MT_min {a b : Int} (d : Nat) (ha : inR a) (hb : inR b) : Ct M_MT_min d [.int (zI a), .int (zI b)] hi hl (ans (zI (min a b)) hi hl) := by
  refine ct_intro (lv := [_, _]) (by decide +kernel) (Nat.le_of_ble_eq_true rfl) rfl ?_
  refine wp_iload_n d_MT_min_0 rfl ?_
  refine wp_iload_n d_MT_min_1 rfl ?_
  refine wz_icmp_gt (tgt := 9) d_MT_min_2 (by decide) (by omega) (by omega) (fun h2 => ?_) (fun h2 => ?_)
  · refine wp_iload_n d_MT_min_9 rfl ?_
    exact wp_iret d_MT_min_10 (Or.inl rfl) (ans_of (by rw [Int.min_eq_right (by omega)]))
  · refine wp_iload_n d_MT_min_5 rfl ?_
    refine wp_goto (tgt := 10) d_MT_min_6 (by decide) ?_
    exact wp_iret d_MT_min_10 (Or.inl rfl) (ans_of (by rw [Int.min_eq_left (by omega)]))
theorem xor_sign (x y : Int32) : 0 ≤ x ^^^ y ↔ (0 ≤ x.toInt ↔ 0 ≤ y.toInt) := by
  rw [Int32.le_iff_toInt_le]
  have h : ∀ z : Int32, z.toBitVec.msb = decide (z.toInt < 0) := fun z => BitVec.msb_eq_toInt
  have h1 : (x ^^^ y).toBitVec.msb = (x.toBitVec.msb ^^ y.toBitVec.msb) := by rw [Int32.toBitVec_xor, BitVec.msb_xor]
  rw [h, h, h] at h1
  have h0 : (0 : Int32).toInt = 0 := rfl
  rw [h0]
  by_cases a : x.toInt < 0 <;> by_cases b : y.toInt < 0 <;> simp [a, b] at h1 <;> omega
theorem ct_MT_floorMod {a b : Int} (d : Nat) (ha : inR a) (hm : -2147483648 < a) (hb : inR b) (h : 0 < b) : Ct M_MT_floorMod d [.int (zI a), .int (zI b)] hi hl (ans (zI (a % b)) hi hl) := by
  have hx : 0 ≤ zI a ^^^ zI b ↔ 0 ≤ a := by
    rw [xor_sign, zI_toInt ha, zI_toInt hb]
    omega
  have h1 := Int.emod_nonneg a (show b ≠ 0 by omega)
  have h2 := Int.emod_lt_of_pos a h
  have hT : a.tmod b = if 0 ≤ a ∨ a % b = 0 then a % b else a % b - b := by
    rw [Int.tmod_eq_emod]
    by_cases q : 0 ≤ a ∨ b ∣ a
    · rw [if_pos q, if_pos (q.imp id Int.emod_eq_zero_of_dvd)]
      omega
    · rw [if_neg q, if_neg (fun z => q (z.imp id Int.dvd_of_emod_eq_zero))]
      omega
  refine ct_intro (lv := [_, _, _]) (by decide +kernel) (Nat.le_of_ble_eq_true rfl) rfl ?_
  refine wp_iload_n d_MT_floorMod_0 rfl ?_
  refine wp_iload_n d_MT_floorMod_1 rfl ?_
  refine wz_iremT d_MT_floorMod_2 ha hm hb h ?_
  refine wp_istore_n (lv' := [_, _, _]) d_MT_floorMod_3 (by decide) rfl ?_
  refine wp_iload_n d_MT_floorMod_4 rfl ?_
  refine wp_iload_n d_MT_floorMod_5 rfl ?_
  refine wp_ixor d_MT_floorMod_6 ?_
  refine wp_if_ge (tgt := 18) d_MT_floorMod_7 (by decide) (fun h7 => ?_) (fun h7 => ?_)
  · refine wp_iload_n d_MT_floorMod_18 rfl ?_
    exact wp_iret d_MT_floorMod_19 (Or.inl rfl) (ans_of (by rw [hT, if_pos (Or.inl (hx.mp h7))]))
  · have hneg : ¬ 0 ≤ a := fun q => h7 (hx.mpr q)
    have hr : inR (a.tmod b) := by
      rw [hT]
      split <;> omega
    refine wp_iload_n d_MT_floorMod_10 rfl ?_
    refine wz_if_eq (tgt := 18) d_MT_floorMod_11 (by decide) hr (fun h11 => ?_) (fun h11 => ?_)
    · refine wp_iload_n d_MT_floorMod_18 rfl ?_
      have e : a.tmod b = a % b := by
        rw [hT] at h11 ⊢
        split at h11
        · rw [if_pos (by assumption)]
        · omega
      exact wp_iret d_MT_floorMod_19 (Or.inl rfl) (ans_of (by rw [e]))
    · refine wp_iload_n d_MT_floorMod_14 rfl ?_
      refine wp_iload_n d_MT_floorMod_15 rfl ?_
      refine wz_iadd d_MT_floorMod_16 ?_
      have e : a.tmod b + b = a % b := by
        rw [hT] at h11 ⊢
        split at h11
        · omega
        · rw [if_neg (by assumption)]
          omega
      exact wp_iret d_MT_floorMod_17 (Or.inl rfl) (ans_of (by rw [e]))
end MATHS
/-! how a pipe plays: c the store's room, dn what it drinks at each beat (0: silent), w the wind -/
def stA (c : Int) (dn w : Nat → Int) : Nat → Int
  | 0 => 0
  | j + 1 => max 0 (min (stA c dn w j + w j - dn j) c)
def lfA (c : Int) (dn w : Nat → Int) (j : Nat) : Int := stA c dn w j + w j - dn j
def msA (c : Int) (dn w : Nat → Int) (j : Nat) : Int := max 0 (-(lfA c dn w j))
def smA (c : Int) (dn w : Nat → Int) : Nat → Int
  | 0 => 0
  | n + 1 => smA c dn w n + msA c dn w n
theorem stA_b {c : Int} (hc : 0 ≤ c) (dn w : Nat → Int) : ∀ j, 0 ≤ stA c dn w j ∧ stA c dn w j ≤ c
  | 0 => by simp [stA, hc]
  | j + 1 => by rw [stA]; omega
theorem msA_b {c : Int} (hc : 0 ≤ c) {dn w : Nat → Int} {j : Nat} (hd : 0 ≤ dn j ∧ dn j ≤ 9) (hw : -2000 ≤ w j ∧ w j ≤ 2000) : 0 ≤ msA c dn w j ∧ msA c dn w j ≤ 2009 := by
  have := stA_b hc dn w j
  unfold msA lfA
  omega
theorem smA_b {c : Int} (hc : 0 ≤ c) {dn w : Nat → Int} : ∀ n, (∀ j, j < n → (0 ≤ dn j ∧ dn j ≤ 9) ∧ (-2000 ≤ w j ∧ w j ≤ 2000)) → 0 ≤ smA c dn w n ∧ smA c dn w n ≤ 2009 * n
  | 0, _ => by simp [smA]
  | n + 1, h => by
    have h1 := smA_b hc n (fun j hj => h j (by omega))
    have h2 := msA_b hc (h n (by omega)).1 (h n (by omega)).2
    rw [smA]
    omega
theorem stA_cong {c : Int} {dn w w' : Nat → Int} : ∀ j, (∀ i, i < j → w i = w' i) → stA c dn w j = stA c dn w' j
  | 0, _ => rfl
  | j + 1, h => by rw [stA, stA, stA_cong j (fun i hi => h i (by omega)), h j (by omega)]
theorem msA_cong {c : Int} {dn w w' : Nat → Int} (j : Nat) (h : ∀ i, i < j + 1 → w i = w' i) : msA c dn w j = msA c dn w' j := by
  rw [msA, msA, lfA, lfA, stA_cong j (fun i hi => h i (by omega)), h j (by omega)]
theorem smA_cong {c : Int} {dn w w' : Nat → Int} : ∀ n, (∀ i, i < n → w i = w' i) → smA c dn w n = smA c dn w' n
  | 0, _ => rfl
  | n + 1, h => by rw [smA, smA, smA_cong n (fun i hi => h i (by omega)), msA_cong n h]
/-- what the pipe p drinks at the beat j -/
def dnS (σ : SG) (p j : Nat) : Int := if (sn σ j).testBit p = true then (dr σ p : Int) else 0
/-- what the first n people of a set give at the beat j, by k late -/
def airN (σ : SG) (set k j : Nat) : Nat → Nat
  | 0 => 0
  | n + 1 => airN σ set k j n + (if set.testBit n = true then gv σ n (j + k) else 0)
def airS (σ : SG) (set k j : Nat) : Nat := airN σ set k j (nM σ)
def wnd (σ : SG) (set k : Nat) (j : Nat) : Int := (airS σ set k j : Int)
/-- the sags of a pipe by a set of people, together -/
def sag (σ : SG) (p set k : Nat) : Int := smA (rm σ) (dnS σ p) (wnd σ set k) (nB σ)
section MASS
variable {σ : SG} {hi : HI} {hl : HL}
theorem gv_le (ok : Ok σ) {m t : Nat} (hm : m < nM σ) : gv σ m t ≤ 3 := by
  have := ok.m hm
  unfold gv
  split <;> omega
theorem airN_le (ok : Ok σ) (set k j : Nat) : ∀ n, n ≤ nM σ → airN σ set k j n ≤ 3 * n
  | 0, _ => by simp [airN]
  | n + 1, h => by
    have h1 := airN_le ok set k j n (by omega)
    have h2 := gv_le ok (m := n) (t := j + k) (by omega)
    rw [airN]
    split <;> omega
theorem dnS_b (ok : Ok σ) {p : Nat} (hp : p < nP σ) (j : Nat) : 0 ≤ dnS σ p j ∧ dnS σ p j ≤ 9 := by
  have := ok.dr hp
  unfold dnS
  split <;> omega
theorem wnd_b (ok : Ok σ) (set k j : Nat) : 0 ≤ wnd σ set k j ∧ wnd σ set k j ≤ 36 := by
  have h1 := airN_le ok set k j (nM σ) (Nat.le_refl _)
  have := ok.nums
  unfold wnd airS
  omega
theorem ct_MA_fill {x : Int32} (d : Nat) (ok : Ok σ) (hv : IV σ hi) : Ct M_MA_fill d [.ref 24, .int x] hi hl (fun r hi' hl' => r = none ∧ hl = hl' ∧ (∀ c, c ≠ 25 → hi' c = hi c) ∧ ∀ j, j < nB σ → hi' 25 j = x) := by
  have hn := ok.nums
  have loop : ∀ k i, i + k = nB σ → ∀ h : HI, (∀ c, c ≠ 25 → h c = hi c) → (∀ j, j < i → h 25 j = x) → Wp M_MA_fill d (fun r hi' hl' => r = none ∧ hl = hl' ∧ (∀ c, c ≠ 25 → hi' c = hi c) ∧ ∀ j, j < nB σ → hi' 25 j = x) 2 [some (.ref 24), some (.int x), some (.int (zI i))] [] h hl := by
    intro k
    induction k with
    | zero =>
      intro i hik h he hw
      have hv' : IV σ h := hv.keep (fun c _ _ => he c (by omega))
      refine wp_iload_n d_MA_fill_2 rfl ?_
      refine wp_aload_n d_MA_fill_3 rfl ?_
      refine wp_getR d_MA_fill_4 f_MA_9 (by decide) rfl rfl ?_
      refine wz_getI (hv'.nb) d_MA_fill_7 f_MA_39 (by decide) rfl rfl ?_
      refine wz_icmp_ge (tgt := 26) d_MA_fill_10 (by decide) (by omega) (by omega) (fun h10 => ?_) (fun h10 => ?_)
      · exact wp_vret d_MA_fill_26 rfl (⟨rfl, rfl, he, fun j hj => hw j (by omega)⟩)
      · exact absurd h10 (by omega)
    | succ k ih =>
      intro i hik h he hw
      have hv' : IV σ h := hv.keep (fun c _ _ => he c (by omega))
      refine wp_iload_n d_MA_fill_2 rfl ?_
      refine wp_aload_n d_MA_fill_3 rfl ?_
      refine wp_getR d_MA_fill_4 f_MA_9 (by decide) rfl rfl ?_
      refine wz_getI (hv'.nb) d_MA_fill_7 f_MA_39 (by decide) rfl rfl ?_
      refine wz_icmp_ge (tgt := 26) d_MA_fill_10 (by decide) (by omega) (by omega) (fun h10 => ?_) (fun h10 => ?_)
      · exact absurd h10 (by omega)
      · refine wp_aload_n d_MA_fill_13 rfl ?_
        refine wp_getR d_MA_fill_14 f_MA_19 (by decide) rfl rfl ?_
        refine wp_iload_n d_MA_fill_17 rfl ?_
        refine wp_iload_n d_MA_fill_18 rfl ?_
        refine wz_iast (rfl) ((by omega)) d_MA_fill_19 (by decide) rfl (by decide) ?_
        refine wz_iinc (lv' := [_, _, _]) d_MA_fill_20 rfl (by decide) rfl ?_
        refine wp_goto (tgt := 2) d_MA_fill_23 (by decide) ?_
        refine ih (i + 1) (by omega) _ (fun c hc => by rw [setI_ne _ _ _ hc, he c hc]) (fun j hj => ?_)
        by_cases e : j = i
        · rw [e, setI_at]
        · rw [setI_at_ne _ _ _ e]; exact hw j (by omega)
  refine ct_intro (lv := [_, _, _]) (by decide +kernel) (Nat.le_of_ble_eq_true rfl) rfl ?_
  refine wp_iconst (v := zI 0) d_MA_fill_0 rfl ?_
  refine wp_istore_n (lv' := [_, _, _]) d_MA_fill_1 (by decide) rfl ?_
  exact loop (nB σ) 0 (by omega) hi (fun _ _ => rfl) (fun j hj => absurd hj (by omega))
theorem ct_MA_gather {set k : Nat} (ok : Ok σ) (hp : PV σ hi) (hv : IV σ hi) (hs : set < 2 ^ 12) (hk : k ≤ 200) : Ct M_MA_gather 3 [.ref 24, .int (zI set), .int (zI k)] hi hl (fun r hi' hl' => r = none ∧ hl = hl' ∧ (∀ c, c ≠ 25 → hi' c = hi c) ∧ ∀ j, j < nB σ → hi' 25 j = zI (wnd σ set k j)) := by
  have hn := ok.nums
  have inner : ∀ i, i < nM σ → set.testBit i = true → (∀ h : HI, (∀ c, c ≠ 25 → h c = hi c) → (∀ j, j < nB σ → h 25 j = zI (airN σ set k j (i + 1))) → Wp M_MA_gather 3 (fun r hi' hl' => r = none ∧ hl = hl' ∧ (∀ c, c ≠ 25 → hi' c = hi c) ∧ ∀ j, j < nB σ → hi' 25 j = zI (wnd σ set k j)) 72 [some (.ref 24), some (.int (zI set)), some (.int (zI k)), some (.int (zI i)), none] [] h hl) →
      ∀ q j, j + q = nB σ → ∀ h : HI, (∀ c, c ≠ 25 → h c = hi c) → (∀ a, a < nB σ → h 25 a = zI (airN σ set k a (if a < j then i + 1 else i))) → Wp M_MA_gather 3 (fun r hi' hl' => r = none ∧ hl = hl' ∧ (∀ c, c ≠ 25 → hi' c = hi c) ∧ ∀ j, j < nB σ → hi' 25 j = zI (wnd σ set k j)) 32 [some (.ref 24), some (.int (zI set)), some (.int (zI k)), some (.int (zI i)), some (.int (zI j))] [] h hl := by
    intro i hi' hbit hexit q
    induction q with
    | zero =>
      intro j hjq h he hw
      have hv' : IV σ h := hv.keep (fun c _ _ => he c (by omega))
      refine wp_iload d_MA_gather_32 rfl ?_
      refine wp_aload_n d_MA_gather_34 rfl ?_
      refine wp_getR d_MA_gather_35 f_MA_9 (by decide) rfl rfl ?_
      refine wz_getI (hv'.nb) d_MA_gather_38 f_MA_39 (by decide) rfl rfl ?_
      refine wz_icmp_ge (tgt := 72) d_MA_gather_41 (by decide) (by omega) (by omega) (fun h41 => ?_) (fun h41 => ?_)
      · refine wp_drop (lv' := [some _, some _, some _, some _, none]) ⟨rfl, rfl, rfl, rfl, trivial⟩ ?_
        refine hexit h he (fun a ha => ?_)
        rw [hw a ha, if_pos (by omega)]
      · exact absurd h41 (by omega)
    | succ q ih =>
      intro j hjq h he hw
      have hv' : IV σ h := hv.keep (fun c _ _ => he c (by omega))
      have hp' : PV σ h := hp.keep (fun c _ _ => he c (by omega))
      have hwj : h 25 j = zI (airN σ set k j i) := by rw [hw j (by omega), if_neg (by omega)]
      refine wp_iload d_MA_gather_32 rfl ?_
      refine wp_aload_n d_MA_gather_34 rfl ?_
      refine wp_getR d_MA_gather_35 f_MA_9 (by decide) rfl rfl ?_
      refine wz_getI (hv'.nb) d_MA_gather_38 f_MA_39 (by decide) rfl rfl ?_
      refine wz_icmp_ge (tgt := 72) d_MA_gather_41 (by decide) (by omega) (by omega) (fun h41 => ?_) (fun h41 => ?_)
      · exact absurd h41 (by omega)
      · refine wp_aload_n d_MA_gather_44 rfl ?_
        refine wp_getR d_MA_gather_45 f_MA_19 (by decide) rfl rfl ?_
        refine wp_iload d_MA_gather_48 rfl ?_
        refine wp_dup2 d_MA_gather_50 rfl rfl ?_
        refine wz_iald (hwj) (rfl) ((by omega)) d_MA_gather_51 (by decide) rfl (by decide) ?_
        refine wp_aload_n d_MA_gather_52 rfl ?_
        refine wp_getR d_MA_gather_53 f_MA_15 (by decide) rfl rfl ?_
        refine wp_iload_n d_MA_gather_56 rfl ?_
        refine wp_iload d_MA_gather_57 rfl ?_
        refine wp_iload_n d_MA_gather_59 rfl ?_
        refine wz_iadd d_MA_gather_60 ?_
        refine wp_callV (ct_PE_givenAt (m := i) (t := j + k) 0 ok hp' hi' (by omega)) d_MA_gather_61 k_MA_44 (by decide) rfl rfl rfl rfl (Nat.le_of_ble_eq_true rfl) (by omega) ?_
        rintro _ _ _ ⟨rfl, rfl, rfl⟩
        refine wz_iadd d_MA_gather_64 ?_
        refine wz_iast (rfl) ((by omega)) d_MA_gather_65 (by decide) rfl (by decide) ?_
        refine wz_iinc (lv' := [_, _, _, _, _]) d_MA_gather_66 rfl (by decide) rfl ?_
        refine wp_goto (tgt := 32) d_MA_gather_69 (by decide) ?_
        refine ih (j + 1) (by omega) _ (fun c hc => by rw [setI_ne _ _ _ hc, he c hc]) (fun a ha => ?_)
        by_cases e : a = j
        · subst e
          rw [setI_at, if_pos (by omega), airN, if_pos hbit]
          rfl
        · rw [setI_at_ne _ _ _ e, hw a ha]
          by_cases hlt : a < j
          · rw [if_pos hlt, if_pos (by omega)]
          · rw [if_neg hlt, if_neg (by omega)]
  have outer : ∀ q i, i + q = nM σ → ∀ h : HI, (∀ c, c ≠ 25 → h c = hi c) → (∀ j, j < nB σ → h 25 j = zI (airN σ set k j i)) → Wp M_MA_gather 3 (fun r hi' hl' => r = none ∧ hl = hl' ∧ (∀ c, c ≠ 25 → hi' c = hi c) ∧ ∀ j, j < nB σ → hi' 25 j = zI (wnd σ set k j)) 7 [some (.ref 24), some (.int (zI set)), some (.int (zI k)), some (.int (zI i)), none] [] h hl := by
    intro q
    induction q with
    | zero =>
      intro i hiq h he hw
      have hp' : PV σ h := hp.keep (fun c _ _ => he c (by omega))
      refine wp_iload_n d_MA_gather_7 rfl ?_
      refine wp_aload_n d_MA_gather_8 rfl ?_
      refine wp_getR d_MA_gather_9 f_MA_15 (by decide) rfl rfl ?_
      refine wz_getI (hp'.n) d_MA_gather_12 f_MA_33 (by decide) rfl rfl ?_
      refine wz_icmp_ge (tgt := 78) d_MA_gather_15 (by decide) (by omega) (by omega) (fun h15 => ?_) (fun h15 => ?_)
      · exact wp_vret d_MA_gather_78 rfl (⟨rfl, rfl, he, fun j hj => by rw [hw j hj, wnd, airS, ← hiq]; rfl⟩)
      · exact absurd h15 (by omega)
    | succ q ih =>
      intro i hiq h he hw
      have hp' : PV σ h := hp.keep (fun c _ _ => he c (by omega))
      refine wp_iload_n d_MA_gather_7 rfl ?_
      refine wp_aload_n d_MA_gather_8 rfl ?_
      refine wp_getR d_MA_gather_9 f_MA_15 (by decide) rfl rfl ?_
      refine wz_getI (hp'.n) d_MA_gather_12 f_MA_33 (by decide) rfl rfl ?_
      refine wz_icmp_ge (tgt := 78) d_MA_gather_15 (by decide) (by omega) (by omega) (fun h15 => ?_) (fun h15 => ?_)
      · exact absurd h15 (by omega)
      · refine wp_iload_n d_MA_gather_18 rfl ?_
        refine wp_iload_n d_MA_gather_19 rfl ?_
        refine wp_ishr d_MA_gather_20 ?_
        refine wp_iconst (v := zI 1) d_MA_gather_21 rfl ?_
        refine wp_iand d_MA_gather_22 ?_
        rw [zI_bit (by omega) (by omega)]
        refine wz_if_neB (tgt := 29) d_MA_gather_23 (by decide) (fun h23 => ?_) (fun h23 => ?_)
        · refine wp_iconst (v := zI 0) d_MA_gather_29 rfl ?_
          refine wp_istore (lv' := [_, _, _, _, _]) d_MA_gather_30 (by decide) rfl ?_
          refine inner i (by omega) h23 (fun h' he' hw' => ?_) (nB σ) 0 (by omega) h he (fun a ha => by rw [hw a ha, if_neg (by omega)])
          refine wz_iinc (lv' := [_, _, _, _, _]) d_MA_gather_72 rfl (by decide) rfl ?_
          refine wp_goto (tgt := 7) d_MA_gather_75 (by decide) ?_
          exact ih (i + 1) (by omega) h' he' hw'
        · refine wp_goto (tgt := 72) d_MA_gather_26 (by decide) ?_
          refine wz_iinc (lv' := [_, _, _, _, _]) d_MA_gather_72 rfl (by decide) rfl ?_
          refine wp_goto (tgt := 7) d_MA_gather_75 (by decide) ?_
          refine ih (i + 1) (by omega) h he (fun j hj => ?_)
          rw [hw j hj, airN, if_neg h23, Nat.add_zero]
  refine ct_intro (lv := [_, _, _, _, _]) (by decide +kernel) (Nat.le_of_ble_eq_true rfl) rfl ?_
  refine wp_aload_n d_MA_gather_0 rfl ?_
  refine wp_iconst (v := zI 0) d_MA_gather_1 rfl ?_
  refine wp_callV (ct_MA_fill 0 ok hv) d_MA_gather_2 k_MA_29 (by decide) rfl rfl rfl rfl (Nat.le_of_ble_eq_true rfl) (by omega) ?_
  rintro _ h _ ⟨rfl, rfl, he, hw⟩
  refine wp_iconst (v := zI 0) d_MA_gather_5 rfl ?_
  refine wp_istore_n (lv' := [_, _, _, _, _]) d_MA_gather_6 (by decide) rfl ?_
  exact outer (nM σ) 0 (by omega) h he (fun j hj => hw j hj)
theorem ct_MA_blow {p : Nat} {w : Nat → Int} (ok : Ok σ) (hp : PV σ hi) (hv : IV σ hi) (hpp : p < nP σ) (hw : ∀ j, j < nB σ → hi 25 j = zI (w j)) (hwb : ∀ j, j < nB σ → -2000 ≤ w j ∧ w j ≤ 2000) : Ct M_MA_blow 1 [.ref 24, .int (zI p)] hi hl (fun r hi' hl' => r = some (.int (zI (smA (rm σ) (dnS σ p) w (nB σ)))) ∧ hl = hl' ∧ (∀ c, c ≠ 26 → c ≠ 27 → hi' c = hi c) ∧ (∀ j, j < nB σ → hi' 26 j = zI (stA (rm σ) (dnS σ p) w (j + 1))) ∧ (∀ j, j < nB σ → hi' 27 j = zI (msA (rm σ) (dnS σ p) w j))) := by
  have hn := ok.nums
  have hr0 : (0 : Int) ≤ (rm σ : Int) := by omega
  have loop : ∀ k i, i + k = nB σ → ∀ h : HI, (∀ c, c ≠ 26 → c ≠ 27 → h c = hi c) → (∀ j, j < i → h 26 j = zI (stA (rm σ) (dnS σ p) w (j + 1))) → (∀ j, j < i → h 27 j = zI (msA (rm σ) (dnS σ p) w j)) →
      Wp M_MA_blow 1 (fun r hi' hl' => r = some (.int (zI (smA (rm σ) (dnS σ p) w (nB σ)))) ∧ hl = hl' ∧ (∀ c, c ≠ 26 → c ≠ 27 → hi' c = hi c) ∧ (∀ j, j < nB σ → hi' 26 j = zI (stA (rm σ) (dnS σ p) w (j + 1))) ∧ (∀ j, j < nB σ → hi' 27 j = zI (msA (rm σ) (dnS σ p) w j))) 7 [some (.ref 24), some (.int (zI p)), some (.int (zI (stA (rm σ) (dnS σ p) w i))), some (.int (zI (smA (rm σ) (dnS σ p) w i))), some (.int (zI i)), none] [] h hl := by
    intro k
    induction k with
    | zero =>
      intro i hik h he h26 h27
      have hv' : IV σ h := hv.keep (fun c _ _ => he c (by omega) (by omega))
      refine wp_iload d_MA_blow_7 rfl ?_
      refine wp_aload_n d_MA_blow_9 rfl ?_
      refine wp_getR d_MA_blow_10 f_MA_9 (by decide) rfl rfl ?_
      refine wz_getI (hv'.nb) d_MA_blow_13 f_MA_39 (by decide) rfl rfl ?_
      refine wz_icmp_ge (tgt := 112) d_MA_blow_16 (by decide) (by omega) (by omega) (fun h16 => ?_) (fun h16 => ?_)
      · refine wp_iload_n d_MA_blow_112 rfl ?_
        exact wp_iret d_MA_blow_113 (Or.inl rfl) (⟨by rw [← hik]; rfl, rfl, he, fun j hj => h26 j (by omega), fun j hj => h27 j (by omega)⟩)
      · exact absurd h16 (by omega)
    | succ k ih =>
      intro i hik h he h26 h27
      have hv' : IV σ h := hv.keep (fun c _ _ => he c (by omega) (by omega))
      have hp' : PV σ h := hp.keep (fun c _ _ => he c (by omega) (by omega))
      have hwi : h 25 i = zI (w i) := by rw [he 25 (by omega) (by omega)]; exact hw i (by omega)
      have b1 := stA_b hr0 (dnS σ p) w i
      have b2 := hwb i (by omega)
      have b3 := dnS_b ok hpp i
      have b4 := smA_b hr0 (dn := dnS σ p) (w := w) i (fun j hj => ⟨dnS_b ok hpp j, hwb j (by omega)⟩)
      have b5 := ok.dr hpp
      have b6 := msA_b hr0 b3 b2
      have tail : Wp M_MA_blow 1 (fun r hi' hl' => r = some (.int (zI (smA (rm σ) (dnS σ p) w (nB σ)))) ∧ hl = hl' ∧ (∀ c, c ≠ 26 → c ≠ 27 → hi' c = hi c) ∧ (∀ j, j < nB σ → hi' 26 j = zI (stA (rm σ) (dnS σ p) w (j + 1))) ∧ (∀ j, j < nB σ → hi' 27 j = zI (msA (rm σ) (dnS σ p) w j))) 57 [some (.ref 24), some (.int (zI p)), some (.int (zI (stA (rm σ) (dnS σ p) w i))), some (.int (zI (smA (rm σ) (dnS σ p) w i))), some (.int (zI i)), some (.int (zI (lfA (rm σ) (dnS σ p) w i)))] [] h hl := by
        have b7 : lfA (rm σ) (dnS σ p) w i = stA (rm σ) (dnS σ p) w i + w i - dnS σ p i := rfl
        refine wp_iconst (v := zI 0) d_MA_blow_57 rfl ?_
        refine wp_iload d_MA_blow_58 rfl ?_
        refine wp_aload_n d_MA_blow_60 rfl ?_
        refine wp_getR d_MA_blow_61 f_MA_15 (by decide) rfl rfl ?_
        refine wz_getI (hp'.room) d_MA_blow_64 f_MA_70 (by decide) rfl rfl ?_
        refine wp_callS (ct_MT_min (a := lfA (rm σ) (dnS σ p) w i) (b := rm σ) 0 (by omega) (by omega)) d_MA_blow_67 k_MA_73 rfl rfl (Nat.le_of_ble_eq_true rfl) (by omega) ?_
        rintro _ _ _ ⟨rfl, rfl, rfl⟩
        refine wp_callS (ct_MT_max (a := 0) (b := min (lfA (rm σ) (dnS σ p) w i) (rm σ)) 0 (by omega) (by omega)) d_MA_blow_70 k_MA_76 rfl rfl (Nat.le_of_ble_eq_true rfl) (by omega) ?_
        rintro _ _ _ ⟨rfl, rfl, rfl⟩
        refine wp_istore_n (lv' := [_, _, _, _, _, _]) d_MA_blow_73 (by decide) rfl ?_
        refine wp_aload_n d_MA_blow_74 rfl ?_
        refine wp_getR d_MA_blow_75 f_MA_23 (by decide) rfl rfl ?_
        refine wp_iload d_MA_blow_78 rfl ?_
        refine wp_iload_n d_MA_blow_80 rfl ?_
        refine wz_iast (rfl) ((by omega)) d_MA_blow_81 (by decide) rfl (by decide) ?_
        refine wp_aload_n d_MA_blow_82 rfl ?_
        refine wp_getR d_MA_blow_83 f_MA_26 (by decide) rfl rfl ?_
        refine wp_iload d_MA_blow_86 rfl ?_
        refine wp_iconst (v := zI 0) d_MA_blow_88 rfl ?_
        refine wp_iload d_MA_blow_89 rfl ?_
        refine wz_ineg d_MA_blow_91 ?_
        refine wp_callS (ct_MT_max (a := 0) (b := -(lfA (rm σ) (dnS σ p) w i)) 0 (by omega) (by omega)) d_MA_blow_92 k_MA_76 rfl rfl (Nat.le_of_ble_eq_true rfl) (by omega) ?_
        rintro _ _ _ ⟨rfl, rfl, rfl⟩
        refine wz_iast (rfl) ((by omega)) d_MA_blow_95 (by decide) rfl (by decide) ?_
        refine wp_iload_n d_MA_blow_96 rfl ?_
        refine wp_aload_n d_MA_blow_97 rfl ?_
        refine wp_getR d_MA_blow_98 f_MA_26 (by decide) rfl rfl ?_
        refine wp_iload d_MA_blow_101 rfl ?_
        refine wz_iald ((setI_at _ _ _ _)) (rfl) ((by omega)) d_MA_blow_103 (by decide) rfl (by decide) ?_
        refine wz_iadd d_MA_blow_104 ?_
        refine wp_istore_n (lv' := [_, _, _, _, _, _]) d_MA_blow_105 (by decide) rfl ?_
        refine wz_iinc (lv' := [_, _, _, _, _, _]) d_MA_blow_106 rfl (by decide) rfl ?_
        refine wp_goto (tgt := 7) d_MA_blow_109 (by decide) ?_
        refine wp_drop (lv' := [some _, some _, some _, some _, some _, none]) ⟨rfl, rfl, rfl, rfl, rfl, trivial⟩ ?_
        refine ih (i + 1) (by omega) _ (fun c hc1 hc2 => ?_) (fun j hj => ?_) (fun j hj => ?_)
        · rw [setI_ne _ _ _ hc2, setI_ne _ _ _ hc1, he c hc1 hc2]
        · rw [setI_ne _ _ _ (by decide)]
          by_cases e : j = i
          · rw [e, setI_at]; rfl
          · rw [setI_at_ne _ _ _ e]; exact h26 j (by omega)
        · by_cases e : j = i
          · rw [e, setI_at]; rfl
          · rw [setI_at_ne _ _ _ e, setI_ne _ _ _ (by decide)]; exact h27 j (by omega)
      refine wp_iload d_MA_blow_7 rfl ?_
      refine wp_aload_n d_MA_blow_9 rfl ?_
      refine wp_getR d_MA_blow_10 f_MA_9 (by decide) rfl rfl ?_
      refine wz_getI (hv'.nb) d_MA_blow_13 f_MA_39 (by decide) rfl rfl ?_
      refine wz_icmp_ge (tgt := 112) d_MA_blow_16 (by decide) (by omega) (by omega) (fun h16 => ?_) (fun h16 => ?_)
      · exact absurd h16 (by omega)
      · refine wp_iload_n d_MA_blow_19 rfl ?_
        refine wp_aload_n d_MA_blow_20 rfl ?_
        refine wp_getR d_MA_blow_21 f_MA_19 (by decide) rfl rfl ?_
        refine wp_iload d_MA_blow_24 rfl ?_
        refine wz_iald (hwi) (rfl) ((by omega)) d_MA_blow_26 (by decide) rfl (by decide) ?_
        refine wz_iadd d_MA_blow_27 ?_
        refine wp_istore (lv' := [_, _, _, _, _, _]) d_MA_blow_28 (by decide) rfl ?_
        refine wp_aload_n d_MA_blow_30 rfl ?_
        refine wp_getR d_MA_blow_31 f_MA_9 (by decide) rfl rfl ?_
        refine wp_iload_n d_MA_blow_34 rfl ?_
        refine wp_iload d_MA_blow_35 rfl ?_
        refine wp_callV (ct_PI_isSounding (p := p) (j := i) 0 ok hv' (by omega) (by omega)) d_MA_blow_37 k_MA_63 (by decide) rfl rfl rfl rfl (Nat.le_of_ble_eq_true rfl) (by omega) ?_
        rintro _ _ _ ⟨rfl, rfl, rfl⟩
        refine wz_if_eqB (tgt := 57) d_MA_blow_40 (by decide) (fun h40 => ?_) (fun h40 => ?_)
        · have e : stA (rm σ) (dnS σ p) w i + w i = lfA (rm σ) (dnS σ p) w i := by rw [lfA, dnS, if_neg h40]; omega
          rw [e]
          exact tail
        · refine wp_iload d_MA_blow_43 rfl ?_
          refine wp_aload_n d_MA_blow_45 rfl ?_
          refine wp_getR d_MA_blow_46 f_MA_9 (by decide) rfl rfl ?_
          refine wp_getR d_MA_blow_49 f_MA_67 (by decide) rfl rfl ?_
          refine wp_iload_n d_MA_blow_52 rfl ?_
          refine wz_iald (hv'.dr hpp) (rfl) ((by omega)) d_MA_blow_53 (by decide) rfl (by decide) ?_
          refine wz_isub d_MA_blow_54 ?_
          refine wp_istore (lv' := [_, _, _, _, _, _]) d_MA_blow_55 (by decide) rfl ?_
          have e : stA (rm σ) (dnS σ p) w i + w i - (dr σ p : Int) = lfA (rm σ) (dnS σ p) w i := by rw [lfA, dnS, if_pos h40]
          rw [e]
          exact tail
  refine ct_intro (lv := [_, _, _, _, _, _]) (by decide +kernel) (Nat.le_of_ble_eq_true rfl) rfl ?_
  refine wp_iconst (v := zI 0) d_MA_blow_0 rfl ?_
  refine wp_istore_n (lv' := [_, _, _, _, _, _]) d_MA_blow_1 (by decide) rfl ?_
  refine wp_iconst (v := zI 0) d_MA_blow_2 rfl ?_
  refine wp_istore_n (lv' := [_, _, _, _, _, _]) d_MA_blow_3 (by decide) rfl ?_
  refine wp_iconst (v := zI 0) d_MA_blow_4 rfl ?_
  refine wp_istore (lv' := [_, _, _, _, _, _]) d_MA_blow_5 (by decide) rfl ?_
  exact loop (nB σ) 0 (by omega) hi (fun _ _ _ => rfl) (fun j hj => absurd hj (by omega)) (fun j hj => absurd hj (by omega))
end MASS
