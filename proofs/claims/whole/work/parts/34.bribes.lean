/-! BRIBES: the class's way -/
section BRC
variable {σ : SG} {hi : HI} {hl : HL} {p : Nat} {a b : Int}
theorem high_bit {k set a i : Nat} (hd : 2 ^ k ∣ set) (h1 : set ≤ a) (h2 : a < set + 2 ^ k) (hi : k ≤ i) : a.testBit i = set.testBit i := by
  obtain ⟨t, rfl⟩ := hd
  have hp := Nat.two_pow_pos k
  have e1 : a / 2 ^ k = t := by
    rw [Nat.div_eq_iff hp]
    rw [Nat.mul_comm] at h1 h2
    omega
  have e2 : 2 ^ k * t / 2 ^ k = t := Nat.mul_div_cancel_left t hp
  have e3 : ∀ x : Nat, x / 2 ^ i = x / 2 ^ k / 2 ^ (i - k) := fun x => by rw [Nat.div_div_eq_div_mul, ← Nat.pow_add, show k + (i - k) = i by omega]
  rw [Nat.testBit_eq_decide_div_mod_eq, Nat.testBit_eq_decide_div_mod_eq, e3, e3 (2 ^ k * t), e1, e2]
theorem low_bit {k set i : Nat} (hd : 2 ^ k ∣ set) (hi : i < k) : set.testBit i = false := by
  have h := Nat.testBit_mod_two_pow set k i
  rw [Nat.mod_eq_zero_of_dvd hd, Nat.zero_testBit] at h
  simp [hi] at h
  exact h
theorem rngB {k set a m' : Nat} (hd : 2 ^ k ∣ set) (h1 : set ≤ a) (h2 : a < set + 2 ^ k) (he : ∀ i, m' ≤ i → i < k → ¬ (es σ p).testBit i = true) (ha : a < 4096) (hs : mns a (es σ p) = 0) : a < set + 2 ^ m' := by
  obtain ⟨t, rfl⟩ := hd
  have e : a % 2 ^ k = a - 2 ^ k * t := by
    obtain ⟨r, hr⟩ : ∃ r, a = 2 ^ k * t + r := ⟨a - 2 ^ k * t, by omega⟩
    rw [hr, Nat.mul_add_mod, Nat.mod_eq_of_lt (by omega)]
    omega
  have : a % 2 ^ k < 2 ^ m' := Nat.lt_pow_two_of_testBit _ (fun i hi => by
    rw [Nat.testBit_mod_two_pow]
    by_cases z : i < k
    · cases q : a.testBit i with
      | false => simp
      | true => exact absurd (sub_of ha hs q) (he i hi z)
    · simp [z])
  omega
theorem cnt_sub {S A : Nat} (h : ∀ i, S.testBit i = true → A.testBit i = true) : ∀ n, cnt S n ≤ cnt A n
  | 0 => Nat.le_refl _
  | n + 1 => by
    have ih := cnt_sub h n
    rw [cnt, cnt]
    by_cases b : S.testBit n = true
    · rw [if_pos b, if_pos (h n b)]; omega
    · rw [if_neg b]; omega
theorem or_add {m set : Nat} (hd : 2 ^ (m + 1) ∣ set) : set ||| 2 ^ m = set + 2 ^ m := by
  obtain ⟨t, rfl⟩ := hd
  exact (Nat.two_pow_add_eq_or_of_lt (by rw [Nat.pow_succ]; have := Nat.two_pow_pos m; omega) t).symm
theorem smf_one {f g : Nat → Int} {m : Nat} {x : Int} (h : ∀ i, i ≠ m → f i = g i) (hm : f m = g m + x) : ∀ n, smf f n = smf g n + (if m < n then x else 0)
  | 0 => by simp [smf]
  | n + 1 => by
    rw [smf, smf, smf_one h hm n]
    by_cases z : n = m
    · subst z
      rw [if_neg (by omega), if_pos (by omega), hm]
      omega
    · rw [h n z]
      by_cases y : m < n
      · rw [if_pos y, if_pos (by omega)]; omega
      · rw [if_neg y, if_neg (by omega)]; omega
theorem WB_skip {m k set : Nat} (hmk : m ≤ k) (he : ∀ i, m ≤ i → i < k → ¬ (es σ p).testBit i = true) : WB σ p m set = WB σ p k set := by
  funext j
  unfold WB
  congr 1
  refine smf_cong _ (fun i _ => ?_)
  unfold dW
  by_cases z : k ≤ i
  · simp [z, show m ≤ i by omega]
  · by_cases y : m ≤ i
    · have := he i y (by omega)
      simp [this]
    · simp [y, z]
theorem WB_not {m set : Nat} (hm : m < nM σ) (he : (es σ p).testBit m = true) (hb : set.testBit m = false) (j : Nat) : WB σ p m set j = WB σ p (m + 1) set j - dm σ m j := by
  have h := smf_one (f := dW σ p m set j) (g := dW σ p (m + 1) set j) (m := m) (x := dm σ m j) (fun i hi => by
    unfold dW
    by_cases z : m ≤ i
    · simp [z, show m + 1 ≤ i by omega]
    · simp [z, show ¬ m + 1 ≤ i by omega]) (by
    unfold dW
    rw [if_pos ⟨Nat.le_refl _, he, hb⟩, if_neg (fun q => by have := q.1; omega)]
    omega) (nM σ)
  rw [if_pos hm] at h
  unfold WB
  omega
theorem WB_yes {m set : Nat} (hd : 2 ^ (m + 1) ∣ set) : WB σ p m (set + 2 ^ m) = WB σ p (m + 1) set := by
  funext j
  unfold WB
  congr 1
  refine smf_cong _ (fun i _ => ?_)
  unfold dW
  rw [← or_add hd, Nat.testBit_or]
  by_cases e : i = m
  · subst e
    rw [Nat.testBit_two_pow_self]
    simp
    omega
  · rw [Nat.testBit_two_pow_of_ne (fun q => e q.symm)]
    by_cases z : m ≤ i
    · simp [z, show m + 1 ≤ i by omega]
    · simp [z, show ¬ m + 1 ≤ i by omega]
theorem WB_less {k set a : Nat} (hd : 2 ^ k ∣ set) (h1 : set ≤ a) (h2 : a < set + 2 ^ k) (j : Nat) : WB σ p 0 a j ≤ WB σ p k set j := by
  have : smf (dW σ p k set j) (nM σ) ≤ smf (dW σ p 0 a j) (nM σ) := by
    refine smf_le _ (fun i _ => ?_)
    unfold dW
    by_cases z : k ≤ i
    · rw [high_bit hd h1 h2 z]
      simp [z]
    · rw [if_neg (fun q => z q.1)]
      split
      · exact dm_nn _ _ _
      · omega
  unfold WB
  omega
/-- the last below k that may be bribed -/
def nd (σ : SG) (p : Nat) : Nat → Int
  | 0 => -1
  | k + 1 => if (es σ p).testBit k = true then (k : Int) else nd σ p k
theorem nd_spec (σ : SG) (p : Nat) : ∀ k, (nd σ p k = -1 ∧ ∀ i, i < k → ¬ (es σ p).testBit i = true) ∨ ∃ m : Nat, m < k ∧ nd σ p k = m ∧ (es σ p).testBit m = true ∧ ∀ i, m + 1 ≤ i → i < k → ¬ (es σ p).testBit i = true
  | 0 => Or.inl ⟨rfl, fun i h => absurd h (by omega)⟩
  | k + 1 => by
    rw [nd]
    by_cases b : (es σ p).testBit k = true
    · rw [if_pos b]
      exact Or.inr ⟨k, by omega, rfl, b, fun i h1 h2 => absurd h1 (by omega)⟩
    · rw [if_neg b]
      rcases nd_spec σ p k with ⟨e, h⟩ | ⟨m, m1, m2, m3, m4⟩
      · refine Or.inl ⟨e, fun i hi => ?_⟩
        by_cases z : i = k
        · rw [z]; exact b
        · exact h i (by omega)
      · refine Or.inr ⟨m, by omega, m2, m3, fun i h1 h2 => ?_⟩
        by_cases z : i = k
        · rw [z]; exact b
        · exact m4 i h1 (by omega)
theorem ct_BP_nextToDecide {k : Nat} (ok : Ok σ) (hp : PV σ hi) (hpp : p < nP σ) (h3 : hi 36 3 = zI p) (hk : k ≤ nM σ) : Ct M_BP_nextToDecide 1 [.ref 36, .int (zI ((k : Int) - 1))] hi hl (ans (zI (nd σ p k)) hi hl) := by
  have hn := ok.nums
  have loop : ∀ x : Int32, ∀ i : Nat, i ≤ nM σ → nd σ p k = nd σ p i → Wp M_BP_nextToDecide 1 (ans (zI (nd σ p k)) hi hl) 14 [some (.ref 36), some (.int x), some (.int (zI ((i : Int) - 1)))] [] hi hl := by
    intro x i
    induction i with
    | zero =>
      intro hi' e
      refine wp_iload_n d_BP_nextToDecide_14 rfl ?_
      refine wz_if_lt (tgt := 54) d_BP_nextToDecide_15 (by decide) (by omega) (fun h15 => ?_) (fun h15 => ?_)
      · refine wp_iconst (v := zI (-1)) d_BP_nextToDecide_54 rfl ?_
        exact wp_iret d_BP_nextToDecide_55 (Or.inl rfl) (ans_of (by rw [e]; rfl))
      · exact absurd h15 (by omega)
    | succ i ih =>
      intro hi' e
      have hmm := ok.m (show i < nM σ by omega)
      rw [show (((i + 1 : Nat) : Int) - 1) = (i : Int) by omega]
      refine wp_iload_n d_BP_nextToDecide_14 rfl ?_
      refine wz_if_lt (tgt := 54) d_BP_nextToDecide_15 (by decide) (by omega) (fun h15 => ?_) (fun h15 => ?_)
      · exact absurd h15 (by omega)
      · refine wp_aload_n d_BP_nextToDecide_18 rfl ?_
        refine wp_getR d_BP_nextToDecide_19 f_BP_15 (by decide) rfl rfl ?_
        refine wp_getR d_BP_nextToDecide_22 f_BP_89 (by decide) rfl rfl ?_
        refine wp_iload_n d_BP_nextToDecide_25 rfl ?_
        refine wz_iald ((hp.pl (show i < nM σ by omega))) (rfl) ((by omega)) d_BP_nextToDecide_26 (by decide) rfl (by decide) ?_
        refine wp_aload_n d_BP_nextToDecide_27 rfl ?_
        refine wz_getI (h3) d_BP_nextToDecide_28 f_BP_29 (by decide) rfl rfl ?_
        refine wz_icmp_ne (tgt := 48) d_BP_nextToDecide_31 (by decide) (by omega) (by omega) (fun h31 => ?_) (fun h31 => ?_)
        · refine wz_iinc (lv' := [_, _, _]) d_BP_nextToDecide_48 rfl (by decide) rfl ?_
          refine wp_goto (tgt := 14) d_BP_nextToDecide_51 (by decide) ?_
          refine ih (by omega) ?_
          rw [e, nd, if_neg (fun q => by have := ((es_bit σ p i).mp q).2.1; omega)]
        · refine wp_aload_n d_BP_nextToDecide_34 rfl ?_
          refine wp_getR d_BP_nextToDecide_35 f_BP_15 (by decide) rfl rfl ?_
          refine wp_getR d_BP_nextToDecide_38 f_BP_92 (by decide) rfl rfl ?_
          refine wp_iload_n d_BP_nextToDecide_41 rfl ?_
          refine wz_zald ((hp.br (show i < nM σ by omega))) (rfl) ((by omega)) d_BP_nextToDecide_42 (by decide) rfl (by decide) ?_
          refine wz_if_ne (tgt := 48) d_BP_nextToDecide_43 (by decide) (by omega) (fun h43 => ?_) (fun h43 => ?_)
          · refine wz_iinc (lv' := [_, _, _]) d_BP_nextToDecide_48 rfl (by decide) rfl ?_
            refine wp_goto (tgt := 14) d_BP_nextToDecide_51 (by decide) ?_
            refine ih (by omega) ?_
            rw [e, nd, if_neg (fun q => by have := ((es_bit σ p i).mp q).2.2; omega)]
          · refine wp_iload_n d_BP_nextToDecide_46 rfl ?_
            exact wp_iret d_BP_nextToDecide_47 (Or.inl rfl) (ans_of (by rw [e, nd, if_pos ((es_bit σ p i).mpr ⟨by omega, by omega, by omega⟩)]))
  refine ct_intro (lv := [_, _, _]) (by decide +kernel) (Nat.le_of_ble_eq_true rfl) rfl ?_
  refine wp_iload_n d_BP_nextToDecide_0 rfl ?_
  refine wp_aload_n d_BP_nextToDecide_1 rfl ?_
  refine wp_getR d_BP_nextToDecide_2 f_BP_15 (by decide) rfl rfl ?_
  refine wz_getI (hp.n) d_BP_nextToDecide_5 f_BP_54 (by decide) rfl rfl ?_
  refine wp_iconst (v := zI 1) d_BP_nextToDecide_8 rfl ?_
  refine wz_isub d_BP_nextToDecide_9 ?_
  refine wp_callS (ct_MT_min (a := (k : Int) - 1) (b := (nM σ : Int) - 1) 0 (by omega) (by omega)) d_BP_nextToDecide_10 k_BP_83 rfl rfl (Nat.le_of_ble_eq_true rfl) (by omega) ?_
  rintro _ _ _ ⟨rfl, rfl, rfl⟩
  rw [show min ((k : Int) - 1) ((nM σ : Int) - 1) = (k : Int) - 1 by omega]
  refine wp_istore_n (lv' := [_, _, _]) d_BP_nextToDecide_13 (by decide) rfl ?_
  exact loop _ k hk rfl
/-- where it stands -/
def TB (σ : SG) (p : Nat) (h0 h : HI) (k set a : Nat) : Prop := (∀ c, c ≠ 25 → c ≠ 26 → c ≠ 27 → c ≠ 36 → h c = h0 c) ∧ h 36 3 = zI p ∧ h 36 4 = zI (bb σ p a).1 ∧ h 36 5 = zI (bb σ p a).2 ∧ ∀ j, j < nB σ → h 25 j = zI (WB σ p k set j)
theorem bb_b (σ : SG) (p : Nat) : ∀ a, (bb σ p a).1 ≤ 13
  | 0 => Nat.le_refl _
  | a + 1 => by
    have h1 := cnt_n a 12
    have h2 := bb_b σ p a
    rw [bb]
    split
    · show cnt a 12 ≤ 13
      omega
    · exact h2
theorem dm_brt {m j : Nat} {b : Bool} (h : b = true ↔ brt σ m (ph σ m) j) : dm σ m j = if b then (fo σ m : Int) else 0 := by
  unfold dm brt at *
  cases b with
  | true => rw [if_pos (h.mp rfl)]; rfl
  | false => rw [if_neg (fun q => by have := h.mpr q; simp at this)]; rfl
theorem ct_BP_decideFrom (ok : Ok σ) (hpp : p < nP σ) {h0 : HI} (hp0 : PV σ h0) (hv0 : IV σ h0) : ∀ (K k set : Nat) (h : HI), k ≤ K → k ≤ nM σ → 2 ^ k ∣ set → set + 2 ^ k ≤ 2 ^ nM σ → mns set (es σ p) = 0 → TB σ p h0 h k set set → Ct M_BP_decideFrom (K + 2) [.ref 36, .int (zI ((k : Int) - 1)), .int (zI set)] h hl (fun r hi' hl' => r = none ∧ hl = hl' ∧ TB σ p h0 hi' k set (set + 2 ^ k)) := by
  have hn := ok.nums
  have hN : 2 ^ nM σ ≤ 4096 := Nat.pow_le_pow_right (n := 2) (by omega) hn.2.2.1
  intro K
  induction K with
  | zero =>
    intro k set h hkK hkN hd hr hs tb
    obtain ⟨t0, t3, t4, t5, tw⟩ := tb
    have hk0 : k = 0 := by omega
    subst hk0
    have hp' : PV σ h := hp0.keep (fun c _ _ => t0 c (by omega) (by omega) (by omega) (by omega))
    have hv' : IV σ h := hv0.keep (fun c _ _ => t0 c (by omega) (by omega) (by omega) (by omega))
    have hc := cnt_n set 12
    have hb := bb_b σ p set
    have hF := Fp_b ok hpp set
    refine ct_intro (lv := [_, _, _, _, _, _, _]) (by decide +kernel) (Nat.le_of_ble_eq_true rfl) rfl ?_
    refine wp_iload_n d_BP_decideFrom_0 rfl ?_
    refine wp_callS (ct_IG_bitCount (set := set) 0 (by omega)) d_BP_decideFrom_1 k_BP_61 rfl rfl (Nat.le_of_ble_eq_true rfl) (by omega) ?_
    rintro _ _ _ ⟨rfl, rfl, rfl⟩
    refine wp_istore_n (lv' := [_, _, _, _, _, _, _]) d_BP_decideFrom_4 (by decide) rfl ?_
    refine wp_iload_n d_BP_decideFrom_5 rfl ?_
    refine wp_aload_n d_BP_decideFrom_6 rfl ?_
    refine wz_getI (t4) d_BP_decideFrom_7 f_BP_33 (by decide) rfl rfl ?_
    refine wz_icmp_ge (tgt := 27) d_BP_decideFrom_10 (by decide) (by omega) (by omega) (fun h10 => ?_) (fun h10 => ?_)
    · refine wp_vret d_BP_decideFrom_27 rfl ⟨rfl, rfl, ?_⟩
      have e : bb σ p (set + 2 ^ 0) = bb σ p set := bb_stay σ p set 1 (fun a a1 a2 z => by have : a = set := by omega
                                                                                           subst this
                                                                                           have := z.2.2
                                                                                           omega)
      exact ⟨t0, t3, by rw [e]; exact t4, by rw [e]; exact t5, tw⟩
    · refine wp_aload_n d_BP_decideFrom_13 rfl ?_
      refine wp_getR d_BP_decideFrom_14 f_BP_19 (by decide) rfl rfl ?_
      refine wp_aload_n d_BP_decideFrom_17 rfl ?_
      refine wz_getI (t3) d_BP_decideFrom_18 f_BP_29 (by decide) rfl rfl ?_
      refine wp_callV (ct_MA_blow (p := p) (w := WB σ p 0 set) ok hp' hv' hpp tw (fun j _ => WB_b ok p 0 set j)) d_BP_decideFrom_21 k_BP_66 (by decide) rfl rfl rfl rfl (Nat.le_of_ble_eq_true rfl) (by omega) ?_
      rintro _ h2 _ ⟨rfl, rfl, e2, -, -⟩
      have eF : smA (rm σ) (dnS σ p) (WB σ p 0 set) (nB σ) = Fp σ p set := rfl
      rw [eF]
      refine wz_if_le (tgt := 28) d_BP_decideFrom_24 (by decide) (by omega) (fun h24 => ?_) (fun h24 => ?_)
      · refine wp_aload_n d_BP_decideFrom_28 rfl ?_
        refine wp_iload_n d_BP_decideFrom_29 rfl ?_
        have hp2 : PV σ h2 := hp'.keep (fun c _ _ => e2 c (by omega) (by omega))
        refine wp_callV (ct_BP_nextToDecide (p := p) (k := 0) ok hp2 hpp (by rw [e2 36 (by omega) (by omega)]; exact t3) (by omega)) d_BP_decideFrom_30 k_BP_69 (by decide) rfl rfl rfl rfl (Nat.le_of_ble_eq_true rfl) (by omega) ?_
        rintro _ _ _ ⟨rfl, rfl, rfl⟩
        have en : nd σ p 0 = -1 := rfl
        rw [en]
        refine wp_istore (lv' := [_, _, _, _, _, _, _]) d_BP_decideFrom_33 (by decide) rfl ?_
        refine wp_iload d_BP_decideFrom_35 rfl ?_
        refine wp_iconst (v := zI (-1)) d_BP_decideFrom_37 rfl ?_
        refine wz_icmp_ne (tgt := 52) d_BP_decideFrom_38 (by decide) (by omega) (by omega) (fun h38 => ?_) (fun h38 => ?_)
        · exact absurd rfl h38
        · refine wp_aload_n d_BP_decideFrom_41 rfl ?_
          refine wp_iload_n d_BP_decideFrom_42 rfl ?_
          refine wp_putI d_BP_decideFrom_43 f_BP_33 pk_BP_4 (by decide) rfl rfl ?_
          refine wp_aload_n d_BP_decideFrom_46 rfl ?_
          refine wp_iload_n d_BP_decideFrom_47 rfl ?_
          refine wp_putI d_BP_decideFrom_48 f_BP_36 pk_BP_5 (by decide) rfl rfl ?_
          have e : bb σ p (set + 2 ^ 0) = (cnt set 12, (set : Int)) := by
            show bb σ p (set + 1) = _
            rw [bb, if_pos ⟨hs, h24, by omega⟩]
          refine wp_vret d_BP_decideFrom_51 rfl ⟨rfl, rfl, fun c q1 q2 q3 q4 => ?_, ?_, ?_, ?_, fun j hj => ?_⟩
          · rw [setI_ne _ _ _ q4, setI_ne _ _ _ q4, e2 c q2 q3, t0 c q1 q2 q3 q4]
          · exact rdS (by decide) (rdS (by decide) (by rw [e2 36 (by omega) (by omega)]; exact t3))
          · rw [e]; exact rdS (by decide) (rdA rfl)
          · rw [e]; exact rdA rfl
          · exact rd1 (by decide) (rd1 (by decide) (by rw [e2 25 (by omega) (by omega)]; exact tw j hj))
      · refine wp_vret d_BP_decideFrom_27 rfl ⟨rfl, rfl, ?_⟩
        have e : bb σ p (set + 2 ^ 0) = bb σ p set := bb_stay σ p set 1 (fun a a1 a2 z => by have : a = set := by omega
                                                                                             subst this
                                                                                             have := z.2.1
                                                                                             omega)
        exact ⟨fun c q1 q2 q3 q4 => by rw [e2 c q2 q3, t0 c q1 q2 q3 q4], by rw [e2 36 (by omega) (by omega)]; exact t3, by rw [e, e2 36 (by omega) (by omega)]; exact t4, by rw [e, e2 36 (by omega) (by omega)]; exact t5, fun j hj => by rw [e2 25 (by omega) (by omega)]; exact tw j hj⟩
  | succ K ih =>
    intro k set h hkK hkN hd hr hs tb
    obtain ⟨t0, t3, t4, t5, tw⟩ := tb
    have hp' : PV σ h := hp0.keep (fun c _ _ => t0 c (by omega) (by omega) (by omega) (by omega))
    have hv' : IV σ h := hv0.keep (fun c _ _ => t0 c (by omega) (by omega) (by omega) (by omega))
    have hc := cnt_n set 12
    have hb := bb_b σ p set
    have hk2 := Nat.two_pow_pos k
    have hF : 0 ≤ FF σ p (WB σ p k set) ∧ FF σ p (WB σ p k set) ≤ 48216 := FF_b ok hpp (fun j => WB_b ok p k set j)
    refine ct_intro (lv := [_, _, _, _, _, _, _]) (by decide +kernel) (Nat.le_of_ble_eq_true rfl) rfl ?_
    refine wp_iload_n d_BP_decideFrom_0 rfl ?_
    refine wp_callS (ct_IG_bitCount (set := set) 0 (by omega)) d_BP_decideFrom_1 k_BP_61 rfl rfl (Nat.le_of_ble_eq_true rfl) (by omega) ?_
    rintro _ _ _ ⟨rfl, rfl, rfl⟩
    refine wp_istore_n (lv' := [_, _, _, _, _, _, _]) d_BP_decideFrom_4 (by decide) rfl ?_
    refine wp_iload_n d_BP_decideFrom_5 rfl ?_
    refine wp_aload_n d_BP_decideFrom_6 rfl ?_
    refine wz_getI (t4) d_BP_decideFrom_7 f_BP_33 (by decide) rfl rfl ?_
    refine wz_icmp_ge (tgt := 27) d_BP_decideFrom_10 (by decide) (by omega) (by omega) (fun h10 => ?_) (fun h10 => ?_)
    · refine wp_vret d_BP_decideFrom_27 rfl ⟨rfl, rfl, ?_⟩
      have e : bb σ p (set + 2 ^ k) = bb σ p set := bb_stay σ p set _ (fun a a1 a2 z => by
        have h1 := z.2.2
        have h2 := cnt_sub (S := set) (A := a) (fun i hi => by
          by_cases y : k ≤ i
          · rw [high_bit hd a1 a2 y]; exact hi
          · rw [low_bit hd (by omega)] at hi
            simp at hi) 12
        omega)
      exact ⟨t0, t3, by rw [e]; exact t4, by rw [e]; exact t5, tw⟩
    · refine wp_aload_n d_BP_decideFrom_13 rfl ?_
      refine wp_getR d_BP_decideFrom_14 f_BP_19 (by decide) rfl rfl ?_
      refine wp_aload_n d_BP_decideFrom_17 rfl ?_
      refine wz_getI (t3) d_BP_decideFrom_18 f_BP_29 (by decide) rfl rfl ?_
      refine wp_callV (ct_MA_blow (p := p) (w := WB σ p k set) ok hp' hv' hpp tw (fun j _ => WB_b ok p k set j)) d_BP_decideFrom_21 k_BP_66 (by decide) rfl rfl rfl rfl (Nat.le_of_ble_eq_true rfl) (by omega) ?_
      rintro _ h2 _ ⟨rfl, rfl, e2, -, -⟩
      have eF : smA (rm σ) (dnS σ p) (WB σ p k set) (nB σ) = FF σ p (WB σ p k set) := rfl
      rw [eF]
      have hp2 : PV σ h2 := hp'.keep (fun c _ _ => e2 c (by omega) (by omega))
      have hv2 : IV σ h2 := hv'.keep (fun c _ _ => e2 c (by omega) (by omega))
      have u3 : h2 36 3 = zI p := by rw [e2 36 (by omega) (by omega)]; exact t3
      refine wz_if_le (tgt := 28) d_BP_decideFrom_24 (by decide) (by omega) (fun h24 => ?_) (fun h24 => ?_)
      · refine wp_aload_n d_BP_decideFrom_28 rfl ?_
        refine wp_iload_n d_BP_decideFrom_29 rfl ?_
        refine wp_callV (ct_BP_nextToDecide (p := p) (k := k) ok hp2 hpp u3 hkN) d_BP_decideFrom_30 k_BP_69 (by decide) rfl rfl rfl rfl (Nat.le_of_ble_eq_true rfl) (by omega) ?_
        rintro _ _ _ ⟨rfl, rfl, rfl⟩
        rcases nd_spec σ p k with ⟨en, ei⟩ | ⟨m, m1, en, m3, m4⟩
        · rw [en]
          refine wp_istore (lv' := [_, _, _, _, _, _, _]) d_BP_decideFrom_33 (by decide) rfl ?_
          refine wp_iload d_BP_decideFrom_35 rfl ?_
          refine wp_iconst (v := zI (-1)) d_BP_decideFrom_37 rfl ?_
          refine wz_icmp_ne (tgt := 52) d_BP_decideFrom_38 (by decide) (by omega) (by omega) (fun h38 => ?_) (fun h38 => ?_)
          · exact absurd rfl h38
          · refine wp_aload_n d_BP_decideFrom_41 rfl ?_
            refine wp_iload_n d_BP_decideFrom_42 rfl ?_
            refine wp_putI d_BP_decideFrom_43 f_BP_33 pk_BP_4 (by decide) rfl rfl ?_
            refine wp_aload_n d_BP_decideFrom_46 rfl ?_
            refine wp_iload_n d_BP_decideFrom_47 rfl ?_
            refine wp_putI d_BP_decideFrom_48 f_BP_36 pk_BP_5 (by decide) rfl rfl ?_
            have e0 : bb σ p (set + 1) = (cnt set 12, (set : Int)) := by
              have hF0 : Fp σ p set ≤ 0 := by
                unfold Fp
                rw [WB_skip (k := k) (Nat.zero_le _) (fun i _ => ei i)]
                exact h24
              rw [bb, if_pos ⟨hs, hF0, by omega⟩]
            have e : bb σ p (set + 2 ^ k) = (cnt set 12, (set : Int)) := by
              rw [← e0, show set + 2 ^ k = (set + 1) + (2 ^ k - 1) by omega]
              refine bb_stay σ p _ _ (fun a a1 a2 z => ?_)
              have := rngB (m' := 0) (a := a) hd (by omega) (by omega) (fun i _ => ei i) (by omega) z.1
              omega
            refine wp_vret d_BP_decideFrom_51 rfl ⟨rfl, rfl, fun c q1 q2 q3 q4 => ?_, ?_, ?_, ?_, fun j hj => ?_⟩
            · rw [setI_ne _ _ _ q4, setI_ne _ _ _ q4, e2 c q2 q3, t0 c q1 q2 q3 q4]
            · exact rdS (by decide) (rdS (by decide) u3)
            · rw [e]; exact rdS (by decide) (rdA rfl)
            · rw [e]; exact rdA rfl
            · exact rd1 (by decide) (rd1 (by decide) (by rw [e2 25 (by omega) (by omega)]; exact tw j hj))
        · rw [en]
          have hmN : m < nM σ := by omega
          have hmm := ok.m hmN
          have hd1 : 2 ^ (m + 1) ∣ set := Nat.dvd_trans (Nat.pow_dvd_pow 2 (by omega)) hd
          have hd0 : 2 ^ m ∣ set := Nat.dvd_trans (Nat.pow_dvd_pow 2 (by omega)) hd
          have hle : 2 ^ (m + 1) ≤ 2 ^ k := Nat.pow_le_pow_right (by omega) (by omega)
          have hp1 : 2 ^ (m + 1) = 2 * 2 ^ m := by rw [Nat.pow_succ, Nat.mul_comm]
          have hbm : set.testBit m = false := low_bit hd m1
          have esk : WB σ p (m + 1) set = WB σ p k set := WB_skip (by omega) m4
          refine wp_istore (lv' := [_, _, _, _, _, _, _]) d_BP_decideFrom_33 (by decide) rfl ?_
          refine wp_iload d_BP_decideFrom_35 rfl ?_
          refine wp_iconst (v := zI (-1)) d_BP_decideFrom_37 rfl ?_
          refine wz_icmp_ne (tgt := 52) d_BP_decideFrom_38 (by decide) (by omega) (by omega) (fun h38 => ?_) (fun h38 => ?_)
          · refine wp_aload_n d_BP_decideFrom_52 rfl ?_
            refine wp_getR d_BP_decideFrom_53 f_BP_15 (by decide) rfl rfl ?_
            refine wp_getR d_BP_decideFrom_56 f_BP_72 (by decide) rfl rfl ?_
            refine wp_iload d_BP_decideFrom_59 rfl ?_
            refine wz_iald ((hp2.fo hmN)) (rfl) ((by omega)) d_BP_decideFrom_61 (by decide) rfl (by decide) ?_
            refine wp_istore (lv' := [_, _, _, _, _, _, _]) d_BP_decideFrom_62 (by decide) rfl ?_
            refine wp_aload_n d_BP_decideFrom_64 rfl ?_
            refine wp_getR d_BP_decideFrom_65 f_BP_15 (by decide) rfl rfl ?_
            refine wp_getR d_BP_decideFrom_68 f_BP_76 (by decide) rfl rfl ?_
            refine wp_iload d_BP_decideFrom_71 rfl ?_
            refine wz_iald ((hp2.ph hmN)) (rfl) ((by omega)) d_BP_decideFrom_73 (by decide) rfl (by decide) ?_
            refine wp_istore (lv' := [_, _, _, _, _, _, _]) d_BP_decideFrom_74 (by decide) rfl ?_
            refine wp_aload_n d_BP_decideFrom_76 rfl ?_
            refine wp_getR d_BP_decideFrom_77 f_BP_19 (by decide) rfl rfl ?_
            refine wp_iload d_BP_decideFrom_80 rfl ?_
            refine wp_iload d_BP_decideFrom_82 rfl ?_
            refine wp_iload d_BP_decideFrom_84 rfl ?_
            refine wz_ineg d_BP_decideFrom_86 ?_
            refine wp_callV (ct_MA_addAtBreaths (m := m) (s := ph σ m) (x := -(fo σ m : Int)) (w := WB σ p k set) ok hp2 hv2 hmN (by omega) (fun j hj => by rw [e2 25 (by omega) (by omega)]; exact tw j hj)) d_BP_decideFrom_87 k_BP_79 (by decide) rfl rfl rfl rfl (Nat.le_of_ble_eq_true rfl) (by omega) ?_
            rintro _ h3 _ ⟨rfl, rfl, e3, w3⟩
            have tb3 : TB σ p h0 h3 m set set := by
              refine ⟨fun c q1 q2 q3 q4 => by rw [e3 c q1, e2 c q2 q3, t0 c q1 q2 q3 q4], by rw [e3 36 (by omega)]; exact u3, by rw [e3 36 (by omega), e2 36 (by omega) (by omega)]; exact t4, by rw [e3 36 (by omega), e2 36 (by omega) (by omega)]; exact t5, fun j hj => ?_⟩
              obtain ⟨b, hb, z⟩ := w3 j hj
              rw [z, WB_not hmN m3 hbm, esk, dm_brt hb]
              cases b <;> simp <;> rfl
            refine wp_aload_n d_BP_decideFrom_90 rfl ?_
            refine wp_iload d_BP_decideFrom_91 rfl ?_
            refine wp_iconst (v := zI 1) d_BP_decideFrom_93 rfl ?_
            refine wz_isub d_BP_decideFrom_94 ?_
            refine wp_iload_n d_BP_decideFrom_95 rfl ?_
            refine wp_callS (ih m set h3 (by omega) (by omega) hd0 (by omega) hs tb3) d_BP_decideFrom_96 k_BP_57 rfl rfl (Nat.le_of_ble_eq_true rfl) (by omega) ?_
            rintro _ h4 _ ⟨rfl, rfl, v0, v3, v4, v5, vw⟩
            have hp4 : PV σ h4 := hp0.keep (fun c _ _ => v0 c (by omega) (by omega) (by omega) (by omega))
            have hv4 : IV σ h4 := hv0.keep (fun c _ _ => v0 c (by omega) (by omega) (by omega) (by omega))
            refine wp_aload_n d_BP_decideFrom_99 rfl ?_
            refine wp_getR d_BP_decideFrom_100 f_BP_19 (by decide) rfl rfl ?_
            refine wp_iload d_BP_decideFrom_103 rfl ?_
            refine wp_iload d_BP_decideFrom_105 rfl ?_
            refine wp_iload d_BP_decideFrom_107 rfl ?_
            refine wp_callV (ct_MA_addAtBreaths (m := m) (s := ph σ m) (x := (fo σ m : Int)) (w := WB σ p m set) ok hp4 hv4 hmN (by omega) vw) d_BP_decideFrom_109 k_BP_79 (by decide) rfl rfl rfl rfl (Nat.le_of_ble_eq_true rfl) (by omega) ?_
            rintro _ h5 _ ⟨rfl, rfl, e5, w5⟩
            have tb5 : TB σ p h0 h5 m (set + 2 ^ m) (set + 2 ^ m) := by
              refine ⟨fun c q1 q2 q3 q4 => by rw [e5 c q1, v0 c q1 q2 q3 q4], by rw [e5 36 (by omega)]; exact v3, by rw [e5 36 (by omega)]; exact v4, by rw [e5 36 (by omega)]; exact v5, fun j hj => ?_⟩
              obtain ⟨b, hb, z⟩ := w5 j hj
              rw [z, WB_yes hd1, WB_not hmN m3 hbm, dm_brt hb]
              congr 1
              omega
            refine wp_aload_n d_BP_decideFrom_112 rfl ?_
            refine wp_iload d_BP_decideFrom_113 rfl ?_
            refine wp_iconst (v := zI 1) d_BP_decideFrom_115 rfl ?_
            refine wz_isub d_BP_decideFrom_116 ?_
            refine wp_iload_n d_BP_decideFrom_117 rfl ?_
            refine wp_iconst (v := zI 1) d_BP_decideFrom_118 rfl ?_
            refine wp_iload d_BP_decideFrom_119 rfl ?_
            refine wp_ishl d_BP_decideFrom_121 ?_
            refine wz_top (y := zI ((2 ^ m : Nat) : Int)) (by rw [show (1 : Int) = ((1 : Nat) : Int) from rfl, zI_shl (by omega) (by omega), Nat.one_mul]) ?_
            refine wp_ior d_BP_decideFrom_122 ?_
            rw [zI_or, or_add hd1]
            have hs2 : mns (set + 2 ^ m) (es σ p) = 0 := mns_0 (by omega) (fun i hi => by
              rw [← or_add hd1, Nat.testBit_or] at hi
              by_cases z : i = m
              · rw [z]; exact m3
              · rw [Nat.testBit_two_pow_of_ne (fun q => z q.symm), Bool.or_false] at hi
                exact sub_of (by omega) hs hi)
            refine wp_callS (ih m (set + 2 ^ m) h5 (by omega) (by omega) (Nat.dvd_add hd0 (Nat.dvd_refl _)) (by omega) hs2 tb5) d_BP_decideFrom_123 k_BP_57 rfl rfl (Nat.le_of_ble_eq_true rfl) (by omega) ?_
            rintro _ h6 _ ⟨rfl, rfl, y0, y3, y4, y5, yw⟩
            have e : bb σ p (set + 2 ^ k) = bb σ p (set + 2 ^ m + 2 ^ m) := by
              rw [show set + 2 ^ k = (set + 2 ^ m + 2 ^ m) + (2 ^ k - 2 ^ (m + 1)) by omega]
              refine bb_stay σ p _ _ (fun a a1 a2 z => ?_)
              have := rngB (m' := m + 1) (a := a) hd (by omega) (by omega) m4 (by omega) z.1
              omega
            refine wp_vret d_BP_decideFrom_126 rfl ⟨rfl, rfl, y0, y3, by rw [e]; exact y4, by rw [e]; exact y5, fun j hj => ?_⟩
            rw [yw j hj, WB_yes hd1, esk]
          · exact absurd h38 (by omega)
      · refine wp_vret d_BP_decideFrom_27 rfl ⟨rfl, rfl, ?_⟩
        have e : bb σ p (set + 2 ^ k) = bb σ p set := bb_stay σ p set _ (fun a a1 a2 z => by
          have h1 := z.2.1
          have h2 : FF σ p (WB σ p k set) ≤ Fp σ p a := smA_anti _ _ (fun j => WB_less hd a1 a2 j) _
          omega)
        exact ⟨fun c q1 q2 q3 q4 => by rw [e2 c q2 q3, t0 c q1 q2 q3 q4], u3, by rw [e, e2 36 (by omega) (by omega)]; exact t4, by rw [e, e2 36 (by omega) (by omega)]; exact t5, fun j hj => by rw [e2 25 (by omega) (by omega)]; exact tw j hj⟩
theorem ct_BP_find (ok : Ok σ) (hA : AX σ hi) (hpp : p < nP σ) : Ct M_BP_find 15 [.ref 36, .int (zI p)] hi hl (fun r hi' hl' => r = some (.int (zI (bb σ p (2 ^ nM σ)).2)) ∧ hl = hl' ∧ ∀ c, c ≠ 25 → c ≠ 26 → c ≠ 27 → c ≠ 36 → hi' c = hi c) := by
  have hn := ok.nums
  have hs := sit_lt ok p
  refine ct_intro (lv := [_, _]) (by decide +kernel) (Nat.le_of_ble_eq_true rfl) rfl ?_
  refine wp_aload_n d_BP_find_0 rfl ?_
  refine wp_getR d_BP_find_1 f_BP_9 (by decide) rfl rfl ?_
  refine wp_iload_n d_BP_find_4 rfl ?_
  refine wp_callV (ct_PI_has (z := p) 0 ok hA.2.1 (by omega)) d_BP_find_5 k_BP_23 (by decide) rfl rfl rfl rfl (Nat.le_of_ble_eq_true rfl) (by omega) ?_
  rintro _ _ _ ⟨rfl, rfl, rfl⟩
  refine wz_if_neB (tgt := 14) d_BP_find_8 (by decide) (fun h8 => ?_) (fun h8 => ?_)
  · refine wp_aload_n d_BP_find_14 rfl ?_
    refine wp_iload_n d_BP_find_15 rfl ?_
    refine wp_putI d_BP_find_16 f_BP_29 pk_BP_3 (by decide) rfl rfl ?_
    refine wp_aload_n d_BP_find_19 rfl ?_
    refine wp_bipush (v := zI 13) d_BP_find_20 rfl ?_
    refine wp_putI d_BP_find_22 f_BP_33 pk_BP_4 (by decide) rfl rfl ?_
    refine wp_aload_n d_BP_find_25 rfl ?_
    refine wp_bipush (v := zI (-9)) d_BP_find_26 rfl ?_
    refine wp_putI d_BP_find_28 f_BP_36 pk_BP_5 (by decide) rfl rfl ?_
    refine wp_aload_n d_BP_find_31 rfl ?_
    refine wp_getR d_BP_find_32 f_BP_19 (by decide) rfl rfl ?_
    refine wp_aload_n d_BP_find_35 rfl ?_
    refine wp_getR d_BP_find_36 f_BP_15 (by decide) rfl rfl ?_
    refine wp_aload_n d_BP_find_39 rfl ?_
    refine wp_getR d_BP_find_40 f_BP_15 (by decide) rfl rfl ?_
    refine wp_aload_n d_BP_find_43 rfl ?_
    refine wz_getI ((rdS (by decide) (rdS (by decide) (rdA rfl)))) d_BP_find_44 f_BP_29 (by decide) rfl rfl ?_
    have hA1 : AX σ (setI (setI (setI hi 36 3 (zI p)) 36 4 (zI 13)) 36 5 (zI (-9))) := hA.keep (fun c hc => by rw [setI_ne _ _ _ (by omega), setI_ne _ _ _ (by omega), setI_ne _ _ _ (by omega)])
    refine wp_callV (ct_PE_sittingAt (p := p) 0 ok hA1.1 (by omega)) d_BP_find_47 k_BP_39 (by decide) rfl rfl rfl rfl (Nat.le_of_ble_eq_true rfl) (by omega) ?_
    rintro _ _ _ ⟨rfl, rfl, rfl⟩
    refine wp_callV (ct_PE_forceOf (set := sit σ p) 0 ok hA1.1 hs) d_BP_find_50 k_BP_45 (by decide) rfl rfl rfl rfl (Nat.le_of_ble_eq_true rfl) (by omega) ?_
    rintro _ _ _ ⟨rfl, rfl, rfl⟩
    refine wp_callV (ct_MA_fill (x := zI (forS σ (sit σ p))) 0 ok hA1.2.1) d_BP_find_53 k_BP_48 (by decide) rfl rfl rfl rfl (Nat.le_of_ble_eq_true rfl) (by omega) ?_
    rintro _ h2 _ ⟨rfl, rfl, e2, w2⟩
    have hA2 : AX σ h2 := hA1.keep (fun c hc => e2 c (by omega))
    refine wp_aload_n d_BP_find_56 rfl ?_
    refine wp_aload_n d_BP_find_57 rfl ?_
    refine wp_getR d_BP_find_58 f_BP_15 (by decide) rfl rfl ?_
    refine wz_getI (hA2.1.n) d_BP_find_61 f_BP_54 (by decide) rfl rfl ?_
    refine wp_iconst (v := zI 1) d_BP_find_64 rfl ?_
    refine wz_isub d_BP_find_65 ?_
    refine wp_iconst (v := zI 0) d_BP_find_66 rfl ?_
    have tb : TB σ p h2 h2 (nM σ) 0 0 := by
      refine ⟨fun _ _ _ _ _ => rfl, ?_, ?_, ?_, fun j hj => ?_⟩
      · rw [e2 36 (by omega)]; exact rdS (by decide) (rdS (by decide) (rdA rfl))
      · rw [e2 36 (by omega)]; exact rdS (by decide) (rdA rfl)
      · rw [e2 36 (by omega)]; exact rdA rfl
      · rw [w2 j hj, WB]
        have : smf (dW σ p (nM σ) 0 j) (nM σ) = smf (fun _ => 0) (nM σ) := smf_cong _ (fun i hi => by unfold dW; rw [if_neg (fun q => by have := q.1; omega)])
        have z : ∀ n, smf (fun _ => 0) n = 0 := by
          intro n
          induction n with
          | zero => rfl
          | succ n ih => rw [smf, ih]; rfl
        rw [this, z, Int.sub_zero]
    refine wp_callS (ct_BP_decideFrom ok hpp hA2.1 hA2.2.1 12 (nM σ) 0 h2 (by omega) (Nat.le_refl _) (Nat.dvd_zero _) (by omega) (mns_0 (by omega) (fun i q => by simp at q)) tb) d_BP_find_67 k_BP_57 rfl rfl (Nat.le_of_ble_eq_true rfl) (by omega) ?_
    rintro _ h3 _ ⟨rfl, rfl, t0, t3, t4, t5, tw⟩
    rw [Nat.zero_add] at t5
    refine wp_aload_n d_BP_find_70 rfl ?_
    refine wz_getI (t5) d_BP_find_71 f_BP_36 (by decide) rfl rfl ?_
    exact wp_iret d_BP_find_74 (Or.inl rfl) (⟨rfl, rfl, fun c q1 q2 q3 q4 => by rw [t0 c q1 q2 q3 q4, e2 c q1, setI_ne _ _ _ q4, setI_ne _ _ _ q4, setI_ne _ _ _ q4]⟩)
  · exact absurd (show 0 ≤ (p : Int) ∧ (p : Int) < nP σ by omega) h8
theorem cx_bribes (ok : Ok σ) (hA : AX σ hi) : Ct M_BB_bribes 16 [.ref 0] hi hl (pX σ (zI (rb σ (2 ^ nM σ))) hi) := by
  have hn := ok.nums
  have hN : 2 ^ nM σ ≤ 4096 := Nat.pow_le_pow_right (n := 2) (by omega) hn.2.2.1
  have loop : ∀ k i : Nat, i + k = nP σ → (∀ p, p < i → (bb σ p (2 ^ nM σ)).2 ≠ -9) → ∀ h : HI, (∀ c, c ≠ 25 → c ≠ 26 → c ≠ 27 → c ≠ 36 → h c = hi c) → Wp M_BB_bribes 16 (pX σ (zI (rb σ (2 ^ nM σ))) hi) 4 [some (.ref 0), some (.int (zI (orB σ i))), some (.int (zI i)), none] [] h hl := by
    intro k
    induction k with
    | zero =>
      intro i hik hb h e0
      have hA' : AX σ h := hA.keep (fun c hc => e0 c (by omega) (by omega) (by omega) (by omega))
      refine wp_iload_n d_BB_bribes_4 rfl ?_
      refine wp_aload_n d_BB_bribes_5 rfl ?_
      refine wp_getR d_BB_bribes_6 f_BB_19 (by decide) rfl rfl ?_
      refine wz_getI (hA'.2.1.np) d_BB_bribes_9 f_BB_99 (by decide) rfl rfl ?_
      refine wz_icmp_ge (tgt := 43) d_BB_bribes_12 (by decide) (by omega) (by omega) (fun h12 => ?_) (fun h12 => ?_)
      · refine wp_iload_n d_BB_bribes_43 rfl ?_
        exact wp_iret d_BB_bribes_44 (Or.inl rfl) (⟨by rw [rb_some ok (fun p hp => hb p (by omega)), show i = nP σ by omega], hA', fun c hc => e0 c (by omega) (by omega) (by omega) (by omega)⟩)
      · exact absurd h12 (by omega)
    | succ k ih =>
      intro i hik hb h e0
      have hA' : AX σ h := hA.keep (fun c hc => e0 c (by omega) (by omega) (by omega) (by omega))
      have bR : inR (bb σ i (2 ^ nM σ)).2 := by
        rcases bb_spec σ i (2 ^ nM σ) with ⟨e, _⟩ | ⟨b, b1, b2, _⟩
        · rw [e]; show inR (-9); omega
        · rw [b2]; show inR (b : Int); omega
      refine wp_iload_n d_BB_bribes_4 rfl ?_
      refine wp_aload_n d_BB_bribes_5 rfl ?_
      refine wp_getR d_BB_bribes_6 f_BB_19 (by decide) rfl rfl ?_
      refine wz_getI (hA'.2.1.np) d_BB_bribes_9 f_BB_99 (by decide) rfl rfl ?_
      refine wz_icmp_ge (tgt := 43) d_BB_bribes_12 (by decide) (by omega) (by omega) (fun h12 => ?_) (fun h12 => ?_)
      · exact absurd h12 (by omega)
      · refine wp_aload_n d_BB_bribes_15 rfl ?_
        refine wp_getR d_BB_bribes_16 f_BB_60 (by decide) rfl rfl ?_
        refine wp_iload_n d_BB_bribes_19 rfl ?_
        refine wp_callV (ct_BP_find (p := i) ok hA' (by omega)) d_BB_bribes_20 k_BB_190 (by decide) rfl rfl rfl rfl (Nat.le_of_ble_eq_true rfl) (by omega) ?_
        rintro _ h2 _ ⟨rfl, rfl, e2⟩
        have e02 : ∀ c, c ≠ 25 → c ≠ 26 → c ≠ 27 → c ≠ 36 → h2 c = hi c := fun c q1 q2 q3 q4 => by rw [e2 c q1 q2 q3 q4, e0 c q1 q2 q3 q4]
        refine wp_istore_n (lv' := [_, _, _, _]) d_BB_bribes_23 (by decide) rfl ?_
        refine wp_iload_n d_BB_bribes_24 rfl ?_
        refine wp_bipush (v := zI (-9)) d_BB_bribes_25 rfl ?_
        refine wz_icmp_ne (tgt := 33) d_BB_bribes_27 (by decide) (by omega) (by omega) (fun h27 => ?_) (fun h27 => ?_)
        · obtain ⟨b, hb2⟩ : ∃ b : Nat, (bb σ i (2 ^ nM σ)).2 = b := by
            rcases bb_spec σ i (2 ^ nM σ) with ⟨e, _⟩ | ⟨b, b1, b2, _⟩
            · exact absurd (by rw [e]) h27
            · exact ⟨b, by rw [b2]⟩
          rw [hb2]
          refine wp_iload_n d_BB_bribes_33 rfl ?_
          refine wp_iload_n d_BB_bribes_34 rfl ?_
          refine wp_ior d_BB_bribes_35 ?_
          rw [zI_or]
          refine wp_istore_n (lv' := [_, _, _, _]) d_BB_bribes_36 (by decide) rfl ?_
          refine wz_iinc (lv' := [_, _, _, _]) d_BB_bribes_37 rfl (by decide) rfl ?_
          refine wp_goto (tgt := 4) d_BB_bribes_40 (by decide) ?_
          refine wp_drop (lv' := [some _, some _, some _, none]) ⟨rfl, rfl, rfl, trivial⟩ ?_
          have ih' := ih (i + 1) (by omega) (fun p hp => by
            by_cases z : p = i
            · rw [z]; exact h27
            · exact hb p (by omega)) h2 e02
          rw [orB, hb2, Int.toNat_natCast] at ih'
          exact ih'
        · refine wp_bipush (v := zI (-9)) d_BB_bribes_30 rfl ?_
          exact wp_iret d_BB_bribes_32 (Or.inl rfl) (⟨by rw [rb_none ok (show i < nP σ by omega) h27], hA.keep (fun c hc => e02 c (by omega) (by omega) (by omega) (by omega)), fun c hc => e02 c (by omega) (by omega) (by omega) (by omega)⟩)
  refine ct_intro (lv := [_, _, _, _]) (by decide +kernel) (Nat.le_of_ble_eq_true rfl) rfl ?_
  refine wp_iconst (v := zI 0) d_BB_bribes_0 rfl ?_
  refine wp_istore_n (lv' := [_, _, _, _]) d_BB_bribes_1 (by decide) rfl ?_
  refine wp_iconst (v := zI 0) d_BB_bribes_2 rfl ?_
  refine wp_istore_n (lv' := [_, _, _, _]) d_BB_bribes_3 (by decide) rfl ?_
  exact loop (nP σ) 0 (by omega) (fun p hp => absurd hp (by omega)) hi (fun _ _ _ _ _ => rfl)
end BRC
