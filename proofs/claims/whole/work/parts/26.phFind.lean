/-! PHASES: the class's search -/
section PHF
variable {σ : SG} {hi : HI} {hl : HL} {p : Nat} {a b : Int}
theorem VV_b (ok : Ok σ) (hpp : p < nP σ) (v : Nat) : 0 ≤ VV σ p v ∧ VV σ p v ≤ 48216 := FF_b ok hpp (fun j => WW_b ok (Nat.le_refl _) v j)
theorem fm_b {V : Nat → Int} (h : ∀ v, 0 ≤ V v ∧ V v ≤ 48216) : ∀ n, 0 ≤ (fm V n).1 ∧ (fm V n).1 ≤ 2147483647
  | 0 => by simp [fm]
  | n + 1 => by
    have h1 := fm_b h n
    have h2 := h n
    rw [fm]
    split
    · show 0 ≤ V n ∧ V n ≤ 2147483647
      omega
    · exact h1
theorem WW_low {one q B v : Nat} (h : one + q = nS σ p) (hB : Rq σ p q one ∣ B) (h1 : B ≤ v) (h2 : v < B + Rq σ p q one) : WW σ p one v = WW σ p one B := by
  funext j
  unfold WW
  congr 1
  refine smf_cong one (fun i hi => ?_)
  show dl σ (sit σ p) i (dg σ p i v) j = dl σ (sit σ p) i (dg σ p i B) j
  rw [dg, dig_low h hi hB h1 h2]
  rfl
theorem Rq_succ (σ : SG) (p q i : Nat) : Rq σ p (q + 1) i = rx σ (sit σ p) i * Rq σ p q (i + 1) := rfl
theorem in_range {one q B s : Nat} (hs : s < rx σ (sit σ p) one) : B + s * Rq σ p q (one + 1) < B + Rq σ p (q + 1) one := by
  have h1 : (s + 1) * Rq σ p q (one + 1) ≤ rx σ (sit σ p) one * Rq σ p q (one + 1) := Nat.mul_le_mul_right _ (by omega)
  have h2 : 0 < Rq σ p q (one + 1) := RR_pos _ _ _ _
  rw [Rq_succ]
  rw [Nat.add_mul] at h1
  omega
theorem dg_low {one q B v i : Nat} (h : one + q = nS σ p) (hi : i < one) (hB : Rq σ p q one ∣ B) (h1 : B ≤ v) (h2 : v < B + Rq σ p q one) : dg σ p i v = dg σ p i B := dig_low h hi hB h1 h2
theorem dg_one {one q s B v : Nat} (h : one + (q + 1) = nS σ p) (hB : Rq σ p (q + 1) one ∣ B) (hs : s < rx σ (sit σ p) one) (h1 : B + s * Rq σ p q (one + 1) ≤ v) (h2 : v < B + (s + 1) * Rq σ p q (one + 1)) : dg σ p one v = s := dig_one h hB hs h1 h2
theorem WW_next {one q B s : Nat} (h : one + (q + 1) = nS σ p) (hB : Rq σ p (q + 1) one ∣ B) (hs : s < rx σ (sit σ p) one) (j : Nat) : WW σ p (one + 1) (B + s * Rq σ p q (one + 1)) j = WW σ p one B j - dl σ (sit σ p) one s j := by
  have h2 : 0 < Rq σ p q (one + 1) := RR_pos _ _ _ _
  have e1 := congrFun (WW_low h hB (Nat.le_add_right B (s * Rq σ p q (one + 1))) (in_range hs)) j
  have e2 : dg σ p one (B + s * Rq σ p q (one + 1)) = s := dg_one h hB hs (Nat.le_refl _) (by rw [Nat.add_mul]; omega)
  unfold WW at e1 ⊢
  rw [smf, e2]
  omega
/-- of one that is bribed the figures don't matter -/
theorem VV_bribed {one q B : Nat} (h : one + (q + 1) = nS σ p) (hB : Rq σ p (q + 1) one ∣ B) (hb : br σ (mb (sit σ p) one) ≠ 0) {v s : Nat} (h1 : B ≤ v) (h2 : v < B + Rq σ p q (one + 1)) (hs : s < rx σ (sit σ p) one) : VV σ p (v + s * Rq σ p q (one + 1)) = VV σ p v := by
  unfold VV
  congr 1
  funext j
  unfold WW
  congr 1
  refine smf_cong _ (fun i hi => ?_)
  have h3 : v + s * Rq σ p q (one + 1) < B + Rq σ p (q + 1) one := by
    have h1 : (s + 1) * Rq σ p q (one + 1) ≤ rx σ (sit σ p) one * Rq σ p q (one + 1) := Nat.mul_le_mul_right _ (by omega)
    rw [Rq_succ]
    rw [Nat.add_mul] at h1
    omega
  rcases Nat.lt_trichotomy i one with z | z | z
  · show dl σ (sit σ p) i (dg σ p i _) j = dl σ (sit σ p) i (dg σ p i v) j
    rw [dg_low h z hB (by omega) h3, dg_low h z hB h1 (by omega)]
  · show dl σ (sit σ p) i (dg σ p i _) j = dl σ (sit σ p) i (dg σ p i v) j
    rw [z, dl, dl, if_neg (fun y => hb y.2), if_neg (fun y => hb y.2)]
  · show dl σ (sit σ p) i (dg σ p i _) j = dl σ (sit σ p) i (dg σ p i v) j
    rw [dg, Rq, dig_high h z hi]
    rfl
/-- where the search stands: the figures of the first, the ways that are behind it -/
def TS (σ : SG) (p : Nat) (h0 h : HI) (one B a : Nat) : Prop := (∀ c, c ≠ 25 → c ≠ 26 → c ≠ 27 → c ≠ 28 → c ≠ 30 → c ≠ 31 → h c = h0 c) ∧ h 28 6 = zI p ∧ h 28 7 = zI (nS σ p) ∧ (∀ j, j < nB σ → h 25 j = zI (WW σ p one B j)) ∧ (∀ i, i < one → h 30 i = zI (dg σ p i B)) ∧ h 28 8 = zI (fm (VV σ p) a).1 ∧ (0 < a → ∀ i, i < nS σ p → h 31 i = zI (dg σ p i (fm (VV σ p) a).2))
/-- what lies still -/
def TZ (σ : SG) (p : Nat) (h0 : HI) : Prop := PV σ h0 ∧ IV σ h0 ∧ (∀ i, i < nS σ p → h0 29 i = zI (mb (sit σ p) i)) ∧ ∀ i, i ≤ nS σ p → h0 32 i = zI (tc σ p (nS σ p - i) i)
theorem ct_PH_tryFrom (ok : Ok σ) (hpp : p < nP σ) (h4 : nS σ p ≤ 4) {h0 : HI} (hz : TZ σ p h0) : ∀ (q one B : Nat) (h : HI), one + q = nS σ p → Rq σ p q one ∣ B → TS σ p h0 h one B B → Ct M_PH_tryFrom (q + 2) [.ref 28, .int (zI one)] h hl (fun r hi' hl' => r = none ∧ hl = hl' ∧ TS σ p h0 hi' one B (B + Rq σ p q one)) := by
  have hn := ok.nums
  intro q
  induction q with
  | zero =>
    intro one B h hq hB ts
    obtain ⟨t0, t6, t7, tw, tt, tl8, tb⟩ := ts
    have hp' : PV σ h := hz.1.keep (fun c _ _ => t0 c (by omega) (by omega) (by omega) (by omega) (by omega) (by omega))
    have hv' : IV σ h := hz.2.1.keep (fun c _ _ => t0 c (by omega) (by omega) (by omega) (by omega) (by omega) (by omega))
    have hf := fm_b (VV_b ok hpp) B
    have e32 : h 32 one = zI 0 := by
      rw [t0 32 (by omega) (by omega) (by omega) (by omega) (by omega) (by omega), hz.2.2.2 one (by omega), show nS σ p - one = 0 by omega]
      rfl
    have eV : FF σ p (WW σ p one B) = VV σ p B := by rw [VV, ← hq]; rfl
    have bV := VV_b ok hpp B
    have e1 : Rq σ p 0 one = 1 := rfl
    refine ct_intro (lv := [_, _, _, _, _]) (by decide +kernel) (Nat.le_of_ble_eq_true rfl) rfl ?_
    refine wp_iload_n d_PH_tryFrom_0 rfl ?_
    refine wp_aload_n d_PH_tryFrom_1 rfl ?_
    refine wz_getI (t7) d_PH_tryFrom_2 f_PH_70 (by decide) rfl rfl ?_
    refine wz_icmp_gt (tgt := 13) d_PH_tryFrom_5 (by decide) (by omega) (by omega) (fun h5 => ?_) (fun h5 => ?_)
    · exact absurd h5 (by omega)
    · refine wp_iload_n d_PH_tryFrom_8 rfl ?_
      refine wp_iconst (v := zI 4) d_PH_tryFrom_9 rfl ?_
      refine wz_icmp_le (tgt := 14) d_PH_tryFrom_10 (by decide) (by omega) (by omega) (fun h10 => ?_) (fun h10 => ?_)
      · refine wp_aload_n d_PH_tryFrom_14 rfl ?_
        refine wp_getR d_PH_tryFrom_15 f_PH_15 (by decide) rfl rfl ?_
        refine wp_aload_n d_PH_tryFrom_18 rfl ?_
        refine wz_getI (t6) d_PH_tryFrom_19 f_PH_43 (by decide) rfl rfl ?_
        refine wp_callV (ct_MA_blow (p := p) (w := WW σ p one B) ok hp' hv' hpp tw (fun j _ => WW_b ok (by omega) B j)) d_PH_tryFrom_22 k_PH_76 (by decide) rfl rfl rfl rfl (Nat.le_of_ble_eq_true rfl) (by omega) ?_
        rintro _ h2 _ ⟨rfl, rfl, e2, -, -⟩
        have eV' : smA (rm σ) (dnS σ p) (WW σ p one B) (nB σ) = VV σ p B := eV
        rw [eV']
        refine wp_istore_n (lv' := [_, _, _, _, _]) d_PH_tryFrom_25 (by decide) rfl ?_
        refine wp_iload_n d_PH_tryFrom_26 rfl ?_
        refine wp_aload_n d_PH_tryFrom_27 rfl ?_
        refine wp_getR d_PH_tryFrom_28 f_PH_29 (by decide) rfl rfl ?_
        refine wp_iload_n d_PH_tryFrom_31 rfl ?_
        refine wz_iald ((by rw [e2 32 (by omega) (by omega)]; exact e32)) (rfl) ((by omega)) d_PH_tryFrom_32 (by decide) rfl (by decide) ?_
        refine wz_iadd d_PH_tryFrom_33 ?_
        refine wp_aload_n d_PH_tryFrom_34 rfl ?_
        refine wz_getI ((by rw [e2 28 (by omega) (by omega)]; exact tl8)) d_PH_tryFrom_35 f_PH_63 (by decide) rfl rfl ?_
        refine wz_icmp_lt (tgt := 42) d_PH_tryFrom_38 (by decide) (by omega) (by omega) (fun h38 => ?_) (fun h38 => ?_)
        · refine wp_iload_n d_PH_tryFrom_42 rfl ?_
          refine wp_aload_n d_PH_tryFrom_43 rfl ?_
          refine wz_getI ((by rw [e2 28 (by omega) (by omega)]; exact t7)) d_PH_tryFrom_44 f_PH_70 (by decide) rfl rfl ?_
          refine wz_icmp_ne (tgt := 56) d_PH_tryFrom_47 (by decide) (by omega) (by omega) (fun h47 => ?_) (fun h47 => ?_)
          · exact absurd (by omega) h47
          · refine wp_aload_n d_PH_tryFrom_50 rfl ?_
            refine wp_iload_n d_PH_tryFrom_51 rfl ?_
            refine wp_callV (ct_PH_settle (n := nS σ p) (f := fun i => (dg σ p i B : Int)) (x := zI (VV σ p B)) 1 h4 (by rw [e2 28 (by omega) (by omega)]; exact t7) (fun i hi => by rw [e2 30 (by omega) (by omega)]; exact tt i (by omega))) d_PH_tryFrom_52 k_PH_108 (by decide) rfl rfl rfl rfl (Nat.le_of_ble_eq_true rfl) (by omega) ?_
            rintro _ h3 _ ⟨rfl, rfl, e3, f3, g3, b3⟩
            have ef : fm (VV σ p) (B + 1) = (VV σ p B, B) := by rw [fm, if_pos (by omega)]
            refine wp_vret d_PH_tryFrom_55 rfl ⟨rfl, rfl, ?_⟩
            rw [e1]
            refine ⟨fun c h1 h2 h3 h4 h5 h6 => by rw [e3 c h4 h6, e2 c h2 h3, t0 c h1 h2 h3 h4 h5 h6], ?_, ?_, ?_, ?_, ?_, ?_⟩
            · rw [f3 6 (by omega), e2 28 (by omega) (by omega)]; exact t6
            · rw [f3 7 (by omega), e2 28 (by omega) (by omega)]; exact t7
            · intro j hj
              rw [e3 25 (by omega) (by omega), e2 25 (by omega) (by omega)]; exact tw j hj
            · intro i hi
              rw [e3 30 (by omega) (by omega), e2 30 (by omega) (by omega)]; exact tt i hi
            · rw [ef]; exact g3
            · intro _ i hi
              rw [ef]; exact b3 i hi
        · have ef : fm (VV σ p) (B + 1) = fm (VV σ p) B := by rw [fm, if_neg (by omega)]
          refine wp_vret d_PH_tryFrom_41 rfl ⟨rfl, rfl, ?_⟩
          rw [e1]
          have hB0 : 0 < B := Nat.pos_of_ne_zero (fun z => by rw [z, fm] at h38; rw [z] at bV; have : (2147483647 : Int) ≤ VV σ p 0 + 0 := h38; omega)
          refine ⟨fun c h1 h2 h3 h4 h5 h6 => by rw [e2 c h2 h3, t0 c h1 h2 h3 h4 h5 h6], ?_, ?_, ?_, ?_, ?_, ?_⟩
          · rw [e2 28 (by omega) (by omega)]; exact t6
          · rw [e2 28 (by omega) (by omega)]; exact t7
          · intro j hj
            rw [e2 25 (by omega) (by omega)]; exact tw j hj
          · intro i hi
            rw [e2 30 (by omega) (by omega)]; exact tt i hi
          · rw [ef, e2 28 (by omega) (by omega)]; exact tl8
          · intro _ i hi
            rw [ef, e2 31 (by omega) (by omega)]; exact tb hB0 i hi
      · exact absurd h10 (by omega)
  | succ q ih =>
    intro one B h hq hB ts
    obtain ⟨t0, t6, t7, tw, tt, tl8, tb⟩ := ts
    have hp' : PV σ h := hz.1.keep (fun c _ _ => t0 c (by omega) (by omega) (by omega) (by omega) (by omega) (by omega))
    have hv' : IV σ h := hz.2.1.keep (fun c _ _ => t0 c (by omega) (by omega) (by omega) (by omega) (by omega) (by omega))
    have hf := fm_b (VV_b ok hpp) B
    have hin : one < nS σ p := by omega
    have hm := (mb_sit ok hin).1
    have hmm := ok.m hm
    have hlp : lP σ (mb (sit σ p) one) ≤ 9 := by unfold lP; split <;> omega
    have hrx : lP σ (mb (sit σ p) one) < rx σ (sit σ p) one := by unfold lP rx; split <;> omega
    have e32 : h 32 one = zI (tc σ p (q + 1) one) := by
      rw [t0 32 (by omega) (by omega) (by omega) (by omega) (by omega) (by omega), hz.2.2.2 one (by omega), show nS σ p - one = q + 1 by omega]
    have bF : 0 ≤ FF σ p (WW σ p one B) ∧ FF σ p (WW σ p one B) ≤ 48216 := FF_b ok hpp (fun j => WW_b ok (by omega) B j)
    have bT := tc_b ok hpp (q + 1) one (by omega)
    have hR : 0 < Rq σ p q (one + 1) := RR_pos _ _ _ _
    have hR2 : 0 < Rq σ p (q + 1) one := RR_pos _ _ _ _
    have loop : ∀ k s : Nat, s + k = lP σ (mb (sit σ p) one) + 1 → ∀ g : HI, TS σ p h0 g one B (B + s * Rq σ p q (one + 1)) → ∀ x : Int32,
        Wp M_PH_tryFrom (q + 1 + 2) (fun r hi' hl' => r = none ∧ hl = hl' ∧ TS σ p h0 hi' one B (B + Rq σ p (q + 1) one)) 66 [some (.ref 28), some (.int (zI one)), some (.int x), some (.int (zI (mb (sit σ p) one))), some (.int (zI s))] [] g hl := by
      intro k
      induction k with
      | zero =>
        intro s hsk g ts x
        obtain ⟨t0, t6, t7, tw, tt, tl8, tb⟩ := ts
        have hp' : PV σ g := hz.1.keep (fun c _ _ => t0 c (by omega) (by omega) (by omega) (by omega) (by omega) (by omega))
        refine wp_iload d_PH_tryFrom_66 rfl ?_
        refine wp_aload_n d_PH_tryFrom_68 rfl ?_
        refine wp_iload_n d_PH_tryFrom_69 rfl ?_
        refine wp_callV (ct_PH_lastPhase (m := mb (sit σ p) one) 0 ok hp' hm) d_PH_tryFrom_70 k_PH_82 (by decide) rfl rfl rfl rfl (Nat.le_of_ble_eq_true rfl) (by omega) ?_
        rintro _ _ _ ⟨rfl, rfl, rfl⟩
        refine wz_icmp_gt (tgt := 128) d_PH_tryFrom_73 (by decide) (by omega) (by omega) (fun h73 => ?_) (fun h73 => ?_)
        · have ef : fm (VV σ p) (B + Rq σ p (q + 1) one) = fm (VV σ p) (B + s * Rq σ p q (one + 1)) := by
            by_cases hb : br σ (mb (sit σ p) one) = 0
            · have : s = rx σ (sit σ p) one := by unfold rx; rw [lP, if_pos hb] at hsk; omega
              rw [this]
              rfl
            · have hs1 : s = 1 := by rw [lP, if_neg hb] at hsk; omega
              rw [hs1, Nat.one_mul]
              have hle : Rq σ p q (one + 1) ≤ Rq σ p (q + 1) one := by
                rw [Rq_succ]
                exact Nat.le_mul_of_pos_left _ (by omega)
              rw [show B + Rq σ p (q + 1) one = (B + Rq σ p q (one + 1)) + (Rq σ p (q + 1) one - Rq σ p q (one + 1)) by omega]
              refine fm_stay _ _ _ (fun v h1 h2 => ?_)
              obtain ⟨u, hu⟩ : ∃ u, u = (v - B) % Rq σ p q (one + 1) := ⟨_, rfl⟩
              obtain ⟨t, ht⟩ : ∃ t, t = (v - B) / Rq σ p q (one + 1) := ⟨_, rfl⟩
              have hdm := Nat.div_add_mod (v - B) (Rq σ p q (one + 1))
              rw [← hu, ← ht] at hdm
              have hu2 : u < Rq σ p q (one + 1) := by rw [hu]; exact Nat.mod_lt _ hR
              have ht2 : t < rx σ (sit σ p) one := by
                rw [ht, Nat.div_lt_iff_lt_mul hR]
                rw [Rq_succ] at h2
                omega
              have e := VV_bribed hq hB hb (v := B + u) (s := t) (by omega) (by omega) ht2
              rw [Nat.mul_comm] at hdm
              rw [show B + u + t * Rq σ p q (one + 1) = v by omega] at e
              rw [e]
              exact fm_le _ _ _ (by omega)
          refine wp_vret d_PH_tryFrom_128 rfl ⟨rfl, rfl, t0, t6, t7, tw, tt, ?_, fun _ => ?_⟩
          · rw [ef]; exact tl8
          · rw [ef]
            refine tb ?_
            have := Nat.mul_le_mul_right (Rq σ p q (one + 1)) (show 1 ≤ s by omega)
            omega
        · exact absurd h73 (by omega)
      | succ k ihk =>
        intro s hsk g ts x
        obtain ⟨t0, t6, t7, tw, tt, tl8, tb⟩ := ts
        have hp' : PV σ g := hz.1.keep (fun c _ _ => t0 c (by omega) (by omega) (by omega) (by omega) (by omega) (by omega))
        have hs : s < rx σ (sit σ p) one := by omega
        have hdv : Rq σ p q (one + 1) ∣ B + s * Rq σ p q (one + 1) := by
          refine Nat.dvd_add ?_ (Nat.dvd_mul_left _ _)
          refine Nat.dvd_trans ?_ hB
          rw [Rq_succ]
          exact Nat.dvd_mul_left _ _
        refine wp_iload d_PH_tryFrom_66 rfl ?_
        refine wp_aload_n d_PH_tryFrom_68 rfl ?_
        refine wp_iload_n d_PH_tryFrom_69 rfl ?_
        refine wp_callV (ct_PH_lastPhase (m := mb (sit σ p) one) 0 ok hp' hm) d_PH_tryFrom_70 k_PH_82 (by decide) rfl rfl rfl rfl (Nat.le_of_ble_eq_true rfl) (by omega) ?_
        rintro _ _ _ ⟨rfl, rfl, rfl⟩
        refine wz_icmp_gt (tgt := 128) d_PH_tryFrom_73 (by decide) (by omega) (by omega) (fun h73 => ?_) (fun h73 => ?_)
        · exact absurd h73 (by omega)
        · refine wp_aload_n d_PH_tryFrom_76 rfl ?_
          refine wp_getR d_PH_tryFrom_77 f_PH_23 (by decide) rfl rfl ?_
          refine wp_iload_n d_PH_tryFrom_80 rfl ?_
          refine wp_iload d_PH_tryFrom_81 rfl ?_
          refine wz_iast (rfl) ((by omega)) d_PH_tryFrom_83 (by decide) rfl (by decide) ?_
          refine wp_aload_n d_PH_tryFrom_84 rfl ?_
          refine wp_getR d_PH_tryFrom_85 f_PH_15 (by decide) rfl rfl ?_
          refine wp_iload_n d_PH_tryFrom_88 rfl ?_
          refine wp_iload d_PH_tryFrom_89 rfl ?_
          refine wp_aload_n d_PH_tryFrom_91 rfl ?_
          refine wp_iload_n d_PH_tryFrom_92 rfl ?_
          have hp1 : PV σ (setI g 30 one (zI s)) := hp'.keep (fun c _ _ => setI_ne _ _ _ (by omega))
          have hv1 : IV σ (setI g 30 one (zI s)) := hz.2.1.keep (fun c _ _ => by rw [setI_ne _ _ _ (by omega)]; exact t0 c (by omega) (by omega) (by omega) (by omega) (by omega) (by omega))
          refine wp_callV (ct_PH_breath (m := mb (sit σ p) one) 0 ok hp1 hm) d_PH_tryFrom_93 k_PH_85 (by decide) rfl rfl rfl rfl (Nat.le_of_ble_eq_true rfl) (by omega) ?_
          rintro _ _ _ ⟨rfl, rfl, rfl⟩
          refine wz_ineg d_PH_tryFrom_96 ?_
          refine wp_callV (ct_MA_addAtBreaths (m := mb (sit σ p) one) (s := s) (x := -(bth σ (mb (sit σ p) one) : Int)) (w := WW σ p one B) ok hp1 hv1 hm (by omega) (fun j hj => rd1 (by decide) (tw j hj))) d_PH_tryFrom_97 k_PH_88 (by decide) rfl rfl rfl rfl (Nat.le_of_ble_eq_true rfl) (by omega) ?_
          rintro _ h2 _ ⟨rfl, rfl, e2, w2⟩
          have hts : TS σ p h0 h2 (one + 1) (B + s * Rq σ p q (one + 1)) (B + s * Rq σ p q (one + 1)) := by
            refine ⟨fun c h1 h2 h3 h4 h5 h6 => by rw [e2 c h1, setI_ne _ _ _ h5, t0 c h1 h2 h3 h4 h5 h6], ?_, ?_, ?_, ?_, ?_, ?_⟩
            · rw [e2 28 (by omega)]; exact rd1 (by decide) t6
            · rw [e2 28 (by omega)]; exact rd1 (by decide) t7
            · intro j hj
              obtain ⟨b, hb, z⟩ := w2 j hj
              rw [z, WW_next hq hB hs, dl_b hb]
              cases b <;> simp <;> rfl
            · intro i hi
              rw [e2 30 (by omega)]
              by_cases z : i = one
              · subst z
                refine rdA ?_
                rw [dg_one hq hB hs (Nat.le_refl _) (by rw [Nat.add_mul]; omega)]
              · refine rdS z ?_
                rw [tt i (by omega), dg_low hq (by omega) hB (Nat.le_add_right _ _) (in_range hs)]
            · rw [e2 28 (by omega)]; exact rd1 (by decide) tl8
            · intro ha i hi
              rw [e2 31 (by omega)]; exact rd1 (by decide) (tb ha i hi)
          refine wp_aload_n d_PH_tryFrom_100 rfl ?_
          refine wp_iload_n d_PH_tryFrom_101 rfl ?_
          refine wp_iconst (v := zI 1) d_PH_tryFrom_102 rfl ?_
          refine wz_iadd d_PH_tryFrom_103 ?_
          refine wp_callS (ih (one + 1) (B + s * Rq σ p q (one + 1)) h2 (by omega) hdv hts) d_PH_tryFrom_104 k_PH_66 rfl rfl (Nat.le_of_ble_eq_true rfl) (by omega) ?_
          rintro _ h3 _ ⟨rfl, rfl, u0, u6, u7, uw, ut, ul8, ub⟩
          have hp3 : PV σ h3 := hz.1.keep (fun c _ _ => u0 c (by omega) (by omega) (by omega) (by omega) (by omega) (by omega))
          have hv3 : IV σ h3 := hz.2.1.keep (fun c _ _ => u0 c (by omega) (by omega) (by omega) (by omega) (by omega) (by omega))
          refine wp_aload_n d_PH_tryFrom_107 rfl ?_
          refine wp_getR d_PH_tryFrom_108 f_PH_15 (by decide) rfl rfl ?_
          refine wp_iload_n d_PH_tryFrom_111 rfl ?_
          refine wp_iload d_PH_tryFrom_112 rfl ?_
          refine wp_aload_n d_PH_tryFrom_114 rfl ?_
          refine wp_iload_n d_PH_tryFrom_115 rfl ?_
          refine wp_callV (ct_PH_breath (m := mb (sit σ p) one) 0 ok hp3 hm) d_PH_tryFrom_116 k_PH_85 (by decide) rfl rfl rfl rfl (Nat.le_of_ble_eq_true rfl) (by omega) ?_
          rintro _ _ _ ⟨rfl, rfl, rfl⟩
          refine wp_callV (ct_MA_addAtBreaths (m := mb (sit σ p) one) (s := s) (x := (bth σ (mb (sit σ p) one) : Int)) (w := WW σ p (one + 1) (B + s * Rq σ p q (one + 1))) ok hp3 hv3 hm (by omega) uw) d_PH_tryFrom_119 k_PH_88 (by decide) rfl rfl rfl rfl (Nat.le_of_ble_eq_true rfl) (by omega) ?_
          rintro _ h4 _ ⟨rfl, rfl, e4, w4⟩
          refine wz_iinc (lv' := [_, _, _, _, _]) d_PH_tryFrom_122 rfl (by decide) rfl ?_
          refine wp_goto (tgt := 66) d_PH_tryFrom_125 (by decide) ?_
          have ea : B + s * Rq σ p q (one + 1) + Rq σ p q (one + 1) = B + (s + 1) * Rq σ p q (one + 1) := by rw [Nat.add_mul]; omega
          rw [ea] at ul8 ub
          refine ihk (s + 1) (by omega) h4 ⟨fun c h1 h2 h3 h4 h5 h6 => by rw [e4 c h1, u0 c h1 h2 h3 h4 h5 h6], ?_, ?_, ?_, ?_, ?_, ?_⟩ x
          · rw [e4 28 (by omega)]; exact u6
          · rw [e4 28 (by omega)]; exact u7
          · intro j hj
            obtain ⟨b, hb, z⟩ := w4 j hj
            rw [z, WW_next hq hB hs, dl_b hb]
            congr 1
            omega
          · intro i hi
            rw [e4 30 (by omega), ut i (by omega), dg_low hq (by omega) hB (Nat.le_add_right _ _) (in_range hs)]
          · rw [e4 28 (by omega)]; exact ul8
          · intro ha i hi
            rw [e4 31 (by omega)]; exact ub ha i hi
    refine ct_intro (lv := [_, _, _, _, _]) (by decide +kernel) (Nat.le_of_ble_eq_true rfl) rfl ?_
    refine wp_iload_n d_PH_tryFrom_0 rfl ?_
    refine wp_aload_n d_PH_tryFrom_1 rfl ?_
    refine wz_getI (t7) d_PH_tryFrom_2 f_PH_70 (by decide) rfl rfl ?_
    refine wz_icmp_gt (tgt := 13) d_PH_tryFrom_5 (by decide) (by omega) (by omega) (fun h5 => ?_) (fun h5 => ?_)
    · exact absurd h5 (by omega)
    · refine wp_iload_n d_PH_tryFrom_8 rfl ?_
      refine wp_iconst (v := zI 4) d_PH_tryFrom_9 rfl ?_
      refine wz_icmp_le (tgt := 14) d_PH_tryFrom_10 (by decide) (by omega) (by omega) (fun h10 => ?_) (fun h10 => ?_)
      · refine wp_aload_n d_PH_tryFrom_14 rfl ?_
        refine wp_getR d_PH_tryFrom_15 f_PH_15 (by decide) rfl rfl ?_
        refine wp_aload_n d_PH_tryFrom_18 rfl ?_
        refine wz_getI (t6) d_PH_tryFrom_19 f_PH_43 (by decide) rfl rfl ?_
        refine wp_callV (ct_MA_blow (p := p) (w := WW σ p one B) ok hp' hv' hpp tw (fun j _ => WW_b ok (by omega) B j)) d_PH_tryFrom_22 k_PH_76 (by decide) rfl rfl rfl rfl (Nat.le_of_ble_eq_true rfl) (by omega) ?_
        rintro _ h2 _ ⟨rfl, rfl, e2, -, -⟩
        have eV' : smA (rm σ) (dnS σ p) (WW σ p one B) (nB σ) = FF σ p (WW σ p one B) := rfl
        rw [eV']
        refine wp_istore_n (lv' := [_, _, _, _, _]) d_PH_tryFrom_25 (by decide) rfl ?_
        refine wp_iload_n d_PH_tryFrom_26 rfl ?_
        refine wp_aload_n d_PH_tryFrom_27 rfl ?_
        refine wp_getR d_PH_tryFrom_28 f_PH_29 (by decide) rfl rfl ?_
        refine wp_iload_n d_PH_tryFrom_31 rfl ?_
        refine wz_iald ((by rw [e2 32 (by omega) (by omega)]; exact e32)) (rfl) ((by omega)) d_PH_tryFrom_32 (by decide) rfl (by decide) ?_
        refine wz_iadd d_PH_tryFrom_33 ?_
        refine wp_aload_n d_PH_tryFrom_34 rfl ?_
        refine wz_getI ((by rw [e2 28 (by omega) (by omega)]; exact tl8)) d_PH_tryFrom_35 f_PH_63 (by decide) rfl rfl ?_
        have ts2 : TS σ p h0 h2 one B B := by
          refine ⟨fun c h1 h2 h3 h4 h5 h6 => by rw [e2 c h2 h3, t0 c h1 h2 h3 h4 h5 h6], ?_, ?_, ?_, ?_, ?_, ?_⟩
          · rw [e2 28 (by omega) (by omega)]; exact t6
          · rw [e2 28 (by omega) (by omega)]; exact t7
          · intro j hj
            rw [e2 25 (by omega) (by omega)]; exact tw j hj
          · intro i hi
            rw [e2 30 (by omega) (by omega)]; exact tt i hi
          · rw [e2 28 (by omega) (by omega)]; exact tl8
          · intro ha i hi
            rw [e2 31 (by omega) (by omega)]; exact tb ha i hi
        refine wz_icmp_lt (tgt := 42) d_PH_tryFrom_38 (by decide) (by omega) (by omega) (fun h38 => ?_) (fun h38 => ?_)
        · have h29 : h2 29 one = zI (mb (sit σ p) one) := by
            rw [e2 29 (by omega) (by omega), t0 29 (by omega) (by omega) (by omega) (by omega) (by omega) (by omega)]
            exact hz.2.2.1 one hin
          refine wp_iload_n d_PH_tryFrom_42 rfl ?_
          refine wp_aload_n d_PH_tryFrom_43 rfl ?_
          refine wz_getI ((by rw [e2 28 (by omega) (by omega)]; exact t7)) d_PH_tryFrom_44 f_PH_70 (by decide) rfl rfl ?_
          refine wz_icmp_ne (tgt := 56) d_PH_tryFrom_47 (by decide) (by omega) (by omega) (fun h47 => ?_) (fun h47 => ?_)
          · refine wp_aload_n d_PH_tryFrom_56 rfl ?_
            refine wp_getR d_PH_tryFrom_57 f_PH_19 (by decide) rfl rfl ?_
            refine wp_iload_n d_PH_tryFrom_60 rfl ?_
            refine wz_iald (h29) (rfl) ((by omega)) d_PH_tryFrom_61 (by decide) rfl (by decide) ?_
            refine wp_istore_n (lv' := [_, _, _, _, _]) d_PH_tryFrom_62 (by decide) rfl ?_
            refine wp_iconst (v := zI 0) d_PH_tryFrom_63 rfl ?_
            refine wp_istore (lv' := [_, _, _, _, _]) d_PH_tryFrom_64 (by decide) rfl ?_
            exact loop (lP σ (mb (sit σ p) one) + 1) 0 (by omega) h2 (by rw [Nat.zero_mul, Nat.add_zero]; exact ts2) _
          · exact absurd h47 (by omega)
        · have ef : fm (VV σ p) (B + Rq σ p (q + 1) one) = fm (VV σ p) B := by
            refine fm_stay _ _ _ (fun v h1 h2 => ?_)
            have := VV_ge σ p v (q + 1) one hq
            rw [WW_low hq hB h1 h2] at this
            omega
          have hB0 : 0 < B := Nat.pos_of_ne_zero (fun z => by rw [z, fm] at h38; rw [z] at bF; have : (2147483647 : Int) ≤ FF σ p (WW σ p one 0) + tc σ p (q + 1) one := h38; omega)
          obtain ⟨t0, t6, t7, tw, tt, tl8, tb⟩ := ts2
          refine wp_vret d_PH_tryFrom_41 rfl ⟨rfl, rfl, t0, t6, t7, tw, tt, ?_, fun _ => ?_⟩
          · rw [ef]; exact tl8
          · rw [ef]; exact tb hB0
      · exact absurd h10 (by omega)
/-- the best way -/
def bw (σ : SG) (p : Nat) : Int × Nat := fm (VV σ p) (Rq σ p (nS σ p) 0)
theorem ct_PH_find (ok : Ok σ) (hA : AX σ hi) (hpp : p < nP σ) : Ct M_PH_find 8 [.ref 28, .int (zI p)] hi hl (fun r hi' hl' => r = some (.int (bI (nS σ p ≤ 4))) ∧ hl = hl' ∧ (∀ c, c < 25 ∨ 32 < c → hi' c = hi c) ∧ (nS σ p ≤ 4 → hi' 28 7 = zI (nS σ p) ∧ hi' 28 8 = zI (bw σ p).1 ∧ ∀ i, i < nS σ p → hi' 31 i = zI (dg σ p i (bw σ p).2))) := by
  have hn := ok.nums
  have hs := sit_lt ok p
  have hS := nS_le σ p
  refine ct_intro (lv := [_, _, _]) (by decide +kernel) (Nat.le_of_ble_eq_true rfl) rfl ?_
  refine wp_aload_n d_PH_find_0 rfl ?_
  refine wp_getR d_PH_find_1 f_PH_9 (by decide) rfl rfl ?_
  refine wp_iload_n d_PH_find_4 rfl ?_
  refine wp_callV (ct_PE_sittingAt (p := p) 0 ok hA.1 (by omega)) d_PH_find_5 k_PH_32 (by decide) rfl rfl rfl rfl (Nat.le_of_ble_eq_true rfl) (by omega) ?_
  rintro _ _ _ ⟨rfl, rfl, rfl⟩
  refine wp_istore_n (lv' := [_, _, _]) d_PH_find_8 (by decide) rfl ?_
  refine wp_iload_n d_PH_find_9 rfl ?_
  refine wp_callS (ct_IG_bitCount (set := sit σ p) 0 hs) d_PH_find_10 k_PH_38 rfl rfl (Nat.le_of_ble_eq_true rfl) (by omega) ?_
  rintro _ _ _ ⟨rfl, rfl, rfl⟩
  have eS : cnt (sit σ p) 12 = nS σ p := rfl
  rw [eS]
  refine wp_iconst (v := zI 4) d_PH_find_13 rfl ?_
  refine wz_icmp_le (tgt := 19) d_PH_find_14 (by decide) (by omega) (by omega) (fun h14 => ?_) (fun h14 => ?_)
  · have h4 : nS σ p ≤ 4 := by omega
    refine wp_aload_n d_PH_find_19 rfl ?_
    refine wp_iload_n d_PH_find_20 rfl ?_
    refine wp_putI d_PH_find_21 f_PH_43 pk_PH_6 (by decide) rfl rfl ?_
    refine wp_aload_n d_PH_find_24 rfl ?_
    refine wp_iload_n d_PH_find_25 rfl ?_
    have hA1 : AX σ (setI hi 28 6 (zI p)) := hA.keep (fun c hc => setI_ne _ _ _ (by omega))
    refine wp_callV (ct_PH_list (p := p) 0 ok hA1.1 h4) d_PH_find_26 k_PH_47 (by decide) rfl rfl rfl rfl (Nat.le_of_ble_eq_true rfl) (by omega) ?_
    rintro _ h2 _ ⟨rfl, rfl, e2, f2, g2, k2⟩
    have hA2 : AX σ h2 := hA1.keep (fun c hc => e2 c (by omega) (by omega))
    refine wp_aload_n d_PH_find_29 rfl ?_
    refine wp_getR d_PH_find_30 f_PH_15 (by decide) rfl rfl ?_
    refine wp_aload_n d_PH_find_33 rfl ?_
    refine wp_getR d_PH_find_34 f_PH_9 (by decide) rfl rfl ?_
    refine wp_iload_n d_PH_find_37 rfl ?_
    refine wp_callV (ct_PE_forceOf (set := sit σ p) 0 ok hA2.1 hs) d_PH_find_38 k_PH_51 (by decide) rfl rfl rfl rfl (Nat.le_of_ble_eq_true rfl) (by omega) ?_
    rintro _ _ _ ⟨rfl, rfl, rfl⟩
    refine wp_callV (ct_MA_fill (x := zI (forS σ (sit σ p))) 0 ok hA2.2.1) d_PH_find_41 k_PH_54 (by decide) rfl rfl rfl rfl (Nat.le_of_ble_eq_true rfl) (by omega) ?_
    rintro _ h3 _ ⟨rfl, rfl, e3, w3⟩
    have hA3 : AX σ h3 := hA2.keep (fun c hc => e3 c (by omega))
    have x6 : h3 28 6 = zI p := by rw [e3 28 (by omega), f2 6 (by omega)]; exact rdA rfl
    have x7 : h3 28 7 = zI (nS σ p) := by rw [e3 28 (by omega)]; exact g2
    have x29 : ∀ i, i < nS σ p → h3 29 i = zI (mb (sit σ p) i) := fun i hi => by rw [e3 29 (by omega)]; exact k2 i hi
    refine wp_aload_n d_PH_find_44 rfl ?_
    refine wp_callV (ct_PH_foresee (p := p) ok hA3.1 hA3.2.1 hpp h4 x6 x7 x29 w3) d_PH_find_45 k_PH_59 (by decide) rfl rfl rfl rfl (Nat.le_of_ble_eq_true rfl) (by omega) ?_
    rintro _ h4' _ ⟨rfl, rfl, e4, w4, k4⟩
    refine wp_aload_n d_PH_find_48 rfl ?_
    refine wz_ldc (z := 2147483647) d_PH_find_49 cs_PH_62 rfl ?_
    refine wp_putI d_PH_find_51 f_PH_63 pk_PH_8 (by decide) rfl rfl ?_
    refine wp_aload_n d_PH_find_54 rfl ?_
    refine wp_iconst (v := zI 0) d_PH_find_55 rfl ?_
    have hA4 : AX σ (setI h4' 28 8 (zI 2147483647)) := hA3.keep (fun c hc => by rw [setI_ne _ _ _ (by omega), e4 c (by omega) (by omega) (by omega) (by omega)])
    have hz : TZ σ p (setI h4' 28 8 (zI 2147483647)) := ⟨hA4.1, hA4.2.1, fun i hi => rd1 (by decide) (by rw [e4 29 (by omega) (by omega) (by omega) (by omega)]; exact x29 i hi), fun i hi => rd1 (by decide) (k4 i hi)⟩
    have hts : TS σ p (setI h4' 28 8 (zI 2147483647)) (setI h4' 28 8 (zI 2147483647)) 0 0 0 := by
      refine ⟨fun _ _ _ _ _ _ _ => rfl, ?_, ?_, ?_, ?_, ?_, ?_⟩
      · refine rdS (by decide) ?_
        rw [e4 28 (by omega) (by omega) (by omega) (by omega)]; exact x6
      · refine rdS (by decide) ?_
        rw [e4 28 (by omega) (by omega) (by omega) (by omega)]; exact x7
      · intro j hj
        refine rd1 (by decide) ?_
        rw [w4 j hj, WW, smf, Int.sub_zero]
      · intro i hi
        exact absurd hi (by omega)
      · exact rdA rfl
      · intro ha
        exact absurd ha (by omega)
    refine wp_callS (ct_PH_tryFrom ok hpp h4 hz (nS σ p) 0 0 _ (by omega) (Nat.dvd_zero _) hts) d_PH_find_56 k_PH_66 rfl rfl (Nat.le_of_ble_eq_true rfl) (by omega) ?_
    rintro _ h5 _ ⟨rfl, rfl, u0, u6, u7, uw, ut, ul8, ub⟩
    rw [Nat.zero_add] at ul8 ub
    refine wp_iconst (v := zI 1) d_PH_find_59 rfl ?_
    exact wp_iret d_PH_find_60 (Or.inr ⟨rfl, by first | exact bI_01 _ | exact Or.inl rfl | exact Or.inr rfl⟩) (⟨by rw [bI_t h4]; rfl, rfl, fun c hc => by rw [u0 c (by omega) (by omega) (by omega) (by omega) (by omega) (by omega), setI_ne _ _ _ (by omega), e4 c (by omega) (by omega) (by omega) (by omega), e3 c (by omega), e2 c (by omega) (by omega), setI_ne _ _ _ (by omega)], fun _ => ⟨u7, ul8, ub (RR_pos _ _ _ _)⟩⟩)
  · refine wp_iconst (v := zI 0) d_PH_find_17 rfl ?_
    exact wp_iret d_PH_find_18 (Or.inr ⟨rfl, by first | exact bI_01 _ | exact Or.inl rfl | exact Or.inr rfl⟩) (⟨by rw [bI_f (by omega)]; rfl, rfl, fun _ _ => rfl, fun q => absurd q (by omega)⟩)
end PHF
