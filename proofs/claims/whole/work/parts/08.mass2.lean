/-! Mass: breaths, a pipe's own people, all pipes, the first beat that sags -/
/-- whether PERSON m would breathe in at the beat j by the phase s -/
def brt (σ : SG) (m s j : Nat) : Prop := (j + lt σ + s) % (lu σ m + 1) = lu σ m
def totN (σ : SG) (k : Nat) : Nat → Int
  | 0 => 0
  | n + 1 => totN σ k n + sag σ n (sit σ n) k
def tot (σ : SG) (k : Nat) : Int := totN σ k (nP σ)
def fpos (f : Nat → Int) : Nat → Nat → Int
  | 0, _ => -9
  | k + 1, j => if 0 < f j then (j : Int) else fpos f k (j + 1)
section MASS2
variable {σ : SG} {hi : HI} {hl : HL}
theorem sit_lt (ok : Ok σ) (p : Nat) : sit σ p < 2 ^ 12 := Nat.lt_of_lt_of_le (sitN_lt σ p (nM σ)) (Nat.pow_le_pow_right (by omega) ok.nums.2.2.1)
theorem sag_b (ok : Ok σ) {p : Nat} (hp : p < nP σ) (set k : Nat) : 0 ≤ sag σ p set k ∧ sag σ p set k ≤ 48216 := by
  have hn := ok.nums
  have := smA_b (c := rm σ) (by omega) (dn := dnS σ p) (w := wnd σ set k) (nB σ) (fun j hj => ⟨dnS_b ok hp j, by have := wnd_b ok set k j; omega⟩)
  unfold sag
  omega
theorem totN_b (ok : Ok σ) (k : Nat) : ∀ n, n ≤ nP σ → 0 ≤ totN σ k n ∧ totN σ k n ≤ 48216 * n
  | 0, _ => by simp [totN]
  | n + 1, h => by
    have h1 := totN_b ok k n (by omega)
    have h2 := sag_b ok (p := n) (by omega) (sit σ n) k
    rw [totN]
    omega
theorem brt_iff (σ : SG) (m s j : Nat) : brt σ m s j ↔ ((j % (lu σ m + 1) : Nat) : Int) = ((lu σ m : Int) - s - lt σ) % ((lu σ m : Int) + 1) := by
  have h0 : (0 : Int) ≤ lu σ m := by omega
  have e1 : (lu σ m : Int) % ((lu σ m : Int) + 1) = lu σ m := Int.emod_eq_of_lt h0 (by omega)
  unfold brt
  have e2 : ((j + lt σ + s) % (lu σ m + 1) = lu σ m) ↔ (((j : Int) + lt σ + s) % ((lu σ m : Int) + 1) = (lu σ m : Int) % ((lu σ m : Int) + 1)) := by
    rw [e1]
    constructor
    · intro h
      have := congrArg (fun n : Nat => (n : Int)) h
      simpa using this
    · intro h
      have : (((j + lt σ + s) % (lu σ m + 1) : Nat) : Int) = (lu σ m : Int) := by simpa using h
      exact Int.ofNat.inj this
  rw [e2, Int.emod_eq_emod_iff_emod_sub_eq_zero]
  have e3 : ((j % (lu σ m + 1) : Nat) : Int) = (j : Int) % ((lu σ m : Int) + 1) := by simp
  rw [e3, Int.emod_eq_emod_iff_emod_sub_eq_zero]
  rw [show (j : Int) + lt σ + s - lu σ m = (j : Int) - ((lu σ m : Int) - s - lt σ) by omega]
theorem mod_gap {T a j : Nat} (hT : 2 ≤ T ∧ T ≤ 10) (h1 : j < a) (h2 : a < j + T) : ¬ a % T = j % T := by
  have : T = 2 ∨ T = 3 ∨ T = 4 ∨ T = 5 ∨ T = 6 ∨ T = 7 ∨ T = 8 ∨ T = 9 ∨ T = 10 := by omega
  rcases this with rfl | rfl | rfl | rfl | rfl | rfl | rfl | rfl | rfl <;> omega
theorem ct_MA_addAtBreaths {m s : Nat} {x : Int} {w : Nat → Int} (ok : Ok σ) (hp : PV σ hi) (hv : IV σ hi) (hm : m < nM σ) (hs : s ≤ 9) (hw : ∀ j, j < nB σ → hi 25 j = zI (w j)) : Ct M_MA_addAtBreaths 2 [.ref 24, .int (zI m), .int (zI s), .int (zI x)] hi hl (fun r hi' hl' => r = none ∧ hl = hl' ∧ (∀ c, c ≠ 25 → hi' c = hi c) ∧ ∀ j, j < nB σ → ∃ b : Bool, (b = true ↔ brt σ m s j) ∧ hi' 25 j = zI (w j + (if b then x else 0))) := by
  have hn := ok.nums
  have hmm := ok.m hm
  obtain ⟨S, hS⟩ : ∃ S : Nat, ((lu σ m : Int) - s - lt σ) % ((lu σ m : Int) + 1) = (S : Int) := ⟨_, (Int.toNat_of_nonneg (Int.emod_nonneg _ (by omega))).symm⟩
  have hSl : S < lu σ m + 1 := by
    have := Int.emod_lt_of_pos ((lu σ m : Int) - s - lt σ) (show (0 : Int) < (lu σ m : Int) + 1 by omega)
    omega
  have hb : ∀ j, brt σ m s j ↔ j % (lu σ m + 1) = S := fun j => by
    rw [brt_iff, hS]
    exact ⟨fun h => Int.ofNat.inj h, fun h => by rw [h]⟩
  have loop : ∀ k j, nB σ ≤ j + k → j ≤ 1000 → j % (lu σ m + 1) = S → ∀ h : HI, (∀ c, c ≠ 25 → h c = hi c) → (∀ a, a < nB σ → h 25 a = zI (w a + (if a < j ∧ a % (lu σ m + 1) = S then x else 0))) → (∀ a, a < j → a % (lu σ m + 1) = S → True) →
      Wp M_MA_addAtBreaths 2 (fun r hi' hl' => r = none ∧ hl = hl' ∧ (∀ c, c ≠ 25 → hi' c = hi c) ∧ ∀ j, j < nB σ → ∃ b : Bool, (b = true ↔ brt σ m s j) ∧ hi' 25 j = zI (w j + (if b then x else 0))) 40 [some (.ref 24), some (.int (zI m)), some (.int (zI s)), some (.int (zI x)), some (.int (zI ((lu σ m : Int) + 1))), some (.int (zI S)), some (.int (zI j))] [] h hl := by
    intro k
    induction k with
    | zero =>
      intro j hjk hj1 hjS h he hh _
      have hv' : IV σ h := hv.keep (fun c _ _ => he c (by omega))
      refine wp_iload d_MA_addAtBreaths_40 rfl ?_
      refine wp_aload_n d_MA_addAtBreaths_42 rfl ?_
      refine wp_getR d_MA_addAtBreaths_43 f_MA_9 (by decide) rfl rfl ?_
      refine wz_getI (hv'.nb) d_MA_addAtBreaths_46 f_MA_39 (by decide) rfl rfl ?_
      refine wz_icmp_ge (tgt := 73) d_MA_addAtBreaths_49 (by decide) (by omega) (by omega) (fun h49 => ?_) (fun h49 => ?_)
      · exact wp_vret d_MA_addAtBreaths_73 rfl (⟨rfl, rfl, he, fun a ha => ⟨decide (a % (lu σ m + 1) = S), by rw [hb]; simp, by rw [hh a ha]; congr 2; by_cases q : a % (lu σ m + 1) = S <;> simp [q] <;> omega⟩⟩)
      · exact absurd h49 (by omega)
    | succ k ih =>
      intro j hjk hj1 hjS h he hh _
      have hv' : IV σ h := hv.keep (fun c _ _ => he c (by omega))
      refine wp_iload d_MA_addAtBreaths_40 rfl ?_
      refine wp_aload_n d_MA_addAtBreaths_42 rfl ?_
      refine wp_getR d_MA_addAtBreaths_43 f_MA_9 (by decide) rfl rfl ?_
      refine wz_getI (hv'.nb) d_MA_addAtBreaths_46 f_MA_39 (by decide) rfl rfl ?_
      refine wz_icmp_ge (tgt := 73) d_MA_addAtBreaths_49 (by decide) (by omega) (by omega) (fun h49 => ?_) (fun h49 => ?_)
      · exact wp_vret d_MA_addAtBreaths_73 rfl (⟨rfl, rfl, he, fun a ha => ⟨decide (a % (lu σ m + 1) = S), by rw [hb]; simp, by rw [hh a ha]; congr 2; by_cases q : a % (lu σ m + 1) = S <;> simp [q] <;> omega⟩⟩)
      · refine wp_aload_n d_MA_addAtBreaths_52 rfl ?_
        refine wp_getR d_MA_addAtBreaths_53 f_MA_19 (by decide) rfl rfl ?_
        refine wp_iload d_MA_addAtBreaths_56 rfl ?_
        refine wp_dup2 d_MA_addAtBreaths_58 rfl rfl ?_
        refine wz_iald ((hh j (by omega))) (rfl) ((by omega)) d_MA_addAtBreaths_59 (by decide) rfl (by decide) ?_
        refine wp_iload_n d_MA_addAtBreaths_60 rfl ?_
        refine wz_iadd d_MA_addAtBreaths_61 ?_
        refine wz_iast (rfl) ((by omega)) d_MA_addAtBreaths_62 (by decide) rfl (by decide) ?_
        refine wp_iload d_MA_addAtBreaths_63 rfl ?_
        refine wp_iload d_MA_addAtBreaths_65 rfl ?_
        refine wz_iadd d_MA_addAtBreaths_67 ?_
        refine wp_istore (lv' := [_, _, _, _, _, _, _]) d_MA_addAtBreaths_68 (by decide) rfl ?_
        refine wp_goto (tgt := 40) d_MA_addAtBreaths_70 (by decide) ?_
        refine ih (j + (lu σ m + 1)) (by omega) (by omega) (by rw [Nat.add_mod_right]; exact hjS) _ (fun c hc => by rw [setI_ne _ _ _ hc, he c hc]) (fun a ha => ?_) (fun _ _ _ => trivial)
        by_cases e : a = j
        · subst e
          rw [setI_at, if_neg (by omega), if_pos ⟨by omega, hjS⟩]
          congr 1
          omega
        · rw [setI_at_ne _ _ _ e, hh a ha]
          congr 2
          by_cases q : a % (lu σ m + 1) = S
          · have : a < j ∨ j + (lu σ m + 1) ≤ a := by
              rcases Nat.lt_or_ge a j with z | z
              · exact Or.inl z
              · refine Or.inr (Nat.le_of_not_lt fun z2 => ?_)
                exact mod_gap (T := lu σ m + 1) (by omega) (show j < a by omega) z2 (by rw [q, hjS])
            rcases this with z | z
            · rw [if_pos ⟨z, q⟩, if_pos ⟨by omega, q⟩]
            · rw [if_neg (fun y => by omega), if_neg (fun y => by omega)]
          · rw [if_neg (fun y => q y.2), if_neg (fun y => q y.2)]
  refine ct_intro (lv := [_, _, _, _, _, _, _]) (by decide +kernel) (Nat.le_of_ble_eq_true rfl) rfl ?_
  refine wp_aload_n d_MA_addAtBreaths_0 rfl ?_
  refine wp_getR d_MA_addAtBreaths_1 f_MA_15 (by decide) rfl rfl ?_
  refine wp_iload_n d_MA_addAtBreaths_4 rfl ?_
  refine wp_callV (ct_PE_turnOf (m := m) 0 ok hp hm) d_MA_addAtBreaths_5 k_MA_48 (by decide) rfl rfl rfl rfl (Nat.le_of_ble_eq_true rfl) (by omega) ?_
  rintro _ _ _ ⟨rfl, rfl, rfl⟩
  refine wp_istore (lv' := [_, _, _, _, _, _, _]) d_MA_addAtBreaths_8 (by decide) rfl ?_
  refine wp_aload_n d_MA_addAtBreaths_10 rfl ?_
  refine wp_getR d_MA_addAtBreaths_11 f_MA_15 (by decide) rfl rfl ?_
  refine wp_getR d_MA_addAtBreaths_14 f_MA_52 (by decide) rfl rfl ?_
  refine wp_iload_n d_MA_addAtBreaths_17 rfl ?_
  refine wz_iald (hp.lu hm) (rfl) ((by omega)) d_MA_addAtBreaths_18 (by decide) rfl (by decide) ?_
  refine wp_iload_n d_MA_addAtBreaths_19 rfl ?_
  refine wz_isub d_MA_addAtBreaths_20 ?_
  refine wp_aload_n d_MA_addAtBreaths_21 rfl ?_
  refine wp_getR d_MA_addAtBreaths_22 f_MA_15 (by decide) rfl rfl ?_
  refine wz_getI (hp.late) d_MA_addAtBreaths_25 f_MA_55 (by decide) rfl rfl ?_
  refine wz_isub d_MA_addAtBreaths_28 ?_
  refine wp_iload d_MA_addAtBreaths_29 rfl ?_
  refine wp_callS (ct_MT_floorMod (a := (lu σ m : Int) - s - lt σ) (b := (lu σ m : Int) + 1) 0 (by omega) (by omega) (by omega) (by omega)) d_MA_addAtBreaths_31 k_MA_58 rfl rfl (Nat.le_of_ble_eq_true rfl) (by omega) ?_
  rintro _ _ _ ⟨rfl, rfl, rfl⟩
  rw [hS]
  refine wp_istore (lv' := [_, _, _, _, _, _, _]) d_MA_addAtBreaths_34 (by decide) rfl ?_
  refine wp_iload d_MA_addAtBreaths_36 rfl ?_
  refine wp_istore (lv' := [_, _, _, _, _, _, _]) d_MA_addAtBreaths_38 (by decide) rfl ?_
  refine loop (nB σ) S (by omega) (by omega) (Nat.mod_eq_of_lt hSl) hi (fun _ _ => rfl) (fun a ha => ?_) (fun _ _ _ => trivial)
  rw [hw a ha, if_neg (fun q => ?_), Int.add_zero]
  have := Nat.mod_le a (lu σ m + 1)
  omega
theorem ct_MA_play {p k : Nat} (ok : Ok σ) (hp : PV σ hi) (hv : IV σ hi) (hpp : p < nP σ) (hk : k ≤ 200) : Ct M_MA_play 4 [.ref 24, .int (zI p), .int (zI k)] hi hl (fun r hi' hl' => r = some (.int (zI (sag σ p (sit σ p) k))) ∧ hl = hl' ∧ (∀ c, c ≠ 25 → c ≠ 26 → c ≠ 27 → hi' c = hi c) ∧ (∀ j, j < nB σ → hi' 26 j = zI (stA (rm σ) (dnS σ p) (wnd σ (sit σ p) k) (j + 1))) ∧ (∀ j, j < nB σ → hi' 27 j = zI (msA (rm σ) (dnS σ p) (wnd σ (sit σ p) k) j))) := by
  have hn := ok.nums
  refine ct_intro (lv := [_, _, _]) (by decide +kernel) (Nat.le_of_ble_eq_true rfl) rfl ?_
  refine wp_aload_n d_MA_play_0 rfl ?_
  refine wp_aload_n d_MA_play_1 rfl ?_
  refine wp_getR d_MA_play_2 f_MA_15 (by decide) rfl rfl ?_
  refine wp_iload_n d_MA_play_5 rfl ?_
  refine wp_callV (ct_PE_sittingAt (p := p) 0 ok hp (by omega)) d_MA_play_6 k_MA_79 (by decide) rfl rfl rfl rfl (Nat.le_of_ble_eq_true rfl) (by omega) ?_
  rintro _ _ _ ⟨rfl, rfl, rfl⟩
  refine wp_iload_n d_MA_play_9 rfl ?_
  refine wp_callV (ct_MA_gather (set := sit σ p) (k := k) ok hp hv (sit_lt ok p) hk) d_MA_play_10 k_MA_82 (by decide) rfl rfl rfl rfl (Nat.le_of_ble_eq_true rfl) (by omega) ?_
  rintro _ h _ ⟨rfl, rfl, he, hw⟩
  refine wp_aload_n d_MA_play_13 rfl ?_
  refine wp_iload_n d_MA_play_14 rfl ?_
  have hp' : PV σ h := hp.keep (fun c _ _ => he c (by omega))
  have hv' : IV σ h := hv.keep (fun c _ _ => he c (by omega))
  refine wp_callV (ct_MA_blow (p := p) (w := wnd σ (sit σ p) k) ok hp' hv' hpp hw (fun j _ => by have := wnd_b ok (sit σ p) k j; omega)) d_MA_play_15 k_MA_86 (by decide) rfl rfl rfl rfl (Nat.le_of_ble_eq_true rfl) (by omega) ?_
  rintro _ h2 _ ⟨rfl, rfl, he2, h26, h27⟩
  exact wp_iret d_MA_play_18 (Or.inl rfl) (⟨rfl, rfl, fun c h1 h2 h3 => by rw [he2 c h2 h3, he c h1], h26, h27⟩)
theorem ct_MA_playAll {k : Nat} (ok : Ok σ) (hp : PV σ hi) (hv : IV σ hi) (hk : k ≤ 200) : Ct M_MA_playAll 5 [.ref 24, .int (zI k)] hi hl (fun r hi' hl' => r = some (.int (zI (tot σ k))) ∧ hl = hl' ∧ (∀ c, c ≠ 25 → c ≠ 26 → c ≠ 27 → hi' c = hi c)) := by
  have hn := ok.nums
  have loop : ∀ q i, i + q = nP σ → ∀ h : HI, (∀ c, c ≠ 25 → c ≠ 26 → c ≠ 27 → h c = hi c) → Wp M_MA_playAll 5 (fun r hi' hl' => r = some (.int (zI (tot σ k))) ∧ hl = hl' ∧ (∀ c, c ≠ 25 → c ≠ 26 → c ≠ 27 → hi' c = hi c)) 4 [some (.ref 24), some (.int (zI k)), some (.int (zI (totN σ k i))), some (.int (zI i))] [] h hl := by
    intro q
    induction q with
    | zero =>
      intro i hiq h he
      have hv' : IV σ h := hv.keep (fun c _ _ => he c (by omega) (by omega) (by omega))
      refine wp_iload_n d_MA_playAll_4 rfl ?_
      refine wp_aload_n d_MA_playAll_5 rfl ?_
      refine wp_getR d_MA_playAll_6 f_MA_9 (by decide) rfl rfl ?_
      refine wz_getI (hv'.np) d_MA_playAll_9 f_MA_89 (by decide) rfl rfl ?_
      refine wz_icmp_ge (tgt := 30) d_MA_playAll_12 (by decide) (by omega) (by omega) (fun h12 => ?_) (fun h12 => ?_)
      · refine wp_iload_n d_MA_playAll_30 rfl ?_
        exact wp_iret d_MA_playAll_31 (Or.inl rfl) (⟨by rw [tot, ← hiq]; rfl, rfl, he⟩)
      · exact absurd h12 (by omega)
    | succ q ih =>
      intro i hiq h he
      have hv' : IV σ h := hv.keep (fun c _ _ => he c (by omega) (by omega) (by omega))
      have hp' : PV σ h := hp.keep (fun c _ _ => he c (by omega) (by omega) (by omega))
      refine wp_iload_n d_MA_playAll_4 rfl ?_
      refine wp_aload_n d_MA_playAll_5 rfl ?_
      refine wp_getR d_MA_playAll_6 f_MA_9 (by decide) rfl rfl ?_
      refine wz_getI (hv'.np) d_MA_playAll_9 f_MA_89 (by decide) rfl rfl ?_
      refine wz_icmp_ge (tgt := 30) d_MA_playAll_12 (by decide) (by omega) (by omega) (fun h12 => ?_) (fun h12 => ?_)
      · exact absurd h12 (by omega)
      · refine wp_iload_n d_MA_playAll_15 rfl ?_
        refine wp_aload_n d_MA_playAll_16 rfl ?_
        refine wp_iload_n d_MA_playAll_17 rfl ?_
        refine wp_iload_n d_MA_playAll_18 rfl ?_
        refine wp_callV (ct_MA_play (p := i) (k := k) ok hp' hv' (by omega) hk) d_MA_playAll_19 k_MA_90 (by decide) rfl rfl rfl rfl (Nat.le_of_ble_eq_true rfl) (by omega) ?_
        rintro _ h2 _ ⟨rfl, rfl, he2, -, -⟩
        refine wz_iadd d_MA_playAll_22 ?_
        refine wp_istore_n (lv' := [_, _, _, _]) d_MA_playAll_23 (by decide) rfl ?_
        refine wz_iinc (lv' := [_, _, _, _]) d_MA_playAll_24 rfl (by decide) rfl ?_
        refine wp_goto (tgt := 4) d_MA_playAll_27 (by decide) ?_
        exact ih (i + 1) (by omega) h2 (fun c h1 h2 h3 => by rw [he2 c h1 h2 h3, he c h1 h2 h3])
  refine ct_intro (lv := [_, _, _, _]) (by decide +kernel) (Nat.le_of_ble_eq_true rfl) rfl ?_
  refine wp_iconst (v := zI 0) d_MA_playAll_0 rfl ?_
  refine wp_istore_n (lv' := [_, _, _, _]) d_MA_playAll_1 (by decide) rfl ?_
  refine wp_iconst (v := zI 0) d_MA_playAll_2 rfl ?_
  refine wp_istore_n (lv' := [_, _, _, _]) d_MA_playAll_3 (by decide) rfl ?_
  exact loop (nP σ) 0 (by omega) hi (fun _ _ _ _ => rfl)
theorem ct_MA_firstMissing {f : Nat → Int} (d : Nat) (ok : Ok σ) (hv : IV σ hi) (hf : ∀ j, j < nB σ → hi 27 j = zI (f j)) (hb : ∀ j, j < nB σ → inR (f j)) : Ct M_MA_firstMissing d [.ref 24] hi hl (ans (zI (fpos f (nB σ) 0)) hi hl) := by
  have hn := ok.nums
  have loop : ∀ k i, i + k = nB σ → fpos f (nB σ) 0 = fpos f k i → Wp M_MA_firstMissing d (ans (zI (fpos f (nB σ) 0)) hi hl) 2 [some (.ref 24), some (.int (zI i))] [] hi hl := by
    intro k
    induction k with
    | zero =>
      intro i hik e
      refine wp_iload_n d_MA_firstMissing_2 rfl ?_
      refine wp_aload_n d_MA_firstMissing_3 rfl ?_
      refine wp_getR d_MA_firstMissing_4 f_MA_9 (by decide) rfl rfl ?_
      refine wz_getI (hv.nb) d_MA_firstMissing_7 f_MA_39 (by decide) rfl rfl ?_
      refine wz_icmp_ge (tgt := 30) d_MA_firstMissing_10 (by decide) (by omega) (by omega) (fun h10 => ?_) (fun h10 => ?_)
      · refine wp_bipush (v := zI (-9)) d_MA_firstMissing_30 rfl ?_
        exact wp_iret d_MA_firstMissing_32 (Or.inl rfl) (ans_of (by rw [e]; rfl))
      · exact absurd h10 (by omega)
    | succ k ih =>
      intro i hik e
      have hbi := hb i (by omega)
      refine wp_iload_n d_MA_firstMissing_2 rfl ?_
      refine wp_aload_n d_MA_firstMissing_3 rfl ?_
      refine wp_getR d_MA_firstMissing_4 f_MA_9 (by decide) rfl rfl ?_
      refine wz_getI (hv.nb) d_MA_firstMissing_7 f_MA_39 (by decide) rfl rfl ?_
      refine wz_icmp_ge (tgt := 30) d_MA_firstMissing_10 (by decide) (by omega) (by omega) (fun h10 => ?_) (fun h10 => ?_)
      · exact absurd h10 (by omega)
      · refine wp_aload_n d_MA_firstMissing_13 rfl ?_
        refine wp_getR d_MA_firstMissing_14 f_MA_26 (by decide) rfl rfl ?_
        refine wp_iload_n d_MA_firstMissing_17 rfl ?_
        refine wz_iald (hf i (by omega)) (rfl) ((by omega)) d_MA_firstMissing_18 (by decide) rfl (by decide) ?_
        refine wz_if_le (tgt := 24) d_MA_firstMissing_19 (by decide) (by omega) (fun h19 => ?_) (fun h19 => ?_)
        · refine wz_iinc (lv' := [_, _]) d_MA_firstMissing_24 rfl (by decide) rfl ?_
          refine wp_goto (tgt := 2) d_MA_firstMissing_27 (by decide) ?_
          exact ih (i + 1) (by omega) (by rw [e, fpos, if_neg (by omega)])
        · refine wp_iload_n d_MA_firstMissing_22 rfl ?_
          exact wp_iret d_MA_firstMissing_23 (Or.inl rfl) (ans_of (by rw [e, fpos, if_pos h19]))
  refine ct_intro (lv := [_, _]) (by decide +kernel) (Nat.le_of_ble_eq_true rfl) rfl ?_
  refine wp_iconst (v := zI 0) d_MA_firstMissing_0 rfl ?_
  refine wp_istore_n (lv' := [_, _]) d_MA_firstMissing_1 (by decide) rfl ?_
  exact loop (nB σ) 0 (by omega) rfl
end MASS2
