/-! THE ORGAN out of a text without a fault; the class's way -/
def fgN (σ : SG) (i : Nat) : Nat := (sg σ i - 48).toNat
def newS (σ : SG) : SG := fun f i => if f = 0 then (if i = 0 then pQ σ else if i = 1 then (pPp σ).2 else if i = 2 then (pH σ).2 else if i = 3 then 0 else if i = 4 then 0 else σ 0 i) else if f = 1 then fgN σ (1 + i) else if f = 2 then (fgN σ (pE σ + 1 + 2 * i) ||| fgN σ (pE σ + 1 + 2 * i + 1) * 8) else if f = 3 then fgN σ (1 + pQ σ + 4 * i + 1) else if f = 4 then fgN σ (1 + pQ σ + 4 * i + 2) else if f = 5 then fgN σ (1 + pQ σ + 4 * i + 3) else if f = 6 then 0 else if f = 7 then 0 else if f = 9 then 0 else σ f i
def r_organ (σ : SG) : Int := if r_fault σ = -9 then 100 * (pQ σ : Int) + (pPp σ).2 else -3
def sx_organ (σ : SG) : SG := if r_fault σ = -9 then newS σ else σ
section ORGAN
variable {σ : SG} {hi : HI} {hl : HL}
theorem pipN_sp (σ : SG) : ∀ n i p, i ≤ p → p < pipN σ n i → isF σ (1 + p) 1 9
  | 0, i, p, h1, h2 => by rw [pipN] at h2; omega
  | n + 1, i, p, h1, h2 => by
    rw [pipN] at h2
    split at h2
    · rename_i hf
      by_cases e : p = i
      · rw [e]; exact hf
      · exact pipN_sp σ n (i + 1) p (by omega) h2
    · omega
theorem peoN_sp (σ : SG) (q : Nat) : ∀ n i m, (peoN σ q n i).1 = -9 → i ≤ m → m < (peoN σ q n i).2 → isF σ (1 + q + 4 * m + 1) 1 9 ∧ isF σ (1 + q + 4 * m + 2) 1 3 ∧ isF σ (1 + q + 4 * m + 3) 0 ((q : Int) - 1)
  | 0, i, m, h0, h1, h2 => by
    have : m < i := h2
    omega
  | n + 1, i, m, h0, h1, h2 => by
    rw [peoN] at h0 h2
    by_cases c1 : sg σ (1 + q + 4 * i) = 77
    · rw [if_pos c1] at h0 h2
      by_cases c2 : isF σ (1 + q + 4 * i + 1) 1 9
      · rw [if_pos c2] at h0 h2
        by_cases c3 : isF σ (1 + q + 4 * i + 2) 1 3
        · rw [if_pos c3] at h0 h2
          by_cases c4 : isF σ (1 + q + 4 * i + 3) 0 ((q : Int) - 1)
          · rw [if_pos c4] at h0 h2
            by_cases e : m = i
            · rw [e]; exact ⟨c2, c3, c4⟩
            · exact peoN_sp σ q n (i + 1) m h0 (by omega) h2
          · rw [if_neg c4] at h0
            exact absurd h0 (by show ¬ ((1 + q + 4 * i + 3 : Nat) : Int) = -9; omega)
        · rw [if_neg c3] at h0
          exact absurd h0 (by show ¬ ((1 + q + 4 * i + 2 : Nat) : Int) = -9; omega)
      · rw [if_neg c2] at h0
        exact absurd h0 (by show ¬ ((1 + q + 4 * i + 1 : Nat) : Int) = -9; omega)
    · rw [if_neg c1] at h2
      have : m < i := h2
      omega
theorem hymN_sp (σ : SG) (q e : Nat) : ∀ n i j, (hymN σ q e n i).1 = -9 → i ≤ j → j < (hymN σ q e n i).2 → isF σ (e + 2 * j) 0 (lowB q) ∧ isF σ (e + 2 * j + 1) 0 (highB q)
  | 0, i, j, h0, h1, h2 => by
    have : j < i := h2
    omega
  | n + 1, i, j, h0, h1, h2 => by
    rw [hymN] at h0 h2
    by_cases c1 : i = 0 ∨ e + 2 * i < tl σ
    · rw [if_pos c1] at h0 h2
      by_cases c2 : isF σ (e + 2 * i) 0 (lowB q)
      · rw [if_pos c2] at h0 h2
        by_cases c3 : isF σ (e + 2 * i + 1) 0 (highB q)
        · rw [if_pos c3] at h0 h2
          by_cases z : j = i
          · rw [z]; exact ⟨c2, c3⟩
          · exact hymN_sp σ q e n (i + 1) j h0 (by omega) h2
        · rw [if_neg c3] at h0
          exact absurd h0 (by show ¬ ((e + 2 * i + 1 : Nat) : Int) = -9; omega)
      · rw [if_neg c2] at h0
        exact absurd h0 (by show ¬ ((e + 2 * i : Nat) : Int) = -9; omega)
    · rw [if_neg c1] at h2
      have : j < i := h2
      omega
/-- what a text without a fault holds -/
theorem noFault (h : r_fault σ = -9) : 1 ≤ pQ σ ∧ (∀ p, p < pQ σ → isF σ (1 + p) 1 9) ∧ (∀ m, m < (pPp σ).2 → isF σ (1 + pQ σ + 4 * m + 1) 1 9 ∧ isF σ (1 + pQ σ + 4 * m + 2) 1 3 ∧ isF σ (1 + pQ σ + 4 * m + 3) 0 ((pQ σ : Int) - 1)) ∧ (∀ j, j < (pH σ).2 → isF σ (pE σ + 1 + 2 * j) 0 (lowB (pQ σ)) ∧ isF σ (pE σ + 1 + 2 * j + 1) 0 (highB (pQ σ))) := by
  unfold r_fault at h
  split at h
  · split at h
    · omega
    · split at h
      · rename_i c; exact absurd h c
      · rename_i hq hp
        have hp9 : (pPp σ).1 = -9 := Decidable.byContradiction hp
        refine ⟨by omega, fun p hpq => pipN_sp σ 6 0 p (by omega) hpq, fun m hm => peoN_sp σ (pQ σ) 12 0 m hp9 (by omega) hm, fun j hj => ?_⟩
        split at h
        · rename_i hE
          unfold pH at hj
          rw [if_pos hE] at hj
          exact absurd hj (Nat.not_lt_zero j)
        · rename_i hE
          have eH : pH σ = hymN σ (pQ σ) (pE σ + 1) 24 0 := by unfold pH; rw [if_neg hE]
          split at h
          · omega
          · split at h
            · rename_i c; exact absurd h c
            · rename_i c
              have h9 : (pH σ).1 = -9 := Decidable.byContradiction c
              rw [eH] at h9 hj
              exact hymN_sp σ (pQ σ) (pE σ + 1) 24 0 j h9 (by omega) hj
  · exact absurd h (by decide)
theorem fg_eq {i : Nat} {x y : Int} (h : isF σ i x y) (hx : 0 ≤ x) : sg σ i - 48 = (fgN σ i : Int) := by
  unfold fgN
  omega
theorem or_lt64 {a b : Nat} (ha : a ≤ 7) (hb : b ≤ 7) : a ||| b * 8 < 64 := by
  have : a ||| b * 8 < 2 ^ 6 := Nat.or_lt_two_pow (by omega) (by omega)
  omega
theorem Ok_newS (ok : Ok σ) (h : r_fault σ = -9) : Ok (newS σ) := by
  obtain ⟨n1, n2, n3, n4⟩ := noFault h
  have b1 := pQ_le σ
  have b2 := pPp_b σ
  have b4 := pH_b σ
  obtain ⟨⟨c1, c2, c3, c4, c5, c6, c7⟩, h1, h2, h3, h4, h5⟩ := ok
  refine ⟨⟨n1, b1, b2.1, b4.1, Nat.zero_le _, Nat.zero_le _, c7⟩, fun p hp => ?_, fun j hj => ?_, fun m hm => ?_, h4, fun s hs => ⟨Nat.zero_le _, fun q => absurd q (by show ¬ (0 : Nat) = 1; omega)⟩⟩
  · have := n2 p hp
    have e := fg_eq this (by omega)
    show 1 ≤ fgN σ (1 + p) ∧ fgN σ (1 + p) ≤ 9
    omega
  · obtain ⟨g1, g2⟩ := n4 j hj
    have e1 := fg_eq g1 (by omega)
    have e2 := fg_eq g2 (by omega)
    have l1 := lowB_b (pQ σ)
    have l2 := highB_b b1
    exact or_lt64 (a := fgN σ (pE σ + 1 + 2 * j)) (b := fgN σ (pE σ + 1 + 2 * j + 1)) (by omega) (by omega)
  · obtain ⟨g1, g2, g3⟩ := n3 m hm
    have e1 := fg_eq g1 (by omega)
    have e2 := fg_eq g2 (by omega)
    have e3 := fg_eq g3 (by omega)
    show 1 ≤ fgN σ (1 + pQ σ + 4 * m + 1) ∧ fgN σ (1 + pQ σ + 4 * m + 1) ≤ 9 ∧ 1 ≤ fgN σ (1 + pQ σ + 4 * m + 2) ∧ fgN σ (1 + pQ σ + 4 * m + 2) ≤ 3 ∧ fgN σ (1 + pQ σ + 4 * m + 3) < pQ σ ∧ 0 ≤ fgN σ (1 + pQ σ + 4 * m + 1) ∧ 0 ≤ 1
    omega
/-- the class's script, read through -/
def RE (σ : SG) (h : HI) : Prop := TV σ h ∧ h 1 3 = zI (pQ σ) ∧ h 1 4 = zI (pPp σ).2 ∧ h 1 5 = zI (pH σ).2
theorem RE.keep {h h' : HI} (r : RE σ h) (e1 : h' 1 = h 1) (e2 : h' 2 = h 2) : RE σ h' := ⟨r.1.keep (by rw [e1]) e2, by rw [e1]; exact r.2.1, by rw [e1]; exact r.2.2.1, by rw [e1]; exact r.2.2.2⟩
theorem ct_SC_thirstRead {h : HI} {p : Nat} (ok : Ok σ) (r : RE σ h) (hf : r_fault σ = -9) (hp : p < pQ σ) : Ct M_SC_thirstRead 2 [.ref 1, .int (zI p)] h hl (ans (zI (dr (newS σ) p)) h hl) := by
  have b1 := pQ_le σ
  refine ct_intro (lv := [_, _]) (by decide +kernel) (Nat.le_of_ble_eq_true rfl) rfl ?_
  refine wp_aload_n d_SC_thirstRead_0 rfl ?_
  refine wp_iconst (v := zI 1) d_SC_thirstRead_1 rfl ?_
  refine wp_iload_n d_SC_thirstRead_2 rfl ?_
  refine wz_iadd d_SC_thirstRead_3 ?_
  refine wp_callV (ct_SC_figureAt (i := 1 + p) ok r.1 (by omega)) d_SC_thirstRead_4 k_SC_49 (by decide) rfl rfl rfl rfl (Nat.le_of_ble_eq_true rfl) (by omega) ?_
  rintro _ _ _ ⟨rfl, rfl, rfl⟩
  exact wp_iret d_SC_thirstRead_7 (Or.inl rfl) (ans_of (by rw [fg_eq ((noFault hf).2.1 p hp) (by omega)]; rfl))
theorem ct_SC_personRead {h : HI} {m w : Nat} (ok : Ok σ) (r : RE σ h) (hf : r_fault σ = -9) (hm : m < (pPp σ).2) (hw : w < 3) : Ct M_SC_personRead 2 [.ref 1, .int (zI m), .int (zI w)] h hl (ans (zI (newS σ (3 + w) m)) h hl) := by
  have b1 := pQ_le σ
  have b2 := pPp_b σ
  obtain ⟨g1, g2, g3⟩ := (noFault hf).2.2.1 m hm
  have e : sg σ (2 + pQ σ + 4 * m + w) - 48 = (newS σ (3 + w) m : Int) := by
    rcases (show w = 0 ∨ w = 1 ∨ w = 2 by omega) with rfl | rfl | rfl
    · have := fg_eq g1 (by omega)
      rw [show 1 + pQ σ + 4 * m + 1 = 2 + pQ σ + 4 * m + 0 by omega] at this
      rw [this]
      show _ = ((fgN σ (1 + pQ σ + 4 * m + 1) : Nat) : Int)
      rw [show 1 + pQ σ + 4 * m + 1 = 2 + pQ σ + 4 * m + 0 by omega]
    · have := fg_eq g2 (by omega)
      rw [show 1 + pQ σ + 4 * m + 2 = 2 + pQ σ + 4 * m + 1 by omega] at this
      rw [this]
      show _ = ((fgN σ (1 + pQ σ + 4 * m + 2) : Nat) : Int)
      rw [show 1 + pQ σ + 4 * m + 2 = 2 + pQ σ + 4 * m + 1 by omega]
    · have := fg_eq g3 (by omega)
      rw [show 1 + pQ σ + 4 * m + 3 = 2 + pQ σ + 4 * m + 2 by omega] at this
      rw [this]
      show _ = ((fgN σ (1 + pQ σ + 4 * m + 3) : Nat) : Int)
      rw [show 1 + pQ σ + 4 * m + 3 = 2 + pQ σ + 4 * m + 2 by omega]
  refine ct_intro (lv := [_, _, _]) (by decide +kernel) (Nat.le_of_ble_eq_true rfl) rfl ?_
  refine wp_aload_n d_SC_personRead_0 rfl ?_
  refine wp_iconst (v := zI 2) d_SC_personRead_1 rfl ?_
  refine wp_aload_n d_SC_personRead_2 rfl ?_
  refine wz_getI (r.2.1) d_SC_personRead_3 f_SC_22 (by decide) rfl rfl ?_
  refine wz_iadd d_SC_personRead_6 ?_
  refine wp_iconst (v := zI 4) d_SC_personRead_7 rfl ?_
  refine wp_iload_n d_SC_personRead_8 rfl ?_
  refine wz_imul d_SC_personRead_9 ?_
  refine wz_iadd d_SC_personRead_10 ?_
  refine wp_iload_n d_SC_personRead_11 rfl ?_
  refine wz_iadd d_SC_personRead_12 ?_
  refine wp_callV (ct_SC_figureAt (i := 2 + pQ σ + 4 * m + w) ok r.1 (by omega)) d_SC_personRead_13 k_SC_49 (by decide) rfl rfl rfl rfl (Nat.le_of_ble_eq_true rfl) (by omega) ?_
  rintro _ _ _ ⟨rfl, rfl, rfl⟩
  exact wp_iret d_SC_personRead_16 (Or.inl rfl) (ans_of (by rw [e]))
theorem shl3 {b : Nat} (hb : b ≤ 7) : zI (b : Int) <<< (zI 3 &&& 31) = zI ((b * 8 : Nat) : Int) := zI_shl (n := b) (i := 3) (by omega) (by omega)
theorem ct_SC_beatRead {h : HI} {j : Nat} (ok : Ok σ) (r : RE σ h) (hf : r_fault σ = -9) (hj : j < (pH σ).2) : Ct M_SC_beatRead 2 [.ref 1, .int (zI j)] h hl (ans (zI (sn (newS σ) j)) h hl) := by
  have b1 := pQ_le σ
  have b2 := pPp_b σ
  have b3 := pE_b σ
  have b4 := pH_b σ
  have l1 := lowB_b (pQ σ)
  have l2 := highB_b b1
  obtain ⟨g1, g2⟩ := (noFault hf).2.2.2 j hj
  have e1 := fg_eq g1 (by omega)
  have e2 := fg_eq g2 (by omega)
  have ep : 2 + pQ σ + 4 * (pPp σ).2 + 2 * j = pE σ + 1 + 2 * j := by unfold pE; omega
  refine ct_intro (lv := [_, _, _]) (by decide +kernel) (Nat.le_of_ble_eq_true rfl) rfl ?_
  refine wp_iconst (v := zI 2) d_SC_beatRead_0 rfl ?_
  refine wp_aload_n d_SC_beatRead_1 rfl ?_
  refine wz_getI (r.2.1) d_SC_beatRead_2 f_SC_22 (by decide) rfl rfl ?_
  refine wz_iadd d_SC_beatRead_5 ?_
  refine wp_iconst (v := zI 4) d_SC_beatRead_6 rfl ?_
  refine wp_aload_n d_SC_beatRead_7 rfl ?_
  refine wz_getI (r.2.2.1) d_SC_beatRead_8 f_SC_25 (by decide) rfl rfl ?_
  refine wz_imul d_SC_beatRead_11 ?_
  refine wz_iadd d_SC_beatRead_12 ?_
  refine wp_iconst (v := zI 2) d_SC_beatRead_13 rfl ?_
  refine wp_iload_n d_SC_beatRead_14 rfl ?_
  refine wz_imul d_SC_beatRead_15 ?_
  refine wz_iadd d_SC_beatRead_16 ?_
  refine wz_top (y := zI ((pE σ + 1 + 2 * j : Nat) : Int)) (by rw [← ep]; rfl) ?_
  refine wp_istore_n (lv' := [_, _, _]) d_SC_beatRead_17 (by decide) rfl ?_
  refine wp_aload_n d_SC_beatRead_18 rfl ?_
  refine wp_iload_n d_SC_beatRead_19 rfl ?_
  refine wp_callV (ct_SC_figureAt (i := pE σ + 1 + 2 * j) ok r.1 (by omega)) d_SC_beatRead_20 k_SC_49 (by decide) rfl rfl rfl rfl (Nat.le_of_ble_eq_true rfl) (by omega) ?_
  rintro _ _ _ ⟨rfl, rfl, rfl⟩
  refine wp_aload_n d_SC_beatRead_23 rfl ?_
  refine wp_iload_n d_SC_beatRead_24 rfl ?_
  refine wp_iconst (v := zI 1) d_SC_beatRead_25 rfl ?_
  refine wz_iadd d_SC_beatRead_26 ?_
  refine wp_callV (ct_SC_figureAt (i := pE σ + 1 + 2 * j + 1) ok r.1 (by omega)) d_SC_beatRead_27 k_SC_49 (by decide) rfl rfl rfl rfl (Nat.le_of_ble_eq_true rfl) (by omega) ?_
  rintro _ _ _ ⟨rfl, rfl, rfl⟩
  rw [e1, e2]
  refine wp_iconst (v := zI 3) d_SC_beatRead_30 rfl ?_
  refine wp_ishl d_SC_beatRead_31 ?_
  rw [shl3 (by omega)]
  refine wp_ior d_SC_beatRead_32 ?_
  rw [zI_or]
  exact wp_iret d_SC_beatRead_33 (Or.inl rfl) (ans_of rfl)
theorem ct_PI_takeFrom {h : HI} (ok : Ok σ) (r : RE σ h) (hf : r_fault σ = -9) : Ct M_PI_takeFrom 3 [.ref 3, .ref 1] h hl (fun v h' hl' => v = none ∧ hl = hl' ∧ (∀ c, c < 3 ∨ 5 < c → h' c = h c) ∧ IV (newS σ) h') := by
  have b1 := pQ_le σ
  have b4 := pH_b σ
  generalize hP : (fun (v : Option Value) (h' : HI) (hl' : HL) => v = none ∧ hl = hl' ∧ (∀ c, c < 3 ∨ 5 < c → h' c = h c) ∧ IV (newS σ) h') = Post
  have loop2 : ∀ k j, j + k = (pH σ).2 → ∀ g : HI, (∀ c, c < 3 ∨ 5 < c → g c = h c) → g 3 0 = zI (pQ σ) → g 3 1 = zI (pH σ).2 → (∀ p, p < pQ σ → g 4 p = zI (dr (newS σ) p)) → (∀ i, i < j → g 5 i = zI (sn (newS σ) i)) → Wp M_PI_takeFrom 3 Post 45 [some (.ref 3), some (.ref 1), some (.int (zI j))] [] g hl := by
    intro k
    induction k with
    | zero =>
      intro j hjk g e0 e1 e2 e3 e4
      refine wp_iload_n d_PI_takeFrom_45 rfl ?_
      refine wp_aload_n d_PI_takeFrom_46 rfl ?_
      refine wz_getI (e2) d_PI_takeFrom_47 f_PI_30 (by decide) rfl rfl ?_
      refine wz_icmp_ge (tgt := 70) d_PI_takeFrom_50 (by decide) (by omega) (by omega) (fun h50 => ?_) (fun h50 => ?_)
      · subst hP
        exact wp_vret d_PI_takeFrom_70 rfl (⟨rfl, rfl, e0, e1, e2, e3, fun i hi' => e4 i (by have : i < (pH σ).2 := hi'; omega)⟩)
      · exact absurd h50 (by omega)
    | succ k ih =>
      intro j hjk g e0 e1 e2 e3 e4
      refine wp_iload_n d_PI_takeFrom_45 rfl ?_
      refine wp_aload_n d_PI_takeFrom_46 rfl ?_
      refine wz_getI (e2) d_PI_takeFrom_47 f_PI_30 (by decide) rfl rfl ?_
      refine wz_icmp_ge (tgt := 70) d_PI_takeFrom_50 (by decide) (by omega) (by omega) (fun h50 => ?_) (fun h50 => ?_)
      · exact absurd h50 (by omega)
      · refine wp_aload_n d_PI_takeFrom_53 rfl ?_
        refine wp_getR d_PI_takeFrom_54 f_PI_15 (by decide) rfl rfl ?_
        refine wp_iload_n d_PI_takeFrom_57 rfl ?_
        refine wp_aload_n d_PI_takeFrom_58 rfl ?_
        refine wp_iload_n d_PI_takeFrom_59 rfl ?_
        refine wp_callV (ct_SC_beatRead (j := j) ok (r.keep (e0 1 (by omega)) (e0 2 (by omega))) hf (by omega)) d_PI_takeFrom_60 k_PI_37 (by decide) rfl rfl rfl rfl (Nat.le_of_ble_eq_true rfl) (by omega) ?_
        rintro _ _ _ ⟨rfl, rfl, rfl⟩
        refine wz_iast (rfl) ((by omega)) d_PI_takeFrom_63 (by decide) rfl (by decide) ?_
        refine wz_iinc (lv' := [_, _, _]) d_PI_takeFrom_64 rfl (by decide) rfl ?_
        refine wp_goto (tgt := 45) d_PI_takeFrom_67 (by decide) ?_
        refine ih (j + 1) (by omega) _ (fun c hc => by rw [setI_ne _ _ _ (by omega)]; exact e0 c hc) (rd1 (by decide) e1) (rd1 (by decide) e2) (fun p hp => rd1 (by decide) (e3 p hp)) (fun i hi' => ?_)
        by_cases q : i = j
        · subst q
          exact rdA rfl
        · exact rdS q (e4 i (by omega))
  have loop1 : ∀ k p, p + k = pQ σ → ∀ g : HI, (∀ c, c < 3 ∨ 5 < c → g c = h c) → g 3 0 = zI (pQ σ) → g 3 1 = zI (pH σ).2 → (∀ i, i < p → g 4 i = zI (dr (newS σ) i)) → Wp M_PI_takeFrom 3 Post 18 [some (.ref 3), some (.ref 1), some (.int (zI p))] [] g hl := by
    intro k
    induction k with
    | zero =>
      intro p hpk g e0 e1 e2 e3
      refine wp_iload_n d_PI_takeFrom_18 rfl ?_
      refine wp_aload_n d_PI_takeFrom_19 rfl ?_
      refine wz_getI (e1) d_PI_takeFrom_20 f_PI_18 (by decide) rfl rfl ?_
      refine wz_icmp_ge (tgt := 43) d_PI_takeFrom_23 (by decide) (by omega) (by omega) (fun h23 => ?_) (fun h23 => ?_)
      · refine wp_iconst (v := zI 0) d_PI_takeFrom_43 rfl ?_
        refine wp_istore_n (lv' := [_, _, _]) d_PI_takeFrom_44 (by decide) rfl ?_
        exact loop2 (pH σ).2 0 (by omega) g e0 e1 e2 (fun i hi' => e3 i (by omega)) (fun i hi' => absurd hi' (by omega))
      · exact absurd h23 (by omega)
    | succ k ih =>
      intro p hpk g e0 e1 e2 e3
      refine wp_iload_n d_PI_takeFrom_18 rfl ?_
      refine wp_aload_n d_PI_takeFrom_19 rfl ?_
      refine wz_getI (e1) d_PI_takeFrom_20 f_PI_18 (by decide) rfl rfl ?_
      refine wz_icmp_ge (tgt := 43) d_PI_takeFrom_23 (by decide) (by omega) (by omega) (fun h23 => ?_) (fun h23 => ?_)
      · exact absurd h23 (by omega)
      · refine wp_aload_n d_PI_takeFrom_26 rfl ?_
        refine wp_getR d_PI_takeFrom_27 f_PI_9 (by decide) rfl rfl ?_
        refine wp_iload_n d_PI_takeFrom_30 rfl ?_
        refine wp_aload_n d_PI_takeFrom_31 rfl ?_
        refine wp_iload_n d_PI_takeFrom_32 rfl ?_
        refine wp_callV (ct_SC_thirstRead (p := p) ok (r.keep (e0 1 (by omega)) (e0 2 (by omega))) hf (by omega)) d_PI_takeFrom_33 k_PI_33 (by decide) rfl rfl rfl rfl (Nat.le_of_ble_eq_true rfl) (by omega) ?_
        rintro _ _ _ ⟨rfl, rfl, rfl⟩
        refine wz_iast (rfl) ((by omega)) d_PI_takeFrom_36 (by decide) rfl (by decide) ?_
        refine wz_iinc (lv' := [_, _, _]) d_PI_takeFrom_37 rfl (by decide) rfl ?_
        refine wp_goto (tgt := 18) d_PI_takeFrom_40 (by decide) ?_
        refine ih (p + 1) (by omega) _ (fun c hc => by rw [setI_ne _ _ _ (by omega)]; exact e0 c hc) (rd1 (by decide) e1) (rd1 (by decide) e2) (fun i hi' => ?_)
        by_cases q : i = p
        · subst q
          exact rdA rfl
        · exact rdS q (e3 i (by omega))
  subst hP
  refine ct_intro (lv := [_, _, _]) (by decide +kernel) (Nat.le_of_ble_eq_true rfl) rfl ?_
  refine wp_aload_n d_PI_takeFrom_0 rfl ?_
  refine wp_aload_n d_PI_takeFrom_1 rfl ?_
  refine wz_getI (r.2.1) d_PI_takeFrom_2 f_PI_22 (by decide) rfl rfl ?_
  refine wp_putI d_PI_takeFrom_5 f_PI_18 pk_PI_0 (by decide) rfl rfl ?_
  refine wp_aload_n d_PI_takeFrom_8 rfl ?_
  refine wp_aload_n d_PI_takeFrom_9 rfl ?_
  refine wz_getI ((rd1 (by decide) r.2.2.2)) d_PI_takeFrom_10 f_PI_27 (by decide) rfl rfl ?_
  refine wp_putI d_PI_takeFrom_13 f_PI_30 pk_PI_1 (by decide) rfl rfl ?_
  refine wp_iconst (v := zI 0) d_PI_takeFrom_16 rfl ?_
  refine wp_istore_n (lv' := [_, _, _]) d_PI_takeFrom_17 (by decide) rfl ?_
  exact loop1 (pQ σ) 0 (by omega) _ (fun c hc => by rw [setI_ne _ _ _ (by omega), setI_ne _ _ _ (by omega)]) (rdS (by decide) (rdA rfl)) (rdA rfl) (fun i hi' => absurd hi' (by omega))
theorem ct_PE_takeFrom {h : HI} (ok : Ok σ) (r : RE σ h) (hf : r_fault σ = -9) : Ct M_PE_takeFrom 3 [.ref 6, .ref 1] h hl (fun v h' hl' => v = none ∧ hl = hl' ∧ (∀ c, c < 6 ∨ 11 < c → h' c = h c) ∧ PV (newS σ) h') := by
  have b2 := pPp_b σ
  generalize hP : (fun (v : Option Value) (h' : HI) (hl' : HL) => v = none ∧ hl = hl' ∧ (∀ c, c < 6 ∨ 11 < c → h' c = h c) ∧ PV (newS σ) h') = Post
  have loop : ∀ k i, i + k = (pPp σ).2 → ∀ g : HI, (∀ c, c < 6 ∨ 11 < c → g c = h c) → g 6 0 = zI (pPp σ).2 → g 6 1 = zI 0 → g 6 2 = zI 0 → (∀ m, m < i → g 7 m = zI (newS σ 3 m) ∧ g 8 m = zI (newS σ 4 m) ∧ g 9 m = zI (newS σ 5 m) ∧ g 10 m = zI 0 ∧ g 11 m = zI 0) → Wp M_PE_takeFrom 3 Post 20 [some (.ref 6), some (.ref 1), some (.int (zI i))] [] g hl := by
    intro k
    induction k with
    | zero =>
      intro i hik g e0 e1 e2 e3 e4
      refine wp_iload_n d_PE_takeFrom_20 rfl ?_
      refine wp_aload_n d_PE_takeFrom_21 rfl ?_
      refine wz_getI (e1) d_PE_takeFrom_22 f_PE_34 (by decide) rfl rfl ?_
      refine wz_icmp_ge (tgt := 84) d_PE_takeFrom_25 (by decide) (by omega) (by omega) (fun h25 => ?_) (fun h25 => ?_)
      · subst hP
        have hlt : ∀ m, m < nM (newS σ) → m < i := fun m hm => by
          have : m < (pPp σ).2 := hm
          omega
        exact wp_vret d_PE_takeFrom_84 rfl (⟨rfl, rfl, e0, e1, e2, e3, fun m hm => (e4 m (hlt m hm)).1, fun m hm => (e4 m (hlt m hm)).2.1, fun m hm => (e4 m (hlt m hm)).2.2.1, fun m hm => (e4 m (hlt m hm)).2.2.2.1, fun m hm => (e4 m (hlt m hm)).2.2.2.2⟩)
      · exact absurd h25 (by omega)
    | succ k ih =>
      intro i hik g e0 e1 e2 e3 e4
      have r1 : RE σ g := r.keep (e0 1 (by omega)) (e0 2 (by omega))
      refine wp_iload_n d_PE_takeFrom_20 rfl ?_
      refine wp_aload_n d_PE_takeFrom_21 rfl ?_
      refine wz_getI (e1) d_PE_takeFrom_22 f_PE_34 (by decide) rfl rfl ?_
      refine wz_icmp_ge (tgt := 84) d_PE_takeFrom_25 (by decide) (by omega) (by omega) (fun h25 => ?_) (fun h25 => ?_)
      · exact absurd h25 (by omega)
      · refine wp_aload_n d_PE_takeFrom_28 rfl ?_
        refine wp_getR d_PE_takeFrom_29 f_PE_9 (by decide) rfl rfl ?_
        refine wp_iload_n d_PE_takeFrom_32 rfl ?_
        refine wp_aload_n d_PE_takeFrom_33 rfl ?_
        refine wp_iload_n d_PE_takeFrom_34 rfl ?_
        refine wp_iconst (v := zI 0) d_PE_takeFrom_35 rfl ?_
        refine wp_callV (ct_SC_personRead (m := i) (w := 0) ok r1 hf (by omega) (by omega)) d_PE_takeFrom_36 k_PE_43 (by decide) rfl rfl rfl rfl (Nat.le_of_ble_eq_true rfl) (by omega) ?_
        rintro _ _ _ ⟨rfl, rfl, rfl⟩
        refine wz_iast (rfl) ((by omega)) d_PE_takeFrom_39 (by decide) rfl (by decide) ?_
        refine wp_aload_n d_PE_takeFrom_40 rfl ?_
        refine wp_getR d_PE_takeFrom_41 f_PE_15 (by decide) rfl rfl ?_
        refine wp_iload_n d_PE_takeFrom_44 rfl ?_
        refine wp_aload_n d_PE_takeFrom_45 rfl ?_
        refine wp_iload_n d_PE_takeFrom_46 rfl ?_
        refine wp_iconst (v := zI 1) d_PE_takeFrom_47 rfl ?_
        refine wp_callV (ct_SC_personRead (m := i) (w := 1) ok (r1.keep (setI_ne _ _ _ (by decide)) (setI_ne _ _ _ (by decide))) hf (by omega) (by omega)) d_PE_takeFrom_48 k_PE_43 (by decide) rfl rfl rfl rfl (Nat.le_of_ble_eq_true rfl) (by omega) ?_
        rintro _ _ _ ⟨rfl, rfl, rfl⟩
        refine wz_iast (rfl) ((by omega)) d_PE_takeFrom_51 (by decide) rfl (by decide) ?_
        refine wp_aload_n d_PE_takeFrom_52 rfl ?_
        refine wp_getR d_PE_takeFrom_53 f_PE_18 (by decide) rfl rfl ?_
        refine wp_iload_n d_PE_takeFrom_56 rfl ?_
        refine wp_aload_n d_PE_takeFrom_57 rfl ?_
        refine wp_iload_n d_PE_takeFrom_58 rfl ?_
        refine wp_iconst (v := zI 2) d_PE_takeFrom_59 rfl ?_
        refine wp_callV (ct_SC_personRead (m := i) (w := 2) ok ((r1.keep (setI_ne _ _ _ (by decide)) (setI_ne _ _ _ (by decide))).keep (setI_ne _ _ _ (by decide)) (setI_ne _ _ _ (by decide))) hf (by omega) (by omega)) d_PE_takeFrom_60 k_PE_43 (by decide) rfl rfl rfl rfl (Nat.le_of_ble_eq_true rfl) (by omega) ?_
        rintro _ _ _ ⟨rfl, rfl, rfl⟩
        refine wz_iast (rfl) ((by omega)) d_PE_takeFrom_63 (by decide) rfl (by decide) ?_
        refine wp_aload_n d_PE_takeFrom_64 rfl ?_
        refine wp_getR d_PE_takeFrom_65 f_PE_21 (by decide) rfl rfl ?_
        refine wp_iload_n d_PE_takeFrom_68 rfl ?_
        refine wp_iconst (v := zI 0) d_PE_takeFrom_69 rfl ?_
        refine wz_iast (rfl) ((by omega)) d_PE_takeFrom_70 (by decide) rfl (by decide) ?_
        refine wp_aload_n d_PE_takeFrom_71 rfl ?_
        refine wp_getR d_PE_takeFrom_72 f_PE_24 (by decide) rfl rfl ?_
        refine wp_iload_n d_PE_takeFrom_75 rfl ?_
        refine wp_iconst (v := zI 0) d_PE_takeFrom_76 rfl ?_
        refine wz_zast (rfl) ((by omega)) ((Or.inl rfl)) d_PE_takeFrom_77 (by decide) rfl (by decide) ?_
        refine wz_iinc (lv' := [_, _, _]) d_PE_takeFrom_78 rfl (by decide) rfl ?_
        refine wp_goto (tgt := 20) d_PE_takeFrom_81 (by decide) ?_
        refine ih (i + 1) (by omega) _ (fun c hc => ?_) ?_ ?_ ?_ (fun m hm => ?_)
        · rw [setI_ne _ _ _ (by omega), setI_ne _ _ _ (by omega), setI_ne _ _ _ (by omega), setI_ne _ _ _ (by omega), setI_ne _ _ _ (by omega)]
          exact e0 c hc
        · exact rd1 (by decide) (rd1 (by decide) (rd1 (by decide) (rd1 (by decide) (rd1 (by decide) e1))))
        · exact rd1 (by decide) (rd1 (by decide) (rd1 (by decide) (rd1 (by decide) (rd1 (by decide) e2))))
        · exact rd1 (by decide) (rd1 (by decide) (rd1 (by decide) (rd1 (by decide) (rd1 (by decide) e3))))
        · by_cases q : m = i
          · subst q
            exact ⟨rd1 (by decide) (rd1 (by decide) (rd1 (by decide) (rd1 (by decide) (rdA rfl)))), rd1 (by decide) (rd1 (by decide) (rd1 (by decide) (rdA rfl))), rd1 (by decide) (rd1 (by decide) (rdA rfl)), rd1 (by decide) (rdA rfl), rdA rfl⟩
          · obtain ⟨q1, q2, q3, q4, q5⟩ := e4 m (by omega)
            exact ⟨rd1 (by decide) (rd1 (by decide) (rd1 (by decide) (rd1 (by decide) (rdS q q1)))), rd1 (by decide) (rd1 (by decide) (rd1 (by decide) (rdS q (rd1 (by decide) q2)))), rd1 (by decide) (rd1 (by decide) (rdS q (rd1 (by decide) (rd1 (by decide) q3)))), rd1 (by decide) (rdS q (rd1 (by decide) (rd1 (by decide) (rd1 (by decide) q4)))), rdS q (rd1 (by decide) (rd1 (by decide) (rd1 (by decide) (rd1 (by decide) q5))))⟩
  subst hP
  refine ct_intro (lv := [_, _, _]) (by decide +kernel) (Nat.le_of_ble_eq_true rfl) rfl ?_
  refine wp_aload_n d_PE_takeFrom_0 rfl ?_
  refine wp_aload_n d_PE_takeFrom_1 rfl ?_
  refine wz_getI (r.2.2.1) d_PE_takeFrom_2 f_PE_28 (by decide) rfl rfl ?_
  refine wp_putI d_PE_takeFrom_5 f_PE_34 pk_PE_0 (by decide) rfl rfl ?_
  refine wp_aload_n d_PE_takeFrom_8 rfl ?_
  refine wp_iconst (v := zI 0) d_PE_takeFrom_9 rfl ?_
  refine wp_putI d_PE_takeFrom_10 f_PE_37 pk_PE_1 (by decide) rfl rfl ?_
  refine wp_aload_n d_PE_takeFrom_13 rfl ?_
  refine wp_iconst (v := zI 0) d_PE_takeFrom_14 rfl ?_
  refine wp_putI d_PE_takeFrom_15 f_PE_40 pk_PE_2 (by decide) rfl rfl ?_
  refine wp_iconst (v := zI 0) d_PE_takeFrom_18 rfl ?_
  refine wp_istore_n (lv' := [_, _, _]) d_PE_takeFrom_19 (by decide) rfl ?_
  refine loop (pPp σ).2 0 (by omega) _ (fun c hc => by rw [setI_ne _ _ _ (by omega), setI_ne _ _ _ (by omega), setI_ne _ _ _ (by omega)]) (rdS (by decide) (rdS (by decide) (rdA rfl))) (rdS (by decide) (rdA rfl)) (rdA rfl) (fun i hi' => absurd hi' (by omega))
theorem cx_organ (ok : Ok σ) (hA : AX σ hi) : Ct M_BB_organ 9 [.ref 0] hi hl (pX (sx_organ σ) (zI (r_organ σ)) hi) := by
  have b1 := pQ_le σ
  have b2 := pPp_b σ
  have hfb : inR (r_fault σ) := by
    have b3 := pE_b σ
    have b4 := pH_b σ
    unfold r_fault
    repeat' split
    all_goals omega
  refine ct_intro (lv := [_, _]) (by decide +kernel) (Nat.le_of_ble_eq_true rfl) rfl ?_
  refine wp_aload_n d_BB_organ_0 rfl ?_
  refine wp_getR d_BB_organ_1 f_BB_10 (by decide) rfl rfl ?_
  refine wp_callV (ct_SC_read ok hA.2.2.1) d_BB_organ_4 k_BB_91 (by decide) rfl rfl rfl rfl (Nat.le_of_ble_eq_true rfl) (by omega) ?_
  rintro _ h _ ⟨rfl, rfl, he, h1, hr⟩
  have hA1 : AX σ h := ⟨hA.1.keep (fun c _ _ => he c (by omega)), hA.2.1.keep (fun c _ _ => he c (by omega)), ⟨h1, by rw [he 2 (by omega)]; exact hA.2.2.1.2⟩, hA.2.2.2.keep (fun c _ _ => he c (by omega)) (he 40 (by omega))⟩
  refine wp_bipush (v := zI (-9)) d_BB_organ_7 rfl ?_
  refine wz_icmp_eq (tgt := 15) d_BB_organ_9 (by decide) (by omega) (by omega) (fun h9 => ?_) (fun h9 => ?_)
  · have r : RE σ h := ⟨hA1.2.2.1, hr h9⟩
    rw [r_organ, sx_organ, if_pos h9, if_pos h9]
    refine wp_aload_n d_BB_organ_15 rfl ?_
    refine wp_getR d_BB_organ_16 f_BB_19 (by decide) rfl rfl ?_
    refine wp_aload_n d_BB_organ_19 rfl ?_
    refine wp_getR d_BB_organ_20 f_BB_10 (by decide) rfl rfl ?_
    refine wp_callV (ct_PI_takeFrom ok r h9) d_BB_organ_23 k_BB_94 (by decide) rfl rfl rfl rfl (Nat.le_of_ble_eq_true rfl) (by omega) ?_
    rintro _ g1 _ ⟨rfl, rfl, e1, v1⟩
    have r2 : RE σ g1 := r.keep (e1 1 (by omega)) (e1 2 (by omega))
    refine wp_aload_n d_BB_organ_26 rfl ?_
    refine wp_getR d_BB_organ_27 f_BB_26 (by decide) rfl rfl ?_
    refine wp_aload_n d_BB_organ_30 rfl ?_
    refine wp_getR d_BB_organ_31 f_BB_10 (by decide) rfl rfl ?_
    refine wp_callV (ct_PE_takeFrom ok r2 h9) d_BB_organ_34 k_BB_98 (by decide) rfl rfl rfl rfl (Nat.le_of_ble_eq_true rfl) (by omega) ?_
    rintro _ g2 _ ⟨rfl, rfl, e2, v2⟩
    have v3 : IV (newS σ) g2 := v1.keep (fun c _ _ => e2 c (by omega))
    refine wp_iconst (v := zI 0) d_BB_organ_37 rfl ?_
    refine wp_istore_n (lv' := [_, _]) d_BB_organ_38 (by decide) rfl ?_
    refine wp_iload_n d_BB_organ_39 rfl ?_
    refine wp_iconst (v := zI 2) d_BB_organ_40 rfl ?_
    refine wz_icmp_ge (tgt := 57) d_BB_organ_41 (by decide) (by omega) (by omega) (fun h41 => ?_) (fun h41 => ?_)
    · exact absurd h41 (by decide)
    · refine wp_aload_n d_BB_organ_44 rfl ?_
      refine wp_getR d_BB_organ_45 f_BB_75 (by decide) rfl rfl ?_
      refine wp_iload_n d_BB_organ_48 rfl ?_
      refine wp_iconst (v := zI 0) d_BB_organ_49 rfl ?_
      refine wz_zast (j := 0) rfl (by decide) (Or.inl rfl) d_BB_organ_50 (by decide) rfl (by decide) ?_
      refine wz_iinc (lv' := [_, _]) d_BB_organ_51 rfl (by decide) rfl ?_
      refine wp_goto (tgt := 39) d_BB_organ_54 (by decide) ?_
      refine wp_iload_n d_BB_organ_39 rfl ?_
      refine wp_iconst (v := zI 2) d_BB_organ_40 rfl ?_
      refine wz_icmp_ge (tgt := 57) d_BB_organ_41 (by decide) (by omega) (by omega) (fun hh => absurd hh (by decide)) (fun _ => ?_)
      refine wp_aload_n d_BB_organ_44 rfl ?_
      refine wp_getR d_BB_organ_45 f_BB_75 (by decide) rfl rfl ?_
      refine wp_iload_n d_BB_organ_48 rfl ?_
      refine wp_iconst (v := zI 0) d_BB_organ_49 rfl ?_
      refine wz_zast (j := 1) rfl (by decide) (Or.inl rfl) d_BB_organ_50 (by decide) rfl (by decide) ?_
      refine wz_iinc (lv' := [_, _]) d_BB_organ_51 rfl (by decide) rfl ?_
      refine wp_goto (tgt := 39) d_BB_organ_54 (by decide) ?_
      refine wp_iload_n d_BB_organ_39 rfl ?_
      refine wp_iconst (v := zI 2) d_BB_organ_40 rfl ?_
      refine wz_icmp_ge (tgt := 57) d_BB_organ_41 (by decide) (by omega) (by omega) (fun _ => ?_) (fun hh => absurd hh (by decide))
      refine wp_bipush (v := zI 100) d_BB_organ_57 rfl ?_
      refine wp_aload_n d_BB_organ_59 rfl ?_
      refine wp_getR d_BB_organ_60 f_BB_19 (by decide) rfl rfl ?_
      refine wz_getI ((rd1 (by decide) (rd1 (by decide) v3.np))) d_BB_organ_63 f_BB_99 (by decide) rfl rfl ?_
      refine wz_imul d_BB_organ_66 ?_
      refine wp_aload_n d_BB_organ_67 rfl ?_
      refine wp_getR d_BB_organ_68 f_BB_26 (by decide) rfl rfl ?_
      refine wz_getI ((rd1 (by decide) (rd1 (by decide) v2.n))) d_BB_organ_71 f_BB_103 (by decide) rfl rfl ?_
      refine wz_iadd d_BB_organ_74 ?_
      have fin : AX (newS σ) (setI (setI g2 40 0 (zI 0)) 40 1 (zI 0)) := by
        refine ⟨v2.keep (fun c _ _ => by rw [setI_ne _ _ _ (by omega), setI_ne _ _ _ (by omega)]), v3.keep (fun c _ _ => by rw [setI_ne _ _ _ (by omega), setI_ne _ _ _ (by omega)]), ⟨rd1 (by decide) (rd1 (by decide) ?_), fun i hi' => rd1 (by decide) (rd1 (by decide) ?_)⟩, fun s hs => ⟨?_, fun q => absurd q (by show ¬ (0 : Nat) = 1; omega)⟩⟩
        · rw [e2 1 (by omega), e1 1 (by omega)]; exact h1
        · rw [e2 2 (by omega), e1 2 (by omega)]; exact hA1.2.2.1.2 i hi'
        · rcases (show s = 0 ∨ s = 1 by omega) with rfl | rfl
          · exact rdS (by decide) (rdA rfl)
          · exact rdA rfl
      exact wp_iret d_BB_organ_75 (Or.inl rfl) (⟨rfl, fin, fun c hc => by rw [setI_ne _ _ _ (by omega), setI_ne _ _ _ (by omega), e2 c (by omega), e1 c (by omega), he c (by omega)]⟩)
  · refine wp_bipush (v := zI (-3)) d_BB_organ_12 rfl ?_
    rw [r_organ, sx_organ, if_neg h9, if_neg h9]
    exact wp_iret d_BB_organ_14 (Or.inl rfl) (⟨rfl, hA1, fun c hc => he c (by omega)⟩)
end ORGAN
