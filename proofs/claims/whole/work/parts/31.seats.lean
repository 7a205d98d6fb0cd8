/-! SEATS: the class's way -/
def r_seats (σ : SG) : Int := if nM σ ≤ 6 then (bt σ).1 else -3
def r_seatAt (σ : SG) (a : Int) : Int := if inM σ a then (if nM σ ≤ 6 then (sd σ (bt σ).2 a.toNat : Int) else -3) else -1
theorem figs_z {j : Nat} (h : j < 6) : figs j = .int (zI (figI j)) := by
  have : j = 0 ∨ j = 1 ∨ j = 2 ∨ j = 3 ∨ j = 4 ∨ j = 5 := by omega
  rcases this with rfl | rfl | rfl | rfl | rfl | rfl <;> rfl
section SEC
variable {σ : SG} {hi : HI} {hl : HL} {a b : Int}
theorem ct_SE_seatsOf {set : Nat} (d : Nat) (hs : set < 4096) : Ct M_SE_seatsOf d [.int (zI set)] hi hl (ans (zI (seatS set)) hi hl) := by
  have loop : ∀ k i : Nat, i + k = 6 → Wp M_SE_seatsOf d (ans (zI (seatS set)) hi hl) 4 [some (.int (zI set)), some (.int (zI (smf (fun i => if set.testBit i = true then figI i else 0) i))), some (.int (zI i))] [] hi hl := by
    intro k
    induction k with
    | zero =>
      intro i hik
      refine wp_iload_n d_SE_seatsOf_4 rfl ?_
      refine wp_bipush (v := zI 6) d_SE_seatsOf_5 rfl ?_
      refine wz_icmp_ge (tgt := 33) d_SE_seatsOf_7 (by decide) (by omega) (by omega) (fun h7 => ?_) (fun h7 => ?_)
      · refine wp_iload_n d_SE_seatsOf_33 rfl ?_
        exact wp_iret d_SE_seatsOf_34 (Or.inl rfl) (ans_of (by rw [show i = 6 by omega]; rfl))
      · exact absurd h7 (by omega)
    | succ k ih =>
      intro i hik
      have ih' := ih (i + 1) (by omega)
      rw [smf] at ih'
      refine wp_iload_n d_SE_seatsOf_4 rfl ?_
      refine wp_bipush (v := zI 6) d_SE_seatsOf_5 rfl ?_
      refine wz_icmp_ge (tgt := 33) d_SE_seatsOf_7 (by decide) (by omega) (by omega) (fun h7 => ?_) (fun h7 => ?_)
      · exact absurd h7 (by omega)
      · refine wp_iload_n d_SE_seatsOf_10 rfl ?_
        refine wp_iload_n d_SE_seatsOf_11 rfl ?_
        refine wp_ishr d_SE_seatsOf_12 ?_
        refine wp_iconst (v := zI 1) d_SE_seatsOf_13 rfl ?_
        refine wp_iand d_SE_seatsOf_14 ?_
        rw [zI_bit (by omega) (by omega)]
        by_cases hb : set.testBit i = true
        · rw [bI_t hb, zI_1]
          rw [if_pos hb] at ih'
          refine wp_iconst (v := zI 1) d_SE_seatsOf_15 rfl ?_
          refine wz_icmp_ne (tgt := 27) d_SE_seatsOf_16 (by decide) (by omega) (by omega) (fun h16 => ?_) (fun h16 => ?_)
          · exact absurd rfl h16
          · refine wp_iload_n d_SE_seatsOf_19 rfl ?_
            refine wp_gets d_SE_seatsOf_20 fs_SE_64 ?_
            refine wp_iload_n d_SE_seatsOf_23 rfl ?_
            refine wp_tald d_SE_seatsOf_24 (zI_nat i) (by omega) (figs_z (by omega)) ?_
            refine wz_iadd d_SE_seatsOf_25 ?_
            refine wp_istore_n (lv' := [_, _, _]) d_SE_seatsOf_26 (by decide) rfl ?_
            refine wz_iinc (lv' := [_, _, _]) d_SE_seatsOf_27 rfl (by decide) rfl ?_
            refine wp_goto (tgt := 4) d_SE_seatsOf_30 (by decide) ?_
            exact ih'
        · rw [bI_f hb, zI_0]
          rw [if_neg hb, Int.add_zero] at ih'
          refine wp_iconst (v := zI 1) d_SE_seatsOf_15 rfl ?_
          refine wz_icmp_ne (tgt := 27) d_SE_seatsOf_16 (by decide) (by omega) (by omega) (fun h16 => ?_) (fun h16 => ?_)
          · refine wz_iinc (lv' := [_, _, _]) d_SE_seatsOf_27 rfl (by decide) rfl ?_
            refine wp_goto (tgt := 4) d_SE_seatsOf_30 (by decide) ?_
            exact ih'
          · exact absurd h16 (by decide)
  refine ct_intro (lv := [_, _, _]) (by decide +kernel) (Nat.le_of_ble_eq_true rfl) rfl ?_
  refine wp_iconst (v := zI 0) d_SE_seatsOf_0 rfl ?_
  refine wp_istore_n (lv' := [_, _, _]) d_SE_seatsOf_1 (by decide) rfl ?_
  refine wp_iconst (v := zI 0) d_SE_seatsOf_2 rfl ?_
  refine wp_istore_n (lv' := [_, _, _]) d_SE_seatsOf_3 (by decide) rfl ?_
  exact loop 6 0 (by omega)
theorem ct_SE_setPrices {who : Nat} (ok : Ok σ) (hA : AX σ hi) (hw : who < 64) : Ct M_SE_setPrices 4 [.ref 33, .int (zI who)] hi hl (fun r hi' hl' => r = none ∧ hl = hl' ∧ (∀ c, c ≠ 25 → c ≠ 26 → c ≠ 27 → c ≠ 34 → hi' c = hi c) ∧ (∀ p, p < nP σ → hi' 34 (64 * p + who) = zI (prS σ p who)) ∧ ∀ x, x % 64 ≠ who → hi' 34 x = hi 34 x) := by
  have hn := ok.nums
  have hwin : ∀ j, 0 ≤ wnd σ who (lt σ) j ∧ wnd σ who (lt σ) j ≤ 36 := fun j => wnd_b ok who (lt σ) j
  have loop : ∀ k i : Nat, i + k = nP σ → ∀ h : HI, (∀ c, c ≠ 25 → c ≠ 26 → c ≠ 27 → c ≠ 34 → h c = hi c) → (∀ j, j < nB σ → h 25 j = zI (wnd σ who (lt σ) j)) → (∀ p, p < i → h 34 (64 * p + who) = zI (prS σ p who)) → (∀ x, x % 64 ≠ who → h 34 x = hi 34 x) →
      Wp M_SE_setPrices 4 (fun r hi' hl' => r = none ∧ hl = hl' ∧ (∀ c, c ≠ 25 → c ≠ 26 → c ≠ 27 → c ≠ 34 → hi' c = hi c) ∧ (∀ p, p < nP σ → hi' 34 (64 * p + who) = zI (prS σ p who)) ∧ ∀ x, x % 64 ≠ who → hi' 34 x = hi 34 x) 22 [some (.ref 33), some (.int (zI who)), some (.int (zI (seatS who))), some (.int (zI i))] [] h hl := by
    intro k
    induction k with
    | zero =>
      intro i hik h e0 e1 e2 e3
      have hA' : AX σ h := hA.keep (fun c hc => e0 c (by omega) (by omega) (by omega) (by omega))
      refine wp_iload_n d_SE_setPrices_22 rfl ?_
      refine wp_aload_n d_SE_setPrices_23 rfl ?_
      refine wp_getR d_SE_setPrices_24 f_SE_9 (by decide) rfl rfl ?_
      refine wz_getI (hA'.2.1.np) d_SE_setPrices_27 f_SE_40 (by decide) rfl rfl ?_
      refine wz_icmp_ge (tgt := 65) d_SE_setPrices_30 (by decide) (by omega) (by omega) (fun h30 => ?_) (fun h30 => ?_)
      · exact wp_vret d_SE_setPrices_65 rfl (⟨rfl, rfl, e0, fun p hp => e2 p (by omega), e3⟩)
      · exact absurd h30 (by omega)
    | succ k ih =>
      intro i hik h e0 e1 e2 e3
      have hA' : AX σ h := hA.keep (fun c hc => e0 c (by omega) (by omega) (by omega) (by omega))
      refine wp_iload_n d_SE_setPrices_22 rfl ?_
      refine wp_aload_n d_SE_setPrices_23 rfl ?_
      refine wp_getR d_SE_setPrices_24 f_SE_9 (by decide) rfl rfl ?_
      refine wz_getI (hA'.2.1.np) d_SE_setPrices_27 f_SE_40 (by decide) rfl rfl ?_
      refine wz_icmp_ge (tgt := 65) d_SE_setPrices_30 (by decide) (by omega) (by omega) (fun h30 => ?_) (fun h30 => ?_)
      · exact absurd h30 (by omega)
      · refine wp_aload_n d_SE_setPrices_33 rfl ?_
        refine wp_getR d_SE_setPrices_34 f_SE_23 (by decide) rfl rfl ?_
        refine wp_iload_n d_SE_setPrices_37 rfl ?_
        refine wp_bipush (v := zI 64) d_SE_setPrices_38 rfl ?_
        refine wz_imul d_SE_setPrices_40 ?_
        refine wp_iload_n d_SE_setPrices_41 rfl ?_
        refine wz_iadd d_SE_setPrices_42 ?_
        refine wp_aload_n d_SE_setPrices_43 rfl ?_
        refine wp_getR d_SE_setPrices_44 f_SE_19 (by decide) rfl rfl ?_
        refine wp_iload_n d_SE_setPrices_47 rfl ?_
        refine wp_callV (ct_MA_blow (p := i) (w := wnd σ who (lt σ)) ok hA'.1 hA'.2.1 (by omega) e1 (fun j _ => by have := hwin j; omega)) d_SE_setPrices_48 k_SE_60 (by decide) rfl rfl rfl rfl (Nat.le_of_ble_eq_true rfl) (by omega) ?_
        rintro _ h2 _ ⟨rfl, rfl, f2, -, -⟩
        have es : smA (rm σ) (dnS σ i) (wnd σ who (lt σ)) (nB σ) * 46656 + (i : Int) * seatS who = prS σ i who := rfl
        refine wz_ldc (z := 46656) d_SE_setPrices_51 cs_SE_63 rfl ?_
        refine wz_imul d_SE_setPrices_53 ?_
        refine wp_iload_n d_SE_setPrices_54 rfl ?_
        refine wp_iload_n d_SE_setPrices_55 rfl ?_
        refine wz_imul d_SE_setPrices_56 ?_
        refine wz_iadd d_SE_setPrices_57 ?_
        rw [es]
        refine wz_iast (j := 64 * i + who) (by omega) (by omega) d_SE_setPrices_58 (by decide) rfl (by decide) ?_
        refine wz_iinc (lv' := [_, _, _, _]) d_SE_setPrices_59 rfl (by decide) rfl ?_
        refine wp_goto (tgt := 22) d_SE_setPrices_62 (by decide) ?_
        refine ih (i + 1) (by omega) _ (fun c q1 q2 q3 q4 => by rw [setI_ne _ _ _ q4, f2 c q2 q3, e0 c q1 q2 q3 q4]) (fun j hj => rd1 (by decide) (by rw [f2 25 (by omega) (by omega)]; exact e1 j hj)) (fun p hp => ?_) (fun x hx => ?_)
        · by_cases q : p = i
          · subst q; exact rdA rfl
          · refine rdS (by omega) ?_
            rw [f2 34 (by omega) (by omega)]
            exact e2 p (by omega)
        · refine rdS (by omega) ?_
          rw [f2 34 (by omega) (by omega)]
          exact e3 x hx
  refine ct_intro (lv := [_, _, _, _]) (by decide +kernel) (Nat.le_of_ble_eq_true rfl) rfl ?_
  refine wp_aload_n d_SE_setPrices_0 rfl ?_
  refine wp_getR d_SE_setPrices_1 f_SE_19 (by decide) rfl rfl ?_
  refine wp_iload_n d_SE_setPrices_4 rfl ?_
  refine wp_aload_n d_SE_setPrices_5 rfl ?_
  refine wp_getR d_SE_setPrices_6 f_SE_15 (by decide) rfl rfl ?_
  refine wz_getI (hA.1.late) d_SE_setPrices_9 f_SE_47 (by decide) rfl rfl ?_
  refine wp_callV (ct_MA_gather (set := who) (k := lt σ) ok hA.1 hA.2.1 (by omega) (by omega)) d_SE_setPrices_12 k_SE_50 (by decide) rfl rfl rfl rfl (Nat.le_of_ble_eq_true rfl) (by omega) ?_
  rintro _ h2 _ ⟨rfl, rfl, e2, w2⟩
  refine wp_iload_n d_SE_setPrices_15 rfl ?_
  refine wp_callS (ct_SE_seatsOf (set := who) 0 (by omega)) d_SE_setPrices_16 k_SE_56 rfl rfl (Nat.le_of_ble_eq_true rfl) (by omega) ?_
  rintro _ _ _ ⟨rfl, rfl, rfl⟩
  refine wp_istore_n (lv' := [_, _, _, _]) d_SE_setPrices_19 (by decide) rfl ?_
  refine wp_iconst (v := zI 0) d_SE_setPrices_20 rfl ?_
  refine wp_istore_n (lv' := [_, _, _, _]) d_SE_setPrices_21 (by decide) rfl ?_
  exact loop (nP σ) 0 (by omega) h2 (fun c q1 _ _ _ => e2 c q1) w2 (fun p hp => absurd hp (by omega)) (fun x _ => by rw [e2 34 (by omega)])
theorem ct_SE_bestWith {q who : Nat} (ok : Ok σ) (hq : q + 1 < nP σ) (hw : who < 64) (hp : ∀ x, x ≤ who → hi 34 (64 * (q + 1) + x) = zI (prS σ (q + 1) x)) (hb : ∀ x, x ≤ who → hi 35 x = zI (bq σ q x)) : Ct M_SE_bestWith 1 [.ref 33, .int (zI ((q : Int) + 1)), .int (zI who)] hi hl (ans (zI (bq σ (q + 1) who)) hi hl) := by
  have hn := ok.nums
  have bg : ∀ x, 0 ≤ prS σ (q + 1) x + bq σ q (mns who x) ∧ prS σ (q + 1) x + bq σ q (mns who x) ≤ 100000000 := fun x => by
    have a := prS_b ok hq x
    have b := bq_b ok q (mns who x) (by omega)
    omega
  have loop : ∀ k i : Nat, i + k = who + 1 → Wp M_SE_bestWith 1 (ans (zI (bq σ (q + 1) who)) hi hl) 6 [some (.ref 33), some (.int (zI ((q : Int) + 1))), some (.int (zI who)), some (.int (zI (bwN (fun here => prS σ (q + 1) here + bq σ q (mns who here)) who i))), some (.int (zI i))] [] hi hl := by
    intro k
    induction k with
    | zero =>
      intro i hik
      refine wp_iload d_SE_bestWith_6 rfl ?_
      refine wp_iload_n d_SE_bestWith_8 rfl ?_
      refine wz_icmp_gt (tgt := 56) d_SE_bestWith_9 (by decide) (by omega) (by omega) (fun h9 => ?_) (fun h9 => ?_)
      · refine wp_iload_n d_SE_bestWith_56 rfl ?_
        exact wp_iret d_SE_bestWith_57 (Or.inl rfl) (ans_of (by rw [show i = who + 1 by omega]; rfl))
      · exact absurd h9 (by omega)
    | succ k ih =>
      intro i hik
      have ih' := ih (i + 1) (by omega)
      rw [bwN] at ih'
      have bi := bg i
      have bw' := bwN_nn (g := fun here => prS σ (q + 1) here + bq σ q (mns who here)) (who := who) (fun x _ => (bg x).1) i (by omega)
      have hml := mns_le who i
      have hml2 := mns_le i who
      refine wp_iload d_SE_bestWith_6 rfl ?_
      refine wp_iload_n d_SE_bestWith_8 rfl ?_
      refine wz_icmp_gt (tgt := 56) d_SE_bestWith_9 (by decide) (by omega) (by omega) (fun h9 => ?_) (fun h9 => ?_)
      · exact absurd h9 (by omega)
      · refine wp_iload d_SE_bestWith_12 rfl ?_
        refine wp_iload_n d_SE_bestWith_14 rfl ?_
        refine wp_iconst (v := zI (-1)) d_SE_bestWith_15 rfl ?_
        refine wp_ixor d_SE_bestWith_16 ?_
        refine wp_iand d_SE_bestWith_17 ?_
        rw [zI_mns (show i < 4096 by omega)]
        refine wz_if_ne (tgt := 50) d_SE_bestWith_18 (by decide) (by omega) (fun h18 => ?_) (fun h18 => ?_)
        · rw [if_neg (by omega)] at ih'
          refine wz_iinc (lv' := [_, _, _, _, _]) d_SE_bestWith_50 rfl (by decide) rfl ?_
          refine wp_goto (tgt := 6) d_SE_bestWith_53 (by decide) ?_
          exact ih'
        · rw [if_pos (by omega)] at ih'
          refine wp_iload_n d_SE_bestWith_21 rfl ?_
          refine wp_aload_n d_SE_bestWith_22 rfl ?_
          refine wp_getR d_SE_bestWith_23 f_SE_23 (by decide) rfl rfl ?_
          refine wp_iload_n d_SE_bestWith_26 rfl ?_
          refine wp_bipush (v := zI 64) d_SE_bestWith_27 rfl ?_
          refine wz_imul d_SE_bestWith_29 ?_
          refine wp_iload d_SE_bestWith_30 rfl ?_
          refine wz_iadd d_SE_bestWith_32 ?_
          refine wz_iald ((hp i (by omega))) ((by omega)) ((by omega)) d_SE_bestWith_33 (by decide) rfl (by decide) ?_
          refine wp_aload_n d_SE_bestWith_34 rfl ?_
          refine wp_getR d_SE_bestWith_35 f_SE_27 (by decide) rfl rfl ?_
          refine wp_iload_n d_SE_bestWith_38 rfl ?_
          refine wp_iload d_SE_bestWith_39 rfl ?_
          refine wp_iconst (v := zI (-1)) d_SE_bestWith_41 rfl ?_
          refine wp_ixor d_SE_bestWith_42 ?_
          refine wp_iand d_SE_bestWith_43 ?_
          rw [zI_mns (show who < 4096 by omega)]
          refine wz_iald ((hb _ hml)) (rfl) ((by omega)) d_SE_bestWith_44 (by decide) rfl (by decide) ?_
          refine wz_iadd d_SE_bestWith_45 ?_
          refine wp_callS (ct_MT_min (a := bwN (fun here => prS σ (q + 1) here + bq σ q (mns who here)) who i) (b := prS σ (q + 1) i + bq σ q (mns who i)) 0 (by omega) (by omega)) d_SE_bestWith_46 k_SE_68 rfl rfl (Nat.le_of_ble_eq_true rfl) (by omega) ?_
          rintro _ _ _ ⟨rfl, rfl, rfl⟩
          refine wp_istore_n (lv' := [_, _, _, _, _]) d_SE_bestWith_49 (by decide) rfl ?_
          refine wz_iinc (lv' := [_, _, _, _, _]) d_SE_bestWith_50 rfl (by decide) rfl ?_
          refine wp_goto (tgt := 6) d_SE_bestWith_53 (by decide) ?_
          exact ih'
  refine ct_intro (lv := [_, _, _, _, _]) (by decide +kernel) (Nat.le_of_ble_eq_true rfl) rfl ?_
  refine wz_ldc (z := 2147483647) d_SE_bestWith_0 cs_SE_67 rfl ?_
  refine wp_istore_n (lv' := [_, _, _, _, _]) d_SE_bestWith_2 (by decide) rfl ?_
  refine wp_iconst (v := zI 0) d_SE_bestWith_3 rfl ?_
  refine wp_istore (lv' := [_, _, _, _, _]) d_SE_bestWith_4 (by decide) rfl ?_
  exact loop (who + 1) 0 (by omega)
theorem ct_SE_find (ok : Ok σ) (hA : AX σ hi) : Ct M_SE_find 5 [.ref 33] hi hl (fun r hi' hl' => r = some (.int (bI (nM σ ≤ 6))) ∧ hl = hl' ∧ (∀ c, c ≠ 25 → c ≠ 26 → c ≠ 27 → c ≠ 34 → c ≠ 35 → hi' c = hi c) ∧ (nM σ ≤ 6 → hi' 35 (2 ^ nM σ - 1) = zI (bq σ (nP σ - 1) (2 ^ nM σ - 1)))) := by
  have hn := ok.nums
  by_cases h6 : nM σ ≤ 6
  · have hfl := full_lt h6
    have htp := Nat.two_pow_pos (nM σ)
    have inner : ∀ (q : Nat), q + 1 < nP σ → (∀ h : HI, (∀ c, c ≠ 25 → c ≠ 26 → c ≠ 27 → c ≠ 34 → c ≠ 35 → h c = hi c) → (∀ p x, p < nP σ → x < 2 ^ nM σ → h 34 (64 * p + x) = zI (prS σ p x)) → (∀ x, x < 2 ^ nM σ → h 35 x = zI (bq σ (q + 1) x)) → Wp M_SE_find 5 (fun r hi' hl' => r = some (.int (bI (nM σ ≤ 6))) ∧ hl = hl' ∧ (∀ c, c ≠ 25 → c ≠ 26 → c ≠ 27 → c ≠ 34 → c ≠ 35 → hi' c = hi c) ∧ (nM σ ≤ 6 → hi' 35 (2 ^ nM σ - 1) = zI (bq σ (nP σ - 1) (2 ^ nM σ - 1)))) 93 [some (.ref 33), some (.int (zI ((2 ^ nM σ : Nat) : Int))), some (.int (zI ((q : Int) + 1))), none] [] h hl) →
        ∀ k : Nat, k ≤ 2 ^ nM σ → ∀ h : HI, (∀ c, c ≠ 25 → c ≠ 26 → c ≠ 27 → c ≠ 34 → c ≠ 35 → h c = hi c) → (∀ p x, p < nP σ → x < 2 ^ nM σ → h 34 (64 * p + x) = zI (prS σ p x)) → (∀ x, x < 2 ^ nM σ → h 35 x = zI (bq σ (if x < k then q else q + 1) x)) →
        Wp M_SE_find 5 (fun r hi' hl' => r = some (.int (bI (nM σ ≤ 6))) ∧ hl = hl' ∧ (∀ c, c ≠ 25 → c ≠ 26 → c ≠ 27 → c ≠ 34 → c ≠ 35 → hi' c = hi c) ∧ (nM σ ≤ 6 → hi' 35 (2 ^ nM σ - 1) = zI (bq σ (nP σ - 1) (2 ^ nM σ - 1)))) 71 [some (.ref 33), some (.int (zI ((2 ^ nM σ : Nat) : Int))), some (.int (zI ((q : Int) + 1))), some (.int (zI ((k : Int) - 1)))] [] h hl := by
      intro q hq K k
      induction k with
      | zero =>
        intro hk h e0 e1 e2
        refine wp_iload_n d_SE_find_71 rfl ?_
        refine wz_if_lt (tgt := 93) d_SE_find_72 (by decide) (by omega) (fun h72 => ?_) (fun h72 => ?_)
        · refine wp_drop (lv' := [some _, some _, some _, none]) ⟨rfl, rfl, rfl, trivial⟩ ?_
          exact K h e0 e1 (fun x hx => by rw [e2 x hx, if_neg (by omega)])
        · exact absurd h72 (by omega)
      | succ k ih =>
        intro hk h e0 e1 e2
        rw [show (((k + 1 : Nat) : Int) - 1) = (k : Int) by omega]
        refine wp_iload_n d_SE_find_71 rfl ?_
        refine wz_if_lt (tgt := 93) d_SE_find_72 (by decide) (by omega) (fun h72 => ?_) (fun h72 => ?_)
        · exact absurd h72 (by omega)
        · refine wp_aload_n d_SE_find_75 rfl ?_
          refine wp_getR d_SE_find_76 f_SE_27 (by decide) rfl rfl ?_
          refine wp_iload_n d_SE_find_79 rfl ?_
          refine wp_aload_n d_SE_find_80 rfl ?_
          refine wp_iload_n d_SE_find_81 rfl ?_
          refine wp_iload_n d_SE_find_82 rfl ?_
          refine wp_callV (ct_SE_bestWith (q := q) (who := k) ok hq (by omega) (fun x hx => e1 (q + 1) x hq (by omega)) (fun x hx => by rw [e2 x (by omega), if_pos (by omega)])) d_SE_find_83 k_SE_43 (by decide) rfl rfl rfl rfl (Nat.le_of_ble_eq_true rfl) (by omega) ?_
          rintro _ _ _ ⟨rfl, rfl, rfl⟩
          refine wz_iast (rfl) ((by omega)) d_SE_find_86 (by decide) rfl (by decide) ?_
          refine wz_iinc (lv' := [_, _, _, _]) d_SE_find_87 rfl (by decide) rfl ?_
          refine wp_goto (tgt := 71) d_SE_find_90 (by decide) ?_
          refine ih (by omega) _ (fun c q1 q2 q3 q4 q5 => by rw [setI_ne _ _ _ q5, e0 c q1 q2 q3 q4 q5]) (fun p x hp hx => rd1 (by decide) (e1 p x hp hx)) (fun x hx => ?_)
          by_cases z : x = k
          · subst z
            refine rdA ?_
            rw [if_neg (by omega)]
          · refine rdS z ?_
            rw [e2 x hx]
            by_cases y : x < k
            · rw [if_pos y, if_pos (by omega)]
            · rw [if_neg y, if_neg (by omega)]
    have pipes : ∀ k q : Nat, q + 1 + k = nP σ → ∀ h : HI, (∀ c, c ≠ 25 → c ≠ 26 → c ≠ 27 → c ≠ 34 → c ≠ 35 → h c = hi c) → (∀ p x, p < nP σ → x < 2 ^ nM σ → h 34 (64 * p + x) = zI (prS σ p x)) → (∀ x, x < 2 ^ nM σ → h 35 x = zI (bq σ q x)) →
        Wp M_SE_find 5 (fun r hi' hl' => r = some (.int (bI (nM σ ≤ 6))) ∧ hl = hl' ∧ (∀ c, c ≠ 25 → c ≠ 26 → c ≠ 27 → c ≠ 34 → c ≠ 35 → hi' c = hi c) ∧ (nM σ ≤ 6 → hi' 35 (2 ^ nM σ - 1) = zI (bq σ (nP σ - 1) (2 ^ nM σ - 1)))) 56 [some (.ref 33), some (.int (zI ((2 ^ nM σ : Nat) : Int))), some (.int (zI ((q : Int) + 1))), none] [] h hl := by
      intro k
      induction k with
      | zero =>
        intro q hqk h e0 e1 e2
        have hA' : AX σ h := hA.keep (fun c hc => e0 c (by omega) (by omega) (by omega) (by omega) (by omega))
        refine wp_iload_n d_SE_find_56 rfl ?_
        refine wp_aload_n d_SE_find_57 rfl ?_
        refine wp_getR d_SE_find_58 f_SE_9 (by decide) rfl rfl ?_
        refine wz_getI (hA'.2.1.np) d_SE_find_61 f_SE_40 (by decide) rfl rfl ?_
        refine wz_icmp_ge (tgt := 99) d_SE_find_64 (by decide) (by omega) (by omega) (fun h64 => ?_) (fun h64 => ?_)
        · refine wp_iconst (v := zI 1) d_SE_find_99 rfl ?_
          exact wp_iret d_SE_find_100 (Or.inr ⟨rfl, by first | exact bI_01 _ | exact Or.inl rfl | exact Or.inr rfl⟩) (⟨by rw [bI_t h6]; rfl, rfl, e0, fun _ => by rw [e2 _ (by omega), show nP σ - 1 = q by omega]⟩)
        · exact absurd h64 (by omega)
      | succ k ih =>
        intro q hqk h e0 e1 e2
        have hA' : AX σ h := hA.keep (fun c hc => e0 c (by omega) (by omega) (by omega) (by omega) (by omega))
        refine wp_iload_n d_SE_find_56 rfl ?_
        refine wp_aload_n d_SE_find_57 rfl ?_
        refine wp_getR d_SE_find_58 f_SE_9 (by decide) rfl rfl ?_
        refine wz_getI (hA'.2.1.np) d_SE_find_61 f_SE_40 (by decide) rfl rfl ?_
        refine wz_icmp_ge (tgt := 99) d_SE_find_64 (by decide) (by omega) (by omega) (fun h64 => ?_) (fun h64 => ?_)
        · exact absurd h64 (by omega)
        · refine wp_iload_n d_SE_find_67 rfl ?_
          refine wp_iconst (v := zI 1) d_SE_find_68 rfl ?_
          refine wz_isub d_SE_find_69 ?_
          refine wp_istore_n (lv' := [_, _, _, _]) d_SE_find_70 (by decide) rfl ?_
          refine inner q (by omega) (fun h' f0 f1 f2 => ?_) (2 ^ nM σ) (Nat.le_refl _) h e0 e1 (fun x hx => by rw [e2 x hx, if_pos hx])
          refine wz_iinc (lv' := [_, _, _, _]) d_SE_find_93 rfl (by decide) rfl ?_
          refine wp_goto (tgt := 56) d_SE_find_96 (by decide) ?_
          exact ih (q + 1) (by omega) h' f0 f1 f2
    have first : ∀ k i : Nat, i + k = 2 ^ nM σ → ∀ h : HI, (∀ c, c ≠ 25 → c ≠ 26 → c ≠ 27 → c ≠ 34 → c ≠ 35 → h c = hi c) → (∀ p x, p < nP σ → x < i → h 34 (64 * p + x) = zI (prS σ p x)) → (∀ x, x < i → h 35 x = zI (bq σ 0 x)) →
        Wp M_SE_find 5 (fun r hi' hl' => r = some (.int (bI (nM σ ≤ 6))) ∧ hl = hl' ∧ (∀ c, c ≠ 25 → c ≠ 26 → c ≠ 27 → c ≠ 34 → c ≠ 35 → hi' c = hi c) ∧ (nM σ ≤ 6 → hi' 35 (2 ^ nM σ - 1) = zI (bq σ (nP σ - 1) (2 ^ nM σ - 1)))) 26 [some (.ref 33), some (.int (zI ((2 ^ nM σ : Nat) : Int))), some (.int (zI i)), none] [] h hl := by
      intro k
      induction k with
      | zero =>
        intro i hik h e0 e1 e2
        refine wp_iload_n d_SE_find_26 rfl ?_
        refine wp_iload_n d_SE_find_27 rfl ?_
        refine wz_icmp_ge (tgt := 54) d_SE_find_28 (by decide) (by omega) (by omega) (fun h28 => ?_) (fun h28 => ?_)
        · refine wp_iconst (v := zI 1) d_SE_find_54 rfl ?_
          refine wp_istore_n (lv' := [_, _, _, _]) d_SE_find_55 (by decide) rfl ?_
          exact pipes (nP σ - 1) 0 (by omega) h e0 (fun p x hp hx => e1 p x hp (by omega)) (fun x hx => e2 x (by omega))
        · exact absurd h28 (by omega)
      | succ k ih =>
        intro i hik h e0 e1 e2
        have hA' : AX σ h := hA.keep (fun c hc => e0 c (by omega) (by omega) (by omega) (by omega) (by omega))
        refine wp_iload_n d_SE_find_26 rfl ?_
        refine wp_iload_n d_SE_find_27 rfl ?_
        refine wz_icmp_ge (tgt := 54) d_SE_find_28 (by decide) (by omega) (by omega) (fun h28 => ?_) (fun h28 => ?_)
        · exact absurd h28 (by omega)
        · refine wp_aload_n d_SE_find_31 rfl ?_
          refine wp_iload_n d_SE_find_32 rfl ?_
          refine wp_callV (ct_SE_setPrices (who := i) ok hA' (by omega)) d_SE_find_33 k_SE_36 (by decide) rfl rfl rfl rfl (Nat.le_of_ble_eq_true rfl) (by omega) ?_
          rintro _ h2 _ ⟨rfl, rfl, f0, f1, f2⟩
          have p0 : h2 34 i = zI (prS σ 0 i) := by
            have := f1 0 (by omega)
            rw [show 64 * 0 + i = i by omega] at this
            exact this
          refine wp_aload_n d_SE_find_36 rfl ?_
          refine wp_getR d_SE_find_37 f_SE_27 (by decide) rfl rfl ?_
          refine wp_iload_n d_SE_find_40 rfl ?_
          refine wp_aload_n d_SE_find_41 rfl ?_
          refine wp_getR d_SE_find_42 f_SE_23 (by decide) rfl rfl ?_
          refine wp_iload_n d_SE_find_45 rfl ?_
          refine wz_iald (p0) (rfl) ((by omega)) d_SE_find_46 (by decide) rfl (by decide) ?_
          refine wz_iast (rfl) ((by omega)) d_SE_find_47 (by decide) rfl (by decide) ?_
          refine wz_iinc (lv' := [_, _, _, _]) d_SE_find_48 rfl (by decide) rfl ?_
          refine wp_goto (tgt := 26) d_SE_find_51 (by decide) ?_
          refine ih (i + 1) (by omega) _ (fun c q1 q2 q3 q4 q5 => by rw [setI_ne _ _ _ q5, f0 c q1 q2 q3 q4, e0 c q1 q2 q3 q4 q5]) (fun p x hp hx => rd1 (by decide) ?_) (fun x hx => ?_)
          · by_cases z : x = i
            · rw [z]; exact f1 p hp
            · rw [f2 _ (by omega)]; exact e1 p x hp (by omega)
          · by_cases z : x = i
            · subst z; exact rdA rfl
            · refine rdS z ?_
              rw [f0 35 (by omega) (by omega) (by omega) (by omega)]; exact e2 x (by omega)
    refine ct_intro (lv := [_, _, _, _]) (by decide +kernel) (Nat.le_of_ble_eq_true rfl) rfl ?_
    refine wp_aload_n d_SE_find_0 rfl ?_
    refine wp_getR d_SE_find_1 f_SE_15 (by decide) rfl rfl ?_
    refine wz_getI (hA.1.n) d_SE_find_4 f_SE_30 (by decide) rfl rfl ?_
    refine wp_bipush (v := zI 6) d_SE_find_7 rfl ?_
    refine wz_icmp_le (tgt := 14) d_SE_find_9 (by decide) (by omega) (by omega) (fun h9 => ?_) (fun h9 => ?_)
    · refine wp_iconst (v := zI 1) d_SE_find_14 rfl ?_
      refine wp_aload_n d_SE_find_15 rfl ?_
      refine wp_getR d_SE_find_16 f_SE_15 (by decide) rfl rfl ?_
      refine wz_getI (hA.1.n) d_SE_find_19 f_SE_30 (by decide) rfl rfl ?_
      refine wp_ishl d_SE_find_22 ?_
      refine wz_top (y := zI ((2 ^ nM σ : Nat) : Int)) (by rw [show (1 : Int) = ((1 : Nat) : Int) from rfl, zI_shl (by omega) (by omega), Nat.one_mul]) ?_
      refine wp_istore_n (lv' := [_, _, _, _]) d_SE_find_23 (by decide) rfl ?_
      refine wp_iconst (v := zI 0) d_SE_find_24 rfl ?_
      refine wp_istore_n (lv' := [_, _, _, _]) d_SE_find_25 (by decide) rfl ?_
      exact first (2 ^ nM σ) 0 (by omega) hi (fun _ _ _ _ _ _ => rfl) (fun p x _ hx => absurd hx (by omega)) (fun x hx => absurd hx (by omega))
    · exact absurd h9 (by omega)
  · refine ct_intro (lv := [_, _, _, _]) (by decide +kernel) (Nat.le_of_ble_eq_true rfl) rfl ?_
    refine wp_aload_n d_SE_find_0 rfl ?_
    refine wp_getR d_SE_find_1 f_SE_15 (by decide) rfl rfl ?_
    refine wz_getI (hA.1.n) d_SE_find_4 f_SE_30 (by decide) rfl rfl ?_
    refine wp_bipush (v := zI 6) d_SE_find_7 rfl ?_
    refine wz_icmp_le (tgt := 14) d_SE_find_9 (by decide) (by omega) (by omega) (fun h9 => ?_) (fun h9 => ?_)
    · exact absurd h9 (by omega)
    · refine wp_iconst (v := zI 0) d_SE_find_12 rfl ?_
      exact wp_iret d_SE_find_13 (Or.inr ⟨rfl, by first | exact bI_01 _ | exact Or.inl rfl | exact Or.inr rfl⟩) (⟨by rw [bI_f h6]; rfl, rfl, fun _ _ _ _ _ _ => rfl, fun q => absurd q h6⟩)
theorem ct_SE_plan (ok : Ok σ) (hA : AX σ hi) (h6 : nM σ ≤ 6) (hb : hi 35 (2 ^ nM σ - 1) = zI (bq σ (nP σ - 1) (2 ^ nM σ - 1))) : Ct M_SE_plan 1 [.ref 33] hi hl (ans (zI (bq σ (nP σ - 1) (2 ^ nM σ - 1))) hi hl) := by
  have hn := ok.nums
  have hfl := full_lt h6
  have htp := Nat.two_pow_pos (nM σ)
  refine ct_intro (lv := [_]) (by decide +kernel) (Nat.le_of_ble_eq_true rfl) rfl ?_
  refine wp_aload_n d_SE_plan_0 rfl ?_
  refine wp_getR d_SE_plan_1 f_SE_27 (by decide) rfl rfl ?_
  refine wp_iconst (v := zI 1) d_SE_plan_4 rfl ?_
  refine wp_aload_n d_SE_plan_5 rfl ?_
  refine wp_getR d_SE_plan_6 f_SE_15 (by decide) rfl rfl ?_
  refine wz_getI (hA.1.n) d_SE_plan_9 f_SE_30 (by decide) rfl rfl ?_
  refine wp_bipush (v := zI 6) d_SE_plan_12 rfl ?_
  refine wp_callS (ct_MT_min (a := nM σ) (b := 6) 0 (by omega) (by omega)) d_SE_plan_14 k_SE_68 rfl rfl (Nat.le_of_ble_eq_true rfl) (by omega) ?_
  rintro _ _ _ ⟨rfl, rfl, rfl⟩
  rw [show min ((nM σ : Nat) : Int) 6 = ((nM σ : Nat) : Int) by omega]
  refine wp_ishl d_SE_plan_17 ?_
  refine wz_top (y := zI ((2 ^ nM σ : Nat) : Int)) (by rw [show (1 : Int) = ((1 : Nat) : Int) from rfl, zI_shl (by omega) (by omega), Nat.one_mul]) ?_
  refine wp_iconst (v := zI 1) d_SE_plan_18 rfl ?_
  refine wz_isub d_SE_plan_19 ?_
  refine wz_iald (hb) ((by omega)) ((by omega)) d_SE_plan_20 (by decide) rfl (by decide) ?_
  exact wp_iret d_SE_plan_21 (Or.inl rfl) (ans_of rfl)
theorem ct_SE_least (ok : Ok σ) (hA : AX σ hi) (h6 : nM σ ≤ 6) (hb : hi 35 (2 ^ nM σ - 1) = zI (bq σ (nP σ - 1) (2 ^ nM σ - 1))) : Ct M_SE_least 2 [.ref 33] hi hl (ans (zI (bt σ).1) hi hl) := by
  have hn := ok.nums
  have hbb := bq_b ok (nP σ - 1) (2 ^ nM σ - 1) (by omega)
  refine ct_intro (lv := [_]) (by decide +kernel) (Nat.le_of_ble_eq_true rfl) rfl ?_
  refine wp_aload_n d_SE_least_0 rfl ?_
  refine wp_callV (ct_SE_plan ok hA h6 hb) d_SE_least_1 k_SE_73 (by decide) rfl rfl rfl rfl (Nat.le_of_ble_eq_true rfl) (by omega) ?_
  rintro _ _ _ ⟨rfl, rfl, rfl⟩
  refine wz_ldc (z := 46656) d_SE_least_4 cs_SE_63 rfl ?_
  refine wz_idiv d_SE_least_6 (by omega) (by omega) (by omega) (by omega) ?_
  exact wp_iret d_SE_least_7 (Or.inl rfl) (ans_of (by rw [plan_least ok h6]))
theorem ct_SE_placeOf {m : Nat} (ok : Ok σ) (hA : AX σ hi) (h6 : nM σ ≤ 6) (hm : m < nM σ) (hb : hi 35 (2 ^ nM σ - 1) = zI (bq σ (nP σ - 1) (2 ^ nM σ - 1))) : Ct M_SE_placeOf 2 [.ref 33, .int (zI m)] hi hl (ans (zI (sd σ (bt σ).2 m)) hi hl) := by
  have hn := ok.nums
  have hbb := bq_b ok (nP σ - 1) (2 ^ nM σ - 1) (by omega)
  have hf := figI_b m
  have hdv : 0 ≤ bq σ (nP σ - 1) (2 ^ nM σ - 1) / figI m ∧ bq σ (nP σ - 1) (2 ^ nM σ - 1) / figI m ≤ 100000000 := ⟨Int.ediv_nonneg hbb.1 (by omega), Int.le_trans (Int.ediv_le_self _ hbb.1) (by omega)⟩
  refine ct_intro (lv := [_, _]) (by decide +kernel) (Nat.le_of_ble_eq_true rfl) rfl ?_
  refine wp_iload_n d_SE_placeOf_0 rfl ?_
  refine wz_if_lt (tgt := 26) d_SE_placeOf_1 (by decide) (by omega) (fun h1 => ?_) (fun h1 => ?_)
  · exact absurd h1 (by omega)
  · refine wp_iload_n d_SE_placeOf_4 rfl ?_
    refine wp_bipush (v := zI 6) d_SE_placeOf_5 rfl ?_
    refine wz_icmp_ge (tgt := 26) d_SE_placeOf_7 (by decide) (by omega) (by omega) (fun h7 => ?_) (fun h7 => ?_)
    · exact absurd h7 (by omega)
    · refine wp_aload_n d_SE_placeOf_10 rfl ?_
      refine wp_callV (ct_SE_plan ok hA h6 hb) d_SE_placeOf_11 k_SE_73 (by decide) rfl rfl rfl rfl (Nat.le_of_ble_eq_true rfl) (by omega) ?_
      rintro _ _ _ ⟨rfl, rfl, rfl⟩
      refine wp_gets d_SE_placeOf_14 fs_SE_64 ?_
      refine wp_iload_n d_SE_placeOf_17 rfl ?_
      refine wp_tald d_SE_placeOf_18 (zI_nat m) (by omega) (figs_z (by omega)) ?_
      refine wz_idiv d_SE_placeOf_19 (by omega) (by omega) (by omega) (by omega) ?_
      refine wp_bipush (v := zI 6) d_SE_placeOf_20 rfl ?_
      refine wz_irem d_SE_placeOf_22 (by omega) (by omega) (by omega) (by omega) ?_
      refine wp_goto (tgt := 28) d_SE_placeOf_23 (by decide) ?_
      exact wp_iret d_SE_placeOf_28 (Or.inl rfl) (ans_of (by rw [plan_seat ok h6 hm]))
theorem cx_seats (ok : Ok σ) (hA : AX σ hi) : Ct M_BB_seats 9 [.ref 0] hi hl (pX σ (zI (r_seats σ)) hi) := by
  refine ct_intro (lv := [_]) (by decide +kernel) (Nat.le_of_ble_eq_true rfl) rfl ?_
  refine wp_aload_n d_BB_seats_0 rfl ?_
  refine wp_getR d_BB_seats_1 f_BB_53 (by decide) rfl rfl ?_
  refine wp_callV (ct_SE_find ok hA) d_BB_seats_4 k_BB_182 (by decide) rfl rfl rfl rfl (Nat.le_of_ble_eq_true rfl) (by omega) ?_
  rintro _ h2 _ ⟨rfl, rfl, e2, f2⟩
  have hA2 : AX σ h2 := hA.keep (fun c hc => e2 c (by omega) (by omega) (by omega) (by omega) (by omega))
  refine wz_if_eqB (tgt := 20) d_BB_seats_7 (by decide) (fun h7 => ?_) (fun h7 => ?_)
  · refine wp_bipush (v := zI (-3)) d_BB_seats_20 rfl ?_
    exact wp_iret d_BB_seats_22 (Or.inl rfl) (⟨by rw [r_seats, if_neg h7], hA2, fun c hc => e2 c (by omega) (by omega) (by omega) (by omega) (by omega)⟩)
  · refine wp_aload_n d_BB_seats_10 rfl ?_
    refine wp_getR d_BB_seats_11 f_BB_53 (by decide) rfl rfl ?_
    refine wp_callV (ct_SE_least ok hA2 h7 (f2 h7)) d_BB_seats_14 k_BB_185 (by decide) rfl rfl rfl rfl (Nat.le_of_ble_eq_true rfl) (by omega) ?_
    rintro _ _ _ ⟨rfl, rfl, rfl⟩
    refine wp_goto (tgt := 22) d_BB_seats_17 (by decide) ?_
    exact wp_iret d_BB_seats_22 (Or.inl rfl) (⟨by rw [r_seats, if_pos h7], hA2, fun c hc => e2 c (by omega) (by omega) (by omega) (by omega) (by omega)⟩)
theorem cx_seatAt (ok : Ok σ) (hA : AX σ hi) (ha : inR a) : Ct M_BB_seatAt 9 [.ref 0, .int (zI a)] hi hl (pX σ (zI (r_seatAt σ a)) hi) := by
  refine ct_intro (lv := [_, _]) (by decide +kernel) (Nat.le_of_ble_eq_true rfl) rfl ?_
  refine wp_aload_n d_BB_seatAt_0 rfl ?_
  refine wp_getR d_BB_seatAt_1 f_BB_26 (by decide) rfl rfl ?_
  refine wp_iload_n d_BB_seatAt_4 rfl ?_
  refine wp_callV (ct_PE_has 0 ok hA.1 ha) d_BB_seatAt_5 k_BB_118 (by decide) rfl rfl rfl rfl (Nat.le_of_ble_eq_true rfl) (by omega) ?_
  rintro _ _ _ ⟨rfl, rfl, rfl⟩
  refine wz_if_neB (tgt := 13) d_BB_seatAt_8 (by decide) (fun h8 => ?_) (fun h8 => ?_)
  · obtain ⟨m, rfl, hm⟩ := toN h8
    refine wp_aload_n d_BB_seatAt_13 rfl ?_
    refine wp_getR d_BB_seatAt_14 f_BB_53 (by decide) rfl rfl ?_
    refine wp_callV (ct_SE_find ok hA) d_BB_seatAt_17 k_BB_182 (by decide) rfl rfl rfl rfl (Nat.le_of_ble_eq_true rfl) (by omega) ?_
    rintro _ h2 _ ⟨rfl, rfl, e2, f2⟩
    have hA2 : AX σ h2 := hA.keep (fun c hc => e2 c (by omega) (by omega) (by omega) (by omega) (by omega))
    refine wz_if_eqB (tgt := 34) d_BB_seatAt_20 (by decide) (fun h20 => ?_) (fun h20 => ?_)
    · refine wp_bipush (v := zI (-3)) d_BB_seatAt_34 rfl ?_
      exact wp_iret d_BB_seatAt_36 (Or.inl rfl) (⟨by rw [r_seatAt, if_pos h8, if_neg h20], hA2, fun c hc => e2 c (by omega) (by omega) (by omega) (by omega) (by omega)⟩)
    · refine wp_aload_n d_BB_seatAt_23 rfl ?_
      refine wp_getR d_BB_seatAt_24 f_BB_53 (by decide) rfl rfl ?_
      refine wp_iload_n d_BB_seatAt_27 rfl ?_
      refine wp_callV (ct_SE_placeOf ok hA2 h20 hm (f2 h20)) d_BB_seatAt_28 k_BB_187 (by decide) rfl rfl rfl rfl (Nat.le_of_ble_eq_true rfl) (by omega) ?_
      rintro _ _ _ ⟨rfl, rfl, rfl⟩
      refine wp_goto (tgt := 36) d_BB_seatAt_31 (by decide) ?_
      exact wp_iret d_BB_seatAt_36 (Or.inl rfl) (⟨by rw [r_seatAt, if_pos h8, if_pos h20, nC], hA2, fun c hc => e2 c (by omega) (by omega) (by omega) (by omega) (by omega)⟩)
  · refine wp_iconst (v := zI (-1)) d_BB_seatAt_11 rfl ?_
    exact wp_iret d_BB_seatAt_12 (Or.inl rfl) (pX_of hA (by rw [r_seatAt, if_neg h8]))
end SEC
