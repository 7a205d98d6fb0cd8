/-! People, Pipes: what is asked of them -/
theorem ans_of {x y : Int32} {hi : HI} {hl : HL} (h : y = x) : ans x hi hl (some (.int y)) hi hl := ⟨by rw [h], rfl, rfl⟩
theorem ans_t {c : Prop} [Decidable c] {hi : HI} {hl : HL} (h : c) : ans (bI c) hi hl (some (.int (zI 1))) hi hl := ans_of (bI_t h).symm
theorem ans_f {c : Prop} [Decidable c] {hi : HI} {hl : HL} (h : ¬ c) : ans (bI c) hi hl (some (.int (zI 0))) hi hl := ans_of (bI_f h).symm
section MATHMAX
variable {hi : HI} {hl : HL}
theorem ct_MT_max {a b : Int} (d : Nat) (ha : inR a) (hb : inR b) : Ct M_MT_max d [.int (zI a), .int (zI b)] hi hl (ans (zI (max a b)) hi hl) := by
  refine ct_intro (lv := [_, _]) (by decide +kernel) (Nat.le_of_ble_eq_true rfl) rfl ?_
  refine wp_iload_n d_MT_max_0 rfl ?_
  refine wp_iload_n d_MT_max_1 rfl ?_
  refine wz_icmp_lt (tgt := 9) d_MT_max_2 (by decide) (by omega) (by omega) (fun h2 => ?_) (fun h2 => ?_)
  · refine wp_iload_n d_MT_max_9 rfl ?_
    exact wp_iret d_MT_max_10 (Or.inl rfl) (ans_of (by rw [Int.max_eq_right (by omega)]))
  · refine wp_iload_n d_MT_max_5 rfl ?_
    refine wp_goto (tgt := 10) d_MT_max_6 (by decide) ?_
    exact wp_iret d_MT_max_10 (Or.inl rfl) (ans_of (by rw [Int.max_eq_left (by omega)]))
end MATHMAX
section PEOPLE
variable {σ : SG} {hi : HI} {hl : HL}
theorem ct_PE_has {z : Int} (d : Nat) (ok : Ok σ) (hp : PV σ hi) (hz : inR z) : Ct M_PE_has d [.ref 6, .int (zI z)] hi hl (ans (bI (0 ≤ z ∧ z < nM σ)) hi hl) := by
  have hn := ok.nums
  refine ct_intro (lv := [_, _]) (by decide +kernel) (Nat.le_of_ble_eq_true rfl) rfl ?_
  refine wp_iload_n d_PE_has_0 rfl ?_
  refine wz_if_lt (tgt := 16) d_PE_has_1 (by decide) (by omega) (fun h1 => ?_) (fun h1 => ?_)
  · refine wp_iconst (v := zI 0) d_PE_has_16 rfl ?_
    exact wp_iret d_PE_has_17 (Or.inr ⟨rfl, by first | exact bI_01 _ | exact Or.inl rfl | exact Or.inr rfl⟩) (ans_f (by omega))
  · refine wp_iload_n d_PE_has_4 rfl ?_
    refine wp_aload_n d_PE_has_5 rfl ?_
    refine wz_getI (hp.n) d_PE_has_6 f_PE_34 (by decide) rfl rfl ?_
    refine wz_icmp_ge (tgt := 16) d_PE_has_9 (by decide) (by omega) (by omega) (fun h9 => ?_) (fun h9 => ?_)
    · refine wp_iconst (v := zI 0) d_PE_has_16 rfl ?_
      exact wp_iret d_PE_has_17 (Or.inr ⟨rfl, by first | exact bI_01 _ | exact Or.inl rfl | exact Or.inr rfl⟩) (ans_f (by omega))
    · refine wp_iconst (v := zI 1) d_PE_has_12 rfl ?_
      refine wp_goto (tgt := 17) d_PE_has_13 (by decide) ?_
      exact wp_iret d_PE_has_17 (Or.inr ⟨rfl, by first | exact bI_01 _ | exact Or.inl rfl | exact Or.inr rfl⟩) (ans_t (by omega))
theorem ct_PE_turnOf {m : Nat} (d : Nat) (ok : Ok σ) (hp : PV σ hi) (hm : m < nM σ) : Ct M_PE_turnOf (d + 1) [.ref 6, .int (zI m)] hi hl (ans (zI ((lu σ m : Int) + 1)) hi hl) := by
  have hn := ok.nums
  have hmm := ok.m hm
  refine ct_intro (lv := [_, _]) (by decide +kernel) (Nat.le_of_ble_eq_true rfl) rfl ?_
  refine wp_aload_n d_PE_turnOf_0 rfl ?_
  refine wp_getR d_PE_turnOf_1 f_PE_9 (by decide) rfl rfl ?_
  refine wp_iload_n d_PE_turnOf_4 rfl ?_
  refine wz_iald (hp.lu hm) (rfl) ((by omega)) d_PE_turnOf_5 (by decide) rfl (by decide) ?_
  refine wp_iconst (v := zI 0) d_PE_turnOf_6 rfl ?_
  refine wp_callS (ct_MT_max (a := (lu σ m : Int)) (b := 0) 0 (by omega) (by omega)) d_PE_turnOf_7 k_PE_47 rfl rfl (Nat.le_of_ble_eq_true rfl) (by omega) ?_
  rintro _ _ _ ⟨rfl, rfl, rfl⟩
  refine wp_iconst (v := zI 1) d_PE_turnOf_10 rfl ?_
  refine wz_iadd d_PE_turnOf_11 ?_
  exact wp_iret d_PE_turnOf_12 (Or.inl rfl) (ans_of (by rw [Int.max_eq_left (by omega)]))
theorem ct_PE_givenAt {m t : Nat} (d : Nat) (ok : Ok σ) (hp : PV σ hi) (hm : m < nM σ) (ht : t ≤ 1000) : Ct M_PE_givenAt (d + 2) [.ref 6, .int (zI m), .int (zI t)] hi hl (ans (zI (gv σ m t)) hi hl) := by
  have hn := ok.nums
  have hmm := ok.m hm
  have e : ((t : Int) + (ph σ m : Int)) % ((lu σ m : Int) + 1) = (((t + ph σ m) % (lu σ m + 1) : Nat) : Int) := by simp
  have hlt : (t + ph σ m) % (lu σ m + 1) < lu σ m + 1 := Nat.mod_lt _ (by omega)
  refine ct_intro (lv := [_, _, _, _]) (by decide +kernel) (Nat.le_of_ble_eq_true rfl) rfl ?_
  refine wp_iload_n d_PE_givenAt_0 rfl ?_
  refine wp_aload_n d_PE_givenAt_1 rfl ?_
  refine wp_getR d_PE_givenAt_2 f_PE_21 (by decide) rfl rfl ?_
  refine wp_iload_n d_PE_givenAt_5 rfl ?_
  refine wz_iald (hp.ph hm) (rfl) ((by omega)) d_PE_givenAt_6 (by decide) rfl (by decide) ?_
  refine wz_iadd d_PE_givenAt_7 ?_
  refine wp_aload_n d_PE_givenAt_8 rfl ?_
  refine wp_iload_n d_PE_givenAt_9 rfl ?_
  refine wp_callV (ct_PE_turnOf (m := m) d ok hp hm) d_PE_givenAt_10 k_PE_52 (by decide) rfl rfl rfl rfl (Nat.le_of_ble_eq_true rfl) (by omega) ?_
  rintro _ _ _ ⟨rfl, rfl, rfl⟩
  refine wz_irem d_PE_givenAt_13 (by omega) (by omega) (by omega) (by omega) ?_
  rw [e]
  refine wp_aload_n d_PE_givenAt_14 rfl ?_
  refine wp_getR d_PE_givenAt_15 f_PE_9 (by decide) rfl rfl ?_
  refine wp_iload_n d_PE_givenAt_18 rfl ?_
  refine wz_iald (hp.lu hm) (rfl) ((by omega)) d_PE_givenAt_19 (by decide) rfl (by decide) ?_
  refine wz_icmp_ne (tgt := 27) d_PE_givenAt_20 (by decide) (by omega) (by omega) (fun h20 => ?_) (fun h20 => ?_)
  · refine wp_iconst (v := zI 0) d_PE_givenAt_27 rfl ?_
    refine wp_istore_n (lv' := [_, _, _, _]) d_PE_givenAt_28 (by decide) rfl ?_
    refine wp_iload_n d_PE_givenAt_29 rfl ?_
    refine wz_if_eq (tgt := 46) d_PE_givenAt_30 (by decide) (by omega) (fun h30 => ?_) (fun h30 => ?_)
    · refine wp_aload_n d_PE_givenAt_46 rfl ?_
      refine wp_getR d_PE_givenAt_47 f_PE_15 (by decide) rfl rfl ?_
      refine wp_iload_n d_PE_givenAt_50 rfl ?_
      refine wz_iald (hp.fo hm) (rfl) ((by omega)) d_PE_givenAt_51 (by decide) rfl (by decide) ?_
      exact wp_iret d_PE_givenAt_52 (Or.inl rfl) (ans_of (by rw [gv, if_neg (by omega)]))
    · exact absurd rfl h30
  · refine wp_iconst (v := zI 1) d_PE_givenAt_23 rfl ?_
    refine wp_goto (tgt := 28) d_PE_givenAt_24 (by decide) ?_
    refine wp_istore_n (lv' := [_, _, _, _]) d_PE_givenAt_28 (by decide) rfl ?_
    refine wp_iload_n d_PE_givenAt_29 rfl ?_
    refine wz_if_eq (tgt := 46) d_PE_givenAt_30 (by decide) (by omega) (fun h30 => ?_) (fun h30 => ?_)
    · exact absurd h30 (by decide)
    · refine wp_aload_n d_PE_givenAt_33 rfl ?_
      refine wp_getR d_PE_givenAt_34 f_PE_24 (by decide) rfl rfl ?_
      refine wp_iload_n d_PE_givenAt_37 rfl ?_
      refine wz_zald (hp.br hm) (rfl) ((by omega)) d_PE_givenAt_38 (by decide) rfl (by decide) ?_
      refine wz_if_ne (tgt := 46) d_PE_givenAt_39 (by decide) (by omega) (fun h39 => ?_) (fun h39 => ?_)
      · refine wp_aload_n d_PE_givenAt_46 rfl ?_
        refine wp_getR d_PE_givenAt_47 f_PE_15 (by decide) rfl rfl ?_
        refine wp_iload_n d_PE_givenAt_50 rfl ?_
        refine wz_iald (hp.fo hm) (rfl) ((by omega)) d_PE_givenAt_51 (by decide) rfl (by decide) ?_
        exact wp_iret d_PE_givenAt_52 (Or.inl rfl) (ans_of (by rw [gv, if_neg (by omega)]))
      · refine wp_iconst (v := zI 0) d_PE_givenAt_42 rfl ?_
        refine wp_goto (tgt := 52) d_PE_givenAt_43 (by decide) ?_
        exact wp_iret d_PE_givenAt_52 (Or.inl rfl) (ans_of (by rw [gv, if_pos (by omega)]; rfl))
theorem ct_PE_sittingAt {p : Nat} (d : Nat) (ok : Ok σ) (hp : PV σ hi) (hpp : p < 100) : Ct M_PE_sittingAt d [.ref 6, .int (zI p)] hi hl (ans (zI (sit σ p)) hi hl) := by
  have hn := ok.nums
  have loop : ∀ k i, i + k = nM σ → Wp M_PE_sittingAt d (ans (zI (sit σ p)) hi hl) 4 [some (.ref 6), some (.int (zI p)), some (.int (zI (sitN σ p i))), some (.int (zI i))] [] hi hl := by
    intro k
    induction k with
    | zero =>
      intro i hik
      refine wp_iload_n d_PE_sittingAt_4 rfl ?_
      refine wp_aload_n d_PE_sittingAt_5 rfl ?_
      refine wz_getI (hp.n) d_PE_sittingAt_6 f_PE_34 (by decide) rfl rfl ?_
      refine wz_icmp_ge (tgt := 34) d_PE_sittingAt_9 (by decide) (by omega) (by omega) (fun h9 => ?_) (fun h9 => ?_)
      · refine wp_iload_n d_PE_sittingAt_34 rfl ?_
        exact wp_iret d_PE_sittingAt_35 (Or.inl rfl) (ans_of (by rw [sit, ← hik]; rfl))
      · exact absurd h9 (by omega)
    | succ k ih =>
      intro i hik
      have hmm := ok.m (m := i) (by omega)
      have hlt := sitN_lt σ p i
      have h2 : 2 ^ i ≤ 2 ^ 11 := Nat.pow_le_pow_right (by omega) (by omega)
      refine wp_iload_n d_PE_sittingAt_4 rfl ?_
      refine wp_aload_n d_PE_sittingAt_5 rfl ?_
      refine wz_getI (hp.n) d_PE_sittingAt_6 f_PE_34 (by decide) rfl rfl ?_
      refine wz_icmp_ge (tgt := 34) d_PE_sittingAt_9 (by decide) (by omega) (by omega) (fun h9 => ?_) (fun h9 => ?_)
      · exact absurd h9 (by omega)
      · refine wp_aload_n d_PE_sittingAt_12 rfl ?_
        refine wp_getR d_PE_sittingAt_13 f_PE_18 (by decide) rfl rfl ?_
        refine wp_iload_n d_PE_sittingAt_16 rfl ?_
        refine wz_iald (hp.pl (m := i) (by omega)) (rfl) ((by omega)) d_PE_sittingAt_17 (by decide) rfl (by decide) ?_
        refine wp_iload_n d_PE_sittingAt_18 rfl ?_
        refine wz_icmp_ne (tgt := 28) d_PE_sittingAt_19 (by decide) (by omega) (by omega) (fun h19 => ?_) (fun h19 => ?_)
        · refine wz_iinc (lv' := [_, _, _, _]) d_PE_sittingAt_28 rfl (by decide) rfl ?_
          refine wp_goto (tgt := 4) d_PE_sittingAt_31 (by decide) ?_
          have e : sitN σ p (i + 1) = sitN σ p i := by rw [sitN, if_neg (by omega), Nat.or_zero]
          have := ih (i + 1) (by omega)
          rw [e] at this
          exact this
        · refine wp_iload_n d_PE_sittingAt_22 rfl ?_
          refine wp_iconst (v := zI 1) d_PE_sittingAt_23 rfl ?_
          refine wp_iload_n d_PE_sittingAt_24 rfl ?_
          refine wp_ishl d_PE_sittingAt_25 ?_
          refine wp_ior d_PE_sittingAt_26 ?_
          refine wz_top (y := zI (sitN σ p (i + 1))) ?_ ?_
          · rw [show zI 1 = zI ((1 : Nat) : Int) from rfl, zI_shl (by omega) (by omega), zI_or, sitN, if_pos (by omega), Nat.one_mul]
          · refine wp_istore_n (lv' := [_, _, _, _]) d_PE_sittingAt_27 (by decide) rfl ?_
            refine wz_iinc (lv' := [_, _, _, _]) d_PE_sittingAt_28 rfl (by decide) rfl ?_
            refine wp_goto (tgt := 4) d_PE_sittingAt_31 (by decide) ?_
            exact ih (i + 1) (by omega)
  refine ct_intro (lv := [_, _, _, _]) (by decide +kernel) (Nat.le_of_ble_eq_true rfl) rfl ?_
  refine wp_iconst (v := zI 0) d_PE_sittingAt_0 rfl ?_
  refine wp_istore_n (lv' := [_, _, _, _]) d_PE_sittingAt_1 (by decide) rfl ?_
  refine wp_iconst (v := zI 0) d_PE_sittingAt_2 rfl ?_
  refine wp_istore_n (lv' := [_, _, _, _]) d_PE_sittingAt_3 (by decide) rfl ?_
  exact loop (nM σ) 0 (by omega)
theorem forN_le (ok : Ok σ) (set : Nat) : ∀ n, n ≤ nM σ → forN σ set n ≤ 3 * n
  | 0, _ => by simp [forN]
  | n + 1, h => by
    have h1 := forN_le ok set n (by omega)
    have h2 := ok.m (m := n) (by omega)
    rw [forN]
    split <;> omega
theorem ct_PE_forceOf {set : Nat} (d : Nat) (ok : Ok σ) (hp : PV σ hi) (hs : set < 2 ^ 12) : Ct M_PE_forceOf d [.ref 6, .int (zI set)] hi hl (ans (zI (forS σ set)) hi hl) := by
  have hn := ok.nums
  have loop : ∀ k i, i + k = nM σ → Wp M_PE_forceOf d (ans (zI (forS σ set)) hi hl) 4 [some (.ref 6), some (.int (zI set)), some (.int (zI (forN σ set i))), some (.int (zI i))] [] hi hl := by
    intro k
    induction k with
    | zero =>
      intro i hik
      refine wp_iload_n d_PE_forceOf_4 rfl ?_
      refine wp_aload_n d_PE_forceOf_5 rfl ?_
      refine wz_getI (hp.n) d_PE_forceOf_6 f_PE_34 (by decide) rfl rfl ?_
      refine wz_icmp_ge (tgt := 36) d_PE_forceOf_9 (by decide) (by omega) (by omega) (fun h9 => ?_) (fun h9 => ?_)
      · refine wp_iload_n d_PE_forceOf_36 rfl ?_
        exact wp_iret d_PE_forceOf_37 (Or.inl rfl) (ans_of (by rw [forS, ← hik]; rfl))
      · exact absurd h9 (by omega)
    | succ k ih =>
      intro i hik
      have hmm := ok.m (m := i) (by omega)
      have hfl := forN_le ok set i (by omega)
      refine wp_iload_n d_PE_forceOf_4 rfl ?_
      refine wp_aload_n d_PE_forceOf_5 rfl ?_
      refine wz_getI (hp.n) d_PE_forceOf_6 f_PE_34 (by decide) rfl rfl ?_
      refine wz_icmp_ge (tgt := 36) d_PE_forceOf_9 (by decide) (by omega) (by omega) (fun h9 => ?_) (fun h9 => ?_)
      · exact absurd h9 (by omega)
      · refine wp_iload_n d_PE_forceOf_12 rfl ?_
        refine wp_iload_n d_PE_forceOf_13 rfl ?_
        refine wp_ishr d_PE_forceOf_14 ?_
        refine wp_iconst (v := zI 1) d_PE_forceOf_15 rfl ?_
        refine wp_iand d_PE_forceOf_16 ?_
        rw [zI_bit (by omega) (by omega)]
        refine wp_iconst (v := zI 1) d_PE_forceOf_17 rfl ?_
        refine wp_icmp_ne (tgt := 30) d_PE_forceOf_18 (by decide) (fun h18 => ?_) (fun h18 => ?_)
        · refine wz_iinc (lv' := [_, _, _, _]) d_PE_forceOf_30 rfl (by decide) rfl ?_
          refine wp_goto (tgt := 4) d_PE_forceOf_33 (by decide) ?_
          have e : forN σ set (i + 1) = forN σ set i := by rw [forN, if_neg (fun q => h18 (bI_t q)), Nat.add_zero]
          have := ih (i + 1) (by omega)
          rw [e] at this
          exact this
        · refine wp_iload_n d_PE_forceOf_21 rfl ?_
          refine wp_aload_n d_PE_forceOf_22 rfl ?_
          refine wp_getR d_PE_forceOf_23 f_PE_15 (by decide) rfl rfl ?_
          refine wp_iload_n d_PE_forceOf_26 rfl ?_
          refine wz_iald (hp.fo (m := i) (by omega)) (rfl) ((by omega)) d_PE_forceOf_27 (by decide) rfl (by decide) ?_
          refine wz_iadd d_PE_forceOf_28 ?_
          refine wp_istore_n (lv' := [_, _, _, _]) d_PE_forceOf_29 (by decide) rfl ?_
          refine wz_iinc (lv' := [_, _, _, _]) d_PE_forceOf_30 rfl (by decide) rfl ?_
          refine wp_goto (tgt := 4) d_PE_forceOf_33 (by decide) ?_
          have q : set.testBit i = true := Decidable.byContradiction fun q => by rw [bI_f q] at h18; exact absurd h18 (by decide)
          have e : forN σ set (i + 1) = forN σ set i + fo σ i := by rw [forN, if_pos q]
          have := ih (i + 1) (by omega)
          rw [e] at this
          exact this
  refine ct_intro (lv := [_, _, _, _]) (by decide +kernel) (Nat.le_of_ble_eq_true rfl) rfl ?_
  refine wp_iconst (v := zI 0) d_PE_forceOf_0 rfl ?_
  refine wp_istore_n (lv' := [_, _, _, _]) d_PE_forceOf_1 (by decide) rfl ?_
  refine wp_iconst (v := zI 0) d_PE_forceOf_2 rfl ?_
  refine wp_istore_n (lv' := [_, _, _, _]) d_PE_forceOf_3 (by decide) rfl ?_
  exact loop (nM σ) 0 (by omega)
theorem brN_le (ok : Ok σ) : ∀ n, n ≤ nM σ → brN σ n ≤ n
  | 0, _ => by simp [brN]
  | n + 1, h => by
    have h1 := brN_le ok n (by omega)
    have h2 := ok.m (m := n) (by omega)
    rw [brN]
    omega
theorem ct_PE_bribedOnes (d : Nat) (ok : Ok σ) (hp : PV σ hi) : Ct M_PE_bribedOnes d [.ref 6] hi hl (ans (zI (brN σ (nM σ))) hi hl) := by
  have hn := ok.nums
  have loop : ∀ k i, i + k = nM σ → Wp M_PE_bribedOnes d (ans (zI (brN σ (nM σ))) hi hl) 4 [some (.ref 6), some (.int (zI (brN σ i))), some (.int (zI i))] [] hi hl := by
    intro k
    induction k with
    | zero =>
      intro i hik
      refine wp_iload_n d_PE_bribedOnes_4 rfl ?_
      refine wp_aload_n d_PE_bribedOnes_5 rfl ?_
      refine wz_getI (hp.n) d_PE_bribedOnes_6 f_PE_34 (by decide) rfl rfl ?_
      refine wz_icmp_ge (tgt := 30) d_PE_bribedOnes_9 (by decide) (by omega) (by omega) (fun h9 => ?_) (fun h9 => ?_)
      · refine wp_iload_n d_PE_bribedOnes_30 rfl ?_
        exact wp_iret d_PE_bribedOnes_31 (Or.inl rfl) (ans_of (by rw [← hik]; rfl))
      · exact absurd h9 (by omega)
    | succ k ih =>
      intro i hik
      have hmm := ok.m (m := i) (by omega)
      have hfl := brN_le ok i (by omega)
      refine wp_iload_n d_PE_bribedOnes_4 rfl ?_
      refine wp_aload_n d_PE_bribedOnes_5 rfl ?_
      refine wz_getI (hp.n) d_PE_bribedOnes_6 f_PE_34 (by decide) rfl rfl ?_
      refine wz_icmp_ge (tgt := 30) d_PE_bribedOnes_9 (by decide) (by omega) (by omega) (fun h9 => ?_) (fun h9 => ?_)
      · exact absurd h9 (by omega)
      · refine wp_aload_n d_PE_bribedOnes_12 rfl ?_
        refine wp_getR d_PE_bribedOnes_13 f_PE_24 (by decide) rfl rfl ?_
        refine wp_iload_n d_PE_bribedOnes_16 rfl ?_
        refine wz_zald (hp.br (m := i) (by omega)) (rfl) ((by omega)) d_PE_bribedOnes_17 (by decide) rfl (by decide) ?_
        refine wz_if_eq (tgt := 24) d_PE_bribedOnes_18 (by decide) (by omega) (fun h18 => ?_) (fun h18 => ?_)
        · refine wz_iinc (lv' := [_, _, _]) d_PE_bribedOnes_24 rfl (by decide) rfl ?_
          refine wp_goto (tgt := 4) d_PE_bribedOnes_27 (by decide) ?_
          have e : brN σ (i + 1) = brN σ i := by rw [brN]; omega
          have := ih (i + 1) (by omega)
          rw [e] at this
          exact this
        · refine wz_iinc (lv' := [_, _, _]) d_PE_bribedOnes_21 rfl (by decide) rfl ?_
          refine wz_iinc (lv' := [_, _, _]) d_PE_bribedOnes_24 rfl (by decide) rfl ?_
          refine wp_goto (tgt := 4) d_PE_bribedOnes_27 (by decide) ?_
          have e : brN σ (i + 1) = brN σ i + 1 := by rw [brN]; omega
          have := ih (i + 1) (by omega)
          rw [e] at this
          exact this
  refine ct_intro (lv := [_, _, _]) (by decide +kernel) (Nat.le_of_ble_eq_true rfl) rfl ?_
  refine wp_iconst (v := zI 0) d_PE_bribedOnes_0 rfl ?_
  refine wp_istore_n (lv' := [_, _, _]) d_PE_bribedOnes_1 (by decide) rfl ?_
  refine wp_iconst (v := zI 0) d_PE_bribedOnes_2 rfl ?_
  refine wp_istore_n (lv' := [_, _, _]) d_PE_bribedOnes_3 (by decide) rfl ?_
  exact loop (nM σ) 0 (by omega)
theorem ct_PI_has {z : Int} (d : Nat) (ok : Ok σ) (hv : IV σ hi) (hz : inR z) : Ct M_PI_has d [.ref 3, .int (zI z)] hi hl (ans (bI (0 ≤ z ∧ z < nP σ)) hi hl) := by
  have hn := ok.nums
  refine ct_intro (lv := [_, _]) (by decide +kernel) (Nat.le_of_ble_eq_true rfl) rfl ?_
  refine wp_iload_n d_PI_has_0 rfl ?_
  refine wz_if_lt (tgt := 16) d_PI_has_1 (by decide) (by omega) (fun h1 => ?_) (fun h1 => ?_)
  · refine wp_iconst (v := zI 0) d_PI_has_16 rfl ?_
    exact wp_iret d_PI_has_17 (Or.inr ⟨rfl, by first | exact bI_01 _ | exact Or.inl rfl | exact Or.inr rfl⟩) (ans_f (by omega))
  · refine wp_iload_n d_PI_has_4 rfl ?_
    refine wp_aload_n d_PI_has_5 rfl ?_
    refine wz_getI (hv.np) d_PI_has_6 f_PI_18 (by decide) rfl rfl ?_
    refine wz_icmp_ge (tgt := 16) d_PI_has_9 (by decide) (by omega) (by omega) (fun h9 => ?_) (fun h9 => ?_)
    · refine wp_iconst (v := zI 0) d_PI_has_16 rfl ?_
      exact wp_iret d_PI_has_17 (Or.inr ⟨rfl, by first | exact bI_01 _ | exact Or.inl rfl | exact Or.inr rfl⟩) (ans_f (by omega))
    · refine wp_iconst (v := zI 1) d_PI_has_12 rfl ?_
      refine wp_goto (tgt := 17) d_PI_has_13 (by decide) ?_
      exact wp_iret d_PI_has_17 (Or.inr ⟨rfl, by first | exact bI_01 _ | exact Or.inl rfl | exact Or.inr rfl⟩) (ans_t (by omega))
theorem ct_PI_hasBeat {z : Int} (d : Nat) (ok : Ok σ) (hv : IV σ hi) (hz : inR z) : Ct M_PI_hasBeat d [.ref 3, .int (zI z)] hi hl (ans (bI (0 ≤ z ∧ z < nB σ)) hi hl) := by
  have hn := ok.nums
  refine ct_intro (lv := [_, _]) (by decide +kernel) (Nat.le_of_ble_eq_true rfl) rfl ?_
  refine wp_iload_n d_PI_hasBeat_0 rfl ?_
  refine wz_if_lt (tgt := 16) d_PI_hasBeat_1 (by decide) (by omega) (fun h1 => ?_) (fun h1 => ?_)
  · refine wp_iconst (v := zI 0) d_PI_hasBeat_16 rfl ?_
    exact wp_iret d_PI_hasBeat_17 (Or.inr ⟨rfl, by first | exact bI_01 _ | exact Or.inl rfl | exact Or.inr rfl⟩) (ans_f (by omega))
  · refine wp_iload_n d_PI_hasBeat_4 rfl ?_
    refine wp_aload_n d_PI_hasBeat_5 rfl ?_
    refine wz_getI (hv.nb) d_PI_hasBeat_6 f_PI_30 (by decide) rfl rfl ?_
    refine wz_icmp_ge (tgt := 16) d_PI_hasBeat_9 (by decide) (by omega) (by omega) (fun h9 => ?_) (fun h9 => ?_)
    · refine wp_iconst (v := zI 0) d_PI_hasBeat_16 rfl ?_
      exact wp_iret d_PI_hasBeat_17 (Or.inr ⟨rfl, by first | exact bI_01 _ | exact Or.inl rfl | exact Or.inr rfl⟩) (ans_f (by omega))
    · refine wp_iconst (v := zI 1) d_PI_hasBeat_12 rfl ?_
      refine wp_goto (tgt := 17) d_PI_hasBeat_13 (by decide) ?_
      exact wp_iret d_PI_hasBeat_17 (Or.inr ⟨rfl, by first | exact bI_01 _ | exact Or.inl rfl | exact Or.inr rfl⟩) (ans_t (by omega))
theorem ct_PI_hasBoth {z w : Int} (ok : Ok σ) (hv : IV σ hi) (hz : inR z) (hw : inR w) : Ct M_PI_hasBoth 1 [.ref 3, .int (zI z), .int (zI w)] hi hl (ans (bI ((0 ≤ z ∧ z < nP σ) ∧ (0 ≤ w ∧ w < nB σ))) hi hl) := by
  refine ct_intro (lv := [_, _, _]) (by decide +kernel) (Nat.le_of_ble_eq_true rfl) rfl ?_
  refine wp_aload_n d_PI_hasBoth_0 rfl ?_
  refine wp_iload_n d_PI_hasBoth_1 rfl ?_
  refine wp_callV (ct_PI_has 0 ok hv hz) d_PI_hasBoth_2 k_PI_40 (by decide) rfl rfl rfl rfl (Nat.le_of_ble_eq_true rfl) (by omega) ?_
  rintro _ _ _ ⟨rfl, rfl, rfl⟩
  refine wz_if_eqB (tgt := 20) d_PI_hasBoth_5 (by decide) (fun h5 => ?_) (fun h5 => ?_)
  · refine wp_iconst (v := zI 0) d_PI_hasBoth_20 rfl ?_
    exact wp_iret d_PI_hasBoth_21 (Or.inr ⟨rfl, by first | exact bI_01 _ | exact Or.inl rfl | exact Or.inr rfl⟩) (ans_f (fun q => h5 q.1))
  · refine wp_aload_n d_PI_hasBoth_8 rfl ?_
    refine wp_iload_n d_PI_hasBoth_9 rfl ?_
    refine wp_callV (ct_PI_hasBeat 0 ok hv hw) d_PI_hasBoth_10 k_PI_44 (by decide) rfl rfl rfl rfl (Nat.le_of_ble_eq_true rfl) (by omega) ?_
    rintro _ _ _ ⟨rfl, rfl, rfl⟩
    refine wz_if_eqB (tgt := 20) d_PI_hasBoth_13 (by decide) (fun h13 => ?_) (fun h13 => ?_)
    · refine wp_iconst (v := zI 0) d_PI_hasBoth_20 rfl ?_
      exact wp_iret d_PI_hasBoth_21 (Or.inr ⟨rfl, by first | exact bI_01 _ | exact Or.inl rfl | exact Or.inr rfl⟩) (ans_f (fun q => h13 q.2))
    · refine wp_iconst (v := zI 1) d_PI_hasBoth_16 rfl ?_
      refine wp_goto (tgt := 21) d_PI_hasBoth_17 (by decide) ?_
      exact wp_iret d_PI_hasBoth_21 (Or.inr ⟨rfl, by first | exact bI_01 _ | exact Or.inl rfl | exact Or.inr rfl⟩) (ans_t ⟨h5, h13⟩)
theorem ct_PI_isSounding {p j : Nat} (d : Nat) (ok : Ok σ) (hv : IV σ hi) (hpp : p < 32) (hj : j < nB σ) : Ct M_PI_isSounding d [.ref 3, .int (zI p), .int (zI j)] hi hl (ans (bI ((sn σ j).testBit p = true)) hi hl) := by
  have hn := ok.nums
  have hs := ok.sn hj
  refine ct_intro (lv := [_, _, _]) (by decide +kernel) (Nat.le_of_ble_eq_true rfl) rfl ?_
  refine wp_aload_n d_PI_isSounding_0 rfl ?_
  refine wp_getR d_PI_isSounding_1 f_PI_15 (by decide) rfl rfl ?_
  refine wp_iload_n d_PI_isSounding_4 rfl ?_
  refine wz_iald (hv.sn hj) (rfl) ((by omega)) d_PI_isSounding_5 (by decide) rfl (by decide) ?_
  refine wp_iload_n d_PI_isSounding_6 rfl ?_
  refine wp_ishr d_PI_isSounding_7 ?_
  refine wp_iconst (v := zI 1) d_PI_isSounding_8 rfl ?_
  refine wp_iand d_PI_isSounding_9 ?_
  rw [zI_bit (by omega) hpp]
  refine wp_iconst (v := zI 1) d_PI_isSounding_10 rfl ?_
  refine wp_icmp_ne (tgt := 18) d_PI_isSounding_11 (by decide) (fun h11 => ?_) (fun h11 => ?_)
  · refine wp_iconst (v := zI 0) d_PI_isSounding_18 rfl ?_
    exact wp_iret d_PI_isSounding_19 (Or.inr ⟨rfl, by first | exact bI_01 _ | exact Or.inl rfl | exact Or.inr rfl⟩) (ans_f (fun q => h11 (bI_t q)))
  · refine wp_iconst (v := zI 1) d_PI_isSounding_14 rfl ?_
    refine wp_goto (tgt := 19) d_PI_isSounding_15 (by decide) ?_
    exact wp_iret d_PI_isSounding_19 (Or.inr ⟨rfl, by first | exact bI_01 _ | exact Or.inl rfl | exact Or.inr rfl⟩) (ans_t (Decidable.byContradiction fun q => by rw [bI_f q] at h11; exact absurd h11 (by decide)))
end PEOPLE
