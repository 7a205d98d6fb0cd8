/-! The class's calls: the organ, told, a mass -/
theorem nC (n : Nat) : ((n : Int)).toNat = n := Int.toNat_natCast n
section CLASSA
variable {σ : SG} {hi : HI} {hl : HL} {a b : Int}
theorem AX.keepS {σ : SG} {hi hi' : HI} (h : AX σ hi) (e : ∀ c, c ≠ 25 → c ≠ 26 → c ≠ 27 → hi' c = hi c) : AX σ hi' := h.keep (fun c _ => e c (by omega) (by omega) (by omega))
theorem cx_drinks (ok : Ok σ) (hA : AX σ hi) (ha : inR a) : Ct M_BB_drinks 9 [.ref 0, .int (zI a)] hi hl (pX σ (zI (r_drinks σ a)) hi) := by
  have hn := ok.nums
  refine ct_intro (lv := [_, _]) (by decide +kernel) (Nat.le_of_ble_eq_true rfl) rfl ?_
  refine wp_aload_n d_BB_drinks_0 rfl ?_
  refine wp_getR d_BB_drinks_1 f_BB_19 (by decide) rfl rfl ?_
  refine wp_iload_n d_BB_drinks_4 rfl ?_
  refine wp_callV (ct_PI_has 0 ok hA.2.1 ha) d_BB_drinks_5 k_BB_104 (by decide) rfl rfl rfl rfl (Nat.le_of_ble_eq_true rfl) (by omega) ?_
  rintro _ _ _ ⟨rfl, rfl, rfl⟩
  refine wz_if_eqB (tgt := 23) d_BB_drinks_8 (by decide) (fun h8 => ?_) (fun h8 => ?_)
  · refine wp_iconst (v := zI (-1)) d_BB_drinks_23 rfl ?_
    exact wp_iret d_BB_drinks_24 (Or.inl rfl) (pX_of hA (by rw [r_drinks, if_neg h8]))
  · obtain ⟨p, rfl, hpp⟩ := toN h8
    refine wp_aload_n d_BB_drinks_11 rfl ?_
    refine wp_getR d_BB_drinks_12 f_BB_19 (by decide) rfl rfl ?_
    refine wp_getR d_BB_drinks_15 f_BB_107 (by decide) rfl rfl ?_
    refine wp_iload_n d_BB_drinks_18 rfl ?_
    refine wz_iald (hA.2.1.dr hpp) (rfl) ((by omega)) d_BB_drinks_19 (by decide) rfl (by decide) ?_
    refine wp_goto (tgt := 24) d_BB_drinks_20 (by decide) ?_
    exact wp_iret d_BB_drinks_24 (Or.inl rfl) (pX_of hA (by rw [r_drinks, if_pos h8, nC]))
theorem cx_sounds (ok : Ok σ) (hA : AX σ hi) (ha : inR a) (hb : inR b) : Ct M_BB_sounds 9 [.ref 0, .int (zI a), .int (zI b)] hi hl (pX σ (zI (r_sounds σ a b)) hi) := by
  have hn := ok.nums
  refine ct_intro (lv := [_, _, _]) (by decide +kernel) (Nat.le_of_ble_eq_true rfl) rfl ?_
  refine wp_aload_n d_BB_sounds_0 rfl ?_
  refine wp_getR d_BB_sounds_1 f_BB_19 (by decide) rfl rfl ?_
  refine wp_iload_n d_BB_sounds_4 rfl ?_
  refine wp_iload_n d_BB_sounds_5 rfl ?_
  refine wp_callV (ct_PI_hasBoth ok hA.2.1 ha hb) d_BB_sounds_6 k_BB_111 (by decide) rfl rfl rfl rfl (Nat.le_of_ble_eq_true rfl) (by omega) ?_
  rintro _ _ _ ⟨rfl, rfl, rfl⟩
  refine wz_if_neB (tgt := 14) d_BB_sounds_9 (by decide) (fun h9 => ?_) (fun h9 => ?_)
  · obtain ⟨p, rfl, hpp⟩ := toN h9.1
    obtain ⟨j, rfl, hj⟩ := toN h9.2
    refine wp_aload_n d_BB_sounds_14 rfl ?_
    refine wp_getR d_BB_sounds_15 f_BB_19 (by decide) rfl rfl ?_
    refine wp_iload_n d_BB_sounds_18 rfl ?_
    refine wp_iload_n d_BB_sounds_19 rfl ?_
    refine wp_callV (ct_PI_isSounding (p := p) (j := j) 0 ok hA.2.1 (by omega) hj) d_BB_sounds_20 k_BB_115 (by decide) rfl rfl rfl rfl (Nat.le_of_ble_eq_true rfl) (by omega) ?_
    rintro _ _ _ ⟨rfl, rfl, rfl⟩
    refine wz_if_eqB (tgt := 30) d_BB_sounds_23 (by decide) (fun h23 => ?_) (fun h23 => ?_)
    · refine wp_iconst (v := zI 0) d_BB_sounds_30 rfl ?_
      exact wp_iret d_BB_sounds_31 (Or.inl rfl) (pX_of hA (by rw [r_sounds, if_pos h9, nC, nC, if_neg h23]))
    · refine wp_iconst (v := zI 1) d_BB_sounds_26 rfl ?_
      refine wp_goto (tgt := 31) d_BB_sounds_27 (by decide) ?_
      exact wp_iret d_BB_sounds_31 (Or.inl rfl) (pX_of hA (by rw [r_sounds, if_pos h9, nC, nC, if_pos h23]))
  · refine wp_iconst (v := zI (-1)) d_BB_sounds_12 rfl ?_
    exact wp_iret d_BB_sounds_13 (Or.inl rfl) (pX_of hA (by rw [r_sounds, if_neg h9]))
theorem cx_person (ok : Ok σ) (hA : AX σ hi) (ha : inR a) (hb : inR b) : Ct M_BB_person 9 [.ref 0, .int (zI a), .int (zI b)] hi hl (pX σ (zI (r_person σ a b)) hi) := by
  have hn := ok.nums
  refine ct_intro (lv := [_, _, _]) (by decide +kernel) (Nat.le_of_ble_eq_true rfl) rfl ?_
  refine wp_aload_n d_BB_person_0 rfl ?_
  refine wp_getR d_BB_person_1 f_BB_26 (by decide) rfl rfl ?_
  refine wp_iload_n d_BB_person_4 rfl ?_
  refine wp_callV (ct_PE_has 0 ok hA.1 ha) d_BB_person_5 k_BB_118 (by decide) rfl rfl rfl rfl (Nat.le_of_ble_eq_true rfl) (by omega) ?_
  rintro _ _ _ ⟨rfl, rfl, rfl⟩
  refine wz_if_neB (tgt := 13) d_BB_person_8 (by decide) (fun h8 => ?_) (fun h8 => ?_)
  · obtain ⟨m, rfl, hm⟩ := toN h8
    have hmm := ok.m hm
    refine wp_iload_n d_BB_person_13 rfl ?_
    by_cases hin : 0 ≤ b ∧ b ≤ 4
    · obtain ⟨f, rfl, hf⟩ := toN (show 0 ≤ b ∧ b < (5 : Nat) by omega)
      have hx : (zI (f : Int)).toInt = f := zI_toInt hb
      have e : r_person σ (m : Int) (f : Int) = σ (3 + f) m := by rw [r_person, if_pos h8, if_pos (by omega), nC, nC]
      rw [e]
      rcases (show f = 0 ∨ f = 1 ∨ f = 2 ∨ f = 3 ∨ f = 4 by omega) with rfl | rfl | rfl | rfl | rfl
      · refine wp_switchIn (off := 34) (tgt := 48) d_BB_person_14 (by rw [hx]; decide) (by rw [hx]; decide) rfl (by decide) ?_
        refine wp_aload_n d_BB_person_48 rfl ?_
        refine wp_getR d_BB_person_49 f_BB_26 (by decide) rfl rfl ?_
        refine wp_getR d_BB_person_52 f_BB_119 (by decide) rfl rfl ?_
        refine wp_iload_n d_BB_person_55 rfl ?_
        refine wz_iald (hA.1.lu hm) (rfl) ((by omega)) d_BB_person_56 (by decide) rfl (by decide) ?_
        exact wp_iret d_BB_person_57 (Or.inl rfl) (pX_of hA rfl)
      · refine wp_switchIn (off := 44) (tgt := 58) d_BB_person_14 (by rw [hx]; decide) (by rw [hx]; decide) rfl (by decide) ?_
        refine wp_aload_n d_BB_person_58 rfl ?_
        refine wp_getR d_BB_person_59 f_BB_26 (by decide) rfl rfl ?_
        refine wp_getR d_BB_person_62 f_BB_122 (by decide) rfl rfl ?_
        refine wp_iload_n d_BB_person_65 rfl ?_
        refine wz_iald (hA.1.fo hm) (rfl) ((by omega)) d_BB_person_66 (by decide) rfl (by decide) ?_
        exact wp_iret d_BB_person_67 (Or.inl rfl) (pX_of hA rfl)
      · refine wp_switchIn (off := 54) (tgt := 68) d_BB_person_14 (by rw [hx]; decide) (by rw [hx]; decide) rfl (by decide) ?_
        refine wp_aload_n d_BB_person_68 rfl ?_
        refine wp_getR d_BB_person_69 f_BB_26 (by decide) rfl rfl ?_
        refine wp_getR d_BB_person_72 f_BB_125 (by decide) rfl rfl ?_
        refine wp_iload_n d_BB_person_75 rfl ?_
        refine wz_iald (hA.1.pl hm) (rfl) ((by omega)) d_BB_person_76 (by decide) rfl (by decide) ?_
        exact wp_iret d_BB_person_77 (Or.inl rfl) (pX_of hA rfl)
      · refine wp_switchIn (off := 64) (tgt := 78) d_BB_person_14 (by rw [hx]; decide) (by rw [hx]; decide) rfl (by decide) ?_
        refine wp_aload_n d_BB_person_78 rfl ?_
        refine wp_getR d_BB_person_79 f_BB_26 (by decide) rfl rfl ?_
        refine wp_getR d_BB_person_82 f_BB_128 (by decide) rfl rfl ?_
        refine wp_iload_n d_BB_person_85 rfl ?_
        refine wz_iald (hA.1.ph hm) (rfl) ((by omega)) d_BB_person_86 (by decide) rfl (by decide) ?_
        exact wp_iret d_BB_person_87 (Or.inl rfl) (pX_of hA rfl)
      · refine wp_switchIn (off := 74) (tgt := 88) d_BB_person_14 (by rw [hx]; decide) (by rw [hx]; decide) rfl (by decide) ?_
        refine wp_aload_n d_BB_person_88 rfl ?_
        refine wp_getR d_BB_person_89 f_BB_26 (by decide) rfl rfl ?_
        refine wp_getR d_BB_person_92 f_BB_131 (by decide) rfl rfl ?_
        refine wp_iload_n d_BB_person_95 rfl ?_
        refine wz_zald (hA.1.br hm) (rfl) ((by omega)) d_BB_person_96 (by decide) rfl (by decide) ?_
        refine wz_if_eq (tgt := 104) d_BB_person_97 (by decide) (by omega) (fun h97 => ?_) (fun h97 => ?_)
        · refine wp_iconst (v := zI 0) d_BB_person_104 rfl ?_
          exact wp_iret d_BB_person_105 (Or.inl rfl) (pX_of hA (by show _ = zI (br σ m); rw [h97]))
        · refine wp_iconst (v := zI 1) d_BB_person_100 rfl ?_
          refine wp_goto (tgt := 105) d_BB_person_101 (by decide) ?_
          exact wp_iret d_BB_person_105 (Or.inl rfl) (pX_of hA (by show _ = zI (br σ m); rw [show br σ m = 1 by omega]; rfl))
    · have hx : (zI b).toInt = b := zI_toInt hb
      refine wp_switchOut (tgt := 106) d_BB_person_14 (by rw [hx]; omega) (by decide) ?_
      refine wp_bipush (v := zI (-2)) d_BB_person_106 rfl ?_
      exact wp_iret d_BB_person_108 (Or.inl rfl) (pX_of hA (by rw [r_person, if_pos h8, if_neg hin]))
  · refine wp_iconst (v := zI (-1)) d_BB_person_11 rfl ?_
    exact wp_iret d_BB_person_12 (Or.inl rfl) (pX_of hA (by rw [r_person, if_neg h8]))
theorem cx_seat (ok : Ok σ) (hA : AX σ hi) (ha : inR a) (hb : inR b) : Ct M_BB_seat 9 [.ref 0, .int (zI a), .int (zI b)] hi hl (pX (sx_seat σ a b) (zI (r_seat σ a b)) hi) := by
  have hn := ok.nums
  refine ct_intro (lv := [_, _, _, _]) (by decide +kernel) (Nat.le_of_ble_eq_true rfl) rfl ?_
  refine wp_aload_n d_BB_seat_0 rfl ?_
  refine wp_getR d_BB_seat_1 f_BB_26 (by decide) rfl rfl ?_
  refine wp_iload_n d_BB_seat_4 rfl ?_
  refine wp_callV (ct_PE_has 0 ok hA.1 ha) d_BB_seat_5 k_BB_118 (by decide) rfl rfl rfl rfl (Nat.le_of_ble_eq_true rfl) (by omega) ?_
  rintro _ _ _ ⟨rfl, rfl, rfl⟩
  refine wz_if_eqB (tgt := 22) d_BB_seat_8 (by decide) (fun h8 => ?_) (fun h8 => ?_)
  · refine wp_iconst (v := zI (-1)) d_BB_seat_22 rfl ?_
    have e : ¬ (inM σ a ∧ inP σ b) := fun q => h8 q.1
    rw [r_seat, sx_seat, if_neg e, if_neg e]
    exact wp_iret d_BB_seat_23 (Or.inl rfl) (pX_of hA rfl)
  · refine wp_aload_n d_BB_seat_11 rfl ?_
    refine wp_getR d_BB_seat_12 f_BB_19 (by decide) rfl rfl ?_
    refine wp_iload_n d_BB_seat_15 rfl ?_
    refine wp_callV (ct_PI_has 0 ok hA.2.1 hb) d_BB_seat_16 k_BB_104 (by decide) rfl rfl rfl rfl (Nat.le_of_ble_eq_true rfl) (by omega) ?_
    rintro _ _ _ ⟨rfl, rfl, rfl⟩
    refine wz_if_neB (tgt := 24) d_BB_seat_19 (by decide) (fun h19 => ?_) (fun h19 => ?_)
    · obtain ⟨m, rfl, hm⟩ := toN h8
      obtain ⟨p, rfl, hpp⟩ := toN h19
      rw [r_seat, sx_seat, if_pos ⟨h8, h19⟩, if_pos ⟨h8, h19⟩, nC, nC]
      refine wp_aload_n d_BB_seat_24 rfl ?_
      refine wp_getR d_BB_seat_25 f_BB_26 (by decide) rfl rfl ?_
      refine wp_getR d_BB_seat_28 f_BB_125 (by decide) rfl rfl ?_
      refine wp_iload_n d_BB_seat_31 rfl ?_
      refine wz_iald (hA.1.pl hm) (rfl) ((by omega)) d_BB_seat_32 (by decide) rfl (by decide) ?_
      refine wp_istore_n (lv' := [_, _, _, _]) d_BB_seat_33 (by decide) rfl ?_
      refine wp_aload_n d_BB_seat_34 rfl ?_
      refine wp_getR d_BB_seat_35 f_BB_26 (by decide) rfl rfl ?_
      refine wp_getR d_BB_seat_38 f_BB_125 (by decide) rfl rfl ?_
      refine wp_iload_n d_BB_seat_41 rfl ?_
      refine wp_iload_n d_BB_seat_42 rfl ?_
      refine wz_iast (rfl) ((by omega)) d_BB_seat_43 (by decide) rfl (by decide) ?_
      refine wp_iload_n d_BB_seat_44 rfl ?_
      exact wp_iret d_BB_seat_45 (Or.inl rfl) (⟨rfl, AX_5 hA, fun c hc => setI_ne _ _ _ (by omega)⟩)
    · refine wp_iconst (v := zI (-1)) d_BB_seat_22 rfl ?_
      have e : ¬ (inM σ a ∧ inP σ b) := fun q => h19 q.2
      rw [r_seat, sx_seat, if_neg e, if_neg e]
      exact wp_iret d_BB_seat_23 (Or.inl rfl) (pX_of hA rfl)
theorem cx_phase (ok : Ok σ) (hA : AX σ hi) (ha : inR a) (hb : inR b) : Ct M_BB_phase 9 [.ref 0, .int (zI a), .int (zI b)] hi hl (pX (sx_phase σ a b) (zI (r_phase σ a b)) hi) := by
  have hn := ok.nums
  refine ct_intro (lv := [_, _, _, _]) (by decide +kernel) (Nat.le_of_ble_eq_true rfl) rfl ?_
  refine wp_aload_n d_BB_phase_0 rfl ?_
  refine wp_getR d_BB_phase_1 f_BB_26 (by decide) rfl rfl ?_
  refine wp_iload_n d_BB_phase_4 rfl ?_
  refine wp_callV (ct_PE_has 0 ok hA.1 ha) d_BB_phase_5 k_BB_118 (by decide) rfl rfl rfl rfl (Nat.le_of_ble_eq_true rfl) (by omega) ?_
  rintro _ _ _ ⟨rfl, rfl, rfl⟩
  refine wz_if_neB (tgt := 13) d_BB_phase_8 (by decide) (fun h8 => ?_) (fun h8 => ?_)
  · obtain ⟨m, rfl, hm⟩ := toN h8
    have hmm := ok.m hm
    rw [r_phase, if_pos h8, sx_phase, nC]
    refine wp_iload_n d_BB_phase_13 rfl ?_
    refine wz_if_lt (tgt := 30) d_BB_phase_14 (by decide) (by omega) (fun h14 => ?_) (fun h14 => ?_)
    · refine wp_bipush (v := zI (-2)) d_BB_phase_30 rfl ?_
      rw [if_neg (by omega), if_neg (by omega)]
      exact wp_iret d_BB_phase_32 (Or.inl rfl) (pX_of hA rfl)
    · refine wp_iload_n d_BB_phase_17 rfl ?_
      refine wp_aload_n d_BB_phase_18 rfl ?_
      refine wp_getR d_BB_phase_19 f_BB_26 (by decide) rfl rfl ?_
      refine wp_getR d_BB_phase_22 f_BB_119 (by decide) rfl rfl ?_
      refine wp_iload_n d_BB_phase_25 rfl ?_
      refine wz_iald (hA.1.lu hm) (rfl) ((by omega)) d_BB_phase_26 (by decide) rfl (by decide) ?_
      refine wz_icmp_le (tgt := 33) d_BB_phase_27 (by decide) (by omega) (by omega) (fun h27 => ?_) (fun h27 => ?_)
      · obtain ⟨s, rfl, hs⟩ := toN (show 0 ≤ b ∧ b < (lu σ m + 1 : Nat) by omega)
        rw [if_pos ⟨h8, h14, h27⟩, if_pos ⟨h14, h27⟩, nC]
        refine wp_aload_n d_BB_phase_33 rfl ?_
        refine wp_getR d_BB_phase_34 f_BB_26 (by decide) rfl rfl ?_
        refine wp_getR d_BB_phase_37 f_BB_128 (by decide) rfl rfl ?_
        refine wp_iload_n d_BB_phase_40 rfl ?_
        refine wz_iald (hA.1.ph hm) (rfl) ((by omega)) d_BB_phase_41 (by decide) rfl (by decide) ?_
        refine wp_istore_n (lv' := [_, _, _, _]) d_BB_phase_42 (by decide) rfl ?_
        refine wp_aload_n d_BB_phase_43 rfl ?_
        refine wp_getR d_BB_phase_44 f_BB_26 (by decide) rfl rfl ?_
        refine wp_getR d_BB_phase_47 f_BB_128 (by decide) rfl rfl ?_
        refine wp_iload_n d_BB_phase_50 rfl ?_
        refine wp_iload_n d_BB_phase_51 rfl ?_
        refine wz_iast (rfl) ((by omega)) d_BB_phase_52 (by decide) rfl (by decide) ?_
        refine wp_iload_n d_BB_phase_53 rfl ?_
        exact wp_iret d_BB_phase_54 (Or.inl rfl) (⟨rfl, AX_6 hA, fun c hc => setI_ne _ _ _ (by omega)⟩)
      · refine wp_bipush (v := zI (-2)) d_BB_phase_30 rfl ?_
        rw [if_neg (by omega), if_neg (by omega)]
        exact wp_iret d_BB_phase_32 (Or.inl rfl) (pX_of hA rfl)
  · refine wp_iconst (v := zI (-1)) d_BB_phase_11 rfl ?_
    rw [r_phase, if_neg h8, sx_phase, if_neg (fun q => h8 q.1)]
    exact wp_iret d_BB_phase_12 (Or.inl rfl) (pX_of hA rfl)
theorem cx_bribe {n : Nat} (ok : Ok σ) (hA : AX σ hi) (ha : inR a) (hb : n ≤ 1) : Ct M_BB_bribe 9 [.ref 0, .int (zI a), .int (zI n)] hi hl (pX (sx_bribe σ a n) (zI (r_bribe σ a n)) hi) := by
  have hn := ok.nums
  refine ct_intro (lv := [_, _, _, _]) (by decide +kernel) (Nat.le_of_ble_eq_true rfl) rfl ?_
  refine wp_aload_n d_BB_bribe_0 rfl ?_
  refine wp_getR d_BB_bribe_1 f_BB_26 (by decide) rfl rfl ?_
  refine wp_iload_n d_BB_bribe_4 rfl ?_
  refine wp_callV (ct_PE_has 0 ok hA.1 ha) d_BB_bribe_5 k_BB_118 (by decide) rfl rfl rfl rfl (Nat.le_of_ble_eq_true rfl) (by omega) ?_
  rintro _ _ _ ⟨rfl, rfl, rfl⟩
  refine wz_if_neB (tgt := 13) d_BB_bribe_8 (by decide) (fun h8 => ?_) (fun h8 => ?_)
  · obtain ⟨m, rfl, hm⟩ := toN h8
    have hmm := ok.m hm
    have h01 : zI (n : Int) = 0 ∨ zI (n : Int) = 1 := by
      rcases (show n = 0 ∨ n = 1 by omega) with rfl | rfl
      · exact Or.inl rfl
      · exact Or.inr rfl
    rw [r_bribe, if_pos h8, sx_bribe, if_pos h8, nC]
    refine wp_aload_n d_BB_bribe_13 rfl ?_
    refine wp_getR d_BB_bribe_14 f_BB_26 (by decide) rfl rfl ?_
    refine wp_getR d_BB_bribe_17 f_BB_131 (by decide) rfl rfl ?_
    refine wp_iload_n d_BB_bribe_20 rfl ?_
    refine wz_zald (hA.1.br hm) (rfl) ((by omega)) d_BB_bribe_21 (by decide) rfl (by decide) ?_
    refine wp_istore_n (lv' := [_, _, _, _]) d_BB_bribe_22 (by decide) rfl ?_
    refine wp_aload_n d_BB_bribe_23 rfl ?_
    refine wp_getR d_BB_bribe_24 f_BB_26 (by decide) rfl rfl ?_
    refine wp_getR d_BB_bribe_27 f_BB_131 (by decide) rfl rfl ?_
    refine wp_iload_n d_BB_bribe_30 rfl ?_
    refine wp_iload_n d_BB_bribe_31 rfl ?_
    refine wz_zast (rfl) ((by omega)) (h01) d_BB_bribe_32 (by decide) rfl (by decide) ?_
    refine wp_iload_n d_BB_bribe_33 rfl ?_
    refine wp_iload_n d_BB_bribe_34 rfl ?_
    refine wz_icmp_ne (tgt := 42) d_BB_bribe_35 (by decide) (by omega) (by omega) (fun h35 => ?_) (fun h35 => ?_)
    · refine wp_iconst (v := zI 1) d_BB_bribe_42 rfl ?_
      rw [if_neg (by omega)]
      exact wp_iret d_BB_bribe_43 (Or.inl rfl) (⟨rfl, AX_7 hA, fun c hc => setI_ne _ _ _ (by omega)⟩)
    · refine wp_iconst (v := zI 0) d_BB_bribe_38 rfl ?_
      refine wp_goto (tgt := 43) d_BB_bribe_39 (by decide) ?_
      rw [if_pos (by omega)]
      exact wp_iret d_BB_bribe_43 (Or.inl rfl) (⟨rfl, AX_7 hA, fun c hc => setI_ne _ _ _ (by omega)⟩)
  · refine wp_iconst (v := zI (-1)) d_BB_bribe_11 rfl ?_
    rw [r_bribe, if_neg h8, sx_bribe, if_neg h8]
    exact wp_iret d_BB_bribe_12 (Or.inl rfl) (pX_of hA rfl)
theorem cx_grow (ok : Ok σ) (hA : AX σ hi) (ha : inR a) : Ct M_BB_grow 9 [.ref 0, .int (zI a)] hi hl (pX (sx_grow σ a) (zI (r_grow σ a)) hi) := by
  have hn := ok.nums
  refine ct_intro (lv := [_, _]) (by decide +kernel) (Nat.le_of_ble_eq_true rfl) rfl ?_
  refine wp_aload_n d_BB_grow_0 rfl ?_
  refine wp_getR d_BB_grow_1 f_BB_26 (by decide) rfl rfl ?_
  refine wp_iload_n d_BB_grow_4 rfl ?_
  refine wp_callV (ct_PE_has 0 ok hA.1 ha) d_BB_grow_5 k_BB_118 (by decide) rfl rfl rfl rfl (Nat.le_of_ble_eq_true rfl) (by omega) ?_
  rintro _ _ _ ⟨rfl, rfl, rfl⟩
  refine wz_if_neB (tgt := 13) d_BB_grow_8 (by decide) (fun h8 => ?_) (fun h8 => ?_)
  · obtain ⟨m, rfl, hm⟩ := toN h8
    have hmm := ok.m hm
    rw [r_grow, if_pos h8, sx_grow, nC]
    refine wp_aload_n d_BB_grow_13 rfl ?_
    refine wp_getR d_BB_grow_14 f_BB_26 (by decide) rfl rfl ?_
    refine wp_getR d_BB_grow_17 f_BB_119 (by decide) rfl rfl ?_
    refine wp_iload_n d_BB_grow_20 rfl ?_
    refine wz_iald (hA.1.lu hm) (rfl) ((by omega)) d_BB_grow_21 (by decide) rfl (by decide) ?_
    refine wp_bipush (v := zI 9) d_BB_grow_22 rfl ?_
    refine wz_icmp_lt (tgt := 30) d_BB_grow_24 (by decide) (by omega) (by omega) (fun h24 => ?_) (fun h24 => ?_)
    · rw [if_pos ⟨h8, by omega⟩, if_neg (by omega)]
      refine wp_aload_n d_BB_grow_30 rfl ?_
      refine wp_getR d_BB_grow_31 f_BB_26 (by decide) rfl rfl ?_
      refine wp_getR d_BB_grow_34 f_BB_119 (by decide) rfl rfl ?_
      refine wp_iload_n d_BB_grow_37 rfl ?_
      refine wp_dup2 d_BB_grow_38 rfl rfl ?_
      refine wz_iald (hA.1.lu hm) (rfl) ((by omega)) d_BB_grow_39 (by decide) rfl (by decide) ?_
      refine wp_iconst (v := zI 1) d_BB_grow_40 rfl ?_
      refine wz_iadd d_BB_grow_41 ?_
      refine wz_iast (rfl) ((by omega)) d_BB_grow_42 (by decide) rfl (by decide) ?_
      refine wp_aload_n d_BB_grow_43 rfl ?_
      refine wp_getR d_BB_grow_44 f_BB_26 (by decide) rfl rfl ?_
      refine wp_getR d_BB_grow_47 f_BB_119 (by decide) rfl rfl ?_
      refine wp_iload_n d_BB_grow_50 rfl ?_
      refine wz_iald ((setI_at _ _ _ _)) (rfl) ((by omega)) d_BB_grow_51 (by decide) rfl (by decide) ?_
      exact wp_iret d_BB_grow_52 (Or.inl rfl) (⟨rfl, AX_3 (v := lu σ m + 1) hA, fun c hc => setI_ne _ _ _ (by omega)⟩)
    · refine wp_bipush (v := zI (-3)) d_BB_grow_27 rfl ?_
      rw [if_neg (by omega), if_pos (by omega)]
      exact wp_iret d_BB_grow_29 (Or.inl rfl) (pX_of hA rfl)
  · refine wp_iconst (v := zI (-1)) d_BB_grow_11 rfl ?_
    rw [r_grow, if_neg h8, sx_grow, if_neg (fun q => h8 q.1)]
    exact wp_iret d_BB_grow_12 (Or.inl rfl) (pX_of hA rfl)
theorem cx_store (ok : Ok σ) (hA : AX σ hi) (ha : inR a) : Ct M_BB_store 9 [.ref 0, .int (zI a)] hi hl (pX (sx_store σ a) (zI (r_store σ a)) hi) := by
  have hn := ok.nums
  refine ct_intro (lv := [_, _, _]) (by decide +kernel) (Nat.le_of_ble_eq_true rfl) rfl ?_
  refine wp_iload_n d_BB_store_0 rfl ?_
  refine wz_if_lt (tgt := 10) d_BB_store_1 (by decide) (by omega) (fun h1 => ?_) (fun h1 => ?_)
  · refine wp_bipush (v := zI (-2)) d_BB_store_10 rfl ?_
    rw [r_store, sx_store, if_neg (by omega), if_neg (by omega)]
    exact wp_iret d_BB_store_12 (Or.inl rfl) (pX_of hA rfl)
  · refine wp_iload_n d_BB_store_4 rfl ?_
    refine wp_bipush (v := zI 9) d_BB_store_5 rfl ?_
    refine wz_icmp_le (tgt := 13) d_BB_store_7 (by decide) (by omega) (by omega) (fun h7 => ?_) (fun h7 => ?_)
    · obtain ⟨v, rfl, hv⟩ := toN (show 0 ≤ a ∧ a < (10 : Nat) by omega)
      rw [r_store, sx_store, if_pos ⟨h1, h7⟩, if_pos ⟨h1, h7⟩, nC]
      refine wp_aload_n d_BB_store_13 rfl ?_
      refine wp_getR d_BB_store_14 f_BB_26 (by decide) rfl rfl ?_
      refine wz_getI (hA.1.room) d_BB_store_17 f_BB_134 (by decide) rfl rfl ?_
      refine wp_istore_n (lv' := [_, _, _]) d_BB_store_20 (by decide) rfl ?_
      refine wp_aload_n d_BB_store_21 rfl ?_
      refine wp_getR d_BB_store_22 f_BB_26 (by decide) rfl rfl ?_
      refine wp_iload_n d_BB_store_25 rfl ?_
      refine wp_putI d_BB_store_26 f_BB_134 pk_PE_2 (by decide) rfl rfl ?_
      refine wp_iload_n d_BB_store_29 rfl ?_
      exact wp_iret d_BB_store_30 (Or.inl rfl) (⟨rfl, AX_04 hA, fun c hc => setI_ne _ _ _ (by omega)⟩)
    · refine wp_bipush (v := zI (-2)) d_BB_store_10 rfl ?_
      rw [r_store, sx_store, if_neg (by omega), if_neg (by omega)]
      exact wp_iret d_BB_store_12 (Or.inl rfl) (pX_of hA rfl)
theorem cx_late (ok : Ok σ) (hA : AX σ hi) (ha : inR a) : Ct M_BB_late 9 [.ref 0, .int (zI a)] hi hl (pX (sx_late σ a) (zI (r_late σ a)) hi) := by
  have hn := ok.nums
  refine ct_intro (lv := [_, _, _]) (by decide +kernel) (Nat.le_of_ble_eq_true rfl) rfl ?_
  refine wp_iload_n d_BB_late_0 rfl ?_
  refine wz_if_lt (tgt := 10) d_BB_late_1 (by decide) (by omega) (fun h1 => ?_) (fun h1 => ?_)
  · refine wp_bipush (v := zI (-2)) d_BB_late_10 rfl ?_
    rw [r_late, sx_late, if_neg (by omega), if_neg (by omega)]
    exact wp_iret d_BB_late_12 (Or.inl rfl) (pX_of hA rfl)
  · refine wp_iload_n d_BB_late_4 rfl ?_
    refine wp_bipush (v := zI 99) d_BB_late_5 rfl ?_
    refine wz_icmp_le (tgt := 13) d_BB_late_7 (by decide) (by omega) (by omega) (fun h7 => ?_) (fun h7 => ?_)
    · obtain ⟨v, rfl, hv⟩ := toN (show 0 ≤ a ∧ a < (100 : Nat) by omega)
      rw [r_late, sx_late, if_pos ⟨h1, h7⟩, if_pos ⟨h1, h7⟩, nC]
      refine wp_aload_n d_BB_late_13 rfl ?_
      refine wp_getR d_BB_late_14 f_BB_26 (by decide) rfl rfl ?_
      refine wz_getI (hA.1.late) d_BB_late_17 f_BB_137 (by decide) rfl rfl ?_
      refine wp_istore_n (lv' := [_, _, _]) d_BB_late_20 (by decide) rfl ?_
      refine wp_aload_n d_BB_late_21 rfl ?_
      refine wp_getR d_BB_late_22 f_BB_26 (by decide) rfl rfl ?_
      refine wp_iload_n d_BB_late_25 rfl ?_
      refine wp_putI d_BB_late_26 f_BB_137 pk_PE_1 (by decide) rfl rfl ?_
      refine wp_iload_n d_BB_late_29 rfl ?_
      exact wp_iret d_BB_late_30 (Or.inl rfl) (⟨rfl, AX_03 hA, fun c hc => setI_ne _ _ _ (by omega)⟩)
    · refine wp_bipush (v := zI (-2)) d_BB_late_10 rfl ?_
      rw [r_late, sx_late, if_neg (by omega), if_neg (by omega)]
      exact wp_iret d_BB_late_12 (Or.inl rfl) (pX_of hA rfl)
theorem cx_gives (ok : Ok σ) (hA : AX σ hi) (ha : inR a) (hb : inR b) : Ct M_BB_gives 9 [.ref 0, .int (zI a), .int (zI b)] hi hl (pX σ (zI (r_gives σ a b)) hi) := by
  have hn := ok.nums
  refine ct_intro (lv := [_, _, _]) (by decide +kernel) (Nat.le_of_ble_eq_true rfl) rfl ?_
  refine wp_aload_n d_BB_gives_0 rfl ?_
  refine wp_getR d_BB_gives_1 f_BB_26 (by decide) rfl rfl ?_
  refine wp_iload_n d_BB_gives_4 rfl ?_
  refine wp_callV (ct_PE_has 0 ok hA.1 ha) d_BB_gives_5 k_BB_118 (by decide) rfl rfl rfl rfl (Nat.le_of_ble_eq_true rfl) (by omega) ?_
  rintro _ _ _ ⟨rfl, rfl, rfl⟩
  refine wz_if_eqB (tgt := 22) d_BB_gives_8 (by decide) (fun h8 => ?_) (fun h8 => ?_)
  · refine wp_iconst (v := zI (-1)) d_BB_gives_22 rfl ?_
    exact wp_iret d_BB_gives_23 (Or.inl rfl) (pX_of hA (by rw [r_gives, if_neg (fun q => h8 q.1)]))
  · refine wp_aload_n d_BB_gives_11 rfl ?_
    refine wp_getR d_BB_gives_12 f_BB_19 (by decide) rfl rfl ?_
    refine wp_iload_n d_BB_gives_15 rfl ?_
    refine wp_callV (ct_PI_hasBeat 0 ok hA.2.1 hb) d_BB_gives_16 k_BB_140 (by decide) rfl rfl rfl rfl (Nat.le_of_ble_eq_true rfl) (by omega) ?_
    rintro _ _ _ ⟨rfl, rfl, rfl⟩
    refine wz_if_neB (tgt := 24) d_BB_gives_19 (by decide) (fun h19 => ?_) (fun h19 => ?_)
    · obtain ⟨m, rfl, hm⟩ := toN h8
      obtain ⟨j, rfl, hj⟩ := toN h19
      refine wp_aload_n d_BB_gives_24 rfl ?_
      refine wp_getR d_BB_gives_25 f_BB_26 (by decide) rfl rfl ?_
      refine wp_iload_n d_BB_gives_28 rfl ?_
      refine wp_iload_n d_BB_gives_29 rfl ?_
      refine wp_aload_n d_BB_gives_30 rfl ?_
      refine wp_getR d_BB_gives_31 f_BB_26 (by decide) rfl rfl ?_
      refine wz_getI (hA.1.late) d_BB_gives_34 f_BB_137 (by decide) rfl rfl ?_
      refine wz_iadd d_BB_gives_37 ?_
      refine wp_callV (ct_PE_givenAt (m := m) (t := j + lt σ) 0 ok hA.1 hm (by omega)) d_BB_gives_38 k_BB_143 (by decide) rfl rfl rfl rfl (Nat.le_of_ble_eq_true rfl) (by omega) ?_
      rintro _ _ _ ⟨rfl, rfl, rfl⟩
      exact wp_iret d_BB_gives_41 (Or.inl rfl) (pX_of hA (by rw [r_gives, if_pos ⟨h8, h19⟩, nC, nC]))
    · refine wp_iconst (v := zI (-1)) d_BB_gives_22 rfl ?_
      exact wp_iret d_BB_gives_23 (Or.inl rfl) (pX_of hA (by rw [r_gives, if_neg (fun q => h19 q.2)]))
theorem cx_air (ok : Ok σ) (hA : AX σ hi) (ha : inR a) (hb : inR b) : Ct M_BB_air 9 [.ref 0, .int (zI a), .int (zI b)] hi hl (pX σ (zI (r_air σ a b)) hi) := by
  have hn := ok.nums
  refine ct_intro (lv := [_, _, _]) (by decide +kernel) (Nat.le_of_ble_eq_true rfl) rfl ?_
  refine wp_aload_n d_BB_air_0 rfl ?_
  refine wp_getR d_BB_air_1 f_BB_19 (by decide) rfl rfl ?_
  refine wp_iload_n d_BB_air_4 rfl ?_
  refine wp_iload_n d_BB_air_5 rfl ?_
  refine wp_callV (ct_PI_hasBoth ok hA.2.1 ha hb) d_BB_air_6 k_BB_111 (by decide) rfl rfl rfl rfl (Nat.le_of_ble_eq_true rfl) (by omega) ?_
  rintro _ _ _ ⟨rfl, rfl, rfl⟩
  refine wz_if_neB (tgt := 14) d_BB_air_9 (by decide) (fun h9 => ?_) (fun h9 => ?_)
  · obtain ⟨p, rfl, hpp⟩ := toN h9.1
    obtain ⟨j, rfl, hj⟩ := toN h9.2
    refine wp_aload_n d_BB_air_14 rfl ?_
    refine wp_getR d_BB_air_15 f_BB_35 (by decide) rfl rfl ?_
    refine wp_aload_n d_BB_air_18 rfl ?_
    refine wp_getR d_BB_air_19 f_BB_26 (by decide) rfl rfl ?_
    refine wp_iload_n d_BB_air_22 rfl ?_
    refine wp_callV (ct_PE_sittingAt (p := p) 0 ok hA.1 (by omega)) d_BB_air_23 k_BB_147 (by decide) rfl rfl rfl rfl (Nat.le_of_ble_eq_true rfl) (by omega) ?_
    rintro _ _ _ ⟨rfl, rfl, rfl⟩
    refine wp_aload_n d_BB_air_26 rfl ?_
    refine wp_getR d_BB_air_27 f_BB_26 (by decide) rfl rfl ?_
    refine wz_getI (hA.1.late) d_BB_air_30 f_BB_137 (by decide) rfl rfl ?_
    refine wp_callV (ct_MA_gather (set := sit σ p) (k := lt σ) ok hA.1 hA.2.1 (sit_lt ok p) (by omega)) d_BB_air_33 k_BB_151 (by decide) rfl rfl rfl rfl (Nat.le_of_ble_eq_true rfl) (by omega) ?_
    rintro _ h _ ⟨rfl, rfl, he, hw⟩
    refine wp_aload_n d_BB_air_36 rfl ?_
    refine wp_getR d_BB_air_37 f_BB_35 (by decide) rfl rfl ?_
    refine wp_getR d_BB_air_40 f_BB_155 (by decide) rfl rfl ?_
    refine wp_iload_n d_BB_air_43 rfl ?_
    refine wz_iald (hw j hj) (rfl) ((by omega)) d_BB_air_44 (by decide) rfl (by decide) ?_
    exact wp_iret d_BB_air_45 (Or.inl rfl) (⟨by rw [r_air, if_pos h9, nC, nC], hA.keepS (fun c h1 _ _ => he c h1), fun c hc => he c (by omega)⟩)
  · refine wp_iconst (v := zI (-1)) d_BB_air_12 rfl ?_
    exact wp_iret d_BB_air_13 (Or.inl rfl) (pX_of hA (by rw [r_air, if_neg h9]))
theorem cx_stored (ok : Ok σ) (hA : AX σ hi) (ha : inR a) (hb : inR b) : Ct M_BB_stored 9 [.ref 0, .int (zI a), .int (zI b)] hi hl (pX σ (zI (r_stored σ a b)) hi) := by
  have hn := ok.nums
  refine ct_intro (lv := [_, _, _]) (by decide +kernel) (Nat.le_of_ble_eq_true rfl) rfl ?_
  refine wp_aload_n d_BB_stored_0 rfl ?_
  refine wp_getR d_BB_stored_1 f_BB_19 (by decide) rfl rfl ?_
  refine wp_iload_n d_BB_stored_4 rfl ?_
  refine wp_iload_n d_BB_stored_5 rfl ?_
  refine wp_callV (ct_PI_hasBoth ok hA.2.1 ha hb) d_BB_stored_6 k_BB_111 (by decide) rfl rfl rfl rfl (Nat.le_of_ble_eq_true rfl) (by omega) ?_
  rintro _ _ _ ⟨rfl, rfl, rfl⟩
  refine wz_if_neB (tgt := 14) d_BB_stored_9 (by decide) (fun h9 => ?_) (fun h9 => ?_)
  · obtain ⟨p, rfl, hpp⟩ := toN h9.1
    obtain ⟨j, rfl, hj⟩ := toN h9.2
    refine wp_aload_n d_BB_stored_14 rfl ?_
    refine wp_getR d_BB_stored_15 f_BB_35 (by decide) rfl rfl ?_
    refine wp_iload_n d_BB_stored_18 rfl ?_
    refine wp_aload_n d_BB_stored_19 rfl ?_
    refine wp_getR d_BB_stored_20 f_BB_26 (by decide) rfl rfl ?_
    refine wz_getI (hA.1.late) d_BB_stored_23 f_BB_137 (by decide) rfl rfl ?_
    refine wp_callV (ct_MA_play (p := p) (k := lt σ) ok hA.1 hA.2.1 hpp (by omega)) d_BB_stored_26 k_BB_158 (by decide) rfl rfl rfl rfl (Nat.le_of_ble_eq_true rfl) (by omega) ?_
    rintro _ h _ ⟨rfl, rfl, he, h26, h27⟩
    refine wp_pop d_BB_stored_29 rfl ?_
    refine wp_aload_n d_BB_stored_30 rfl ?_
    refine wp_getR d_BB_stored_31 f_BB_35 (by decide) rfl rfl ?_
    refine wp_getR d_BB_stored_34 f_BB_161 (by decide) rfl rfl ?_
    refine wp_iload_n d_BB_stored_37 rfl ?_
    refine wz_iald (h26 j hj) (rfl) ((by omega)) d_BB_stored_38 (by decide) rfl (by decide) ?_
    exact wp_iret d_BB_stored_39 (Or.inl rfl) (⟨by rw [r_stored, if_pos h9, nC, nC], hA.keepS he, fun c hc => he c (by omega) (by omega) (by omega)⟩)
  · refine wp_iconst (v := zI (-1)) d_BB_stored_12 rfl ?_
    exact wp_iret d_BB_stored_13 (Or.inl rfl) (pX_of hA (by rw [r_stored, if_neg h9]))
theorem cx_sags (ok : Ok σ) (hA : AX σ hi) (ha : inR a) (hb : inR b) : Ct M_BB_sags 9 [.ref 0, .int (zI a), .int (zI b)] hi hl (pX σ (zI (r_sags σ a b)) hi) := by
  have hn := ok.nums
  refine ct_intro (lv := [_, _, _]) (by decide +kernel) (Nat.le_of_ble_eq_true rfl) rfl ?_
  refine wp_aload_n d_BB_sags_0 rfl ?_
  refine wp_getR d_BB_sags_1 f_BB_19 (by decide) rfl rfl ?_
  refine wp_iload_n d_BB_sags_4 rfl ?_
  refine wp_iload_n d_BB_sags_5 rfl ?_
  refine wp_callV (ct_PI_hasBoth ok hA.2.1 ha hb) d_BB_sags_6 k_BB_111 (by decide) rfl rfl rfl rfl (Nat.le_of_ble_eq_true rfl) (by omega) ?_
  rintro _ _ _ ⟨rfl, rfl, rfl⟩
  refine wz_if_neB (tgt := 14) d_BB_sags_9 (by decide) (fun h9 => ?_) (fun h9 => ?_)
  · obtain ⟨p, rfl, hpp⟩ := toN h9.1
    obtain ⟨j, rfl, hj⟩ := toN h9.2
    refine wp_aload_n d_BB_sags_14 rfl ?_
    refine wp_getR d_BB_sags_15 f_BB_35 (by decide) rfl rfl ?_
    refine wp_iload_n d_BB_sags_18 rfl ?_
    refine wp_aload_n d_BB_sags_19 rfl ?_
    refine wp_getR d_BB_sags_20 f_BB_26 (by decide) rfl rfl ?_
    refine wz_getI (hA.1.late) d_BB_sags_23 f_BB_137 (by decide) rfl rfl ?_
    refine wp_callV (ct_MA_play (p := p) (k := lt σ) ok hA.1 hA.2.1 hpp (by omega)) d_BB_sags_26 k_BB_158 (by decide) rfl rfl rfl rfl (Nat.le_of_ble_eq_true rfl) (by omega) ?_
    rintro _ h _ ⟨rfl, rfl, he, h26, h27⟩
    refine wp_pop d_BB_sags_29 rfl ?_
    refine wp_aload_n d_BB_sags_30 rfl ?_
    refine wp_getR d_BB_sags_31 f_BB_35 (by decide) rfl rfl ?_
    refine wp_getR d_BB_sags_34 f_BB_164 (by decide) rfl rfl ?_
    refine wp_iload_n d_BB_sags_37 rfl ?_
    refine wz_iald (h27 j hj) (rfl) ((by omega)) d_BB_sags_38 (by decide) rfl (by decide) ?_
    exact wp_iret d_BB_sags_39 (Or.inl rfl) (⟨by rw [r_sags, if_pos h9, nC, nC], hA.keepS he, fun c hc => he c (by omega) (by omega) (by omega)⟩)
  · refine wp_iconst (v := zI (-1)) d_BB_sags_12 rfl ?_
    exact wp_iret d_BB_sags_13 (Or.inl rfl) (pX_of hA (by rw [r_sags, if_neg h9]))
theorem cx_total (ok : Ok σ) (hA : AX σ hi) : Ct M_BB_total 9 [.ref 0] hi hl (pX σ (zI (tot σ (lt σ))) hi) := by
  have hn := ok.nums
  refine ct_intro (lv := [_]) (by decide +kernel) (Nat.le_of_ble_eq_true rfl) rfl ?_
  refine wp_aload_n d_BB_total_0 rfl ?_
  refine wp_getR d_BB_total_1 f_BB_35 (by decide) rfl rfl ?_
  refine wp_aload_n d_BB_total_4 rfl ?_
  refine wp_getR d_BB_total_5 f_BB_26 (by decide) rfl rfl ?_
  refine wz_getI (hA.1.late) d_BB_total_8 f_BB_137 (by decide) rfl rfl ?_
  refine wp_callV (ct_MA_playAll (k := lt σ) ok hA.1 hA.2.1 (by omega)) d_BB_total_11 k_BB_167 (by decide) rfl rfl rfl rfl (Nat.le_of_ble_eq_true rfl) (by omega) ?_
  rintro _ h _ ⟨rfl, rfl, he⟩
  exact wp_iret d_BB_total_14 (Or.inl rfl) (⟨rfl, hA.keepS he, fun c hc => he c (by omega) (by omega) (by omega)⟩)
theorem cx_count (ok : Ok σ) (hA : AX σ hi) (ha : inR a) : Ct M_BB_count 9 [.ref 0, .int (zI a)] hi hl (pX σ (zI (r_count σ a)) hi) := by
  have hn := ok.nums
  refine ct_intro (lv := [_, _]) (by decide +kernel) (Nat.le_of_ble_eq_true rfl) rfl ?_
  refine wp_iload_n d_BB_count_0 rfl ?_
  by_cases hin : 0 ≤ a ∧ a ≤ 6
  · obtain ⟨f, rfl, hf⟩ := toN (show 0 ≤ a ∧ a < (7 : Nat) by omega)
    have hx : (zI (f : Int)).toInt = f := zI_toInt ha
    rcases (show f = 0 ∨ f = 1 ∨ f = 2 ∨ f = 3 ∨ f = 4 ∨ f = 5 ∨ f = 6 by omega) with rfl | rfl | rfl | rfl | rfl | rfl | rfl
    · refine wp_switchIn (off := 43) (tgt := 44) d_BB_count_1 (by rw [hx]; decide) (by rw [hx]; decide) rfl (by decide) ?_
      refine wp_aload_n d_BB_count_44 rfl ?_
      refine wp_getR d_BB_count_45 f_BB_10 (by decide) rfl rfl ?_
      refine wz_getI (hA.2.2.1.1) d_BB_count_48 f_BB_226 (by decide) rfl rfl ?_
      exact wp_iret d_BB_count_51 (Or.inl rfl) (pX_of hA rfl)
    · refine wp_switchIn (off := 51) (tgt := 52) d_BB_count_1 (by rw [hx]; decide) (by rw [hx]; decide) rfl (by decide) ?_
      refine wp_aload_n d_BB_count_52 rfl ?_
      refine wp_getR d_BB_count_53 f_BB_19 (by decide) rfl rfl ?_
      refine wz_getI (hA.2.1.np) d_BB_count_56 f_BB_99 (by decide) rfl rfl ?_
      exact wp_iret d_BB_count_59 (Or.inl rfl) (pX_of hA rfl)
    · refine wp_switchIn (off := 59) (tgt := 60) d_BB_count_1 (by rw [hx]; decide) (by rw [hx]; decide) rfl (by decide) ?_
      refine wp_aload_n d_BB_count_60 rfl ?_
      refine wp_getR d_BB_count_61 f_BB_26 (by decide) rfl rfl ?_
      refine wz_getI (hA.1.n) d_BB_count_64 f_BB_103 (by decide) rfl rfl ?_
      exact wp_iret d_BB_count_67 (Or.inl rfl) (pX_of hA rfl)
    · refine wp_switchIn (off := 67) (tgt := 68) d_BB_count_1 (by rw [hx]; decide) (by rw [hx]; decide) rfl (by decide) ?_
      refine wp_aload_n d_BB_count_68 rfl ?_
      refine wp_getR d_BB_count_69 f_BB_19 (by decide) rfl rfl ?_
      refine wz_getI (hA.2.1.nb) d_BB_count_72 f_BB_195 (by decide) rfl rfl ?_
      exact wp_iret d_BB_count_75 (Or.inl rfl) (pX_of hA rfl)
    · refine wp_switchIn (off := 75) (tgt := 76) d_BB_count_1 (by rw [hx]; decide) (by rw [hx]; decide) rfl (by decide) ?_
      refine wp_aload_n d_BB_count_76 rfl ?_
      refine wp_getR d_BB_count_77 f_BB_26 (by decide) rfl rfl ?_
      refine wp_callV (ct_PE_bribedOnes 0 ok hA.1) d_BB_count_80 k_BB_229 (by decide) rfl rfl rfl rfl (Nat.le_of_ble_eq_true rfl) (by omega) ?_
      rintro _ _ _ ⟨rfl, rfl, rfl⟩
      exact wp_iret d_BB_count_83 (Or.inl rfl) (pX_of hA rfl)
    · refine wp_switchIn (off := 83) (tgt := 84) d_BB_count_1 (by rw [hx]; decide) (by rw [hx]; decide) rfl (by decide) ?_
      refine wp_aload_n d_BB_count_84 rfl ?_
      refine wp_getR d_BB_count_85 f_BB_26 (by decide) rfl rfl ?_
      refine wz_getI (hA.1.late) d_BB_count_88 f_BB_137 (by decide) rfl rfl ?_
      exact wp_iret d_BB_count_91 (Or.inl rfl) (pX_of hA rfl)
    · refine wp_switchIn (off := 91) (tgt := 92) d_BB_count_1 (by rw [hx]; decide) (by rw [hx]; decide) rfl (by decide) ?_
      refine wp_aload_n d_BB_count_92 rfl ?_
      refine wp_getR d_BB_count_93 f_BB_26 (by decide) rfl rfl ?_
      refine wz_getI (hA.1.room) d_BB_count_96 f_BB_134 (by decide) rfl rfl ?_
      exact wp_iret d_BB_count_99 (Or.inl rfl) (pX_of hA rfl)
  · have hx : (zI a).toInt = a := zI_toInt ha
    refine wp_switchOut (tgt := 100) d_BB_count_1 (by rw [hx]; omega) (by decide) ?_
    refine wp_bipush (v := zI (-2)) d_BB_count_100 rfl ?_
    exact wp_iret d_BB_count_102 (Or.inl rfl) (pX_of hA (by rw [r_count, if_neg (by omega), if_neg (by omega), if_neg (by omega), if_neg (by omega), if_neg (by omega), if_neg (by omega), if_neg (by omega)]))
end CLASSA
