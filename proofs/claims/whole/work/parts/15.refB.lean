/-! The reference's calls: a mass, first, worst, best late, needed, never -/
section REFB
variable {σ : SG} {hi : HI} {hl : HL} {a b : Int}
theorem ct_MO_blow {p set : Nat} (ok : Ok σ) (hA : AM σ hi) (hpp : p < nP σ) (hs : set < 2 ^ 12) : Ct M_MO_blow 2 [.ref 41, .int (zI p), .int (zI set)] hi hl (fun r hi' hl' => r = some (.int (zI (sag σ p set (lt σ)))) ∧ hl = hl' ∧ (∀ c, c ≠ 49 → c ≠ 50 → hi' c = hi c) ∧ (∀ j, j < nB σ → hi' 49 j = zI (msA (rm σ) (dnS σ p) (wnd σ set (lt σ)) j)) ∧ (∀ j, j < nB σ → hi' 50 j = zI (stA (rm σ) (dnS σ p) (wnd σ set (lt σ)) (j + 1)))) := by
  have hn := ok.nums
  have hr0 : (0 : Int) ≤ (rm σ : Int) := by omega
  generalize hP0 : (fun (r : Option Value) (hi' : HI) (hl' : HL) => r = some (.int (zI (sag σ p set (lt σ)))) ∧ hl = hl' ∧ (∀ c, c ≠ 49 → c ≠ 50 → hi' c = hi c) ∧ (∀ j, j < nB σ → hi' 49 j = zI (msA (rm σ) (dnS σ p) (wnd σ set (lt σ)) j)) ∧ (∀ j, j < nB σ → hi' 50 j = zI (stA (rm σ) (dnS σ p) (wnd σ set (lt σ)) (j + 1)))) = Post
  have loop : ∀ k i, i + k = nB σ → ∀ h : HI, (∀ c, c ≠ 49 → c ≠ 50 → h c = hi c) → (∀ j, j < i → h 49 j = zI (msA (rm σ) (dnS σ p) (wnd σ set (lt σ)) j)) → (∀ j, j < i → h 50 j = zI (stA (rm σ) (dnS σ p) (wnd σ set (lt σ)) (j + 1))) →
      Wp M_MO_blow 2 Post 8 [some (.ref 41), some (.int (zI p)), some (.int (zI set)), some (.int (zI (smA (rm σ) (dnS σ p) (wnd σ set (lt σ)) i))), some (.int (zI (stA (rm σ) (dnS σ p) (wnd σ set (lt σ)) i))), some (.int (zI i)), none, none, none] [] h hl := by
    intro k
    induction k with
    | zero =>
      intro i hik h he h49 h50
      have hA' : AM σ h := hA.keepS he
      refine wp_iload d_MO_blow_8 rfl ?_
      refine wp_aload_n d_MO_blow_10 rfl ?_
      refine wz_getI (hA'.nb) d_MO_blow_11 f_MO_126 (by decide) rfl rfl ?_
      refine wz_icmp_ge (tgt := 145) d_MO_blow_14 (by decide) (by omega) (by omega) (fun h14 => ?_) (fun h14 => ?_)
      · refine wp_iload_n d_MO_blow_145 rfl ?_
        subst hP0
        exact wp_iret d_MO_blow_146 (Or.inl rfl) (⟨by rw [sag, ← hik]; rfl, rfl, he, fun j hj => h49 j (by omega), fun j hj => h50 j (by omega)⟩)
      · exact absurd h14 (by omega)
    | succ k ih =>
      intro i hik h he h49 h50
      have hA' : AM σ h := hA.keepS he
      have b1 := stA_b hr0 (dnS σ p) (wnd σ set (lt σ)) i
      have b2 := wnd_b ok set (lt σ) i
      have b3 := dnS_b ok hpp i
      have b4 := smA_b hr0 (dn := dnS σ p) (w := wnd σ set (lt σ)) i (fun j hj => ⟨dnS_b ok hpp j, by have := wnd_b ok set (lt σ) j; omega⟩)
      have b5 := ok.dr hpp
      have b6 := msA_b hr0 b3 (show -2000 ≤ wnd σ set (lt σ) i ∧ wnd σ set (lt σ) i ≤ 2000 by omega)
      have b7 : lfA (rm σ) (dnS σ p) (wnd σ set (lt σ)) i = stA (rm σ) (dnS σ p) (wnd σ set (lt σ)) i + wnd σ set (lt σ) i - dnS σ p i := rfl
      have b8 : msA (rm σ) (dnS σ p) (wnd σ set (lt σ)) i = max 0 (-(lfA (rm σ) (dnS σ p) (wnd σ set (lt σ)) i)) := rfl
      have b9 : stA (rm σ) (dnS σ p) (wnd σ set (lt σ)) (i + 1) = max 0 (min (lfA (rm σ) (dnS σ p) (wnd σ set (lt σ)) i) (rm σ)) := rfl
      have b10 : smA (rm σ) (dnS σ p) (wnd σ set (lt σ)) (i + 1) = smA (rm σ) (dnS σ p) (wnd σ set (lt σ)) i + msA (rm σ) (dnS σ p) (wnd σ set (lt σ)) i := rfl
      have b11 := stA_b hr0 (dnS σ p) (wnd σ set (lt σ)) (i + 1)
      have hsn := ok.sn (j := i) (by omega)
      have t118 : ∀ x o7, Wp M_MO_blow 2 Post 118 [some (.ref 41), some (.int (zI p)), some (.int (zI set)), some (.int (zI (smA (rm σ) (dnS σ p) (wnd σ set (lt σ)) i))), some (.int (zI (stA (rm σ) (dnS σ p) (wnd σ set (lt σ)) i))), some (.int (zI i)), some (.int (zI x)), some (.int (zI o7)), some (.int (zI (lfA (rm σ) (dnS σ p) (wnd σ set (lt σ)) i)))] [.int (zI (stA (rm σ) (dnS σ p) (wnd σ set (lt σ)) (i + 1)))] (setI h 49 i (zI (msA (rm σ) (dnS σ p) (wnd σ set (lt σ)) i))) hl := by
        intro x o7
        refine wp_istore (lv' := [_, _, _, _, _, _, _, _, _]) d_MO_blow_118 (by decide) rfl ?_
        refine wp_aload_n d_MO_blow_120 rfl ?_
        refine wp_getR d_MO_blow_121 f_MO_34 (by decide) rfl rfl ?_
        refine wp_iload d_MO_blow_124 rfl ?_
        refine wp_iload d_MO_blow_126 rfl ?_
        refine wz_iast (rfl) ((by omega)) d_MO_blow_128 (by decide) rfl (by decide) ?_
        refine wp_iload_n d_MO_blow_129 rfl ?_
        refine wp_aload_n d_MO_blow_130 rfl ?_
        refine wp_getR d_MO_blow_131 f_MO_31 (by decide) rfl rfl ?_
        refine wp_iload d_MO_blow_134 rfl ?_
        refine wz_iald ((rd1 (by decide) (rdA rfl))) (rfl) ((by omega)) d_MO_blow_136 (by decide) rfl (by decide) ?_
        refine wz_iadd d_MO_blow_137 ?_
        refine wp_istore_n (lv' := [_, _, _, _, _, _, _, _, _]) d_MO_blow_138 (by decide) rfl ?_
        refine wz_iinc (lv' := [_, _, _, _, _, _, _, _, _]) d_MO_blow_139 rfl (by decide) rfl ?_
        refine wp_goto (tgt := 8) d_MO_blow_142 (by decide) ?_
        refine wp_drop (lv' := [some _, some _, some _, some _, some _, some _, none, none, none]) ⟨rfl, rfl, rfl, rfl, rfl, rfl, trivial⟩ ?_
        refine ih (i + 1) (by omega) _ (fun c hc1 hc2 => ?_) (fun j hj => ?_) (fun j hj => ?_)
        · rw [setI_ne _ _ _ hc2, setI_ne _ _ _ hc1, he c hc1 hc2]
        · by_cases e : j = i
          · subst e
            exact rd1 (by decide) (rdA rfl)
          · exact rd1 (by decide) (rdS e (h49 j (by omega)))
        · by_cases e : j = i
          · subst e
            exact rdA rfl
          · exact rdS e (rd1 (by decide) (h50 j (by omega)))
      have t90 : ∀ x o7, Wp M_MO_blow 2 Post 90 [some (.ref 41), some (.int (zI p)), some (.int (zI set)), some (.int (zI (smA (rm σ) (dnS σ p) (wnd σ set (lt σ)) i))), some (.int (zI (stA (rm σ) (dnS σ p) (wnd σ set (lt σ)) i))), some (.int (zI i)), some (.int (zI x)), some (.int (zI o7)), some (.int (zI (lfA (rm σ) (dnS σ p) (wnd σ set (lt σ)) i)))] [.int (zI (msA (rm σ) (dnS σ p) (wnd σ set (lt σ)) i)), .int (zI i), .ref 49] h hl := by
        intro x o7
        have hroom : setI h 49 i (zI (msA (rm σ) (dnS σ p) (wnd σ set (lt σ)) i)) 41 13 = zI (rm σ) := rd1 (by decide) hA'.room
        refine wz_iast (rfl) ((by omega)) d_MO_blow_90 (by decide) rfl (by decide) ?_
        refine wp_iload d_MO_blow_91 rfl ?_
        refine wz_if_ge (tgt := 100) d_MO_blow_93 (by decide) (by omega) (fun h93 => ?_) (fun h93 => ?_)
        · refine wp_iload d_MO_blow_100 rfl ?_
          refine wp_aload_n d_MO_blow_102 rfl ?_
          refine wz_getI (hroom) d_MO_blow_103 f_MO_132 (by decide) rfl rfl ?_
          refine wz_icmp_le (tgt := 116) d_MO_blow_106 (by decide) (by omega) (by omega) (fun h106 => ?_) (fun h106 => ?_)
          · refine wp_iload d_MO_blow_116 rfl ?_
            refine wz_top (y := zI (stA (rm σ) (dnS σ p) (wnd σ set (lt σ)) (i + 1))) (by congr 1; omega) ?_
            exact t118 x o7
          · refine wp_aload_n d_MO_blow_109 rfl ?_
            refine wz_getI (hroom) d_MO_blow_110 f_MO_132 (by decide) rfl rfl ?_
            refine wp_goto (tgt := 118) d_MO_blow_113 (by decide) ?_
            refine wz_top (y := zI (stA (rm σ) (dnS σ p) (wnd σ set (lt σ)) (i + 1))) (by congr 1; omega) ?_
            exact t118 x o7
        · refine wp_iconst (v := zI 0) d_MO_blow_96 rfl ?_
          refine wp_goto (tgt := 118) d_MO_blow_97 (by decide) ?_
          refine wz_top (y := zI (stA (rm σ) (dnS σ p) (wnd σ set (lt σ)) (i + 1))) (by congr 1; omega) ?_
          exact t118 x o7
      have t70 : ∀ x o7, Wp M_MO_blow 2 Post 70 [some (.ref 41), some (.int (zI p)), some (.int (zI set)), some (.int (zI (smA (rm σ) (dnS σ p) (wnd σ set (lt σ)) i))), some (.int (zI (stA (rm σ) (dnS σ p) (wnd σ set (lt σ)) i))), some (.int (zI i)), some (.int (zI x)), some (.int (zI o7)), none] [.int (zI (lfA (rm σ) (dnS σ p) (wnd σ set (lt σ)) i))] h hl := by
        intro x o7
        refine wp_istore (lv' := [_, _, _, _, _, _, _, _, _]) d_MO_blow_70 (by decide) rfl ?_
        refine wp_aload_n d_MO_blow_72 rfl ?_
        refine wp_getR d_MO_blow_73 f_MO_31 (by decide) rfl rfl ?_
        refine wp_iload d_MO_blow_76 rfl ?_
        refine wp_iload d_MO_blow_78 rfl ?_
        refine wz_if_ge (tgt := 89) d_MO_blow_80 (by decide) (by omega) (fun h80 => ?_) (fun h80 => ?_)
        · refine wp_iconst (v := zI 0) d_MO_blow_89 rfl ?_
          refine wz_top (y := zI (msA (rm σ) (dnS σ p) (wnd σ set (lt σ)) i)) (by congr 1; omega) ?_
          exact t90 x o7
        · refine wp_iload d_MO_blow_83 rfl ?_
          refine wz_ineg d_MO_blow_85 ?_
          refine wp_goto (tgt := 90) d_MO_blow_86 (by decide) ?_
          refine wz_top (y := zI (msA (rm σ) (dnS σ p) (wnd σ set (lt σ)) i)) (by congr 1; omega) ?_
          exact t90 x o7
      refine wp_iload d_MO_blow_8 rfl ?_
      refine wp_aload_n d_MO_blow_10 rfl ?_
      refine wz_getI (hA'.nb) d_MO_blow_11 f_MO_126 (by decide) rfl rfl ?_
      refine wz_icmp_ge (tgt := 145) d_MO_blow_14 (by decide) (by omega) (by omega) (fun h14 => ?_) (fun h14 => ?_)
      · exact absurd h14 (by omega)
      · refine wp_aload_n d_MO_blow_17 rfl ?_
        refine wp_iload_n d_MO_blow_18 rfl ?_
        refine wp_iload d_MO_blow_19 rfl ?_
        refine wp_callV (ct_MO_airOf (set := set) (j := i) ok hA' hs (by omega)) d_MO_blow_21 k_MO_157 (by decide) rfl rfl rfl rfl (Nat.le_of_ble_eq_true rfl) (by omega) ?_
        rintro _ _ _ ⟨rfl, rfl, rfl⟩
        refine wp_iload d_MO_blow_24 rfl ?_
        refine wz_iadd d_MO_blow_26 ?_
        refine wp_istore (lv' := [_, _, _, _, _, _, _, _, _]) d_MO_blow_27 (by decide) rfl ?_
        refine wp_aload_n d_MO_blow_29 rfl ?_
        refine wp_getR d_MO_blow_30 f_MO_25 (by decide) rfl rfl ?_
        refine wp_iload d_MO_blow_33 rfl ?_
        refine wz_iald (hA'.sn (j := i) (by omega)) (rfl) ((by omega)) d_MO_blow_35 (by decide) rfl (by decide) ?_
        refine wp_iload_n d_MO_blow_36 rfl ?_
        refine wp_ishr d_MO_blow_37 ?_
        refine wp_iconst (v := zI 1) d_MO_blow_38 rfl ?_
        refine wp_iand d_MO_blow_39 ?_
        rw [zI_bit (by omega) (by omega)]
        refine wp_iconst (v := zI 1) d_MO_blow_40 rfl ?_
        refine wp_icmp_ne (tgt := 48) d_MO_blow_41 (by decide) (fun h41 => ?_) (fun h41 => ?_)
        · refine wp_iconst (v := zI 0) d_MO_blow_48 rfl ?_
          refine wp_istore (lv' := [_, _, _, _, _, _, _, _, _]) d_MO_blow_49 (by decide) rfl ?_
          refine wp_iload d_MO_blow_51 rfl ?_
          refine wz_if_eq (tgt := 68) d_MO_blow_53 (by decide) (by omega) (fun h53 => ?_) (fun h53 => ?_)
          · refine wp_iload d_MO_blow_68 rfl ?_
            refine wz_top (y := zI (lfA (rm σ) (dnS σ p) (wnd σ set (lt σ)) i)) (by congr 1; rw [lfA, dnS, if_neg (fun q => h41 (bI_t q))]; omega) ?_
            exact t70 _ _
          · exact absurd rfl h53
        · refine wp_iconst (v := zI 1) d_MO_blow_44 rfl ?_
          refine wp_goto (tgt := 49) d_MO_blow_45 (by decide) ?_
          refine wp_istore (lv' := [_, _, _, _, _, _, _, _, _]) d_MO_blow_49 (by decide) rfl ?_
          refine wp_iload d_MO_blow_51 rfl ?_
          refine wz_if_eq (tgt := 68) d_MO_blow_53 (by decide) (by omega) (fun h53 => ?_) (fun h53 => ?_)
          · exact absurd h53 (by decide)
          · have q : (sn σ i).testBit p = true := Decidable.byContradiction fun q => by rw [bI_f q] at h41; exact absurd h41 (by decide)
            refine wp_iload d_MO_blow_56 rfl ?_
            refine wp_aload_n d_MO_blow_58 rfl ?_
            refine wp_getR d_MO_blow_59 f_MO_19 (by decide) rfl rfl ?_
            refine wp_iload_n d_MO_blow_62 rfl ?_
            refine wz_iald (hA'.dr hpp) (rfl) ((by omega)) d_MO_blow_63 (by decide) rfl (by decide) ?_
            refine wz_isub d_MO_blow_64 ?_
            refine wp_goto (tgt := 70) d_MO_blow_65 (by decide) ?_
            refine wz_top (y := zI (lfA (rm σ) (dnS σ p) (wnd σ set (lt σ)) i)) (by congr 1; rw [lfA, dnS, if_pos q]; omega) ?_
            exact t70 _ _
  subst hP0
  refine ct_intro (lv := [_, _, _, _, _, _, _, _, _]) (by decide +kernel) (Nat.le_of_ble_eq_true rfl) rfl ?_
  refine wp_iconst (v := zI 0) d_MO_blow_0 rfl ?_
  refine wp_istore_n (lv' := [_, _, _, _, _, _, _, _, _]) d_MO_blow_1 (by decide) rfl ?_
  refine wp_iconst (v := zI 0) d_MO_blow_2 rfl ?_
  refine wp_istore (lv' := [_, _, _, _, _, _, _, _, _]) d_MO_blow_3 (by decide) rfl ?_
  refine wp_iconst (v := zI 0) d_MO_blow_5 rfl ?_
  refine wp_istore (lv' := [_, _, _, _, _, _, _, _, _]) d_MO_blow_6 (by decide) rfl ?_
  exact loop (nB σ) 0 (by omega) hi (fun _ _ _ => rfl) (fun j hj => absurd hj (by omega)) (fun j hj => absurd hj (by omega))
theorem cm_air (ok : Ok σ) (hA : AM σ hi) (ha : inR a) (hb : inR b) : Ct M_MO_air 9 [.ref 41, .int (zI a), .int (zI b)] hi hl (pM σ (zI (r_air σ a b)) hi) := by
  have hn := ok.nums
  refine ct_intro (lv := [_, _, _]) (by decide +kernel) (Nat.le_of_ble_eq_true rfl) rfl ?_
  refine wp_aload_n d_MO_air_0 rfl ?_
  refine wp_iload_n d_MO_air_1 rfl ?_
  refine wp_callV (ct_MO_isPipe ok hA ha) d_MO_air_2 k_MO_135 (by decide) rfl rfl rfl rfl (Nat.le_of_ble_eq_true rfl) (by omega) ?_
  rintro _ _ _ ⟨rfl, rfl, rfl⟩
  refine wz_if_eqB (tgt := 29) d_MO_air_5 (by decide) (fun h5 => ?_) (fun h5 => ?_)
  · refine wp_iconst (v := zI (-1)) d_MO_air_29 rfl ?_
    exact wp_iret d_MO_air_30 (Or.inl rfl) (pM_of hA (by rw [r_air, if_neg (fun q => h5 q.1)]))
  · refine wp_aload_n d_MO_air_8 rfl ?_
    refine wp_iload_n d_MO_air_9 rfl ?_
    refine wp_callV (ct_MO_isBeat ok hA hb) d_MO_air_10 k_MO_139 (by decide) rfl rfl rfl rfl (Nat.le_of_ble_eq_true rfl) (by omega) ?_
    rintro _ _ _ ⟨rfl, rfl, rfl⟩
    refine wz_if_eqB (tgt := 29) d_MO_air_13 (by decide) (fun h13 => ?_) (fun h13 => ?_)
    · refine wp_iconst (v := zI (-1)) d_MO_air_29 rfl ?_
      exact wp_iret d_MO_air_30 (Or.inl rfl) (pM_of hA (by rw [r_air, if_neg (fun q => h13 q.2)]))
    · obtain ⟨p, rfl, hpp⟩ := toN h5
      obtain ⟨j, rfl, hj⟩ := toN h13
      refine wp_aload_n d_MO_air_16 rfl ?_
      refine wp_aload_n d_MO_air_17 rfl ?_
      refine wp_iload_n d_MO_air_18 rfl ?_
      refine wp_callV (ct_MO_sitters (p := p) 0 ok hA (by omega)) d_MO_air_19 k_MO_160 (by decide) rfl rfl rfl rfl (Nat.le_of_ble_eq_true rfl) (by omega) ?_
      rintro _ _ _ ⟨rfl, rfl, rfl⟩
      refine wp_iload_n d_MO_air_22 rfl ?_
      refine wp_callV (ct_MO_airOf (set := sit σ p) (j := j) ok hA (sit_lt ok p) (by omega)) d_MO_air_23 k_MO_157 (by decide) rfl rfl rfl rfl (Nat.le_of_ble_eq_true rfl) (by omega) ?_
      rintro _ _ _ ⟨rfl, rfl, rfl⟩
      refine wp_goto (tgt := 30) d_MO_air_26 (by decide) ?_
      exact wp_iret d_MO_air_30 (Or.inl rfl) (pM_of hA (by rw [r_air, if_pos ⟨h5, h13⟩, nC, nC]))
theorem cm_stored (ok : Ok σ) (hA : AM σ hi) (ha : inR a) (hb : inR b) : Ct M_MO_stored 9 [.ref 41, .int (zI a), .int (zI b)] hi hl (pM σ (zI (r_stored σ a b)) hi) := by
  have hn := ok.nums
  refine ct_intro (lv := [_, _, _]) (by decide +kernel) (Nat.le_of_ble_eq_true rfl) rfl ?_
  refine wp_aload_n d_MO_stored_0 rfl ?_
  refine wp_iload_n d_MO_stored_1 rfl ?_
  refine wp_callV (ct_MO_isPipe ok hA ha) d_MO_stored_2 k_MO_135 (by decide) rfl rfl rfl rfl (Nat.le_of_ble_eq_true rfl) (by omega) ?_
  rintro _ _ _ ⟨rfl, rfl, rfl⟩
  refine wz_if_eqB (tgt := 16) d_MO_stored_5 (by decide) (fun h5 => ?_) (fun h5 => ?_)
  · refine wp_iconst (v := zI (-1)) d_MO_stored_16 rfl ?_
    exact wp_iret d_MO_stored_17 (Or.inl rfl) (pM_of hA (by rw [r_stored, if_neg (fun q => h5 q.1)]))
  · refine wp_aload_n d_MO_stored_8 rfl ?_
    refine wp_iload_n d_MO_stored_9 rfl ?_
    refine wp_callV (ct_MO_isBeat ok hA hb) d_MO_stored_10 k_MO_139 (by decide) rfl rfl rfl rfl (Nat.le_of_ble_eq_true rfl) (by omega) ?_
    rintro _ _ _ ⟨rfl, rfl, rfl⟩
    refine wz_if_neB (tgt := 18) d_MO_stored_13 (by decide) (fun h13 => ?_) (fun h13 => ?_)
    · obtain ⟨p, rfl, hpp⟩ := toN h5
      obtain ⟨j, rfl, hj⟩ := toN h13
      refine wp_aload_n d_MO_stored_18 rfl ?_
      refine wp_iload_n d_MO_stored_19 rfl ?_
      refine wp_aload_n d_MO_stored_20 rfl ?_
      refine wp_iload_n d_MO_stored_21 rfl ?_
      refine wp_callV (ct_MO_sitters (p := p) 0 ok hA (by omega)) d_MO_stored_22 k_MO_160 (by decide) rfl rfl rfl rfl (Nat.le_of_ble_eq_true rfl) (by omega) ?_
      rintro _ _ _ ⟨rfl, rfl, rfl⟩
      refine wp_callV (ct_MO_blow (p := p) (set := sit σ p) ok hA hpp (sit_lt ok p)) d_MO_stored_25 k_MO_163 (by decide) rfl rfl rfl rfl (Nat.le_of_ble_eq_true rfl) (by omega) ?_
      rintro _ h _ ⟨rfl, rfl, he, -, h50⟩
      refine wp_pop d_MO_stored_28 rfl ?_
      refine wp_aload_n d_MO_stored_29 rfl ?_
      refine wp_getR d_MO_stored_30 f_MO_34 (by decide) rfl rfl ?_
      refine wp_iload_n d_MO_stored_33 rfl ?_
      refine wz_iald (h50 j hj) (rfl) ((by omega)) d_MO_stored_34 (by decide) rfl (by decide) ?_
      exact wp_iret d_MO_stored_35 (Or.inl rfl) (⟨by rw [r_stored, if_pos ⟨h5, h13⟩, nC, nC], hA.keepS he, fun c hc => he c (by omega) (by omega)⟩)
    · refine wp_iconst (v := zI (-1)) d_MO_stored_16 rfl ?_
      exact wp_iret d_MO_stored_17 (Or.inl rfl) (pM_of hA (by rw [r_stored, if_neg (fun q => h13 q.2)]))
theorem cm_sags (ok : Ok σ) (hA : AM σ hi) (ha : inR a) (hb : inR b) : Ct M_MO_sags 9 [.ref 41, .int (zI a), .int (zI b)] hi hl (pM σ (zI (r_sags σ a b)) hi) := by
  have hn := ok.nums
  refine ct_intro (lv := [_, _, _]) (by decide +kernel) (Nat.le_of_ble_eq_true rfl) rfl ?_
  refine wp_aload_n d_MO_sags_0 rfl ?_
  refine wp_iload_n d_MO_sags_1 rfl ?_
  refine wp_callV (ct_MO_isPipe ok hA ha) d_MO_sags_2 k_MO_135 (by decide) rfl rfl rfl rfl (Nat.le_of_ble_eq_true rfl) (by omega) ?_
  rintro _ _ _ ⟨rfl, rfl, rfl⟩
  refine wz_if_eqB (tgt := 16) d_MO_sags_5 (by decide) (fun h5 => ?_) (fun h5 => ?_)
  · refine wp_iconst (v := zI (-1)) d_MO_sags_16 rfl ?_
    exact wp_iret d_MO_sags_17 (Or.inl rfl) (pM_of hA (by rw [r_sags, if_neg (fun q => h5 q.1)]))
  · refine wp_aload_n d_MO_sags_8 rfl ?_
    refine wp_iload_n d_MO_sags_9 rfl ?_
    refine wp_callV (ct_MO_isBeat ok hA hb) d_MO_sags_10 k_MO_139 (by decide) rfl rfl rfl rfl (Nat.le_of_ble_eq_true rfl) (by omega) ?_
    rintro _ _ _ ⟨rfl, rfl, rfl⟩
    refine wz_if_neB (tgt := 18) d_MO_sags_13 (by decide) (fun h13 => ?_) (fun h13 => ?_)
    · obtain ⟨p, rfl, hpp⟩ := toN h5
      obtain ⟨j, rfl, hj⟩ := toN h13
      refine wp_aload_n d_MO_sags_18 rfl ?_
      refine wp_iload_n d_MO_sags_19 rfl ?_
      refine wp_aload_n d_MO_sags_20 rfl ?_
      refine wp_iload_n d_MO_sags_21 rfl ?_
      refine wp_callV (ct_MO_sitters (p := p) 0 ok hA (by omega)) d_MO_sags_22 k_MO_160 (by decide) rfl rfl rfl rfl (Nat.le_of_ble_eq_true rfl) (by omega) ?_
      rintro _ _ _ ⟨rfl, rfl, rfl⟩
      refine wp_callV (ct_MO_blow (p := p) (set := sit σ p) ok hA hpp (sit_lt ok p)) d_MO_sags_25 k_MO_163 (by decide) rfl rfl rfl rfl (Nat.le_of_ble_eq_true rfl) (by omega) ?_
      rintro _ h _ ⟨rfl, rfl, he, h49, -⟩
      refine wp_pop d_MO_sags_28 rfl ?_
      refine wp_aload_n d_MO_sags_29 rfl ?_
      refine wp_getR d_MO_sags_30 f_MO_31 (by decide) rfl rfl ?_
      refine wp_iload_n d_MO_sags_33 rfl ?_
      refine wz_iald (h49 j hj) (rfl) ((by omega)) d_MO_sags_34 (by decide) rfl (by decide) ?_
      exact wp_iret d_MO_sags_35 (Or.inl rfl) (⟨by rw [r_sags, if_pos ⟨h5, h13⟩, nC, nC], hA.keepS he, fun c hc => he c (by omega) (by omega)⟩)
    · refine wp_iconst (v := zI (-1)) d_MO_sags_16 rfl ?_
      exact wp_iret d_MO_sags_17 (Or.inl rfl) (pM_of hA (by rw [r_sags, if_neg (fun q => h13 q.2)]))
theorem ct_MO_totalOf (ok : Ok σ) (hA : AM σ hi) : Ct M_MO_totalOf 3 [.ref 41] hi hl (fun r hi' hl' => r = some (.int (zI (tot σ (lt σ)))) ∧ hl = hl' ∧ (∀ c, c ≠ 49 → c ≠ 50 → hi' c = hi c)) := by
  have hn := ok.nums
  have loop : ∀ q i, i + q = nP σ → ∀ h : HI, (∀ c, c ≠ 49 → c ≠ 50 → h c = hi c) → Wp M_MO_totalOf 3 (fun r hi' hl' => r = some (.int (zI (tot σ (lt σ)))) ∧ hl = hl' ∧ (∀ c, c ≠ 49 → c ≠ 50 → hi' c = hi c)) 4 [some (.ref 41), some (.int (zI (totN σ (lt σ) i))), some (.int (zI i))] [] h hl := by
    intro q
    induction q with
    | zero =>
      intro i hiq h he
      have hA' : AM σ h := hA.keepS he
      refine wp_iload_n d_MO_totalOf_4 rfl ?_
      refine wp_aload_n d_MO_totalOf_5 rfl ?_
      refine wz_getI (hA'.np) d_MO_totalOf_6 f_MO_69 (by decide) rfl rfl ?_
      refine wz_icmp_ge (tgt := 31) d_MO_totalOf_9 (by decide) (by omega) (by omega) (fun h9 => ?_) (fun h9 => ?_)
      · refine wp_iload_n d_MO_totalOf_31 rfl ?_
        exact wp_iret d_MO_totalOf_32 (Or.inl rfl) (⟨by rw [tot, ← hiq]; rfl, rfl, he⟩)
      · exact absurd h9 (by omega)
    | succ q ih =>
      intro i hiq h he
      have hA' : AM σ h := hA.keepS he
      refine wp_iload_n d_MO_totalOf_4 rfl ?_
      refine wp_aload_n d_MO_totalOf_5 rfl ?_
      refine wz_getI (hA'.np) d_MO_totalOf_6 f_MO_69 (by decide) rfl rfl ?_
      refine wz_icmp_ge (tgt := 31) d_MO_totalOf_9 (by decide) (by omega) (by omega) (fun h9 => ?_) (fun h9 => ?_)
      · exact absurd h9 (by omega)
      · refine wp_iload_n d_MO_totalOf_12 rfl ?_
        refine wp_aload_n d_MO_totalOf_13 rfl ?_
        refine wp_iload_n d_MO_totalOf_14 rfl ?_
        refine wp_aload_n d_MO_totalOf_15 rfl ?_
        refine wp_iload_n d_MO_totalOf_16 rfl ?_
        refine wp_callV (ct_MO_sitters (p := i) 0 ok hA' (by omega)) d_MO_totalOf_17 k_MO_160 (by decide) rfl rfl rfl rfl (Nat.le_of_ble_eq_true rfl) (by omega) ?_
        rintro _ _ _ ⟨rfl, rfl, rfl⟩
        refine wp_callV (ct_MO_blow (p := i) (set := sit σ i) ok hA' (by omega) (sit_lt ok i)) d_MO_totalOf_20 k_MO_163 (by decide) rfl rfl rfl rfl (Nat.le_of_ble_eq_true rfl) (by omega) ?_
        rintro _ h2 _ ⟨rfl, rfl, he2, -, -⟩
        refine wz_iadd d_MO_totalOf_23 ?_
        refine wp_istore_n (lv' := [_, _, _]) d_MO_totalOf_24 (by decide) rfl ?_
        refine wz_iinc (lv' := [_, _, _]) d_MO_totalOf_25 rfl (by decide) rfl ?_
        refine wp_goto (tgt := 4) d_MO_totalOf_28 (by decide) ?_
        exact ih (i + 1) (by omega) h2 (fun c h1 h2 => by rw [he2 c h1 h2, he c h1 h2])
  refine ct_intro (lv := [_, _, _]) (by decide +kernel) (Nat.le_of_ble_eq_true rfl) rfl ?_
  refine wp_iconst (v := zI 0) d_MO_totalOf_0 rfl ?_
  refine wp_istore_n (lv' := [_, _, _]) d_MO_totalOf_1 (by decide) rfl ?_
  refine wp_iconst (v := zI 0) d_MO_totalOf_2 rfl ?_
  refine wp_istore_n (lv' := [_, _, _]) d_MO_totalOf_3 (by decide) rfl ?_
  exact loop (nP σ) 0 (by omega) hi (fun _ _ _ => rfl)
theorem cm_total (ok : Ok σ) (hA : AM σ hi) : Ct M_MO_total 9 [.ref 41] hi hl (pM σ (zI (tot σ (lt σ))) hi) := by
  refine ct_intro (lv := [_]) (by decide +kernel) (Nat.le_of_ble_eq_true rfl) rfl ?_
  refine wp_aload_n d_MO_total_0 rfl ?_
  refine wp_callV (ct_MO_totalOf ok hA) d_MO_total_1 k_MO_166 (by decide) rfl rfl rfl rfl (Nat.le_of_ble_eq_true rfl) (by omega) ?_
  rintro _ h _ ⟨rfl, rfl, he⟩
  exact wp_iret d_MO_total_4 (Or.inl rfl) (⟨rfl, hA.keepS he, fun c hc => he c (by omega) (by omega)⟩)
/-- the best of one pipe's beats, as the reference goes -/
def fsI (f : Nat → Int) (p : Nat) : Int → Nat → Nat → Int
  | x, 0, _ => x
  | x, k + 1, j => fsI f p (if 0 < f j ∧ (x = -9 ∨ 10 * (j : Int) + p < x) then 10 * (j : Int) + p else x) k (j + 1)
theorem fsI_stay (f : Nat → Int) (p : Nat) : ∀ (k : Nat) (x : Int) (j : Nat), x ≠ -9 → x ≤ 10 * (j : Int) + p → fsI f p x k j = x
  | 0, x, j, _, _ => rfl
  | k + 1, x, j, h1, h2 => by
    rw [fsI, if_neg (by omega)]
    exact fsI_stay f p k x (j + 1) h1 (by omega)
theorem fsI_eq (f : Nat → Int) (p : Nat) : ∀ (k : Nat) (x : Int) (j : Nat), fsI f p x k j = if fpos f k j ≠ -9 ∧ (x = -9 ∨ 10 * fpos f k j + p < x) then 10 * fpos f k j + p else x
  | 0, x, j => by simp [fsI, fpos]
  | k + 1, x, j => by
    rw [fsI]
    by_cases h : 0 < f j
    · have e : fpos f (k + 1) j = j := by rw [fpos, if_pos h]
      rw [e]
      by_cases h2 : x = -9 ∨ 10 * (j : Int) + p < x
      · rw [if_pos ⟨h, h2⟩, fsI_stay f p k _ (j + 1) (by omega) (by omega), if_pos ⟨by omega, h2⟩]
      · rw [if_neg (fun q => h2 q.2), fsI_stay f p k _ (j + 1) (by omega) (by omega), if_neg (fun q => h2 q.2)]
    · have e : fpos f (k + 1) j = fpos f k (j + 1) := by rw [fpos, if_neg h]
      rw [if_neg (fun q => h q.1), fsI_eq f p k x (j + 1), e]
theorem cm_first (ok : Ok σ) (hA : AM σ hi) : Ct M_MO_first 9 [.ref 41] hi hl (pM σ (zI (fstN σ (nP σ))) hi) := by
  have hn := ok.nums
  have inner : ∀ p, p < nP σ → ∀ h : HI, (∀ c, c ≠ 49 → c ≠ 50 → h c = hi c) → (∀ j, j < nB σ → h 49 j = zI (msP σ p j)) → Wp M_MO_first 9 (pM σ (zI (fstN σ (nP σ))) hi) 76 [some (.ref 41), some (.int (zI (fstN σ (p + 1)))), some (.int (zI p)), none] [] h hl →
      ∀ k j, j + k = nB σ → ∀ x : Int, -9 ≤ x ∧ x ≤ 300 → fstN σ (p + 1) = fsI (msP σ p) p x k j → Wp M_MO_first 9 (pM σ (zI (fstN σ (nP σ))) hi) 26 [some (.ref 41), some (.int (zI x)), some (.int (zI p)), some (.int (zI j))] [] h hl := by
    intro p hpp h he h49 hex k
    have hA' : AM σ h := hA.keepS he
    induction k with
    | zero =>
      intro j hjk x hx e
      refine wp_iload_n d_MO_first_26 rfl ?_
      refine wp_aload_n d_MO_first_27 rfl ?_
      refine wz_getI (hA'.nb) d_MO_first_28 f_MO_126 (by decide) rfl rfl ?_
      refine wz_icmp_ge (tgt := 76) d_MO_first_31 (by decide) (by omega) (by omega) (fun h31 => ?_) (fun h31 => ?_)
      · refine wp_drop (lv' := [some _, some _, some _, none]) ⟨rfl, rfl, rfl, trivial⟩ ?_
        rw [e] at hex
        exact hex
      · exact absurd h31 (by omega)
    | succ k ih =>
      intro j hjk x hx e
      have b1 := msP_b ok hpp j
      refine wp_iload_n d_MO_first_26 rfl ?_
      refine wp_aload_n d_MO_first_27 rfl ?_
      refine wz_getI (hA'.nb) d_MO_first_28 f_MO_126 (by decide) rfl rfl ?_
      refine wz_icmp_ge (tgt := 76) d_MO_first_31 (by decide) (by omega) (by omega) (fun h31 => ?_) (fun h31 => ?_)
      · exact absurd h31 (by omega)
      · refine wp_aload_n d_MO_first_34 rfl ?_
        refine wp_getR d_MO_first_35 f_MO_31 (by decide) rfl rfl ?_
        refine wp_iload_n d_MO_first_38 rfl ?_
        refine wz_iald (h49 j (by omega)) (rfl) ((by omega)) d_MO_first_39 (by decide) rfl (by decide) ?_
        refine wz_if_le (tgt := 68) d_MO_first_40 (by decide) (by omega) (fun h40 => ?_) (fun h40 => ?_)
        · refine wp_iload_n d_MO_first_68 rfl ?_
          refine wp_istore_n (lv' := [_, _, _, _]) d_MO_first_69 (by decide) rfl ?_
          refine wz_iinc (lv' := [_, _, _, _]) d_MO_first_70 rfl (by decide) rfl ?_
          refine wp_goto (tgt := 26) d_MO_first_73 (by decide) ?_
          exact ih (j + 1) (by omega) x hx (by rw [e, fsI, if_neg (by omega)])
        · refine wp_iload_n d_MO_first_43 rfl ?_
          refine wp_bipush (v := zI (-9)) d_MO_first_44 rfl ?_
          have tk : (x = -9 ∨ 10 * (j : Int) + p < x) → Wp M_MO_first 9 (pM σ (zI (fstN σ (nP σ))) hi) 59 [some (.ref 41), some (.int (zI x)), some (.int (zI p)), some (.int (zI j))] [] h hl := by
            intro hc
            refine wp_bipush (v := zI 10) d_MO_first_59 rfl ?_
            refine wp_iload_n d_MO_first_61 rfl ?_
            refine wz_imul d_MO_first_62 ?_
            refine wp_iload_n d_MO_first_63 rfl ?_
            refine wz_iadd d_MO_first_64 ?_
            refine wp_goto (tgt := 69) d_MO_first_65 (by decide) ?_
            refine wp_istore_n (lv' := [_, _, _, _]) d_MO_first_69 (by decide) rfl ?_
            refine wz_iinc (lv' := [_, _, _, _]) d_MO_first_70 rfl (by decide) rfl ?_
            refine wp_goto (tgt := 26) d_MO_first_73 (by decide) ?_
            exact ih (j + 1) (by omega) (10 * (j : Int) + p) (by omega) (by rw [e, fsI, if_pos ⟨h40, hc⟩])
          refine wz_icmp_eq (tgt := 59) d_MO_first_46 (by decide) (by omega) (by omega) (fun h46 => ?_) (fun h46 => ?_)
          · exact tk (Or.inl h46)
          · refine wp_bipush (v := zI 10) d_MO_first_49 rfl ?_
            refine wp_iload_n d_MO_first_51 rfl ?_
            refine wz_imul d_MO_first_52 ?_
            refine wp_iload_n d_MO_first_53 rfl ?_
            refine wz_iadd d_MO_first_54 ?_
            refine wp_iload_n d_MO_first_55 rfl ?_
            refine wz_icmp_ge (tgt := 68) d_MO_first_56 (by decide) (by omega) (by omega) (fun h56 => ?_) (fun h56 => ?_)
            · refine wp_iload_n d_MO_first_68 rfl ?_
              refine wp_istore_n (lv' := [_, _, _, _]) d_MO_first_69 (by decide) rfl ?_
              refine wz_iinc (lv' := [_, _, _, _]) d_MO_first_70 rfl (by decide) rfl ?_
              refine wp_goto (tgt := 26) d_MO_first_73 (by decide) ?_
              exact ih (j + 1) (by omega) x hx (by rw [e, fsI, if_neg (by omega)])
            · exact tk (Or.inr h56)
  have outer : ∀ k p, p + k = nP σ → ∀ h : HI, (∀ c, c ≠ 49 → c ≠ 50 → h c = hi c) → Wp M_MO_first 9 (pM σ (zI (fstN σ (nP σ))) hi) 5 [some (.ref 41), some (.int (zI (fstN σ p))), some (.int (zI p)), none] [] h hl := by
    intro k
    induction k with
    | zero =>
      intro p hpk h he
      have hA' : AM σ h := hA.keepS he
      refine wp_iload_n d_MO_first_5 rfl ?_
      refine wp_aload_n d_MO_first_6 rfl ?_
      refine wz_getI (hA'.np) d_MO_first_7 f_MO_69 (by decide) rfl rfl ?_
      refine wz_icmp_ge (tgt := 82) d_MO_first_10 (by decide) (by omega) (by omega) (fun h10 => ?_) (fun h10 => ?_)
      · refine wp_iload_n d_MO_first_82 rfl ?_
        exact wp_iret d_MO_first_83 (Or.inl rfl) (⟨by rw [← hpk]; rfl, hA', fun c hc => he c (by omega) (by omega)⟩)
      · exact absurd h10 (by omega)
    | succ k ih =>
      intro p hpk h he
      have hA' : AM σ h := hA.keepS he
      refine wp_iload_n d_MO_first_5 rfl ?_
      refine wp_aload_n d_MO_first_6 rfl ?_
      refine wz_getI (hA'.np) d_MO_first_7 f_MO_69 (by decide) rfl rfl ?_
      refine wz_icmp_ge (tgt := 82) d_MO_first_10 (by decide) (by omega) (by omega) (fun h10 => ?_) (fun h10 => ?_)
      · exact absurd h10 (by omega)
      · refine wp_aload_n d_MO_first_13 rfl ?_
        refine wp_iload_n d_MO_first_14 rfl ?_
        refine wp_aload_n d_MO_first_15 rfl ?_
        refine wp_iload_n d_MO_first_16 rfl ?_
        refine wp_callV (ct_MO_sitters (p := p) 0 ok hA' (by omega)) d_MO_first_17 k_MO_160 (by decide) rfl rfl rfl rfl (Nat.le_of_ble_eq_true rfl) (by omega) ?_
        rintro _ _ _ ⟨rfl, rfl, rfl⟩
        refine wp_callV (ct_MO_blow (p := p) (set := sit σ p) ok hA' (by omega) (sit_lt ok p)) d_MO_first_20 k_MO_163 (by decide) rfl rfl rfl rfl (Nat.le_of_ble_eq_true rfl) (by omega) ?_
        rintro _ h2 _ ⟨rfl, rfl, he2, h49, -⟩
        have he3 : ∀ c, c ≠ 49 → c ≠ 50 → h2 c = hi c := fun c q1 q2 => by rw [he2 c q1 q2, he c q1 q2]
        refine wp_pop d_MO_first_23 rfl ?_
        refine wp_iconst (v := zI 0) d_MO_first_24 rfl ?_
        refine wp_istore_n (lv' := [_, _, _, _]) d_MO_first_25 (by decide) rfl ?_
        refine inner p (by omega) h2 he3 h49 ?_ (nB σ) 0 (by omega) (fstN σ p) (fstN_b ok p (by omega)) (by rw [fsI_eq]; rfl)
        refine wz_iinc (lv' := [_, _, _, _]) d_MO_first_76 rfl (by decide) rfl ?_
        refine wp_goto (tgt := 5) d_MO_first_79 (by decide) ?_
        exact ih (p + 1) (by omega) h2 he3
  refine ct_intro (lv := [_, _, _, _]) (by decide +kernel) (Nat.le_of_ble_eq_true rfl) rfl ?_
  refine wp_bipush (v := zI (-9)) d_MO_first_0 rfl ?_
  refine wp_istore_n (lv' := [_, _, _, _]) d_MO_first_2 (by decide) rfl ?_
  refine wp_iconst (v := zI 0) d_MO_first_3 rfl ?_
  refine wp_istore_n (lv' := [_, _, _, _]) d_MO_first_4 (by decide) rfl ?_
  exact outer (nP σ) 0 (by omega) hi (fun _ _ _ => rfl)
theorem cm_worst (ok : Ok σ) (hA : AM σ hi) : Ct M_MO_worst 9 [.ref 41] hi hl (pM σ (zI (wrN σ (nP σ)).1) hi) := by
  have hn := ok.nums
  have loop : ∀ k i, i + k = nP σ → ∀ h : HI, (∀ c, c ≠ 49 → c ≠ 50 → h c = hi c) → Wp M_MO_worst 9 (pM σ (zI (wrN σ (nP σ)).1) hi) 7 [some (.ref 41), some (.int (zI (wrN σ i).1)), some (.int (zI (wrN σ i).2)), some (.int (zI i)), none] [] h hl := by
    intro k
    induction k with
    | zero =>
      intro i hik h he
      have hA' : AM σ h := hA.keepS he
      refine wp_iload_n d_MO_worst_7 rfl ?_
      refine wp_aload_n d_MO_worst_8 rfl ?_
      refine wz_getI (hA'.np) d_MO_worst_9 f_MO_69 (by decide) rfl rfl ?_
      refine wz_icmp_ge (tgt := 58) d_MO_worst_12 (by decide) (by omega) (by omega) (fun h12 => ?_) (fun h12 => ?_)
      · refine wp_iload_n d_MO_worst_58 rfl ?_
        exact wp_iret d_MO_worst_59 (Or.inl rfl) (⟨by rw [← hik]; rfl, hA', fun c hc => he c (by omega) (by omega)⟩)
      · exact absurd h12 (by omega)
    | succ k ih =>
      intro i hik h he
      have hA' : AM σ h := hA.keepS he
      have b1 := wrN_b ok i (by omega)
      have b2 := sag_b ok (p := i) (by omega) (sit σ i) (lt σ)
      refine wp_iload_n d_MO_worst_7 rfl ?_
      refine wp_aload_n d_MO_worst_8 rfl ?_
      refine wz_getI (hA'.np) d_MO_worst_9 f_MO_69 (by decide) rfl rfl ?_
      refine wz_icmp_ge (tgt := 58) d_MO_worst_12 (by decide) (by omega) (by omega) (fun h12 => ?_) (fun h12 => ?_)
      · exact absurd h12 (by omega)
      · refine wp_aload_n d_MO_worst_15 rfl ?_
        refine wp_iload_n d_MO_worst_16 rfl ?_
        refine wp_aload_n d_MO_worst_17 rfl ?_
        refine wp_iload_n d_MO_worst_18 rfl ?_
        refine wp_callV (ct_MO_sitters (p := i) 0 ok hA' (by omega)) d_MO_worst_19 k_MO_160 (by decide) rfl rfl rfl rfl (Nat.le_of_ble_eq_true rfl) (by omega) ?_
        rintro _ _ _ ⟨rfl, rfl, rfl⟩
        refine wp_callV (ct_MO_blow (p := i) (set := sit σ i) ok hA' (by omega) (sit_lt ok i)) d_MO_worst_22 k_MO_163 (by decide) rfl rfl rfl rfl (Nat.le_of_ble_eq_true rfl) (by omega) ?_
        rintro _ h2 _ ⟨rfl, rfl, he2, -, -⟩
        have he3 : ∀ c, c ≠ 49 → c ≠ 50 → h2 c = hi c := fun c q1 q2 => by rw [he2 c q1 q2, he c q1 q2]
        have := ih (i + 1) (by omega) h2 he3
        refine wp_istore (lv' := [_, _, _, _, _]) d_MO_worst_25 (by decide) rfl ?_
        refine wp_iload d_MO_worst_27 rfl ?_
        refine wp_iload_n d_MO_worst_29 rfl ?_
        refine wz_icmp_le (tgt := 37) d_MO_worst_30 (by decide) (by omega) (by omega) (fun h30 => ?_) (fun h30 => ?_)
        · refine wp_iload_n d_MO_worst_37 rfl ?_
          refine wp_istore_n (lv' := [_, _, _, _, _]) d_MO_worst_38 (by decide) rfl ?_
          refine wp_iload d_MO_worst_39 rfl ?_
          refine wp_iload_n d_MO_worst_41 rfl ?_
          refine wz_icmp_le (tgt := 50) d_MO_worst_42 (by decide) (by omega) (by omega) (fun h42 => ?_) (fun h42 => ?_)
          · refine wp_iload_n d_MO_worst_50 rfl ?_
            refine wp_istore_n (lv' := [_, _, _, _, _]) d_MO_worst_51 (by decide) rfl ?_
            refine wz_iinc (lv' := [_, _, _, _, _]) d_MO_worst_52 rfl (by decide) rfl ?_
            refine wp_goto (tgt := 7) d_MO_worst_55 (by decide) ?_
            refine wp_drop (lv' := [some _, some _, some _, some _, none]) ⟨rfl, rfl, rfl, rfl, trivial⟩ ?_
            rw [wrN, if_neg (by omega)] at this
            exact this
          · exact absurd h42 (by omega)
        · refine wp_iload_n d_MO_worst_33 rfl ?_
          refine wp_goto (tgt := 38) d_MO_worst_34 (by decide) ?_
          refine wp_istore_n (lv' := [_, _, _, _, _]) d_MO_worst_38 (by decide) rfl ?_
          refine wp_iload d_MO_worst_39 rfl ?_
          refine wp_iload_n d_MO_worst_41 rfl ?_
          refine wz_icmp_le (tgt := 50) d_MO_worst_42 (by decide) (by omega) (by omega) (fun h42 => ?_) (fun h42 => ?_)
          · exact absurd h42 (by omega)
          · refine wp_iload d_MO_worst_45 rfl ?_
            refine wp_goto (tgt := 51) d_MO_worst_47 (by decide) ?_
            refine wp_istore_n (lv' := [_, _, _, _, _]) d_MO_worst_51 (by decide) rfl ?_
            refine wz_iinc (lv' := [_, _, _, _, _]) d_MO_worst_52 rfl (by decide) rfl ?_
            refine wp_goto (tgt := 7) d_MO_worst_55 (by decide) ?_
            refine wp_drop (lv' := [some _, some _, some _, some _, none]) ⟨rfl, rfl, rfl, rfl, trivial⟩ ?_
            rw [wrN, if_pos (by omega)] at this
            exact this
  refine ct_intro (lv := [_, _, _, _, _]) (by decide +kernel) (Nat.le_of_ble_eq_true rfl) rfl ?_
  refine wp_bipush (v := zI (-9)) d_MO_worst_0 rfl ?_
  refine wp_istore_n (lv' := [_, _, _, _, _]) d_MO_worst_2 (by decide) rfl ?_
  refine wp_iconst (v := zI 0) d_MO_worst_3 rfl ?_
  refine wp_istore_n (lv' := [_, _, _, _, _]) d_MO_worst_4 (by decide) rfl ?_
  refine wp_iconst (v := zI 0) d_MO_worst_5 rfl ?_
  refine wp_istore_n (lv' := [_, _, _, _, _]) d_MO_worst_6 (by decide) rfl ?_
  exact loop (nP σ) 0 (by omega) hi (fun _ _ _ => rfl)
theorem airN_lt0 (σ : SG) (i v set k j : Nat) : ∀ n, airN (up σ 0 i v) set k j n = airN σ set k j n
  | 0 => rfl
  | n + 1 => by
    rw [airN, airN, airN_lt0 σ i v set k j n]
    rfl
theorem sitN_lt0 (σ : SG) (i v p : Nat) : ∀ n, sitN (up σ 0 i v) p n = sitN σ p n
  | 0 => rfl
  | n + 1 => by
    rw [sitN, sitN, sitN_lt0 σ i v p n]
    rfl
theorem sag_lt0 (σ : SG) (v p set k : Nat) : sag (up σ 0 3 v) p set k = sag σ p set k := by
  unfold sag
  have e1 : wnd (up σ 0 3 v) set k = wnd σ set k := by
    funext j
    unfold wnd airS
    rw [airN_lt0]
    rfl
  have e2 : dnS (up σ 0 3 v) p = dnS σ p := by
    funext j
    rfl
  rw [e1, e2]
  rfl
theorem sit_lt0 (σ : SG) (v p : Nat) : sit (up σ 0 3 v) p = sit σ p := sitN_lt0 σ 3 v p (nM σ)
theorem totN_lt0 (σ : SG) (v k : Nat) : ∀ n, totN (up σ 0 3 v) k n = totN σ k n
  | 0 => rfl
  | n + 1 => by rw [totN, totN, totN_lt0 σ v k n, sag_lt0, sit_lt0]
theorem tot_lt0 (σ : SG) (v k : Nat) : tot (up σ 0 3 v) k = tot σ k := totN_lt0 σ v k (nP σ)
theorem up_up (σ : SG) (f i v w : Nat) : up (up σ f i v) f i w = up σ f i w := by
  funext f' i'
  unfold up
  by_cases h : f' = f ∧ i' = i
  · simp [h]
  · simp [h]
theorem up_self (σ : SG) (f i : Nat) : up σ f i (σ f i) = σ := by
  funext f' i'
  unfold up
  by_cases h : f' = f ∧ i' = i
  · rw [if_pos h, h.1, h.2]
  · rw [if_neg h]
theorem cm_bestLate (ok : Ok σ) (hA : AM σ hi) : Ct M_MO_bestLate 9 [.ref 41] hi hl (pM σ (zI (blN σ 11).1) hi) := by
  have hn := ok.nums
  have hend : ∀ (v : Nat) (h : HI) (o5 : Option Value) (y z : Int), AM (up σ 0 3 v) h → (∀ c, c < 41 → h c = hi c) → Wp M_MO_bestLate 9 (pM σ (zI (blN σ 11).1) hi) 73 [some (.ref 41), some (.int (zI (lt σ))), some (.int (zI (blN σ 11).1)), some (.int (zI y)), some (.int (zI z)), none] [] h hl := by
    intro v h o5 y z hB he
    refine wp_aload_n d_MO_bestLate_73 rfl ?_
    refine wp_iload_n d_MO_bestLate_74 rfl ?_
    refine wp_putI d_MO_bestLate_75 f_MO_129 pk_MO_12 (by decide) rfl rfl ?_
    refine wp_iload_n d_MO_bestLate_78 rfl ?_
    have h2 := AM_03 (v := lt σ) hB
    rw [up_up, show up σ 0 3 (lt σ) = σ from up_self σ 0 3] at h2
    exact wp_iret d_MO_bestLate_79 (Or.inl rfl) (⟨rfl, h2, fun c hc => by rw [setI_ne _ _ _ (by omega)]; exact he c hc⟩)
  have loop : ∀ k i, i + k = 11 → ∀ (v : Nat) (h : HI), v ≤ 99 → AM (up σ 0 3 v) h → (∀ c, c < 41 → h c = hi c) → Wp M_MO_bestLate 9 (pM σ (zI (blN σ 11).1) hi) 12 [some (.ref 41), some (.int (zI (lt σ))), some (.int (zI (blN σ i).1)), some (.int (zI (blN σ i).2)), some (.int (zI ((i : Int) + 1))), none] [] h hl := by
    intro k
    induction k with
    | zero =>
      intro i hik v h hv hB he
      refine wp_iload d_MO_bestLate_12 rfl ?_
      refine wp_bipush (v := zI 12) d_MO_bestLate_14 rfl ?_
      refine wz_icmp_ge (tgt := 73) d_MO_bestLate_16 (by decide) (by omega) (by omega) (fun h16 => ?_) (fun h16 => ?_)
      · have := hend v h none (blN σ i).2 ((i : Int) + 1) hB he
        rw [show i = 11 by omega] at this ⊢
        exact this
      · exact absurd h16 (by omega)
    | succ k ih =>
      intro i hik v h hv hB he
      have b1 := blN_b ok i (by omega)
      have b2 := tot_b ok (i + 1)
      refine wp_iload d_MO_bestLate_12 rfl ?_
      refine wp_bipush (v := zI 12) d_MO_bestLate_14 rfl ?_
      refine wz_icmp_ge (tgt := 73) d_MO_bestLate_16 (by decide) (by omega) (by omega) (fun h16 => ?_) (fun h16 => ?_)
      · exact absurd h16 (by omega)
      · refine wp_aload_n d_MO_bestLate_19 rfl ?_
        refine wp_iload d_MO_bestLate_20 rfl ?_
        refine wp_putI d_MO_bestLate_22 f_MO_129 pk_MO_12 (by decide) rfl rfl ?_
        refine wp_aload_n d_MO_bestLate_25 rfl ?_
        have hC : AM (up σ 0 3 (i + 1)) (setI h 41 12 (zI ((i + 1 : Nat) : Int))) := by
          have := AM_03 (v := i + 1) hB
          rw [up_up] at this
          exact this
        refine wp_callV (ct_MO_totalOf (σ := up σ 0 3 (i + 1)) (Ok_03 ok (by omega)) hC) d_MO_bestLate_26 k_MO_166 (by decide) rfl rfl rfl rfl (Nat.le_of_ble_eq_true rfl) (by omega) ?_
        rintro _ h2 _ ⟨rfl, rfl, he2⟩
        rw [show tot (up σ 0 3 (i + 1)) (lt (up σ 0 3 (i + 1))) = tot σ (i + 1) from tot_lt0 σ (i + 1) (i + 1)]
        have hD : AM (up σ 0 3 (i + 1)) h2 := hC.keepS he2
        have he3 : ∀ c, c < 41 → h2 c = hi c := fun c hc => by rw [he2 c (by omega) (by omega), setI_ne _ _ _ (by omega)]; exact he c hc
        have := ih (i + 1) (by omega) (i + 1) h2 (by omega) hD he3
        refine wp_istore (lv' := [_, _, _, _, _, _]) d_MO_bestLate_29 (by decide) rfl ?_
        refine wp_iload d_MO_bestLate_31 rfl ?_
        refine wz_if_eq (tgt := 42) d_MO_bestLate_33 (by decide) (by omega) (fun h33 => ?_) (fun h33 => ?_)
        · exact absurd h33 (by omega)
        · refine wp_iload d_MO_bestLate_36 rfl ?_
          refine wp_iload_n d_MO_bestLate_38 rfl ?_
          refine wz_icmp_ge (tgt := 47) d_MO_bestLate_39 (by decide) (by omega) (by omega) (fun h39 => ?_) (fun h39 => ?_)
          · have e : blN σ (i + 1) = blN σ i := by rw [blN, if_neg (by omega)]
            rw [e] at this
            refine wp_iload_n d_MO_bestLate_47 rfl ?_
            refine wp_istore_n (lv' := [_, _, _, _, _, _]) d_MO_bestLate_48 (by decide) rfl ?_
            refine wp_iload d_MO_bestLate_49 rfl ?_
            refine wz_if_eq (tgt := 60) d_MO_bestLate_51 (by decide) (by omega) (fun h51 => ?_) (fun h51 => ?_)
            · exact absurd h51 (by omega)
            · refine wp_iload d_MO_bestLate_54 rfl ?_
              refine wp_iload_n d_MO_bestLate_56 rfl ?_
              refine wz_icmp_ge (tgt := 65) d_MO_bestLate_57 (by decide) (by omega) (by omega) (fun h57 => ?_) (fun h57 => ?_)
              · refine wp_iload_n d_MO_bestLate_65 rfl ?_
                refine wp_istore_n (lv' := [_, _, _, _, _, _]) d_MO_bestLate_66 (by decide) rfl ?_
                refine wz_iinc (lv' := [_, _, _, _, _, _]) d_MO_bestLate_67 rfl (by decide) rfl ?_
                refine wp_goto (tgt := 12) d_MO_bestLate_70 (by decide) ?_
                refine wp_drop (lv' := [some _, some _, some _, some _, some _, none]) ⟨rfl, rfl, rfl, rfl, rfl, trivial⟩ ?_
                exact this
              · exact absurd h57 (by omega)
          · have e : blN σ (i + 1) = ((i : Int) + 1, tot σ (i + 1)) := by rw [blN, if_pos (by omega)]
            rw [e] at this
            refine wp_iload d_MO_bestLate_42 rfl ?_
            refine wp_goto (tgt := 48) d_MO_bestLate_44 (by decide) ?_
            refine wp_istore_n (lv' := [_, _, _, _, _, _]) d_MO_bestLate_48 (by decide) rfl ?_
            refine wp_iload d_MO_bestLate_49 rfl ?_
            refine wz_if_eq (tgt := 60) d_MO_bestLate_51 (by decide) (by omega) (fun h51 => ?_) (fun h51 => ?_)
            · exact absurd h51 (by omega)
            · refine wp_iload d_MO_bestLate_54 rfl ?_
              refine wp_iload_n d_MO_bestLate_56 rfl ?_
              refine wz_icmp_ge (tgt := 65) d_MO_bestLate_57 (by decide) (by omega) (by omega) (fun h57 => ?_) (fun h57 => ?_)
              · exact absurd h57 (by omega)
              · refine wp_iload d_MO_bestLate_60 rfl ?_
                refine wp_goto (tgt := 66) d_MO_bestLate_62 (by decide) ?_
                refine wp_istore_n (lv' := [_, _, _, _, _, _]) d_MO_bestLate_66 (by decide) rfl ?_
                refine wz_iinc (lv' := [_, _, _, _, _, _]) d_MO_bestLate_67 rfl (by decide) rfl ?_
                refine wp_goto (tgt := 12) d_MO_bestLate_70 (by decide) ?_
                refine wp_drop (lv' := [some _, some _, some _, some _, some _, none]) ⟨rfl, rfl, rfl, rfl, rfl, trivial⟩ ?_
                exact this
  have b2 := tot_b ok 0
  refine ct_intro (lv := [_, _, _, _, _, _]) (by decide +kernel) (Nat.le_of_ble_eq_true rfl) rfl ?_
  refine wp_aload_n d_MO_bestLate_0 rfl ?_
  refine wz_getI (hA.late) d_MO_bestLate_1 f_MO_129 (by decide) rfl rfl ?_
  refine wp_istore_n (lv' := [_, _, _, _, _, _]) d_MO_bestLate_4 (by decide) rfl ?_
  refine wp_iconst (v := zI 0) d_MO_bestLate_5 rfl ?_
  refine wp_istore_n (lv' := [_, _, _, _, _, _]) d_MO_bestLate_6 (by decide) rfl ?_
  refine wp_iconst (v := zI 0) d_MO_bestLate_7 rfl ?_
  refine wp_istore_n (lv' := [_, _, _, _, _, _]) d_MO_bestLate_8 (by decide) rfl ?_
  refine wp_iconst (v := zI 0) d_MO_bestLate_9 rfl ?_
  refine wp_istore (lv' := [_, _, _, _, _, _]) d_MO_bestLate_10 (by decide) rfl ?_
  refine wp_iload d_MO_bestLate_12 rfl ?_
  refine wp_bipush (v := zI 12) d_MO_bestLate_14 rfl ?_
  refine wz_icmp_ge (tgt := 73) d_MO_bestLate_16 (by decide) (by omega) (by omega) (fun h16 => ?_) (fun h16 => ?_)
  · exact absurd h16 (by omega)
  · refine wp_aload_n d_MO_bestLate_19 rfl ?_
    refine wp_iload d_MO_bestLate_20 rfl ?_
    refine wp_putI d_MO_bestLate_22 f_MO_129 pk_MO_12 (by decide) rfl rfl ?_
    refine wp_aload_n d_MO_bestLate_25 rfl ?_
    have hC : AM (up σ 0 3 0) (setI hi 41 12 (zI ((0 : Nat) : Int))) := AM_03 (v := 0) hA
    refine wp_callV (ct_MO_totalOf (σ := up σ 0 3 0) (Ok_03 ok (by omega)) hC) d_MO_bestLate_26 k_MO_166 (by decide) rfl rfl rfl rfl (Nat.le_of_ble_eq_true rfl) (by omega) ?_
    rintro _ h2 _ ⟨rfl, rfl, he2⟩
    rw [show tot (up σ 0 3 0) (lt (up σ 0 3 0)) = tot σ 0 from tot_lt0 σ 0 0]
    have hD : AM (up σ 0 3 0) h2 := hC.keepS he2
    refine wp_istore (lv' := [_, _, _, _, _, _]) d_MO_bestLate_29 (by decide) rfl ?_
    refine wp_iload d_MO_bestLate_31 rfl ?_
    refine wz_if_eq (tgt := 42) d_MO_bestLate_33 (by decide) (by omega) (fun h33 => ?_) (fun h33 => ?_)
    · refine wp_iload d_MO_bestLate_42 rfl ?_
      refine wp_goto (tgt := 48) d_MO_bestLate_44 (by decide) ?_
      refine wp_istore_n (lv' := [_, _, _, _, _, _]) d_MO_bestLate_48 (by decide) rfl ?_
      refine wp_iload d_MO_bestLate_49 rfl ?_
      refine wz_if_eq (tgt := 60) d_MO_bestLate_51 (by decide) (by omega) (fun h51 => ?_) (fun h51 => ?_)
      · refine wp_iload d_MO_bestLate_60 rfl ?_
        refine wp_goto (tgt := 66) d_MO_bestLate_62 (by decide) ?_
        refine wp_istore_n (lv' := [_, _, _, _, _, _]) d_MO_bestLate_66 (by decide) rfl ?_
        refine wz_iinc (lv' := [_, _, _, _, _, _]) d_MO_bestLate_67 rfl (by decide) rfl ?_
        refine wp_goto (tgt := 12) d_MO_bestLate_70 (by decide) ?_
        refine wp_drop (lv' := [some _, some _, some _, some _, some _, none]) ⟨rfl, rfl, rfl, rfl, rfl, trivial⟩ ?_
        exact loop 11 0 (by omega) 0 h2 (by omega) hD (fun c hc => by rw [he2 c (by omega) (by omega), setI_ne _ _ _ (by omega)])
      · exact absurd rfl h51
    · exact absurd rfl h33
theorem cm_needed (ok : Ok σ) (hA : AM σ hi) (ha : inR a) : Ct M_MO_needed 9 [.ref 41, .int (zI a)] hi hl (pM σ (zI (r_needed σ a)) hi) := by
  have hn := ok.nums
  refine ct_intro (lv := [_, _, _, _]) (by decide +kernel) (Nat.le_of_ble_eq_true rfl) rfl ?_
  refine wp_aload_n d_MO_needed_0 rfl ?_
  refine wp_iload_n d_MO_needed_1 rfl ?_
  refine wp_callV (ct_MO_isPerson ok hA ha) d_MO_needed_2 k_MO_142 (by decide) rfl rfl rfl rfl (Nat.le_of_ble_eq_true rfl) (by omega) ?_
  rintro _ _ _ ⟨rfl, rfl, rfl⟩
  refine wz_if_neB (tgt := 10) d_MO_needed_5 (by decide) (fun h5 => ?_) (fun h5 => ?_)
  · obtain ⟨m, rfl, hm⟩ := toN h5
    have hmm := ok.m hm
    refine wp_aload_n d_MO_needed_10 rfl ?_
    refine wp_getR d_MO_needed_11 f_MO_22 (by decide) rfl rfl ?_
    refine wp_iconst (v := zI 5) d_MO_needed_14 rfl ?_
    refine wp_iload_n d_MO_needed_15 rfl ?_
    refine wz_imul d_MO_needed_16 ?_
    refine wp_iconst (v := zI 2) d_MO_needed_17 rfl ?_
    refine wz_iadd d_MO_needed_18 ?_
    refine wz_iald (hA.pl hm) ((by omega)) ((by omega)) d_MO_needed_19 (by decide) rfl (by decide) ?_
    refine wp_istore_n (lv' := [_, _, _, _]) d_MO_needed_20 (by decide) rfl ?_
    refine wp_aload_n d_MO_needed_21 rfl ?_
    refine wp_iload_n d_MO_needed_22 rfl ?_
    refine wp_callV (ct_MO_sitters (p := pl σ m) 0 ok hA (by omega)) d_MO_needed_23 k_MO_160 (by decide) rfl rfl rfl rfl (Nat.le_of_ble_eq_true rfl) (by omega) ?_
    rintro _ _ _ ⟨rfl, rfl, rfl⟩
    refine wp_istore_n (lv' := [_, _, _, _]) d_MO_needed_26 (by decide) rfl ?_
    refine wp_aload_n d_MO_needed_27 rfl ?_
    refine wp_iload_n d_MO_needed_28 rfl ?_
    refine wp_iload_n d_MO_needed_29 rfl ?_
    refine wp_iconst (v := zI 1) d_MO_needed_30 rfl ?_
    refine wp_iload_n d_MO_needed_31 rfl ?_
    refine wp_ishl d_MO_needed_32 ?_
    refine wp_iconst (v := zI (-1)) d_MO_needed_33 rfl ?_
    refine wp_ixor d_MO_needed_34 ?_
    refine wp_iand d_MO_needed_35 ?_
    refine wz_top (zI_wo (n := sit σ (pl σ m)) (m := m) (sit_lt ok _) (by omega)) ?_
    refine wp_callV (ct_MO_blow (p := pl σ m) (set := wo (sit σ (pl σ m)) m) ok hA hmm.2.2.2.2.1 (wo_lt m (sit_lt ok _))) d_MO_needed_36 k_MO_163 (by decide) rfl rfl rfl rfl (Nat.le_of_ble_eq_true rfl) (by omega) ?_
    rintro _ h2 _ ⟨rfl, rfl, he2, -, -⟩
    have hA2 : AM σ h2 := hA.keepS he2
    refine wp_aload_n d_MO_needed_39 rfl ?_
    refine wp_iload_n d_MO_needed_40 rfl ?_
    refine wp_iload_n d_MO_needed_41 rfl ?_
    refine wp_callV (ct_MO_blow (p := pl σ m) (set := sit σ (pl σ m)) ok hA2 hmm.2.2.2.2.1 (sit_lt ok _)) d_MO_needed_42 k_MO_163 (by decide) rfl rfl rfl rfl (Nat.le_of_ble_eq_true rfl) (by omega) ?_
    rintro _ h3 _ ⟨rfl, rfl, he3, -, -⟩
    have he4 : ∀ c, c ≠ 49 → c ≠ 50 → h3 c = hi c := fun c q1 q2 => by rw [he3 c q1 q2, he2 c q1 q2]
    refine wz_isub d_MO_needed_45 ?_
    exact wp_iret d_MO_needed_46 (Or.inl rfl) (⟨by rw [r_needed, if_pos h5, nC], hA.keepS he4, fun c hc => he4 c (by omega) (by omega)⟩)
  · refine wp_iconst (v := zI (-1)) d_MO_needed_8 rfl ?_
    exact wp_iret d_MO_needed_9 (Or.inl rfl) (pM_of hA (by rw [r_needed, if_neg h5]))
def foP (σ : SG) (p : Nat) : Nat → Nat
  | 0 => 0
  | n + 1 => foP σ p n + (if pl σ n = p then fo σ n else 0)
theorem foP_eq (σ : SG) (p : Nat) : ∀ n, n ≤ nM σ → forN σ (sit σ p) n = foP σ p n
  | 0, _ => rfl
  | n + 1, h => by
    rw [forN, foP, foP_eq σ p n (by omega)]
    have := sitN_bit σ p n (nM σ)
    congr 1
    by_cases q : pl σ n = p
    · rw [if_pos q, if_pos]
      unfold sit
      rw [this]
      simp [q]
      omega
    · rw [if_neg q, if_neg]
      unfold sit
      rw [this]
      simp [q]
theorem foP_le (ok : Ok σ) (p : Nat) : ∀ n, n ≤ nM σ → foP σ p n ≤ 3 * n
  | 0, _ => by simp [foP]
  | n + 1, h => by
    have h1 := foP_le ok p n (by omega)
    have h2 := ok.m (m := n) (by omega)
    rw [foP]
    split <;> omega
theorem cm_never (ok : Ok σ) (hA : AM σ hi) : Ct M_MO_never 9 [.ref 41] hi hl (pM σ (zI (nvB σ (nB σ) 0)) hi) := by
  have hn := ok.nums
  have force : ∀ j p, p < nP σ → Wp M_MO_never 9 (pM σ (zI (nvB σ (nB σ) 0)) hi) 76 [some (.ref 41), some (.int (zI j)), some (.int (zI p)), some (.int (zI ((rm σ : Int) + foP σ p (nM σ)))), none] [] hi hl →
      ∀ k i, i + k = nM σ → Wp M_MO_never 9 (pM σ (zI (nvB σ (nB σ) 0)) hi) 28 [some (.ref 41), some (.int (zI j)), some (.int (zI p)), some (.int (zI ((rm σ : Int) + foP σ p i))), some (.int (zI i))] [] hi hl := by
    intro j p hpp hex k
    induction k with
    | zero =>
      intro i hik
      refine wp_iload d_MO_never_28 rfl ?_
      refine wp_aload_n d_MO_never_30 rfl ?_
      refine wz_getI (hA.n) d_MO_never_31 f_MO_123 (by decide) rfl rfl ?_
      refine wz_icmp_ge (tgt := 76) d_MO_never_34 (by decide) (by omega) (by omega) (fun h34 => ?_) (fun h34 => ?_)
      · refine wp_drop (lv' := [some _, some _, some _, some _, none]) ⟨rfl, rfl, rfl, rfl, trivial⟩ ?_
        rw [← hik] at hex
        exact hex
      · exact absurd h34 (by omega)
    | succ k ih =>
      intro i hik
      have hmm := ok.m (m := i) (by omega)
      have := ih (i + 1) (by omega)
      refine wp_iload d_MO_never_28 rfl ?_
      refine wp_aload_n d_MO_never_30 rfl ?_
      refine wz_getI (hA.n) d_MO_never_31 f_MO_123 (by decide) rfl rfl ?_
      refine wz_icmp_ge (tgt := 76) d_MO_never_34 (by decide) (by omega) (by omega) (fun h34 => ?_) (fun h34 => ?_)
      · exact absurd h34 (by omega)
      · refine wp_iload_n d_MO_never_37 rfl ?_
        refine wp_aload_n d_MO_never_38 rfl ?_
        refine wp_getR d_MO_never_39 f_MO_22 (by decide) rfl rfl ?_
        refine wp_iconst (v := zI 5) d_MO_never_42 rfl ?_
        refine wp_iload d_MO_never_43 rfl ?_
        refine wz_imul d_MO_never_45 ?_
        refine wp_iconst (v := zI 2) d_MO_never_46 rfl ?_
        refine wz_iadd d_MO_never_47 ?_
        refine wz_iald (hA.pl (m := i) (by omega)) ((by omega)) ((by omega)) d_MO_never_48 (by decide) rfl (by decide) ?_
        refine wp_iload_n d_MO_never_49 rfl ?_
        refine wz_icmp_ne (tgt := 67) d_MO_never_50 (by decide) (by omega) (by omega) (fun h50 => ?_) (fun h50 => ?_)
        · refine wp_iconst (v := zI 0) d_MO_never_67 rfl ?_
          refine wz_iadd d_MO_never_68 ?_
          refine wp_istore_n (lv' := [_, _, _, _, _]) d_MO_never_69 (by decide) rfl ?_
          refine wz_iinc (lv' := [_, _, _, _, _]) d_MO_never_70 rfl (by decide) rfl ?_
          refine wp_goto (tgt := 28) d_MO_never_73 (by decide) ?_
          rw [foP, if_neg (by omega), Nat.add_zero] at this
          rw [Int.add_zero]
          exact this
        · refine wp_aload_n d_MO_never_53 rfl ?_
          refine wp_getR d_MO_never_54 f_MO_22 (by decide) rfl rfl ?_
          refine wp_iconst (v := zI 5) d_MO_never_57 rfl ?_
          refine wp_iload d_MO_never_58 rfl ?_
          refine wz_imul d_MO_never_60 ?_
          refine wp_iconst (v := zI 1) d_MO_never_61 rfl ?_
          refine wz_iadd d_MO_never_62 ?_
          refine wz_iald (hA.fo (m := i) (by omega)) ((by omega)) ((by omega)) d_MO_never_63 (by decide) rfl (by decide) ?_
          refine wp_goto (tgt := 68) d_MO_never_64 (by decide) ?_
          refine wz_iadd d_MO_never_68 ?_
          refine wp_istore_n (lv' := [_, _, _, _, _]) d_MO_never_69 (by decide) rfl ?_
          refine wz_iinc (lv' := [_, _, _, _, _]) d_MO_never_70 rfl (by decide) rfl ?_
          refine wp_goto (tgt := 28) d_MO_never_73 (by decide) ?_
          rw [foP, if_pos (by omega)] at this
          rw [show (rm σ : Int) + (foP σ p i : Int) + (fo σ i : Int) = (rm σ : Int) + ((foP σ p i + fo σ i : Nat) : Int) by omega]
          exact this
  have inner : ∀ j, j < nB σ → (nvP σ j (nP σ) 0 = -9 → Wp M_MO_never 9 (pM σ (zI (nvB σ (nB σ) 0)) hi) 113 [some (.ref 41), some (.int (zI j)), none, none, none] [] hi hl) → (nvP σ j (nP σ) 0 ≠ -9 → nvB σ (nB σ) 0 = nvP σ j (nP σ) 0) →
      ∀ k i, i + k = nP σ → nvP σ j (nP σ) 0 = nvP σ j k i → Wp M_MO_never 9 (pM σ (zI (nvB σ (nB σ) 0)) hi) 12 [some (.ref 41), some (.int (zI j)), some (.int (zI i)), none, none] [] hi hl := by
    intro j hj hex hres k
    induction k with
    | zero =>
      intro i hik e
      refine wp_iload_n d_MO_never_12 rfl ?_
      refine wp_aload_n d_MO_never_13 rfl ?_
      refine wz_getI (hA.np) d_MO_never_14 f_MO_69 (by decide) rfl rfl ?_
      refine wz_icmp_ge (tgt := 113) d_MO_never_17 (by decide) (by omega) (by omega) (fun h17 => ?_) (fun h17 => ?_)
      · refine wp_drop (lv' := [some _, some _, none, none, none]) ⟨rfl, rfl, trivial⟩ ?_
        exact hex (by rw [e]; rfl)
      · exact absurd h17 (by omega)
    | succ k ih =>
      intro i hik e
      have b1 := foP_le ok i (nM σ) (Nat.le_refl _)
      have b2 := ok.dr (p := i) (by omega)
      have b3 : forS σ (sit σ i) = foP σ i (nM σ) := foP_eq σ i (nM σ) (Nat.le_refl _)
      have hsn := ok.sn hj
      refine wp_iload_n d_MO_never_12 rfl ?_
      refine wp_aload_n d_MO_never_13 rfl ?_
      refine wz_getI (hA.np) d_MO_never_14 f_MO_69 (by decide) rfl rfl ?_
      refine wz_icmp_ge (tgt := 113) d_MO_never_17 (by decide) (by omega) (by omega) (fun h17 => ?_) (fun h17 => ?_)
      · exact absurd h17 (by omega)
      · refine wp_aload_n d_MO_never_20 rfl ?_
        refine wz_getI (hA.room) d_MO_never_21 f_MO_132 (by decide) rfl rfl ?_
        refine wp_istore_n (lv' := [_, _, _, _, _]) d_MO_never_24 (by decide) rfl ?_
        refine wp_iconst (v := zI 0) d_MO_never_25 rfl ?_
        refine wp_istore (lv' := [_, _, _, _, _]) d_MO_never_26 (by decide) rfl ?_
        have start := force j i (by omega) ?_ (nM σ) 0 (by omega)
        · rw [show (rm σ : Int) + (foP σ i 0 : Int) = (rm σ : Int) from Int.add_zero _] at start
          exact start
        · refine wp_aload_n d_MO_never_76 rfl ?_
          refine wp_getR d_MO_never_77 f_MO_25 (by decide) rfl rfl ?_
          refine wp_iload_n d_MO_never_80 rfl ?_
          refine wz_iald (hA.sn hj) (rfl) ((by omega)) d_MO_never_81 (by decide) rfl (by decide) ?_
          refine wp_iload_n d_MO_never_82 rfl ?_
          refine wp_ishr d_MO_never_83 ?_
          refine wp_iconst (v := zI 1) d_MO_never_84 rfl ?_
          refine wp_iand d_MO_never_85 ?_
          rw [zI_bit (by omega) (by omega)]
          refine wp_iconst (v := zI 1) d_MO_never_86 rfl ?_
          refine wp_icmp_ne (tgt := 107) d_MO_never_87 (by decide) (fun h87 => ?_) (fun h87 => ?_)
          · refine wp_drop (lv' := [some _, some _, some _, none, none]) ⟨rfl, rfl, rfl, trivial⟩ ?_
            refine wz_iinc (lv' := [_, _, _, _, _]) d_MO_never_107 rfl (by decide) rfl ?_
            refine wp_goto (tgt := 12) d_MO_never_110 (by decide) ?_
            exact ih (i + 1) (by omega) (by rw [e, nvP, if_neg (fun q => h87 (bI_t q.1))])
          · have q : (sn σ j).testBit i = true := Decidable.byContradiction fun q => by rw [bI_f q] at h87; exact absurd h87 (by decide)
            refine wp_aload_n d_MO_never_90 rfl ?_
            refine wp_getR d_MO_never_91 f_MO_19 (by decide) rfl rfl ?_
            refine wp_iload_n d_MO_never_94 rfl ?_
            refine wz_iald (hA.dr (p := i) (by omega)) (rfl) ((by omega)) d_MO_never_95 (by decide) rfl (by decide) ?_
            refine wp_iload_n d_MO_never_96 rfl ?_
            refine wz_icmp_le (tgt := 107) d_MO_never_97 (by decide) (by omega) (by omega) (fun h97 => ?_) (fun h97 => ?_)
            · refine wp_drop (lv' := [some _, some _, some _, none, none]) ⟨rfl, rfl, rfl, trivial⟩ ?_
              refine wz_iinc (lv' := [_, _, _, _, _]) d_MO_never_107 rfl (by decide) rfl ?_
              refine wp_goto (tgt := 12) d_MO_never_110 (by decide) ?_
              exact ih (i + 1) (by omega) (by rw [e, nvP, if_neg (by omega)])
            · have e2 : nvP σ j (nP σ) 0 = 10 * (j : Int) + i := by rw [e, nvP, if_pos ⟨q, by omega⟩]
              refine wp_bipush (v := zI 10) d_MO_never_100 rfl ?_
              refine wp_iload_n d_MO_never_102 rfl ?_
              refine wz_imul d_MO_never_103 ?_
              refine wp_iload_n d_MO_never_104 rfl ?_
              refine wz_iadd d_MO_never_105 ?_
              exact wp_iret d_MO_never_106 (Or.inl rfl) (pM_of hA (by rw [hres (by omega), e2]))
  have outer : ∀ k j, j + k = nB σ → nvB σ (nB σ) 0 = nvB σ k j → Wp M_MO_never 9 (pM σ (zI (nvB σ (nB σ) 0)) hi) 2 [some (.ref 41), some (.int (zI j)), none, none, none] [] hi hl := by
    intro k
    induction k with
    | zero =>
      intro j hjk e
      refine wp_iload_n d_MO_never_2 rfl ?_
      refine wp_aload_n d_MO_never_3 rfl ?_
      refine wz_getI (hA.nb) d_MO_never_4 f_MO_126 (by decide) rfl rfl ?_
      refine wz_icmp_ge (tgt := 119) d_MO_never_7 (by decide) (by omega) (by omega) (fun h7 => ?_) (fun h7 => ?_)
      · refine wp_bipush (v := zI (-9)) d_MO_never_119 rfl ?_
        exact wp_iret d_MO_never_121 (Or.inl rfl) (pM_of hA (by rw [e]; rfl))
      · exact absurd h7 (by omega)
    | succ k ih =>
      intro j hjk e
      refine wp_iload_n d_MO_never_2 rfl ?_
      refine wp_aload_n d_MO_never_3 rfl ?_
      refine wz_getI (hA.nb) d_MO_never_4 f_MO_126 (by decide) rfl rfl ?_
      refine wz_icmp_ge (tgt := 119) d_MO_never_7 (by decide) (by omega) (by omega) (fun h7 => ?_) (fun h7 => ?_)
      · exact absurd h7 (by omega)
      · refine wp_iconst (v := zI 0) d_MO_never_10 rfl ?_
        refine wp_istore_n (lv' := [_, _, _, _, _]) d_MO_never_11 (by decide) rfl ?_
        refine inner j (by omega) (fun h9 => ?_) (fun h9 => ?_) (nP σ) 0 (by omega) rfl
        · refine wz_iinc (lv' := [_, _, _, _, _]) d_MO_never_113 rfl (by decide) rfl ?_
          refine wp_goto (tgt := 2) d_MO_never_116 (by decide) ?_
          exact ih (j + 1) (by omega) (by rw [e, nvB, if_pos h9])
        · rw [e, nvB, if_neg h9]
  refine ct_intro (lv := [_, _, _, _, _]) (by decide +kernel) (Nat.le_of_ble_eq_true rfl) rfl ?_
  refine wp_iconst (v := zI 0) d_MO_never_0 rfl ?_
  refine wp_istore_n (lv' := [_, _, _, _, _]) d_MO_never_1 (by decide) rfl ?_
  exact outer (nB σ) 0 (by omega) rfl
end REFB
