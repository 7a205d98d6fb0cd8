/-! The reference's calls: the organ, told, a mass -/
section REFA
variable {σ : SG} {hi : HI} {hl : HL} {a b : Int}
theorem AM.keepS {σ : SG} {hi hi' : HI} (h : AM σ hi) (e : ∀ c, c ≠ 49 → c ≠ 50 → hi' c = hi c) : AM σ hi' := h.keep (fun f _ _ => by rw [e 41 (by omega) (by omega)]) (fun c _ => e c (by omega) (by omega))
theorem AM.n (h : AM σ hi) : hi 41 10 = zI (nM σ) := h.1.1
theorem AM.late (h : AM σ hi) : hi 41 12 = zI (lt σ) := h.1.2.1
theorem AM.room (h : AM σ hi) : hi 41 13 = zI (rm σ) := h.1.2.2.1
theorem AM.lu (h : AM σ hi) {m : Nat} (hm : m < nM σ) : hi 46 (5 * m) = zI (lu σ m) := h.1.2.2.2.1 m hm
theorem AM.fo (h : AM σ hi) {m : Nat} (hm : m < nM σ) : hi 46 (5 * m + 1) = zI (fo σ m) := h.1.2.2.2.2.1 m hm
theorem AM.pl (h : AM σ hi) {m : Nat} (hm : m < nM σ) : hi 46 (5 * m + 2) = zI (pl σ m) := h.1.2.2.2.2.2.1 m hm
theorem AM.ph (h : AM σ hi) {m : Nat} (hm : m < nM σ) : hi 46 (5 * m + 3) = zI (ph σ m) := h.1.2.2.2.2.2.2.1 m hm
theorem AM.br (h : AM σ hi) {m : Nat} (hm : m < nM σ) : hi 46 (5 * m + 4) = zI (br σ m) := h.1.2.2.2.2.2.2.2 m hm
theorem AM.np (h : AM σ hi) : hi 41 9 = zI (nP σ) := h.2.1.1
theorem AM.nb (h : AM σ hi) : hi 41 11 = zI (nB σ) := h.2.1.2.1
theorem AM.dr (h : AM σ hi) {p : Nat} (hm : p < nP σ) : hi 45 p = zI (dr σ p) := h.2.1.2.2.1 p hm
theorem AM.sn (h : AM σ hi) {j : Nat} (hm : j < nB σ) : hi 47 j = zI (sn σ j) := h.2.1.2.2.2 j hm
theorem AM.tl (h : AM σ hi) : hi 41 15 = zI (tl σ) := h.2.2.1.1
theorem ct_MO_in {x y z : Int} (d : Nat) (hx : inL x) (hy : inL y) (hz : inL z) : Ct M_MO_in d [.long (lZ x), .long (lZ y), .long (lZ z)] hi hl (ans (bI (y ≤ x ∧ x ≤ z)) hi hl) := by
  refine ct_intro (lv := [_, _, _, _, _, _]) (by decide +kernel) (Nat.le_of_ble_eq_true rfl) rfl ?_
  refine wp_lload_n d_MO_in_0 rfl ?_
  refine wp_lload_n d_MO_in_1 rfl ?_
  refine wz_lcmp d_MO_in_2 (by omega) (by omega) ?_
  refine wz_if_lt (tgt := 17) d_MO_in_3 (by decide) (by repeat' split; all_goals omega) (fun h3 => ?_) (fun h3 => ?_)
  · have q : x < y := by
      split at h3
      · omega
      · split at h3 <;> omega
    refine wp_iconst (v := zI 0) d_MO_in_17 rfl ?_
    exact wp_iret d_MO_in_18 (Or.inr ⟨rfl, by first | exact bI_01 _ | exact Or.inl rfl | exact Or.inr rfl⟩) (ans_f (by omega))
  · have q : y ≤ x := by
      split at h3
      · omega
      · split at h3 <;> omega
    refine wp_lload_n d_MO_in_6 rfl ?_
    refine wp_lload d_MO_in_7 rfl ?_
    refine wz_lcmp d_MO_in_9 (by omega) (by omega) ?_
    refine wz_if_gt (tgt := 17) d_MO_in_10 (by decide) (by repeat' split; all_goals omega) (fun h10 => ?_) (fun h10 => ?_)
    · have q : z < x := by
        split at h10
        · omega
        · split at h10 <;> omega
      refine wp_iconst (v := zI 0) d_MO_in_17 rfl ?_
      exact wp_iret d_MO_in_18 (Or.inr ⟨rfl, by first | exact bI_01 _ | exact Or.inl rfl | exact Or.inr rfl⟩) (ans_f (by omega))
    · have q : x ≤ z := by
        split at h10
        · omega
        · split at h10 <;> omega
      refine wp_iconst (v := zI 1) d_MO_in_13 rfl ?_
      refine wp_goto (tgt := 18) d_MO_in_14 (by decide) ?_
      exact wp_iret d_MO_in_18 (Or.inr ⟨rfl, by first | exact bI_01 _ | exact Or.inl rfl | exact Or.inr rfl⟩) (ans_t (by omega))
theorem ct_MO_isPipe (ok : Ok σ) (hA : AM σ hi) (ha : inR a) : Ct M_MO_isPipe 1 [.ref 41, .int (zI a)] hi hl (ans (bI (inP σ a)) hi hl) := by
  have hn := ok.nums
  refine ct_intro (lv := [_, _]) (by decide +kernel) (Nat.le_of_ble_eq_true rfl) rfl ?_
  refine wp_iload_n d_MO_isPipe_0 rfl ?_
  refine wz_i2l d_MO_isPipe_1 (by omega) ?_
  refine wp_lconst (v := lZ 0) d_MO_isPipe_2 rfl ?_
  refine wp_aload_n d_MO_isPipe_3 rfl ?_
  refine wz_getI (hA.np) d_MO_isPipe_4 f_MO_69 (by decide) rfl rfl ?_
  refine wp_iconst (v := zI 1) d_MO_isPipe_7 rfl ?_
  refine wz_isub d_MO_isPipe_8 ?_
  refine wz_i2l d_MO_isPipe_9 (by omega) ?_
  refine wp_callS (ct_MO_in (x := a) (y := 0) (z := (nP σ : Int) - 1) 0 (by omega) (by omega) (by omega)) d_MO_isPipe_10 k_MO_75 rfl rfl (Nat.le_of_ble_eq_true rfl) (by omega) ?_
  rintro _ _ _ ⟨rfl, rfl, rfl⟩
  exact wp_iret d_MO_isPipe_13 (Or.inr ⟨rfl, by first | exact bI_01 _ | exact Or.inl rfl | exact Or.inr rfl⟩) (ans_of (bI_cong (by omega)))
theorem ct_MO_isPerson (ok : Ok σ) (hA : AM σ hi) (ha : inR a) : Ct M_MO_isPerson 1 [.ref 41, .int (zI a)] hi hl (ans (bI (inM σ a)) hi hl) := by
  have hn := ok.nums
  refine ct_intro (lv := [_, _]) (by decide +kernel) (Nat.le_of_ble_eq_true rfl) rfl ?_
  refine wp_iload_n d_MO_isPerson_0 rfl ?_
  refine wz_i2l d_MO_isPerson_1 (by omega) ?_
  refine wp_lconst (v := lZ 0) d_MO_isPerson_2 rfl ?_
  refine wp_aload_n d_MO_isPerson_3 rfl ?_
  refine wz_getI (hA.n) d_MO_isPerson_4 f_MO_123 (by decide) rfl rfl ?_
  refine wp_iconst (v := zI 1) d_MO_isPerson_7 rfl ?_
  refine wz_isub d_MO_isPerson_8 ?_
  refine wz_i2l d_MO_isPerson_9 (by omega) ?_
  refine wp_callS (ct_MO_in (x := a) (y := 0) (z := (nM σ : Int) - 1) 0 (by omega) (by omega) (by omega)) d_MO_isPerson_10 k_MO_75 rfl rfl (Nat.le_of_ble_eq_true rfl) (by omega) ?_
  rintro _ _ _ ⟨rfl, rfl, rfl⟩
  exact wp_iret d_MO_isPerson_13 (Or.inr ⟨rfl, by first | exact bI_01 _ | exact Or.inl rfl | exact Or.inr rfl⟩) (ans_of (bI_cong (by omega)))
theorem ct_MO_isBeat (ok : Ok σ) (hA : AM σ hi) (ha : inR a) : Ct M_MO_isBeat 1 [.ref 41, .int (zI a)] hi hl (ans (bI (inB σ a)) hi hl) := by
  have hn := ok.nums
  refine ct_intro (lv := [_, _]) (by decide +kernel) (Nat.le_of_ble_eq_true rfl) rfl ?_
  refine wp_iload_n d_MO_isBeat_0 rfl ?_
  refine wz_i2l d_MO_isBeat_1 (by omega) ?_
  refine wp_lconst (v := lZ 0) d_MO_isBeat_2 rfl ?_
  refine wp_aload_n d_MO_isBeat_3 rfl ?_
  refine wz_getI (hA.nb) d_MO_isBeat_4 f_MO_126 (by decide) rfl rfl ?_
  refine wp_iconst (v := zI 1) d_MO_isBeat_7 rfl ?_
  refine wz_isub d_MO_isBeat_8 ?_
  refine wz_i2l d_MO_isBeat_9 (by omega) ?_
  refine wp_callS (ct_MO_in (x := a) (y := 0) (z := (nB σ : Int) - 1) 0 (by omega) (by omega) (by omega)) d_MO_isBeat_10 k_MO_75 rfl rfl (Nat.le_of_ble_eq_true rfl) (by omega) ?_
  rintro _ _ _ ⟨rfl, rfl, rfl⟩
  exact wp_iret d_MO_isBeat_13 (Or.inr ⟨rfl, by first | exact bI_01 _ | exact Or.inl rfl | exact Or.inr rfl⟩) (ans_of (bI_cong (by omega)))
theorem cm_drinks (ok : Ok σ) (hA : AM σ hi) (ha : inR a) : Ct M_MO_drinks 9 [.ref 41, .int (zI a)] hi hl (pM σ (zI (r_drinks σ a)) hi) := by
  have hn := ok.nums
  refine ct_intro (lv := [_, _]) (by decide +kernel) (Nat.le_of_ble_eq_true rfl) rfl ?_
  refine wp_aload_n d_MO_drinks_0 rfl ?_
  refine wp_iload_n d_MO_drinks_1 rfl ?_
  refine wp_callV (ct_MO_isPipe ok hA ha) d_MO_drinks_2 k_MO_135 (by decide) rfl rfl rfl rfl (Nat.le_of_ble_eq_true rfl) (by omega) ?_
  rintro _ _ _ ⟨rfl, rfl, rfl⟩
  refine wz_if_eqB (tgt := 17) d_MO_drinks_5 (by decide) (fun h5 => ?_) (fun h5 => ?_)
  · refine wp_iconst (v := zI (-1)) d_MO_drinks_17 rfl ?_
    exact wp_iret d_MO_drinks_18 (Or.inl rfl) (pM_of hA (by rw [r_drinks, if_neg h5]))
  · obtain ⟨p, rfl, hpp⟩ := toN h5
    refine wp_aload_n d_MO_drinks_8 rfl ?_
    refine wp_getR d_MO_drinks_9 f_MO_19 (by decide) rfl rfl ?_
    refine wp_iload_n d_MO_drinks_12 rfl ?_
    refine wz_iald (hA.dr hpp) (rfl) ((by omega)) d_MO_drinks_13 (by decide) rfl (by decide) ?_
    refine wp_goto (tgt := 18) d_MO_drinks_14 (by decide) ?_
    exact wp_iret d_MO_drinks_18 (Or.inl rfl) (pM_of hA (by rw [r_drinks, if_pos h5, nC]))
theorem cm_sounds (ok : Ok σ) (hA : AM σ hi) (ha : inR a) (hb : inR b) : Ct M_MO_sounds 9 [.ref 41, .int (zI a), .int (zI b)] hi hl (pM σ (zI (r_sounds σ a b)) hi) := by
  have hn := ok.nums
  refine ct_intro (lv := [_, _, _]) (by decide +kernel) (Nat.le_of_ble_eq_true rfl) rfl ?_
  refine wp_aload_n d_MO_sounds_0 rfl ?_
  refine wp_iload_n d_MO_sounds_1 rfl ?_
  refine wp_callV (ct_MO_isPipe ok hA ha) d_MO_sounds_2 k_MO_135 (by decide) rfl rfl rfl rfl (Nat.le_of_ble_eq_true rfl) (by omega) ?_
  rintro _ _ _ ⟨rfl, rfl, rfl⟩
  refine wz_if_eqB (tgt := 29) d_MO_sounds_5 (by decide) (fun h5 => ?_) (fun h5 => ?_)
  · refine wp_iconst (v := zI (-1)) d_MO_sounds_29 rfl ?_
    exact wp_iret d_MO_sounds_30 (Or.inl rfl) (pM_of hA (by rw [r_sounds, if_neg (fun q => h5 q.1)]))
  · refine wp_aload_n d_MO_sounds_8 rfl ?_
    refine wp_iload_n d_MO_sounds_9 rfl ?_
    refine wp_callV (ct_MO_isBeat ok hA hb) d_MO_sounds_10 k_MO_139 (by decide) rfl rfl rfl rfl (Nat.le_of_ble_eq_true rfl) (by omega) ?_
    rintro _ _ _ ⟨rfl, rfl, rfl⟩
    refine wz_if_eqB (tgt := 29) d_MO_sounds_13 (by decide) (fun h13 => ?_) (fun h13 => ?_)
    · refine wp_iconst (v := zI (-1)) d_MO_sounds_29 rfl ?_
      exact wp_iret d_MO_sounds_30 (Or.inl rfl) (pM_of hA (by rw [r_sounds, if_neg (fun q => h13 q.2)]))
    · obtain ⟨p, rfl, hpp⟩ := toN h5
      obtain ⟨j, rfl, hj⟩ := toN h13
      have hs := ok.sn hj
      refine wp_aload_n d_MO_sounds_16 rfl ?_
      refine wp_getR d_MO_sounds_17 f_MO_25 (by decide) rfl rfl ?_
      refine wp_iload_n d_MO_sounds_20 rfl ?_
      refine wz_iald (hA.sn hj) (rfl) ((by omega)) d_MO_sounds_21 (by decide) rfl (by decide) ?_
      refine wp_iload_n d_MO_sounds_22 rfl ?_
      refine wp_ishr d_MO_sounds_23 ?_
      refine wp_iconst (v := zI 1) d_MO_sounds_24 rfl ?_
      refine wp_iand d_MO_sounds_25 ?_
      rw [zI_bit (by omega) (by omega)]
      refine wp_goto (tgt := 30) d_MO_sounds_26 (by decide) ?_
      exact wp_iret d_MO_sounds_30 (Or.inl rfl) (pM_of hA (by rw [r_sounds, if_pos ⟨h5, h13⟩, nC, nC]; by_cases q : (sn σ j).testBit p = true; rw [bI_t q, if_pos q]; rfl; rw [bI_f q, if_neg q]; rfl))
theorem cm_person (ok : Ok σ) (hA : AM σ hi) (ha : inR a) (hb : inR b) : Ct M_MO_person 9 [.ref 41, .int (zI a), .int (zI b)] hi hl (pM σ (zI (r_person σ a b)) hi) := by
  have hn := ok.nums
  refine ct_intro (lv := [_, _, _]) (by decide +kernel) (Nat.le_of_ble_eq_true rfl) rfl ?_
  refine wp_aload_n d_MO_person_0 rfl ?_
  refine wp_iload_n d_MO_person_1 rfl ?_
  refine wp_callV (ct_MO_isPerson ok hA ha) d_MO_person_2 k_MO_142 (by decide) rfl rfl rfl rfl (Nat.le_of_ble_eq_true rfl) (by omega) ?_
  rintro _ _ _ ⟨rfl, rfl, rfl⟩
  refine wz_if_neB (tgt := 10) d_MO_person_5 (by decide) (fun h5 => ?_) (fun h5 => ?_)
  · refine wp_iload_n d_MO_person_10 rfl ?_
    refine wz_i2l d_MO_person_11 (by omega) ?_
    refine wp_lconst (v := lZ 0) d_MO_person_12 rfl ?_
    refine wz_ldc2 (z := 4) d_MO_person_13 cs_MO_145 rfl ?_
    refine wp_callS (ct_MO_in (x := b) (y := 0) (z := 4) 0 (by omega) (by omega) (by omega)) d_MO_person_16 k_MO_75 rfl rfl (Nat.le_of_ble_eq_true rfl) (by omega) ?_
    rintro _ _ _ ⟨rfl, rfl, rfl⟩
    refine wz_if_eqB (tgt := 35) d_MO_person_19 (by decide) (fun h19 => ?_) (fun h19 => ?_)
    · refine wp_bipush (v := zI (-2)) d_MO_person_35 rfl ?_
      exact wp_iret d_MO_person_37 (Or.inl rfl) (pM_of hA (by rw [r_person, if_pos h5, if_neg h19]))
    · obtain ⟨m, rfl, hm⟩ := toN h5
      obtain ⟨f, rfl, hf⟩ := toN (show 0 ≤ b ∧ b < (5 : Nat) by omega)
      have e : hi 46 (5 * m + f) = zI ((σ (3 + f) m : Nat) : Int) := by
        rcases (show f = 0 ∨ f = 1 ∨ f = 2 ∨ f = 3 ∨ f = 4 by omega) with rfl | rfl | rfl | rfl | rfl
        · exact hA.lu hm
        · exact hA.fo hm
        · exact hA.pl hm
        · exact hA.ph hm
        · exact hA.br hm
      refine wp_aload_n d_MO_person_22 rfl ?_
      refine wp_getR d_MO_person_23 f_MO_22 (by decide) rfl rfl ?_
      refine wp_iconst (v := zI 5) d_MO_person_26 rfl ?_
      refine wp_iload_n d_MO_person_27 rfl ?_
      refine wz_imul d_MO_person_28 ?_
      refine wp_iload_n d_MO_person_29 rfl ?_
      refine wz_iadd d_MO_person_30 ?_
      refine wz_iald (e) ((by omega)) ((by omega)) d_MO_person_31 (by decide) rfl (by decide) ?_
      refine wp_goto (tgt := 37) d_MO_person_32 (by decide) ?_
      exact wp_iret d_MO_person_37 (Or.inl rfl) (pM_of hA (by rw [r_person, if_pos h5, if_pos h19, nC, nC]))
  · refine wp_iconst (v := zI (-1)) d_MO_person_8 rfl ?_
    exact wp_iret d_MO_person_9 (Or.inl rfl) (pM_of hA (by rw [r_person, if_neg h5]))
theorem ct_MO_tell {k : Nat} {x : Int} {y : Int32} (d : Nat) (hk : k < 60) (hx : hi 46 k = zI x) : Ct M_MO_tell d [.ref 41, .int (zI k), .int y] hi hl (fun r hi' hl' => r = some (.int (zI x)) ∧ setI hi 46 k y = hi' ∧ hl = hl') := by
  refine ct_intro (lv := [_, _, _, _]) (by decide +kernel) (Nat.le_of_ble_eq_true rfl) rfl ?_
  refine wp_aload_n d_MO_tell_0 rfl ?_
  refine wp_getR d_MO_tell_1 f_MO_22 (by decide) rfl rfl ?_
  refine wp_iload_n d_MO_tell_4 rfl ?_
  refine wz_iald (hx) (rfl) ((by omega)) d_MO_tell_5 (by decide) rfl (by decide) ?_
  refine wp_istore_n (lv' := [_, _, _, _]) d_MO_tell_6 (by decide) rfl ?_
  refine wp_aload_n d_MO_tell_7 rfl ?_
  refine wp_getR d_MO_tell_8 f_MO_22 (by decide) rfl rfl ?_
  refine wp_iload_n d_MO_tell_11 rfl ?_
  refine wp_iload_n d_MO_tell_12 rfl ?_
  refine wz_iast (rfl) ((by omega)) d_MO_tell_13 (by decide) rfl (by decide) ?_
  refine wp_iload_n d_MO_tell_14 rfl ?_
  exact wp_iret d_MO_tell_15 (Or.inl rfl) (⟨rfl, rfl, rfl⟩)
theorem cm_seat (ok : Ok σ) (hA : AM σ hi) (ha : inR a) (hb : inR b) : Ct M_MO_seat 9 [.ref 41, .int (zI a), .int (zI b)] hi hl (pM (sx_seat σ a b) (zI (r_seat σ a b)) hi) := by
  have hn := ok.nums
  refine ct_intro (lv := [_, _, _]) (by decide +kernel) (Nat.le_of_ble_eq_true rfl) rfl ?_
  refine wp_aload_n d_MO_seat_0 rfl ?_
  refine wp_iload_n d_MO_seat_1 rfl ?_
  refine wp_callV (ct_MO_isPerson ok hA ha) d_MO_seat_2 k_MO_142 (by decide) rfl rfl rfl rfl (Nat.le_of_ble_eq_true rfl) (by omega) ?_
  rintro _ _ _ ⟨rfl, rfl, rfl⟩
  refine wz_if_eqB (tgt := 29) d_MO_seat_5 (by decide) (fun h5 => ?_) (fun h5 => ?_)
  · refine wp_iconst (v := zI (-1)) d_MO_seat_29 rfl ?_
    have e : ¬ (inM σ a ∧ inP σ b) := fun q => h5 q.1
    rw [r_seat, sx_seat, if_neg e, if_neg e]
    exact wp_iret d_MO_seat_30 (Or.inl rfl) (pM_of hA rfl)
  · refine wp_aload_n d_MO_seat_8 rfl ?_
    refine wp_iload_n d_MO_seat_9 rfl ?_
    refine wp_callV (ct_MO_isPipe ok hA hb) d_MO_seat_10 k_MO_135 (by decide) rfl rfl rfl rfl (Nat.le_of_ble_eq_true rfl) (by omega) ?_
    rintro _ _ _ ⟨rfl, rfl, rfl⟩
    refine wz_if_eqB (tgt := 29) d_MO_seat_13 (by decide) (fun h13 => ?_) (fun h13 => ?_)
    · refine wp_iconst (v := zI (-1)) d_MO_seat_29 rfl ?_
      have e : ¬ (inM σ a ∧ inP σ b) := fun q => h13 q.2
      rw [r_seat, sx_seat, if_neg e, if_neg e]
      exact wp_iret d_MO_seat_30 (Or.inl rfl) (pM_of hA rfl)
    · obtain ⟨m, rfl, hm⟩ := toN h5
      obtain ⟨p, rfl, hpp⟩ := toN h13
      rw [r_seat, sx_seat, if_pos ⟨h5, h13⟩, if_pos ⟨h5, h13⟩, nC, nC]
      refine wp_aload_n d_MO_seat_16 rfl ?_
      refine wp_iconst (v := zI 5) d_MO_seat_17 rfl ?_
      refine wp_iload_n d_MO_seat_18 rfl ?_
      refine wz_imul d_MO_seat_19 ?_
      refine wp_iconst (v := zI 2) d_MO_seat_20 rfl ?_
      refine wz_iadd d_MO_seat_21 ?_
      refine wp_iload_n d_MO_seat_22 rfl ?_
      refine wp_callV (ct_MO_tell (k := 5 * m + 2) (x := pl σ m) (y := zI p) 0 (by omega) (hA.pl hm)) d_MO_seat_23 k_MO_147 (by decide) rfl rfl rfl rfl (Nat.le_of_ble_eq_true rfl) (by omega) ?_
      rintro _ _ _ ⟨rfl, rfl, rfl⟩
      refine wp_goto (tgt := 30) d_MO_seat_26 (by decide) ?_
      exact wp_iret d_MO_seat_30 (Or.inl rfl) (⟨rfl, AM_5 hA, fun c hc => setI_ne _ _ _ (by omega)⟩)
theorem cm_phase (ok : Ok σ) (hA : AM σ hi) (ha : inR a) (hb : inR b) : Ct M_MO_phase 9 [.ref 41, .int (zI a), .int (zI b)] hi hl (pM (sx_phase σ a b) (zI (r_phase σ a b)) hi) := by
  have hn := ok.nums
  refine ct_intro (lv := [_, _, _]) (by decide +kernel) (Nat.le_of_ble_eq_true rfl) rfl ?_
  refine wp_aload_n d_MO_phase_0 rfl ?_
  refine wp_iload_n d_MO_phase_1 rfl ?_
  refine wp_callV (ct_MO_isPerson ok hA ha) d_MO_phase_2 k_MO_142 (by decide) rfl rfl rfl rfl (Nat.le_of_ble_eq_true rfl) (by omega) ?_
  rintro _ _ _ ⟨rfl, rfl, rfl⟩
  refine wz_if_neB (tgt := 10) d_MO_phase_5 (by decide) (fun h5 => ?_) (fun h5 => ?_)
  · obtain ⟨m, rfl, hm⟩ := toN h5
    have hmm := ok.m hm
    rw [r_phase, if_pos h5, sx_phase, nC]
    refine wp_iload_n d_MO_phase_10 rfl ?_
    refine wz_i2l d_MO_phase_11 (by omega) ?_
    refine wp_lconst (v := lZ 0) d_MO_phase_12 rfl ?_
    refine wp_aload_n d_MO_phase_13 rfl ?_
    refine wp_getR d_MO_phase_14 f_MO_22 (by decide) rfl rfl ?_
    refine wp_iconst (v := zI 5) d_MO_phase_17 rfl ?_
    refine wp_iload_n d_MO_phase_18 rfl ?_
    refine wz_imul d_MO_phase_19 ?_
    refine wz_iald (hA.lu hm) ((by omega)) ((by omega)) d_MO_phase_20 (by decide) rfl (by decide) ?_
    refine wz_i2l d_MO_phase_21 (by omega) ?_
    refine wp_callS (ct_MO_in (x := b) (y := 0) (z := lu σ m) 0 (by omega) (by omega) (by omega)) d_MO_phase_22 k_MO_75 rfl rfl (Nat.le_of_ble_eq_true rfl) (by omega) ?_
    rintro _ _ _ ⟨rfl, rfl, rfl⟩
    refine wz_if_eqB (tgt := 41) d_MO_phase_25 (by decide) (fun h25 => ?_) (fun h25 => ?_)
    · refine wp_bipush (v := zI (-2)) d_MO_phase_41 rfl ?_
      rw [if_neg (fun q => h25 q.2), if_neg h25]
      exact wp_iret d_MO_phase_43 (Or.inl rfl) (pM_of hA rfl)
    · obtain ⟨s, rfl, hs⟩ := toN (show 0 ≤ b ∧ b < (lu σ m + 1 : Nat) by omega)
      rw [if_pos ⟨h5, h25⟩, if_pos h25, nC]
      refine wp_aload_n d_MO_phase_28 rfl ?_
      refine wp_iconst (v := zI 5) d_MO_phase_29 rfl ?_
      refine wp_iload_n d_MO_phase_30 rfl ?_
      refine wz_imul d_MO_phase_31 ?_
      refine wp_iconst (v := zI 3) d_MO_phase_32 rfl ?_
      refine wz_iadd d_MO_phase_33 ?_
      refine wp_iload_n d_MO_phase_34 rfl ?_
      refine wp_callV (ct_MO_tell (k := 5 * m + 3) (x := ph σ m) (y := zI s) 0 (by omega) (hA.ph hm)) d_MO_phase_35 k_MO_147 (by decide) rfl rfl rfl rfl (Nat.le_of_ble_eq_true rfl) (by omega) ?_
      rintro _ _ _ ⟨rfl, rfl, rfl⟩
      refine wp_goto (tgt := 43) d_MO_phase_38 (by decide) ?_
      exact wp_iret d_MO_phase_43 (Or.inl rfl) (⟨rfl, AM_6 hA, fun c hc => setI_ne _ _ _ (by omega)⟩)
  · refine wp_iconst (v := zI (-1)) d_MO_phase_8 rfl ?_
    rw [r_phase, if_neg h5, sx_phase, if_neg (fun q => h5 q.1)]
    exact wp_iret d_MO_phase_9 (Or.inl rfl) (pM_of hA rfl)
theorem cm_bribe {n : Nat} (ok : Ok σ) (hA : AM σ hi) (ha : inR a) (hb : n ≤ 1) : Ct M_MO_bribe 9 [.ref 41, .int (zI a), .int (zI n)] hi hl (pM (sx_bribe σ a n) (zI (r_bribe σ a n)) hi) := by
  have hn := ok.nums
  refine ct_intro (lv := [_, _, _]) (by decide +kernel) (Nat.le_of_ble_eq_true rfl) rfl ?_
  refine wp_aload_n d_MO_bribe_0 rfl ?_
  refine wp_iload_n d_MO_bribe_1 rfl ?_
  refine wp_callV (ct_MO_isPerson ok hA ha) d_MO_bribe_2 k_MO_142 (by decide) rfl rfl rfl rfl (Nat.le_of_ble_eq_true rfl) (by omega) ?_
  rintro _ _ _ ⟨rfl, rfl, rfl⟩
  refine wz_if_neB (tgt := 10) d_MO_bribe_5 (by decide) (fun h5 => ?_) (fun h5 => ?_)
  · obtain ⟨m, rfl, hm⟩ := toN h5
    have hmm := ok.m hm
    rw [r_bribe, if_pos h5, sx_bribe, if_pos h5, nC]
    have tail : ∀ h : HI, AM (up σ 7 m n) h → (∀ c, c < 41 → h c = hi c) → Wp M_MO_bribe 9 (pM (up σ 7 m n) (zI (if br σ m = n then 0 else 1)) hi) 37 [some (.ref 41), some (.int (zI m)), some (.int (zI n))] [.int (zI n), .int (zI (br σ m))] h hl := by
      intro h hA2 he
      refine wz_icmp_ne (tgt := 44) d_MO_bribe_37 (by decide) (by omega) (by omega) (fun h37 => ?_) (fun h37 => ?_)
      · refine wp_iconst (v := zI 1) d_MO_bribe_44 rfl ?_
        rw [if_neg (by omega)]
        exact wp_iret d_MO_bribe_45 (Or.inl rfl) (⟨rfl, hA2, he⟩)
      · refine wp_iconst (v := zI 0) d_MO_bribe_40 rfl ?_
        refine wp_goto (tgt := 45) d_MO_bribe_41 (by decide) ?_
        rw [if_pos (by omega)]
        exact wp_iret d_MO_bribe_45 (Or.inl rfl) (⟨rfl, hA2, he⟩)
    refine wp_aload_n d_MO_bribe_10 rfl ?_
    refine wp_iconst (v := zI 5) d_MO_bribe_11 rfl ?_
    refine wp_iload_n d_MO_bribe_12 rfl ?_
    refine wz_imul d_MO_bribe_13 ?_
    refine wp_iconst (v := zI 4) d_MO_bribe_14 rfl ?_
    refine wz_iadd d_MO_bribe_15 ?_
    refine wp_iload_n d_MO_bribe_16 rfl ?_
    refine wz_if_eq (tgt := 24) d_MO_bribe_17 (by decide) (by omega) (fun h17 => ?_) (fun h17 => ?_)
    · have e : n = 0 := by omega
      subst e
      refine wp_iconst (v := zI 0) d_MO_bribe_24 rfl ?_
      refine wp_callV (ct_MO_tell (k := 5 * m + 4) (x := br σ m) (y := zI 0) 0 (by omega) (hA.br hm)) d_MO_bribe_25 k_MO_147 (by decide) rfl rfl rfl rfl (Nat.le_of_ble_eq_true rfl) (by omega) ?_
      rintro _ _ _ ⟨rfl, rfl, rfl⟩
      refine wp_iload_n d_MO_bribe_28 rfl ?_
      refine wz_if_eq (tgt := 36) d_MO_bribe_29 (by decide) (by omega) (fun h29 => ?_) (fun h29 => ?_)
      · refine wp_iconst (v := zI 0) d_MO_bribe_36 rfl ?_
        exact tail _ (AM_7 hA) (fun c hc => setI_ne _ _ _ (by omega))
      · exact absurd rfl h29
    · have e : n = 1 := by omega
      subst e
      refine wp_iconst (v := zI 1) d_MO_bribe_20 rfl ?_
      refine wp_goto (tgt := 25) d_MO_bribe_21 (by decide) ?_
      refine wp_callV (ct_MO_tell (k := 5 * m + 4) (x := br σ m) (y := zI 1) 0 (by omega) (hA.br hm)) d_MO_bribe_25 k_MO_147 (by decide) rfl rfl rfl rfl (Nat.le_of_ble_eq_true rfl) (by omega) ?_
      rintro _ _ _ ⟨rfl, rfl, rfl⟩
      refine wp_iload_n d_MO_bribe_28 rfl ?_
      refine wz_if_eq (tgt := 36) d_MO_bribe_29 (by decide) (by omega) (fun h29 => ?_) (fun h29 => ?_)
      · exact absurd h29 (by decide)
      · refine wp_iconst (v := zI 1) d_MO_bribe_32 rfl ?_
        refine wp_goto (tgt := 37) d_MO_bribe_33 (by decide) ?_
        exact tail _ (AM_7 hA) (fun c hc => setI_ne _ _ _ (by omega))
  · refine wp_iconst (v := zI (-1)) d_MO_bribe_8 rfl ?_
    rw [r_bribe, if_neg h5, sx_bribe, if_neg h5]
    exact wp_iret d_MO_bribe_9 (Or.inl rfl) (pM_of hA rfl)
theorem cm_grow (ok : Ok σ) (hA : AM σ hi) (ha : inR a) : Ct M_MO_grow 9 [.ref 41, .int (zI a)] hi hl (pM (sx_grow σ a) (zI (r_grow σ a)) hi) := by
  have hn := ok.nums
  refine ct_intro (lv := [_, _]) (by decide +kernel) (Nat.le_of_ble_eq_true rfl) rfl ?_
  refine wp_aload_n d_MO_grow_0 rfl ?_
  refine wp_iload_n d_MO_grow_1 rfl ?_
  refine wp_callV (ct_MO_isPerson ok hA ha) d_MO_grow_2 k_MO_142 (by decide) rfl rfl rfl rfl (Nat.le_of_ble_eq_true rfl) (by omega) ?_
  rintro _ _ _ ⟨rfl, rfl, rfl⟩
  refine wz_if_neB (tgt := 10) d_MO_grow_5 (by decide) (fun h5 => ?_) (fun h5 => ?_)
  · obtain ⟨m, rfl, hm⟩ := toN h5
    have hmm := ok.m hm
    rw [r_grow, if_pos h5, sx_grow, nC]
    refine wp_aload_n d_MO_grow_10 rfl ?_
    refine wp_getR d_MO_grow_11 f_MO_22 (by decide) rfl rfl ?_
    refine wp_iconst (v := zI 5) d_MO_grow_14 rfl ?_
    refine wp_iload_n d_MO_grow_15 rfl ?_
    refine wz_imul d_MO_grow_16 ?_
    refine wz_iald (hA.lu hm) ((by omega)) ((by omega)) d_MO_grow_17 (by decide) rfl (by decide) ?_
    refine wp_bipush (v := zI 9) d_MO_grow_18 rfl ?_
    refine wz_icmp_ne (tgt := 26) d_MO_grow_20 (by decide) (by omega) (by omega) (fun h20 => ?_) (fun h20 => ?_)
    · rw [if_pos ⟨h5, by omega⟩, if_neg (by omega)]
      refine wp_aload_n d_MO_grow_26 rfl ?_
      refine wp_getR d_MO_grow_27 f_MO_22 (by decide) rfl rfl ?_
      refine wp_iconst (v := zI 5) d_MO_grow_30 rfl ?_
      refine wp_iload_n d_MO_grow_31 rfl ?_
      refine wz_imul d_MO_grow_32 ?_
      refine wp_dup2 d_MO_grow_33 rfl rfl ?_
      refine wz_iald (hA.lu hm) ((by omega)) ((by omega)) d_MO_grow_34 (by decide) rfl (by decide) ?_
      refine wp_iconst (v := zI 1) d_MO_grow_35 rfl ?_
      refine wz_iadd d_MO_grow_36 ?_
      refine wz_iast ((show _ = ((5 * m : Nat) : Int) by omega)) ((by omega)) d_MO_grow_37 (by decide) rfl (by decide) ?_
      refine wp_aload_n d_MO_grow_38 rfl ?_
      refine wp_getR d_MO_grow_39 f_MO_22 (by decide) rfl rfl ?_
      refine wp_iconst (v := zI 5) d_MO_grow_42 rfl ?_
      refine wp_iload_n d_MO_grow_43 rfl ?_
      refine wz_imul d_MO_grow_44 ?_
      refine wz_iald ((setI_at _ _ _ _)) ((by omega)) ((by omega)) d_MO_grow_45 (by decide) rfl (by decide) ?_
      exact wp_iret d_MO_grow_46 (Or.inl rfl) (⟨rfl, AM_3 (v := lu σ m + 1) hA, fun c hc => setI_ne _ _ _ (by omega)⟩)
    · refine wp_bipush (v := zI (-3)) d_MO_grow_23 rfl ?_
      rw [if_neg (by omega), if_pos (by omega)]
      exact wp_iret d_MO_grow_25 (Or.inl rfl) (pM_of hA rfl)
  · refine wp_iconst (v := zI (-1)) d_MO_grow_8 rfl ?_
    rw [r_grow, if_neg h5, sx_grow, if_neg (fun q => h5 q.1)]
    exact wp_iret d_MO_grow_9 (Or.inl rfl) (pM_of hA rfl)
theorem cm_store (ok : Ok σ) (hA : AM σ hi) (ha : inR a) : Ct M_MO_store 9 [.ref 41, .int (zI a)] hi hl (pM (sx_store σ a) (zI (r_store σ a)) hi) := by
  have hn := ok.nums
  refine ct_intro (lv := [_, _, _]) (by decide +kernel) (Nat.le_of_ble_eq_true rfl) rfl ?_
  refine wp_iload_n d_MO_store_0 rfl ?_
  refine wz_i2l d_MO_store_1 (by omega) ?_
  refine wp_lconst (v := lZ 0) d_MO_store_2 rfl ?_
  refine wz_ldc2 (z := 9) d_MO_store_3 cs_MO_150 rfl ?_
  refine wp_callS (ct_MO_in (x := a) (y := 0) (z := 9) 0 (by omega) (by omega) (by omega)) d_MO_store_6 k_MO_75 rfl rfl (Nat.le_of_ble_eq_true rfl) (by omega) ?_
  rintro _ _ _ ⟨rfl, rfl, rfl⟩
  refine wz_if_neB (tgt := 15) d_MO_store_9 (by decide) (fun h9 => ?_) (fun h9 => ?_)
  · obtain ⟨v, rfl, hv⟩ := toN (show 0 ≤ a ∧ a < (10 : Nat) by omega)
    rw [r_store, sx_store, if_pos h9, if_pos h9, nC]
    refine wp_aload_n d_MO_store_15 rfl ?_
    refine wz_getI (hA.room) d_MO_store_16 f_MO_132 (by decide) rfl rfl ?_
    refine wp_istore_n (lv' := [_, _, _]) d_MO_store_19 (by decide) rfl ?_
    refine wp_aload_n d_MO_store_20 rfl ?_
    refine wp_iload_n d_MO_store_21 rfl ?_
    refine wp_putI d_MO_store_22 f_MO_132 pk_MO_13 (by decide) rfl rfl ?_
    refine wp_iload_n d_MO_store_25 rfl ?_
    exact wp_iret d_MO_store_26 (Or.inl rfl) (⟨rfl, AM_04 hA, fun c hc => setI_ne _ _ _ (by omega)⟩)
  · refine wp_bipush (v := zI (-2)) d_MO_store_12 rfl ?_
    rw [r_store, sx_store, if_neg h9, if_neg h9]
    exact wp_iret d_MO_store_14 (Or.inl rfl) (pM_of hA rfl)
theorem cm_late (ok : Ok σ) (hA : AM σ hi) (ha : inR a) : Ct M_MO_late 9 [.ref 41, .int (zI a)] hi hl (pM (sx_late σ a) (zI (r_late σ a)) hi) := by
  have hn := ok.nums
  refine ct_intro (lv := [_, _, _]) (by decide +kernel) (Nat.le_of_ble_eq_true rfl) rfl ?_
  refine wp_iload_n d_MO_late_0 rfl ?_
  refine wz_i2l d_MO_late_1 (by omega) ?_
  refine wp_lconst (v := lZ 0) d_MO_late_2 rfl ?_
  refine wz_ldc2 (z := 99) d_MO_late_3 cs_MO_152 rfl ?_
  refine wp_callS (ct_MO_in (x := a) (y := 0) (z := 99) 0 (by omega) (by omega) (by omega)) d_MO_late_6 k_MO_75 rfl rfl (Nat.le_of_ble_eq_true rfl) (by omega) ?_
  rintro _ _ _ ⟨rfl, rfl, rfl⟩
  refine wz_if_neB (tgt := 15) d_MO_late_9 (by decide) (fun h9 => ?_) (fun h9 => ?_)
  · obtain ⟨v, rfl, hv⟩ := toN (show 0 ≤ a ∧ a < (100 : Nat) by omega)
    rw [r_late, sx_late, if_pos h9, if_pos h9, nC]
    refine wp_aload_n d_MO_late_15 rfl ?_
    refine wz_getI (hA.late) d_MO_late_16 f_MO_129 (by decide) rfl rfl ?_
    refine wp_istore_n (lv' := [_, _, _]) d_MO_late_19 (by decide) rfl ?_
    refine wp_aload_n d_MO_late_20 rfl ?_
    refine wp_iload_n d_MO_late_21 rfl ?_
    refine wp_putI d_MO_late_22 f_MO_129 pk_MO_12 (by decide) rfl rfl ?_
    refine wp_iload_n d_MO_late_25 rfl ?_
    exact wp_iret d_MO_late_26 (Or.inl rfl) (⟨rfl, AM_03 hA, fun c hc => setI_ne _ _ _ (by omega)⟩)
  · refine wp_bipush (v := zI (-2)) d_MO_late_12 rfl ?_
    rw [r_late, sx_late, if_neg h9, if_neg h9]
    exact wp_iret d_MO_late_14 (Or.inl rfl) (pM_of hA rfl)
theorem ct_MO_givesOf {m j : Nat} (d : Nat) (ok : Ok σ) (hA : AM σ hi) (hm : m < nM σ) (hj : j ≤ 100) : Ct M_MO_givesOf d [.ref 41, .int (zI m), .int (zI j)] hi hl (ans (zI (gv σ m (j + lt σ))) hi hl) := by
  have hn := ok.nums
  have hmm := ok.m hm
  have e : ((j : Int) + (lt σ : Int) + (ph σ m : Int)) % ((lu σ m : Int) + 1) = (((j + lt σ + ph σ m) % (lu σ m + 1) : Nat) : Int) := by simp
  have hlt : (j + lt σ + ph σ m) % (lu σ m + 1) < lu σ m + 1 := Nat.mod_lt _ (by omega)
  refine ct_intro (lv := [_, _, _, _, _, _]) (by decide +kernel) (Nat.le_of_ble_eq_true rfl) rfl ?_
  refine wp_iconst (v := zI 5) d_MO_givesOf_0 rfl ?_
  refine wp_iload_n d_MO_givesOf_1 rfl ?_
  refine wz_imul d_MO_givesOf_2 ?_
  refine wp_istore_n (lv' := [_, _, _, _, _, _]) d_MO_givesOf_3 (by decide) rfl ?_
  refine wp_aload_n d_MO_givesOf_4 rfl ?_
  refine wp_getR d_MO_givesOf_5 f_MO_22 (by decide) rfl rfl ?_
  refine wp_iload_n d_MO_givesOf_8 rfl ?_
  refine wz_iald (hA.lu hm) ((by omega)) ((by omega)) d_MO_givesOf_9 (by decide) rfl (by decide) ?_
  refine wp_istore (lv' := [_, _, _, _, _, _]) d_MO_givesOf_10 (by decide) rfl ?_
  refine wp_iload_n d_MO_givesOf_12 rfl ?_
  refine wp_aload_n d_MO_givesOf_13 rfl ?_
  refine wz_getI (hA.late) d_MO_givesOf_14 f_MO_129 (by decide) rfl rfl ?_
  refine wz_iadd d_MO_givesOf_17 ?_
  refine wp_aload_n d_MO_givesOf_18 rfl ?_
  refine wp_getR d_MO_givesOf_19 f_MO_22 (by decide) rfl rfl ?_
  refine wp_iload_n d_MO_givesOf_22 rfl ?_
  refine wp_iconst (v := zI 3) d_MO_givesOf_23 rfl ?_
  refine wz_iadd d_MO_givesOf_24 ?_
  refine wz_iald (hA.ph hm) ((by omega)) ((by omega)) d_MO_givesOf_25 (by decide) rfl (by decide) ?_
  refine wz_iadd d_MO_givesOf_26 ?_
  refine wp_iload d_MO_givesOf_27 rfl ?_
  refine wp_iconst (v := zI 1) d_MO_givesOf_29 rfl ?_
  refine wz_iadd d_MO_givesOf_30 ?_
  refine wz_irem d_MO_givesOf_31 (by omega) (by omega) (by omega) (by omega) ?_
  rw [e]
  refine wp_iload d_MO_givesOf_32 rfl ?_
  refine wz_icmp_ne (tgt := 41) d_MO_givesOf_34 (by decide) (by omega) (by omega) (fun h34 => ?_) (fun h34 => ?_)
  · refine wp_iconst (v := zI 0) d_MO_givesOf_41 rfl ?_
    refine wp_istore (lv' := [_, _, _, _, _, _]) d_MO_givesOf_42 (by decide) rfl ?_
    refine wp_iload d_MO_givesOf_44 rfl ?_
    refine wz_if_eq (tgt := 64) d_MO_givesOf_46 (by decide) (by omega) (fun h46 => ?_) (fun h46 => ?_)
    · refine wp_aload_n d_MO_givesOf_64 rfl ?_
      refine wp_getR d_MO_givesOf_65 f_MO_22 (by decide) rfl rfl ?_
      refine wp_iload_n d_MO_givesOf_68 rfl ?_
      refine wp_iconst (v := zI 1) d_MO_givesOf_69 rfl ?_
      refine wz_iadd d_MO_givesOf_70 ?_
      refine wz_iald (hA.fo hm) ((by omega)) ((by omega)) d_MO_givesOf_71 (by decide) rfl (by decide) ?_
      exact wp_iret d_MO_givesOf_72 (Or.inl rfl) (ans_of (by rw [gv, if_neg (by omega)]))
    · exact absurd rfl h46
  · refine wp_iconst (v := zI 1) d_MO_givesOf_37 rfl ?_
    refine wp_goto (tgt := 42) d_MO_givesOf_38 (by decide) ?_
    refine wp_istore (lv' := [_, _, _, _, _, _]) d_MO_givesOf_42 (by decide) rfl ?_
    refine wp_iload d_MO_givesOf_44 rfl ?_
    refine wz_if_eq (tgt := 64) d_MO_givesOf_46 (by decide) (by omega) (fun h46 => ?_) (fun h46 => ?_)
    · exact absurd h46 (by decide)
    · refine wp_aload_n d_MO_givesOf_49 rfl ?_
      refine wp_getR d_MO_givesOf_50 f_MO_22 (by decide) rfl rfl ?_
      refine wp_iload_n d_MO_givesOf_53 rfl ?_
      refine wp_iconst (v := zI 4) d_MO_givesOf_54 rfl ?_
      refine wz_iadd d_MO_givesOf_55 ?_
      refine wz_iald (hA.br hm) ((by omega)) ((by omega)) d_MO_givesOf_56 (by decide) rfl (by decide) ?_
      refine wz_if_ne (tgt := 64) d_MO_givesOf_57 (by decide) (by omega) (fun h57 => ?_) (fun h57 => ?_)
      · refine wp_aload_n d_MO_givesOf_64 rfl ?_
        refine wp_getR d_MO_givesOf_65 f_MO_22 (by decide) rfl rfl ?_
        refine wp_iload_n d_MO_givesOf_68 rfl ?_
        refine wp_iconst (v := zI 1) d_MO_givesOf_69 rfl ?_
        refine wz_iadd d_MO_givesOf_70 ?_
        refine wz_iald (hA.fo hm) ((by omega)) ((by omega)) d_MO_givesOf_71 (by decide) rfl (by decide) ?_
        exact wp_iret d_MO_givesOf_72 (Or.inl rfl) (ans_of (by rw [gv, if_neg (by omega)]))
      · refine wp_iconst (v := zI 0) d_MO_givesOf_60 rfl ?_
        refine wp_goto (tgt := 72) d_MO_givesOf_61 (by decide) ?_
        exact wp_iret d_MO_givesOf_72 (Or.inl rfl) (ans_of (by rw [gv, if_pos (by omega)]; rfl))
theorem cm_gives (ok : Ok σ) (hA : AM σ hi) (ha : inR a) (hb : inR b) : Ct M_MO_gives 9 [.ref 41, .int (zI a), .int (zI b)] hi hl (pM σ (zI (r_gives σ a b)) hi) := by
  have hn := ok.nums
  refine ct_intro (lv := [_, _, _]) (by decide +kernel) (Nat.le_of_ble_eq_true rfl) rfl ?_
  refine wp_aload_n d_MO_gives_0 rfl ?_
  refine wp_iload_n d_MO_gives_1 rfl ?_
  refine wp_callV (ct_MO_isPerson ok hA ha) d_MO_gives_2 k_MO_142 (by decide) rfl rfl rfl rfl (Nat.le_of_ble_eq_true rfl) (by omega) ?_
  rintro _ _ _ ⟨rfl, rfl, rfl⟩
  refine wz_if_eqB (tgt := 25) d_MO_gives_5 (by decide) (fun h5 => ?_) (fun h5 => ?_)
  · refine wp_iconst (v := zI (-1)) d_MO_gives_25 rfl ?_
    exact wp_iret d_MO_gives_26 (Or.inl rfl) (pM_of hA (by rw [r_gives, if_neg (fun q => h5 q.1)]))
  · refine wp_aload_n d_MO_gives_8 rfl ?_
    refine wp_iload_n d_MO_gives_9 rfl ?_
    refine wp_callV (ct_MO_isBeat ok hA hb) d_MO_gives_10 k_MO_139 (by decide) rfl rfl rfl rfl (Nat.le_of_ble_eq_true rfl) (by omega) ?_
    rintro _ _ _ ⟨rfl, rfl, rfl⟩
    refine wz_if_eqB (tgt := 25) d_MO_gives_13 (by decide) (fun h13 => ?_) (fun h13 => ?_)
    · refine wp_iconst (v := zI (-1)) d_MO_gives_25 rfl ?_
      exact wp_iret d_MO_gives_26 (Or.inl rfl) (pM_of hA (by rw [r_gives, if_neg (fun q => h13 q.2)]))
    · obtain ⟨m, rfl, hm⟩ := toN h5
      obtain ⟨j, rfl, hj⟩ := toN h13
      refine wp_aload_n d_MO_gives_16 rfl ?_
      refine wp_iload_n d_MO_gives_17 rfl ?_
      refine wp_iload_n d_MO_gives_18 rfl ?_
      refine wp_callV (ct_MO_givesOf (m := m) (j := j) 0 ok hA hm (by omega)) d_MO_gives_19 k_MO_154 (by decide) rfl rfl rfl rfl (Nat.le_of_ble_eq_true rfl) (by omega) ?_
      rintro _ _ _ ⟨rfl, rfl, rfl⟩
      refine wp_goto (tgt := 26) d_MO_gives_22 (by decide) ?_
      exact wp_iret d_MO_gives_26 (Or.inl rfl) (pM_of hA (by rw [r_gives, if_pos ⟨h5, h13⟩, nC, nC]))
theorem ct_MO_airOf {set j : Nat} (ok : Ok σ) (hA : AM σ hi) (hs : set < 2 ^ 12) (hj : j ≤ 100) : Ct M_MO_airOf 1 [.ref 41, .int (zI set), .int (zI j)] hi hl (ans (zI (wnd σ set (lt σ) j)) hi hl) := by
  have hn := ok.nums
  have loop : ∀ k i, i + k = nM σ → Wp M_MO_airOf 1 (ans (zI (wnd σ set (lt σ) j)) hi hl) 5 [some (.ref 41), some (.int (zI set)), some (.int (zI j)), some (.int (zI (airN σ set (lt σ) j i))), some (.int (zI i))] [] hi hl := by
    intro k
    induction k with
    | zero =>
      intro i hik
      refine wp_iload d_MO_airOf_5 rfl ?_
      refine wp_aload_n d_MO_airOf_7 rfl ?_
      refine wz_getI (hA.n) d_MO_airOf_8 f_MO_123 (by decide) rfl rfl ?_
      refine wz_icmp_ge (tgt := 44) d_MO_airOf_11 (by decide) (by omega) (by omega) (fun h11 => ?_) (fun h11 => ?_)
      · refine wp_iload_n d_MO_airOf_44 rfl ?_
        exact wp_iret d_MO_airOf_45 (Or.inl rfl) (ans_of (by rw [wnd, airS, ← hik]; rfl))
      · exact absurd h11 (by omega)
    | succ k ih =>
      intro i hik
      have := ih (i + 1) (by omega)
      refine wp_iload d_MO_airOf_5 rfl ?_
      refine wp_aload_n d_MO_airOf_7 rfl ?_
      refine wz_getI (hA.n) d_MO_airOf_8 f_MO_123 (by decide) rfl rfl ?_
      refine wz_icmp_ge (tgt := 44) d_MO_airOf_11 (by decide) (by omega) (by omega) (fun h11 => ?_) (fun h11 => ?_)
      · exact absurd h11 (by omega)
      · refine wp_iload_n d_MO_airOf_14 rfl ?_
        refine wp_iload_n d_MO_airOf_15 rfl ?_
        refine wp_iload d_MO_airOf_16 rfl ?_
        refine wp_ishr d_MO_airOf_18 ?_
        refine wp_iconst (v := zI 1) d_MO_airOf_19 rfl ?_
        refine wp_iand d_MO_airOf_20 ?_
        rw [zI_bit (by omega) (by omega)]
        refine wp_iconst (v := zI 1) d_MO_airOf_21 rfl ?_
        refine wp_icmp_ne (tgt := 35) d_MO_airOf_22 (by decide) (fun h22 => ?_) (fun h22 => ?_)
        · refine wp_iconst (v := zI 0) d_MO_airOf_35 rfl ?_
          refine wz_iadd d_MO_airOf_36 ?_
          refine wp_istore_n (lv' := [_, _, _, _, _]) d_MO_airOf_37 (by decide) rfl ?_
          refine wz_iinc (lv' := [_, _, _, _, _]) d_MO_airOf_38 rfl (by decide) rfl ?_
          refine wp_goto (tgt := 5) d_MO_airOf_41 (by decide) ?_
          rw [airN, if_neg (fun q => h22 (bI_t q)), Nat.add_zero] at this
          rw [Int.add_zero]
          exact this
        · have q : set.testBit i = true := Decidable.byContradiction fun q => by rw [bI_f q] at h22; exact absurd h22 (by decide)
          refine wp_aload_n d_MO_airOf_25 rfl ?_
          refine wp_iload d_MO_airOf_26 rfl ?_
          refine wp_iload_n d_MO_airOf_28 rfl ?_
          refine wp_callV (ct_MO_givesOf (m := i) (j := j) 0 ok hA (by omega) hj) d_MO_airOf_29 k_MO_154 (by decide) rfl rfl rfl rfl (Nat.le_of_ble_eq_true rfl) (by omega) ?_
          rintro _ _ _ ⟨rfl, rfl, rfl⟩
          refine wp_goto (tgt := 36) d_MO_airOf_32 (by decide) ?_
          refine wz_iadd d_MO_airOf_36 ?_
          refine wp_istore_n (lv' := [_, _, _, _, _]) d_MO_airOf_37 (by decide) rfl ?_
          refine wz_iinc (lv' := [_, _, _, _, _]) d_MO_airOf_38 rfl (by decide) rfl ?_
          refine wp_goto (tgt := 5) d_MO_airOf_41 (by decide) ?_
          rw [airN, if_pos q] at this
          exact this
  refine ct_intro (lv := [_, _, _, _, _]) (by decide +kernel) (Nat.le_of_ble_eq_true rfl) rfl ?_
  refine wp_iconst (v := zI 0) d_MO_airOf_0 rfl ?_
  refine wp_istore_n (lv' := [_, _, _, _, _]) d_MO_airOf_1 (by decide) rfl ?_
  refine wp_iconst (v := zI 0) d_MO_airOf_2 rfl ?_
  refine wp_istore (lv' := [_, _, _, _, _]) d_MO_airOf_3 (by decide) rfl ?_
  exact loop (nM σ) 0 (by omega)
theorem ct_MO_sitters {p : Nat} (d : Nat) (ok : Ok σ) (hA : AM σ hi) (hpp : p < 100) : Ct M_MO_sitters d [.ref 41, .int (zI p)] hi hl (ans (zI (sit σ p)) hi hl) := by
  have hn := ok.nums
  have loop : ∀ k i, i + k = nM σ → Wp M_MO_sitters d (ans (zI (sit σ p)) hi hl) 4 [some (.ref 41), some (.int (zI p)), some (.int (zI (sitN σ p i))), some (.int (zI i))] [] hi hl := by
    intro k
    induction k with
    | zero =>
      intro i hik
      refine wp_iload_n d_MO_sitters_4 rfl ?_
      refine wp_aload_n d_MO_sitters_5 rfl ?_
      refine wz_getI (hA.n) d_MO_sitters_6 f_MO_123 (by decide) rfl rfl ?_
      refine wz_icmp_ge (tgt := 42) d_MO_sitters_9 (by decide) (by omega) (by omega) (fun h9 => ?_) (fun h9 => ?_)
      · refine wp_iload_n d_MO_sitters_42 rfl ?_
        exact wp_iret d_MO_sitters_43 (Or.inl rfl) (ans_of (by rw [sit, ← hik]; rfl))
      · exact absurd h9 (by omega)
    | succ k ih =>
      intro i hik
      have hmm := ok.m (m := i) (by omega)
      have hlt := sitN_lt σ p i
      have h2 : 2 ^ i ≤ 2 ^ 11 := Nat.pow_le_pow_right (by omega) (by omega)
      have := ih (i + 1) (by omega)
      refine wp_iload_n d_MO_sitters_4 rfl ?_
      refine wp_aload_n d_MO_sitters_5 rfl ?_
      refine wz_getI (hA.n) d_MO_sitters_6 f_MO_123 (by decide) rfl rfl ?_
      refine wz_icmp_ge (tgt := 42) d_MO_sitters_9 (by decide) (by omega) (by omega) (fun h9 => ?_) (fun h9 => ?_)
      · exact absurd h9 (by omega)
      · refine wp_iload_n d_MO_sitters_12 rfl ?_
        refine wp_aload_n d_MO_sitters_13 rfl ?_
        refine wp_getR d_MO_sitters_14 f_MO_22 (by decide) rfl rfl ?_
        refine wp_iconst (v := zI 5) d_MO_sitters_17 rfl ?_
        refine wp_iload_n d_MO_sitters_18 rfl ?_
        refine wz_imul d_MO_sitters_19 ?_
        refine wp_iconst (v := zI 2) d_MO_sitters_20 rfl ?_
        refine wz_iadd d_MO_sitters_21 ?_
        refine wz_iald (hA.pl (m := i) (by omega)) ((by omega)) ((by omega)) d_MO_sitters_22 (by decide) rfl (by decide) ?_
        refine wp_iload_n d_MO_sitters_23 rfl ?_
        refine wz_icmp_ne (tgt := 33) d_MO_sitters_24 (by decide) (by omega) (by omega) (fun h24 => ?_) (fun h24 => ?_)
        · refine wp_iconst (v := zI 0) d_MO_sitters_33 rfl ?_
          refine wp_ior d_MO_sitters_34 ?_
          refine wz_top (y := zI (sitN σ p (i + 1))) ?_ ?_
          · rw [show zI 0 = zI ((0 : Nat) : Int) from rfl, zI_or, sitN, if_neg (by omega)]
          · refine wp_istore_n (lv' := [_, _, _, _]) d_MO_sitters_35 (by decide) rfl ?_
            refine wz_iinc (lv' := [_, _, _, _]) d_MO_sitters_36 rfl (by decide) rfl ?_
            refine wp_goto (tgt := 4) d_MO_sitters_39 (by decide) ?_
            exact this
        · refine wp_iconst (v := zI 1) d_MO_sitters_27 rfl ?_
          refine wp_iload_n d_MO_sitters_28 rfl ?_
          refine wp_ishl d_MO_sitters_29 ?_
          refine wp_goto (tgt := 34) d_MO_sitters_30 (by decide) ?_
          refine wp_ior d_MO_sitters_34 ?_
          refine wz_top (y := zI (sitN σ p (i + 1))) ?_ ?_
          · rw [show zI 1 = zI ((1 : Nat) : Int) from rfl, zI_shl (by omega) (by omega), zI_or, sitN, if_pos (by omega), Nat.one_mul]
          · refine wp_istore_n (lv' := [_, _, _, _]) d_MO_sitters_35 (by decide) rfl ?_
            refine wz_iinc (lv' := [_, _, _, _]) d_MO_sitters_36 rfl (by decide) rfl ?_
            refine wp_goto (tgt := 4) d_MO_sitters_39 (by decide) ?_
            exact this
  refine ct_intro (lv := [_, _, _, _]) (by decide +kernel) (Nat.le_of_ble_eq_true rfl) rfl ?_
  refine wp_iconst (v := zI 0) d_MO_sitters_0 rfl ?_
  refine wp_istore_n (lv' := [_, _, _, _]) d_MO_sitters_1 (by decide) rfl ?_
  refine wp_iconst (v := zI 0) d_MO_sitters_2 rfl ?_
  refine wp_istore_n (lv' := [_, _, _, _]) d_MO_sitters_3 (by decide) rfl ?_
  exact loop (nM σ) 0 (by omega)
end REFA
