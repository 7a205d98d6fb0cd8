/-! The reference's calls: slots, count, the text's bytes -/
section REFC
variable {σ : SG} {hi : HI} {hl : HL} {a b : Int}
theorem AM_kept {h : HI} {s : Nat} (hs : s < 2) (hA : AM σ hi) (e0 : ∀ c, c ≠ 58 → c ≠ 59 → c ≠ 60 → h c = hi c) (e1 : h 58 s = zI 1) (e2 : ∀ t, t < 2 → t ≠ s → h 58 t = hi 58 t) (e3 : ∀ k, k < 60 → h 59 (60 * s + k) = hi 46 k) (e4 : ∀ t, t < 2 → t ≠ s → ∀ k, k < 60 → h 59 (60 * t + k) = hi 59 (60 * t + k)) (e5 : h 60 (2 * s) = hi 41 12) (e6 : h 60 (2 * s + 1) = hi 41 13) (e7 : ∀ t, t < 2 → t ≠ s → h 60 (2 * t) = hi 60 (2 * t) ∧ h 60 (2 * t + 1) = hi 60 (2 * t + 1)) (hn : nM σ ≤ 12) : AM (kept σ s) h := by
  have hp : AMp σ h := by
    have := hA.1
    unfold AMp at this ⊢
    rw [e0 41 (by omega) (by omega) (by omega), e0 46 (by omega) (by omega) (by omega)]
    exact this
  have hv : AMi σ h := by
    have := hA.2.1
    unfold AMi at this ⊢
    rw [e0 41 (by omega) (by omega) (by omega), e0 45 (by omega) (by omega) (by omega), e0 47 (by omega) (by omega) (by omega)]
    exact this
  have ht : AMt σ h := by
    have := hA.2.2.1
    unfold AMt at this ⊢
    rw [e0 41 (by omega) (by omega) (by omega), e0 48 (by omega) (by omega) (by omega)]
    exact this
  have hk : AMk (kept σ s) h := by
    intro t htt
    by_cases q : t = s
    · subst q
      have k1 : kp (kept σ t) t = 1 := by unfold kp kept; simp
      have k2 : klt (kept σ t) t = lt σ := by unfold klt kept; simp
      have k3 : krm (kept σ t) t = rm σ := by unfold krm kept; simp
      have k4 : nM (kept σ t) = nM σ := by unfold nM kept; rw [if_neg (by omega), if_neg (by omega), if_neg (by omega), if_neg (by omega)]
      rw [k1, k2, k3, k4]
      refine ⟨e1, fun _ => ⟨by rw [e5]; exact hA.late, by rw [e6]; exact hA.room, fun m hm f hf => ?_⟩⟩
      have k5 : kf (kept σ t) t (3 + f) m = σ (3 + f) m := by
        unfold kf kept
        rw [if_neg (by omega), if_neg (by omega), if_neg (by omega), if_pos (by omega), show 20 + 10 * t + (3 + f) - (20 + 10 * t) = 3 + f by omega]
      rw [k5, show 60 * t + 5 * m + f = 60 * t + (5 * m + f) by omega, e3 (5 * m + f) (by omega)]
      rcases (show f = 0 ∨ f = 1 ∨ f = 2 ∨ f = 3 ∨ f = 4 by omega) with rfl | rfl | rfl | rfl | rfl
      · exact hA.lu hm
      · exact hA.fo hm
      · exact hA.pl hm
      · exact hA.ph hm
      · exact hA.br hm
    · have k1 : kp (kept σ s) t = kp σ t := by unfold kp kept; rw [if_neg (by omega), if_neg (by omega), if_neg (by omega), if_neg (by omega)]
      have k2 : klt (kept σ s) t = klt σ t := by unfold klt kept; rw [if_neg (by omega), if_neg (by omega), if_neg (by omega), if_neg (by omega)]
      have k3 : krm (kept σ s) t = krm σ t := by unfold krm kept; rw [if_neg (by omega), if_neg (by omega), if_neg (by omega), if_neg (by omega)]
      have k4 : nM (kept σ s) = nM σ := by unfold nM kept; rw [if_neg (by omega), if_neg (by omega), if_neg (by omega), if_neg (by omega)]
      obtain ⟨r1, r2⟩ := hA.2.2.2 t htt
      rw [k1, k2, k3, k4]
      refine ⟨by rw [e2 t htt q]; exact r1, fun hkp => ?_⟩
      obtain ⟨r3, r4, r5⟩ := r2 hkp
      refine ⟨by rw [(e7 t htt q).1]; exact r3, by rw [(e7 t htt q).2]; exact r4, fun m hm f hf => ?_⟩
      have k5 : kf (kept σ s) t (3 + f) m = kf σ t (3 + f) m := by
        unfold kf kept
        rw [if_neg (by omega), if_neg (by omega), if_neg (by omega), if_neg (by omega)]
      rw [k5, show 60 * t + 5 * m + f = 60 * t + (5 * m + f) by omega, e4 t htt q (5 * m + f) (by omega), show 60 * t + (5 * m + f) = 60 * t + 5 * m + f by omega]
      exact r5 m hm f hf
  rcases (show s = 0 ∨ s = 1 by omega) with rfl | rfl
  · exact ⟨hp, hv, ht, hk⟩
  · exact ⟨hp, hv, ht, hk⟩
theorem cm_keepP (ok : Ok σ) (hA : AM σ hi) (ha : inR a) : Ct M_MO_keep 9 [.ref 41, .int (zI a)] hi hl (pM (sx_keep σ a) (zI (r_keep σ a)) hi) := by
  have hn := ok.nums
  refine ct_intro (lv := [_, _, _]) (by decide +kernel) (Nat.le_of_ble_eq_true rfl) rfl ?_
  refine wp_iload_n d_MO_keep_0 rfl ?_
  refine wz_i2l d_MO_keep_1 (by omega) ?_
  refine wp_lconst (v := lZ 0) d_MO_keep_2 rfl ?_
  refine wp_lconst (v := lZ 1) d_MO_keep_3 rfl ?_
  refine wp_callS (ct_MO_in (x := a) (y := 0) (z := 1) 0 (by omega) (by omega) (by omega)) d_MO_keep_4 k_MO_75 rfl rfl (Nat.le_of_ble_eq_true rfl) (by omega) ?_
  rintro _ _ _ ⟨rfl, rfl, rfl⟩
  refine wz_if_neB (tgt := 12) d_MO_keep_7 (by decide) (fun h7 => ?_) (fun h7 => ?_)
  · obtain ⟨s, rfl, hs⟩ := toN (show 0 ≤ a ∧ a < (2 : Nat) by omega)
    rw [r_keep, sx_keep, if_pos (by omega), if_pos (by omega), nC]
    have loop : ∀ q k, k + q = 60 → ∀ h : HI, (∀ c, c ≠ 58 → c ≠ 59 → h c = hi c) → h 58 s = zI 1 → (∀ t, t < 2 → t ≠ s → h 58 t = hi 58 t) → (∀ i, i < k → h 59 (60 * s + i) = hi 46 i) → (∀ t, t < 2 → t ≠ s → ∀ i, i < 60 → h 59 (60 * t + i) = hi 59 (60 * t + i)) →
        Wp M_MO_keep 9 (pM (kept σ s) (zI (nM σ)) hi) 21 [some (.ref 41), some (.int (zI s)), some (.int (zI k))] [] h hl := by
      intro q
      induction q with
      | zero =>
        intro k hkq h e0 e1 e2 e3 e4
        have p41 : h 41 = hi 41 := e0 41 (by omega) (by omega)
        refine wp_iload_n d_MO_keep_21 rfl ?_
        refine wp_bipush (v := zI 60) d_MO_keep_22 rfl ?_
        refine wz_icmp_ge (tgt := 50) d_MO_keep_24 (by decide) (by omega) (by omega) (fun h24 => ?_) (fun h24 => ?_)
        · have g1 : h 41 12 = zI (lt σ) := by rw [p41]; exact hA.late
          have g2 : ∀ y, setI h 60 (2 * s) y 41 13 = zI (rm σ) := fun y => rd1 (by decide) (by rw [p41]; exact hA.room)
          have g3 : ∀ y z, setI (setI h 60 (2 * s) y) 60 (2 * s + 1) z 41 10 = zI (nM σ) := fun y z => rd1 (by decide) (rd1 (by decide) (by rw [p41]; exact hA.n))
          refine wp_aload_n d_MO_keep_50 rfl ?_
          refine wp_getR d_MO_keep_51 f_MO_66 (by decide) rfl rfl ?_
          refine wp_iconst (v := zI 2) d_MO_keep_54 rfl ?_
          refine wp_iload_n d_MO_keep_55 rfl ?_
          refine wz_imul d_MO_keep_56 ?_
          refine wp_aload_n d_MO_keep_57 rfl ?_
          refine wz_getI (g1) d_MO_keep_58 f_MO_129 (by decide) rfl rfl ?_
          refine wz_iast ((show _ = ((2 * s : Nat) : Int) by omega)) ((by omega)) d_MO_keep_61 (by decide) rfl (by decide) ?_
          refine wp_aload_n d_MO_keep_62 rfl ?_
          refine wp_getR d_MO_keep_63 f_MO_66 (by decide) rfl rfl ?_
          refine wp_iconst (v := zI 2) d_MO_keep_66 rfl ?_
          refine wp_iload_n d_MO_keep_67 rfl ?_
          refine wz_imul d_MO_keep_68 ?_
          refine wp_iconst (v := zI 1) d_MO_keep_69 rfl ?_
          refine wz_iadd d_MO_keep_70 ?_
          refine wp_aload_n d_MO_keep_71 rfl ?_
          refine wz_getI ((g2 _)) d_MO_keep_72 f_MO_132 (by decide) rfl rfl ?_
          refine wz_iast ((show _ = ((2 * s + 1 : Nat) : Int) by omega)) ((by omega)) d_MO_keep_75 (by decide) rfl (by decide) ?_
          refine wp_aload_n d_MO_keep_76 rfl ?_
          refine wz_getI ((g3 _ _)) d_MO_keep_77 f_MO_123 (by decide) rfl rfl ?_
          have fin : AM (kept σ s) (setI (setI h 60 (2 * s) (zI (lt σ))) 60 (2 * s + 1) (zI (rm σ))) := by
            refine AM_kept hs hA (fun c h1 h2 h3 => ?_) ?_ (fun t h1 h2 => ?_) (fun i h1 => ?_) (fun t h1 h2 i h3 => ?_) ?_ ?_ (fun t h1 h2 => ?_) hn.2.2.1
            · rw [setI_ne _ _ _ h3, setI_ne _ _ _ h3]; exact e0 c h1 h2
            · exact rd1 (by decide) (rd1 (by decide) e1)
            · exact rd1 (by decide) (rd1 (by decide) (e2 t h1 h2))
            · exact rd1 (by decide) (rd1 (by decide) (e3 i (by omega)))
            · exact rd1 (by decide) (rd1 (by decide) (e4 t h1 h2 i h3))
            · exact rdS (by omega) (rdA hA.late.symm)
            · exact rdA hA.room.symm
            · exact ⟨rdS (by omega) (rdS (by omega) (by rw [e0 60 (by omega) (by omega)])), rdS (by omega) (rdS (by omega) (by rw [e0 60 (by omega) (by omega)]))⟩
          exact wp_iret d_MO_keep_80 (Or.inl rfl) (⟨rfl, fin, fun c hc => by rw [setI_ne _ _ _ (by omega), setI_ne _ _ _ (by omega)]; exact e0 c (by omega) (by omega)⟩)
        · exact absurd h24 (by omega)
      | succ q ih =>
        intro k hkq h e0 e1 e2 e3 e4
        have g1 : h 46 k = zI (hi 46 k).toInt := by rw [zI_of, e0 46 (by omega) (by omega)]
        refine wp_iload_n d_MO_keep_21 rfl ?_
        refine wp_bipush (v := zI 60) d_MO_keep_22 rfl ?_
        refine wz_icmp_ge (tgt := 50) d_MO_keep_24 (by decide) (by omega) (by omega) (fun h24 => ?_) (fun h24 => ?_)
        · exact absurd h24 (by omega)
        · refine wp_aload_n d_MO_keep_27 rfl ?_
          refine wp_getR d_MO_keep_28 f_MO_63 (by decide) rfl rfl ?_
          refine wp_bipush (v := zI 60) d_MO_keep_31 rfl ?_
          refine wp_iload_n d_MO_keep_33 rfl ?_
          refine wz_imul d_MO_keep_34 ?_
          refine wp_iload_n d_MO_keep_35 rfl ?_
          refine wz_iadd d_MO_keep_36 ?_
          refine wp_aload_n d_MO_keep_37 rfl ?_
          refine wp_getR d_MO_keep_38 f_MO_22 (by decide) rfl rfl ?_
          refine wp_iload_n d_MO_keep_41 rfl ?_
          refine wz_iald (g1) (rfl) ((by omega)) d_MO_keep_42 (by decide) rfl (by decide) ?_
          refine wz_iast ((show _ = ((60 * s + k : Nat) : Int) by omega)) ((by omega)) d_MO_keep_43 (by decide) rfl (by decide) ?_
          refine wz_iinc (lv' := [_, _, _]) d_MO_keep_44 rfl (by decide) rfl ?_
          refine wp_goto (tgt := 21) d_MO_keep_47 (by decide) ?_
          refine ih (k + 1) (by omega) _ (fun c h1 h2 => by rw [setI_ne _ _ _ h2]; exact e0 c h1 h2) (rd1 (by decide) e1) (fun t h1 h2 => rd1 (by decide) (e2 t h1 h2)) (fun i h1 => ?_) (fun t h1 h2 i h3 => rdS (by omega) (e4 t h1 h2 i h3))
          by_cases e : i = k
          · subst e
            exact rdA (zI_of _)
          · exact rdS (by omega) (e3 i (by omega))
    refine wp_aload_n d_MO_keep_12 rfl ?_
    refine wp_getR d_MO_keep_13 f_MO_59 (by decide) rfl rfl ?_
    refine wp_iload_n d_MO_keep_16 rfl ?_
    refine wp_iconst (v := zI 1) d_MO_keep_17 rfl ?_
    refine wz_zast (rfl) ((by omega)) ((Or.inr rfl)) d_MO_keep_18 (by decide) rfl (by decide) ?_
    refine wp_iconst (v := zI 0) d_MO_keep_19 rfl ?_
    refine wp_istore_n (lv' := [_, _, _]) d_MO_keep_20 (by decide) rfl ?_
    refine loop 60 0 (by omega) _ (fun c h1 h2 => setI_ne _ _ _ h1) (rdA rfl) (fun t h1 h2 => rdS h2 rfl) (fun i h1 => absurd h1 (by omega)) (fun t h1 h2 i h3 => rd1 (by decide) rfl)
  · refine wp_iconst (v := zI (-1)) d_MO_keep_10 rfl ?_
    rw [r_keep, sx_keep, if_neg (by omega), if_neg (by omega)]
    exact wp_iret d_MO_keep_11 (Or.inl rfl) (pM_of hA rfl)
theorem AM_anew {h : HI} {s : Nat} (hs : s < 2) (hA : AM σ hi) (hkp : kp σ s = 1) (e0 : ∀ c, c ≠ 41 → c ≠ 46 → h c = hi c) (e1 : ∀ f, f ≠ 12 → f ≠ 13 → h 41 f = hi 41 f) (e2 : h 41 12 = hi 60 (2 * s)) (e3 : h 41 13 = hi 60 (2 * s + 1)) (e4 : ∀ k, k < 60 → h 46 k = hi 59 (60 * s + k)) (hn : nM σ ≤ 12) : AM (anew σ s) h := by
  obtain ⟨r1, r2⟩ := hA.2.2.2 s hs
  obtain ⟨r3, r4, r5⟩ := r2 hkp
  have g : ∀ m, m < nM σ → ∀ f, f < 5 → h 46 (5 * m + f) = zI (kf σ s (3 + f) m) := fun m hm f hf => by
    rw [e4 (5 * m + f) (by omega), show 60 * s + (5 * m + f) = 60 * s + 5 * m + f by omega]
    exact r5 m hm f hf
  refine ⟨⟨by rw [e1 10 (by omega) (by omega)]; exact hA.n, e2.trans r3, e3.trans r4, fun m hm => g m hm 0 (by omega), fun m hm => g m hm 1 (by omega), fun m hm => g m hm 2 (by omega), fun m hm => g m hm 3 (by omega), fun m hm => g m hm 4 (by omega)⟩, ⟨by rw [e1 9 (by omega) (by omega)]; exact hA.np, by rw [e1 11 (by omega) (by omega)]; exact hA.nb, fun p hp => by rw [e0 45 (by omega) (by omega)]; exact hA.dr hp, fun j hj => by rw [e0 47 (by omega) (by omega)]; exact hA.sn hj⟩, ⟨by rw [e1 15 (by omega) (by omega)]; exact hA.tl, fun i hi' => by rw [e0 48 (by omega) (by omega)]; exact hA.2.2.1.2 i hi'⟩, fun t ht => ?_⟩
  have k5 : ∀ m f, kf (anew σ s) t f m = kf σ t f m := fun m f => by
    unfold kf anew
    rw [if_neg (by omega), if_neg (by omega), if_neg (by omega)]
  rw [e0 58 (by omega) (by omega), e0 59 (by omega) (by omega), e0 60 (by omega) (by omega)]
  simp only [k5]
  exact hA.2.2.2 t ht
theorem cm_again (ok : Ok σ) (hA : AM σ hi) (ha : inR a) : Ct M_MO_again 9 [.ref 41, .int (zI a)] hi hl (pM (sx_again σ a) (zI (r_again σ a)) hi) := by
  have hn := ok.nums
  refine ct_intro (lv := [_, _, _]) (by decide +kernel) (Nat.le_of_ble_eq_true rfl) rfl ?_
  refine wp_iload_n d_MO_again_0 rfl ?_
  refine wz_i2l d_MO_again_1 (by omega) ?_
  refine wp_lconst (v := lZ 0) d_MO_again_2 rfl ?_
  refine wp_lconst (v := lZ 1) d_MO_again_3 rfl ?_
  refine wp_callS (ct_MO_in (x := a) (y := 0) (z := 1) 0 (by omega) (by omega) (by omega)) d_MO_again_4 k_MO_75 rfl rfl (Nat.le_of_ble_eq_true rfl) (by omega) ?_
  rintro _ _ _ ⟨rfl, rfl, rfl⟩
  refine wz_if_neB (tgt := 12) d_MO_again_7 (by decide) (fun h7 => ?_) (fun h7 => ?_)
  · obtain ⟨s, rfl, hs⟩ := toN (show 0 ≤ a ∧ a < (2 : Nat) by omega)
    obtain ⟨r1, r2⟩ := hA.2.2.2 s hs
    have hk1 := (ok.2.2.2.2.2 s hs).1
    rw [r_again, sx_again, nC]
    refine wp_aload_n d_MO_again_12 rfl ?_
    refine wp_getR d_MO_again_13 f_MO_59 (by decide) rfl rfl ?_
    refine wp_iload_n d_MO_again_16 rfl ?_
    refine wz_zald (r1) (rfl) ((by omega)) d_MO_again_17 (by decide) rfl (by decide) ?_
    refine wz_if_ne (tgt := 24) d_MO_again_18 (by decide) (by omega) (fun h18 => ?_) (fun h18 => ?_)
    · have hkp : kp σ s = 1 := by omega
      obtain ⟨r3, r4, r5⟩ := r2 hkp
      rw [if_pos ⟨by omega, hkp⟩, if_pos (by omega), if_pos hkp]
      have loop : ∀ q k, k + q = 60 → ∀ h : HI, (∀ c, c ≠ 46 → h c = hi c) → (∀ i, i < k → h 46 i = hi 59 (60 * s + i)) → Wp M_MO_again 9 (pM (anew σ s) (zI (nM σ)) hi) 26 [some (.ref 41), some (.int (zI s)), some (.int (zI k))] [] h hl := by
        intro q
        induction q with
        | zero =>
          intro k hkq h e0 e1
          refine wp_iload_n d_MO_again_26 rfl ?_
          refine wp_bipush (v := zI 60) d_MO_again_27 rfl ?_
          refine wz_icmp_ge (tgt := 55) d_MO_again_29 (by decide) (by omega) (by omega) (fun h29 => ?_) (fun h29 => ?_)
          · have g1 : h 60 (2 * s) = zI (klt σ s) := by rw [e0 60 (by omega)]; exact r3
            have g2 : ∀ y, setI h 41 12 y 60 (2 * s + 1) = zI (krm σ s) := fun y => rd1 (by decide) (by rw [e0 60 (by omega)]; exact r4)
            have g3 : ∀ y z, setI (setI h 41 12 y) 41 13 z 41 10 = zI (nM σ) := fun y z => rdS (by decide) (rdS (by decide) (by rw [e0 41 (by omega)]; exact hA.n))
            refine wp_aload_n d_MO_again_55 rfl ?_
            refine wp_aload_n d_MO_again_56 rfl ?_
            refine wp_getR d_MO_again_57 f_MO_66 (by decide) rfl rfl ?_
            refine wp_iconst (v := zI 2) d_MO_again_60 rfl ?_
            refine wp_iload_n d_MO_again_61 rfl ?_
            refine wz_imul d_MO_again_62 ?_
            refine wz_iald (g1) ((show _ = ((2 * s : Nat) : Int) by omega)) ((by omega)) d_MO_again_63 (by decide) rfl (by decide) ?_
            refine wp_putI d_MO_again_64 f_MO_129 pk_MO_12 (by decide) rfl rfl ?_
            refine wp_aload_n d_MO_again_67 rfl ?_
            refine wp_aload_n d_MO_again_68 rfl ?_
            refine wp_getR d_MO_again_69 f_MO_66 (by decide) rfl rfl ?_
            refine wp_iconst (v := zI 2) d_MO_again_72 rfl ?_
            refine wp_iload_n d_MO_again_73 rfl ?_
            refine wz_imul d_MO_again_74 ?_
            refine wp_iconst (v := zI 1) d_MO_again_75 rfl ?_
            refine wz_iadd d_MO_again_76 ?_
            refine wz_iald ((g2 _)) ((show _ = ((2 * s + 1 : Nat) : Int) by omega)) ((by omega)) d_MO_again_77 (by decide) rfl (by decide) ?_
            refine wp_putI d_MO_again_78 f_MO_132 pk_MO_13 (by decide) rfl rfl ?_
            refine wp_aload_n d_MO_again_81 rfl ?_
            refine wz_getI ((g3 _ _)) d_MO_again_82 f_MO_123 (by decide) rfl rfl ?_
            have fin : AM (anew σ s) (setI (setI h 41 12 (zI (klt σ s))) 41 13 (zI (krm σ s))) := by
              refine AM_anew hs hA hkp (fun c h1 h2 => ?_) (fun f h1 h2 => ?_) ?_ ?_ (fun i h1 => ?_) hn.2.2.1
              · rw [setI_ne _ _ _ h1, setI_ne _ _ _ h1]; exact e0 c h2
              · exact rdS h2 (rdS h1 (by rw [e0 41 (by omega)]))
              · exact rdS (by decide) (rdA r3.symm)
              · exact rdA r4.symm
              · exact rd1 (by decide) (rd1 (by decide) (e1 i (by omega)))
            exact wp_iret d_MO_again_85 (Or.inl rfl) (⟨rfl, fin, fun c hc => by rw [setI_ne _ _ _ (by omega), setI_ne _ _ _ (by omega)]; exact e0 c (by omega)⟩)
          · exact absurd h29 (by omega)
        | succ q ih =>
          intro k hkq h e0 e1
          have g1 : h 59 (60 * s + k) = zI (hi 59 (60 * s + k)).toInt := by rw [zI_of, e0 59 (by omega)]
          refine wp_iload_n d_MO_again_26 rfl ?_
          refine wp_bipush (v := zI 60) d_MO_again_27 rfl ?_
          refine wz_icmp_ge (tgt := 55) d_MO_again_29 (by decide) (by omega) (by omega) (fun h29 => ?_) (fun h29 => ?_)
          · exact absurd h29 (by omega)
          · refine wp_aload_n d_MO_again_32 rfl ?_
            refine wp_getR d_MO_again_33 f_MO_22 (by decide) rfl rfl ?_
            refine wp_iload_n d_MO_again_36 rfl ?_
            refine wp_aload_n d_MO_again_37 rfl ?_
            refine wp_getR d_MO_again_38 f_MO_63 (by decide) rfl rfl ?_
            refine wp_bipush (v := zI 60) d_MO_again_41 rfl ?_
            refine wp_iload_n d_MO_again_43 rfl ?_
            refine wz_imul d_MO_again_44 ?_
            refine wp_iload_n d_MO_again_45 rfl ?_
            refine wz_iadd d_MO_again_46 ?_
            refine wz_iald (g1) ((show _ = ((60 * s + k : Nat) : Int) by omega)) ((by omega)) d_MO_again_47 (by decide) rfl (by decide) ?_
            refine wz_iast (rfl) ((by omega)) d_MO_again_48 (by decide) rfl (by decide) ?_
            refine wz_iinc (lv' := [_, _, _]) d_MO_again_49 rfl (by decide) rfl ?_
            refine wp_goto (tgt := 26) d_MO_again_52 (by decide) ?_
            refine ih (k + 1) (by omega) _ (fun c h1 => by rw [setI_ne _ _ _ h1]; exact e0 c h1) (fun i h1 => ?_)
            by_cases e : i = k
            · subst e
              exact rdA (zI_of _)
            · exact rdS (by omega) (e1 i (by omega))
      refine wp_iconst (v := zI 0) d_MO_again_24 rfl ?_
      refine wp_istore_n (lv' := [_, _, _]) d_MO_again_25 (by decide) rfl ?_
      exact loop 60 0 (by omega) hi (fun _ _ => rfl) (fun i h1 => absurd h1 (by omega))
    · refine wp_bipush (v := zI (-3)) d_MO_again_21 rfl ?_
      rw [if_neg (by omega), if_pos (by omega), if_neg (by omega)]
      exact wp_iret d_MO_again_23 (Or.inl rfl) (pM_of hA rfl)
  · refine wp_iconst (v := zI (-1)) d_MO_again_10 rfl ?_
    rw [r_again, sx_again, if_neg (by omega), if_neg (by omega)]
    exact wp_iret d_MO_again_11 (Or.inl rfl) (pM_of hA rfl)
theorem cm_count (ok : Ok σ) (hA : AM σ hi) (ha : inR a) : Ct M_MO_count 9 [.ref 41, .int (zI a)] hi hl (pM σ (zI (r_count σ a)) hi) := by
  have hn := ok.nums
  have rest : Wp M_MO_count 9 (pM σ (zI (r_count σ a)) hi) 31 [some (.ref 41), some (.int (zI a)), some (.int (zI (brN σ (nM σ)))), none] [] hi hl := by
    refine wp_iload_n d_MO_count_31 rfl ?_
    by_cases hin : 0 ≤ a ∧ a ≤ 6
    · obtain ⟨f, rfl, hf⟩ := toN (show 0 ≤ a ∧ a < (7 : Nat) by omega)
      have hx : (zI (f : Int)).toInt = f := zI_toInt ha
      rcases (show f = 0 ∨ f = 1 ∨ f = 2 ∨ f = 3 ∨ f = 4 ∨ f = 5 ∨ f = 6 by omega) with rfl | rfl | rfl | rfl | rfl | rfl | rfl
      · refine wp_switchIn (off := 44) (tgt := 76) d_MO_count_32 (by rw [hx]; decide) (by rw [hx]; decide) rfl (by decide) ?_
        refine wp_aload_n d_MO_count_76 rfl ?_
        refine wz_getI (hA.tl) d_MO_count_77 f_MO_79 (by decide) rfl rfl ?_
        exact wp_iret d_MO_count_80 (Or.inl rfl) (pM_of hA rfl)
      · refine wp_switchIn (off := 49) (tgt := 81) d_MO_count_32 (by rw [hx]; decide) (by rw [hx]; decide) rfl (by decide) ?_
        refine wp_aload_n d_MO_count_81 rfl ?_
        refine wz_getI (hA.np) d_MO_count_82 f_MO_69 (by decide) rfl rfl ?_
        exact wp_iret d_MO_count_85 (Or.inl rfl) (pM_of hA rfl)
      · refine wp_switchIn (off := 54) (tgt := 86) d_MO_count_32 (by rw [hx]; decide) (by rw [hx]; decide) rfl (by decide) ?_
        refine wp_aload_n d_MO_count_86 rfl ?_
        refine wz_getI (hA.n) d_MO_count_87 f_MO_123 (by decide) rfl rfl ?_
        exact wp_iret d_MO_count_90 (Or.inl rfl) (pM_of hA rfl)
      · refine wp_switchIn (off := 59) (tgt := 91) d_MO_count_32 (by rw [hx]; decide) (by rw [hx]; decide) rfl (by decide) ?_
        refine wp_aload_n d_MO_count_91 rfl ?_
        refine wz_getI (hA.nb) d_MO_count_92 f_MO_126 (by decide) rfl rfl ?_
        exact wp_iret d_MO_count_95 (Or.inl rfl) (pM_of hA rfl)
      · refine wp_switchIn (off := 64) (tgt := 96) d_MO_count_32 (by rw [hx]; decide) (by rw [hx]; decide) rfl (by decide) ?_
        refine wp_iload_n d_MO_count_96 rfl ?_
        exact wp_iret d_MO_count_97 (Or.inl rfl) (pM_of hA rfl)
      · refine wp_switchIn (off := 66) (tgt := 98) d_MO_count_32 (by rw [hx]; decide) (by rw [hx]; decide) rfl (by decide) ?_
        refine wp_aload_n d_MO_count_98 rfl ?_
        refine wz_getI (hA.late) d_MO_count_99 f_MO_129 (by decide) rfl rfl ?_
        exact wp_iret d_MO_count_102 (Or.inl rfl) (pM_of hA rfl)
      · refine wp_switchIn (off := 71) (tgt := 103) d_MO_count_32 (by rw [hx]; decide) (by rw [hx]; decide) rfl (by decide) ?_
        refine wp_aload_n d_MO_count_103 rfl ?_
        refine wz_getI (hA.room) d_MO_count_104 f_MO_132 (by decide) rfl rfl ?_
        exact wp_iret d_MO_count_107 (Or.inl rfl) (pM_of hA rfl)
    · have hx : (zI a).toInt = a := zI_toInt ha
      refine wp_switchOut (tgt := 108) d_MO_count_32 (by rw [hx]; omega) (by decide) ?_
      refine wp_bipush (v := zI (-2)) d_MO_count_108 rfl ?_
      exact wp_iret d_MO_count_110 (Or.inl rfl) (pM_of hA (by rw [r_count, if_neg (by omega), if_neg (by omega), if_neg (by omega), if_neg (by omega), if_neg (by omega), if_neg (by omega), if_neg (by omega)]))
  have loop : ∀ k i, i + k = nM σ → Wp M_MO_count 9 (pM σ (zI (r_count σ a)) hi) 4 [some (.ref 41), some (.int (zI a)), some (.int (zI (brN σ i))), some (.int (zI i))] [] hi hl := by
    intro k
    induction k with
    | zero =>
      intro i hik
      refine wp_iload_n d_MO_count_4 rfl ?_
      refine wp_aload_n d_MO_count_5 rfl ?_
      refine wz_getI (hA.n) d_MO_count_6 f_MO_123 (by decide) rfl rfl ?_
      refine wz_icmp_ge (tgt := 31) d_MO_count_9 (by decide) (by omega) (by omega) (fun h9 => ?_) (fun h9 => ?_)
      · refine wp_drop (lv' := [some _, some _, some _, none]) ⟨rfl, rfl, rfl, trivial⟩ ?_
        have := rest
        rw [← hik] at this
        exact this
      · exact absurd h9 (by omega)
    | succ k ih =>
      intro i hik
      refine wp_iload_n d_MO_count_4 rfl ?_
      refine wp_aload_n d_MO_count_5 rfl ?_
      refine wz_getI (hA.n) d_MO_count_6 f_MO_123 (by decide) rfl rfl ?_
      refine wz_icmp_ge (tgt := 31) d_MO_count_9 (by decide) (by omega) (by omega) (fun h9 => ?_) (fun h9 => ?_)
      · exact absurd h9 (by omega)
      · refine wp_iload_n d_MO_count_12 rfl ?_
        refine wp_aload_n d_MO_count_13 rfl ?_
        refine wp_getR d_MO_count_14 f_MO_22 (by decide) rfl rfl ?_
        refine wp_iconst (v := zI 5) d_MO_count_17 rfl ?_
        refine wp_iload_n d_MO_count_18 rfl ?_
        refine wz_imul d_MO_count_19 ?_
        refine wp_iconst (v := zI 4) d_MO_count_20 rfl ?_
        refine wz_iadd d_MO_count_21 ?_
        refine wz_iald (hA.br (m := i) (by omega)) ((by omega)) ((by omega)) d_MO_count_22 (by decide) rfl (by decide) ?_
        refine wz_iadd d_MO_count_23 ?_
        refine wp_istore_n (lv' := [_, _, _, _]) d_MO_count_24 (by decide) rfl ?_
        refine wz_iinc (lv' := [_, _, _, _]) d_MO_count_25 rfl (by decide) rfl ?_
        refine wp_goto (tgt := 4) d_MO_count_28 (by decide) ?_
        exact ih (i + 1) (by omega)
  refine ct_intro (lv := [_, _, _, _]) (by decide +kernel) (Nat.le_of_ble_eq_true rfl) rfl ?_
  refine wp_iconst (v := zI 0) d_MO_count_0 rfl ?_
  refine wp_istore_n (lv' := [_, _, _, _]) d_MO_count_1 (by decide) rfl ?_
  refine wp_iconst (v := zI 0) d_MO_count_2 rfl ?_
  refine wp_istore_n (lv' := [_, _, _, _]) d_MO_count_3 (by decide) rfl ?_
  exact loop (nM σ) 0 (by omega)
theorem cm_wipe (hA : AM σ hi) : Ct M_MO_wipe 9 [.ref 41] hi hl (pM (up σ 0 5 0) (zI (tl σ)) hi) := by
  have hA2 : AM (up σ 0 5 0) (setI hi 41 15 (zI 0)) := by
    obtain ⟨hp, hv, ht, hk⟩ := hA
    exact ⟨hp, hv, ⟨rdA rfl, fun i hi' => absurd hi' (Nat.not_lt_zero i)⟩, (hk.keep rfl rfl rfl).anew (by omega) (by omega)⟩
  refine ct_intro (lv := [_, _]) (by decide +kernel) (Nat.le_of_ble_eq_true rfl) rfl ?_
  refine wp_aload_n d_MO_wipe_0 rfl ?_
  refine wz_getI (hA.tl) d_MO_wipe_1 f_MO_79 (by decide) rfl rfl ?_
  refine wp_istore_n (lv' := [_, _]) d_MO_wipe_4 (by decide) rfl ?_
  refine wp_aload_n d_MO_wipe_5 rfl ?_
  refine wp_iconst (v := zI 0) d_MO_wipe_6 rfl ?_
  refine wp_putI d_MO_wipe_7 f_MO_79 pk_MO_15 (by decide) rfl rfl ?_
  refine wp_iload_n d_MO_wipe_10 rfl ?_
  exact wp_iret d_MO_wipe_11 (Or.inl rfl) (⟨rfl, hA2, fun c hc => setI_ne _ _ _ (by omega)⟩)
theorem cm_write {v : Int64} (ok : Ok σ) (hA : AM σ hi) (ha : inR a) : Ct M_MO_write 9 [.ref 41, .int (zI a), .long v] hi hl (pM (sx_write σ a v) (zI (r_write σ a)) hi) := by
  have hn := ok.nums
  refine ct_intro (lv := [_, _, _, _, _]) (by decide +kernel) (Nat.le_of_ble_eq_true rfl) rfl ?_
  refine wp_iload_n d_MO_write_0 rfl ?_
  refine wz_i2l d_MO_write_1 (by omega) ?_
  refine wp_lconst (v := lZ 1) d_MO_write_2 rfl ?_
  refine wz_ldc2 (z := 8) d_MO_write_3 cs_MO_73 rfl ?_
  refine wp_callS (ct_MO_in (x := a) (y := 1) (z := 8) 0 (by omega) (by omega) (by omega)) d_MO_write_6 k_MO_75 rfl rfl (Nat.le_of_ble_eq_true rfl) (by omega) ?_
  rintro _ _ _ ⟨rfl, rfl, rfl⟩
  refine wz_if_neB (tgt := 15) d_MO_write_9 (by decide) (fun h9 => ?_) (fun h9 => ?_)
  · obtain ⟨n, rfl, hnn⟩ := toN (show 0 ≤ a ∧ a < (9 : Nat) by omega)
    rw [r_write, sx_write, nC]
    refine wp_aload_n d_MO_write_15 rfl ?_
    refine wz_getI (hA.tl) d_MO_write_16 f_MO_79 (by decide) rfl rfl ?_
    refine wp_iload_n d_MO_write_19 rfl ?_
    refine wz_iadd d_MO_write_20 ?_
    refine wp_bipush (v := zI 104) d_MO_write_21 rfl ?_
    refine wz_icmp_le (tgt := 29) d_MO_write_23 (by decide) (by omega) (by omega) (fun h23 => ?_) (fun h23 => ?_)
    · have hr : tl σ + n ≤ 104 := by omega
      rw [if_pos ⟨h9, h23⟩, if_pos h9, if_pos h23]
      have loop : ∀ k t, t + k = n → ∀ h : HI, (∀ c, c ≠ 41 → c ≠ 48 → h c = hi c) → (∀ f, f ≠ 15 → h 41 f = hi 41 f) → h 41 15 = zI ((tl σ : Int) + t) → (∀ i, i < tl σ → h 48 i = hi 48 i) → (∀ u, u < t → h 48 (tl σ + u) = zI (byt v (n - 1 - u))) → Wp M_MO_write 9 (pM (wrt σ v n) (zI ((tl σ : Int) + n)) hi) 34 [some (.ref 41), some (.int (zI n)), some (.long v), none, some (.int (zI ((n : Int) - 1 - t)))] [] h hl := by
        intro k
        induction k with
        | zero =>
          intro t htk h e3 e6 e1 e2 e4
          have hA2 : AM (wrt σ v n) h := by
            refine ⟨?_, ?_, ⟨?_, fun i hi' => ?_⟩, fun s hs => ?_⟩
            · have := hA.1
              unfold AMp at this
              refine ⟨?_, ?_, ?_, ?_, ?_, ?_, ?_, ?_⟩
              · rw [e6 10 (by omega)]; exact this.1
              · rw [e6 12 (by omega)]; exact this.2.1
              · rw [e6 13 (by omega)]; exact this.2.2.1
              · rw [e3 46 (by omega) (by omega)]; exact this.2.2.2.1
              · rw [e3 46 (by omega) (by omega)]; exact this.2.2.2.2.1
              · rw [e3 46 (by omega) (by omega)]; exact this.2.2.2.2.2.1
              · rw [e3 46 (by omega) (by omega)]; exact this.2.2.2.2.2.2.1
              · rw [e3 46 (by omega) (by omega)]; exact this.2.2.2.2.2.2.2
            · refine ⟨?_, ?_, ?_, ?_⟩
              · rw [e6 9 (by omega)]; exact hA.2.1.1
              · rw [e6 11 (by omega)]; exact hA.2.1.2.1
              · rw [e3 45 (by omega) (by omega)]; exact hA.2.1.2.2.1
              · rw [e3 47 (by omega) (by omega)]; exact hA.2.1.2.2.2
            · show h 41 15 = zI ((tl σ + n : Nat) : Int)
              rw [e1, show t = n by omega]
              rfl
            · have hi2 : i < tl σ + n := hi'
              show h 48 i = zI ((if 8 = 0 ∧ i = 5 then tl σ + n else if 8 = 8 ∧ tl σ ≤ i ∧ i < tl σ + n then byt v (n - 1 - (i - tl σ)) else σ 8 i : Nat) : Int)
              rw [if_neg (by omega)]
              by_cases q : tl σ ≤ i
              · rw [if_pos ⟨rfl, q, hi2⟩]
                have := e4 (i - tl σ) (by omega)
                rw [show tl σ + (i - tl σ) = i by omega] at this
                exact this
              · rw [if_neg (by omega), e2 i (by omega)]
                exact hA.2.2.1.2 i (by omega)
            · have eK : ∀ s g m, kf (wrt σ v n) s g m = kf σ s g m := fun s g m => by
                unfold kf wrt
                rw [if_neg (by omega), if_neg (by omega)]
              simp only [eK]
              rw [e3 58 (by omega) (by omega), e3 59 (by omega) (by omega), e3 60 (by omega) (by omega)]
              exact hA.2.2.2 s hs
          refine wp_iload d_MO_write_34 rfl ?_
          refine wz_if_lt (tgt := 76) d_MO_write_36 (by decide) (by omega) (fun h36 => ?_) (fun h36 => ?_)
          · refine wp_aload_n d_MO_write_76 rfl ?_
            refine wz_getI (e1) d_MO_write_77 f_MO_79 (by decide) rfl rfl ?_
            exact wp_iret d_MO_write_80 (Or.inl rfl) (⟨by rw [show t = n by omega], hA2, fun c hc => e3 c (by omega) (by omega)⟩)
          · exact absurd h36 (by omega)
        | succ k ih =>
          intro t htk h e3 e6 e1 e2 e4
          refine wp_iload d_MO_write_34 rfl ?_
          refine wz_if_lt (tgt := 76) d_MO_write_36 (by decide) (by omega) (fun h36 => ?_) (fun h36 => ?_)
          · exact absurd h36 (by omega)
          · have e1' : h 41 15 = zI (((tl σ + t : Nat)) : Int) := e1
            refine wp_aload_n d_MO_write_39 rfl ?_
            refine wp_getR d_MO_write_40 f_MO_28 (by decide) rfl rfl ?_
            refine wp_aload_n d_MO_write_43 rfl ?_
            refine wz_getI (e1') d_MO_write_44 f_MO_79 (by decide) rfl rfl ?_
            refine wp_lload_n d_MO_write_47 rfl ?_
            refine wp_bipush (v := zI 8) d_MO_write_48 rfl ?_
            refine wp_iload d_MO_write_50 rfl ?_
            refine wz_imul d_MO_write_52 ?_
            refine wp_lshr d_MO_write_53 ?_
            refine wz_ldc2 (z := 255) d_MO_write_54 cs_MO_82 rfl ?_
            refine wp_land d_MO_write_57 ?_
            refine wp_l2i d_MO_write_58 ?_
            rw [byte_m]
            refine wz_iast (j := tl σ + t) rfl (by omega) d_MO_write_59 (by decide) rfl (by decide) ?_
            have e5 : ∀ y : Int32, setI h 48 (tl σ + t) y 41 15 = zI ((tl σ : Int) + t) := fun y => rd1 (by decide) e1
            refine wp_aload_n d_MO_write_60 rfl ?_
            refine wp_dup d_MO_write_61 rfl ?_
            refine wz_getI ((e5 _)) d_MO_write_62 f_MO_79 (by decide) rfl rfl ?_
            refine wp_iconst (v := zI 1) d_MO_write_65 rfl ?_
            refine wz_iadd d_MO_write_66 ?_
            refine wp_putI d_MO_write_67 f_MO_79 pk_MO_15 (by decide) rfl rfl ?_
            refine wz_iinc (lv' := [_, _, _, _, _]) d_MO_write_70 rfl (by decide) rfl ?_
            refine wp_goto (tgt := 34) d_MO_write_73 (by decide) ?_
            have hidx : (8 * ((n : Int) - 1 - t)) = 8 * ((n - 1 - t : Nat) : Int) := by omega
            rw [hidx]
            have := ih (t + 1) (by omega) (setI (setI h 48 (tl σ + t) (zI (byt v (n - 1 - t)))) 41 15 (zI ((tl σ : Int) + t + 1))) (fun c h1 h2 => by rw [setI_ne _ _ _ h1, setI_ne _ _ _ h2]; exact e3 c h1 h2) (fun f hf => rdS hf (rd1 (by decide) (e6 f hf))) (rdA (by rfl)) (fun i hi' => rd1 (by decide) (rdS (by omega) (e2 i hi'))) (fun u hu => by
              by_cases q : u = t
              · subst q
                exact rd1 (by decide) (rdA rfl)
              · exact rd1 (by decide) (rdS (by omega) (e4 u (by omega))))
            rw [show (n : Int) - 1 - ((t + 1 : Nat) : Int) = (n : Int) - 1 - t + -1 by omega] at this
            exact this
      refine wp_iload_n d_MO_write_29 rfl ?_
      refine wp_iconst (v := zI 1) d_MO_write_30 rfl ?_
      refine wz_isub d_MO_write_31 ?_
      refine wp_istore (lv' := [_, _, _, _, _]) d_MO_write_32 (by decide) rfl ?_
      have := loop n 0 (by omega) hi (fun _ _ _ => rfl) (fun _ _ => rfl) (by rw [hA.tl]; congr 1) (fun _ _ => rfl) (fun u hu => absurd hu (by omega))
      rw [show (n : Int) - 1 - ((0 : Nat) : Int) = (n : Int) - 1 by omega] at this
      exact this
    · refine wp_bipush (v := zI (-4)) d_MO_write_26 rfl ?_
      rw [if_neg (fun q => absurd q.2 (by omega)), if_pos h9, if_neg (by omega)]
      exact wp_iret d_MO_write_28 (Or.inl rfl) (pM_of hA rfl)
  · refine wp_bipush (v := zI (-2)) d_MO_write_12 rfl ?_
    rw [r_write, sx_write, if_neg (by omega), if_neg (by omega)]
    exact wp_iret d_MO_write_14 (Or.inl rfl) (pM_of hA rfl)
end REFC
