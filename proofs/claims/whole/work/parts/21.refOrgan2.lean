/-! The reference's fault and organ -/
section REFORGAN2
variable {σ : SG} {hi : HI} {hl : HL}
theorem AM.keepR {h : HI} (hA : AM σ hi) (e0 : ∀ c, c ≠ 41 → c ≠ 42 → c ≠ 43 → c ≠ 44 → h c = hi c) (e1 : ∀ f, 9 ≤ f → f ≤ 15 → h 41 f = hi 41 f) : AM σ h := hA.keep e1 (fun c hc => e0 c (by omega) (by omega) (by omega) (by omega))
theorem cm_fault (ok : Ok σ) (hA : AM σ hi) : Ct M_MO_fault 9 [.ref 41] hi hl (pM σ (zI (r_fault σ)) hi) := by
  refine ct_intro (lv := [_]) (by decide +kernel) (Nat.le_of_ble_eq_true rfl) rfl ?_
  refine wp_aload_n d_MO_fault_0 rfl ?_
  refine wp_callV (ct_MO_readText ok hA) d_MO_fault_1 k_MO_120 (by decide) rfl rfl rfl rfl (Nat.le_of_ble_eq_true rfl) (by omega) ?_
  rintro _ h _ ⟨rfl, rfl, e0, e1, -⟩
  exact wp_iret d_MO_fault_4 (Or.inl rfl) (⟨rfl, hA.keepR e0 e1, fun c hc => e0 c (by omega) (by omega) (by omega) (by omega)⟩)
theorem cm_organ (ok : Ok σ) (hA : AM σ hi) : Ct M_MO_organ 9 [.ref 41] hi hl (pM (sx_organ σ) (zI (r_organ σ)) hi) := by
  have b1 := pQ_le σ
  have b2 := pPp_b σ
  have b4 := pH_b σ
  have hfb : inR (r_fault σ) := by
    have b3 := pE_b σ
    unfold r_fault
    repeat' split
    all_goals omega
  refine ct_intro (lv := [_, _]) (by decide +kernel) (Nat.le_of_ble_eq_true rfl) rfl ?_
  refine wp_aload_n d_MO_organ_0 rfl ?_
  refine wp_callV (ct_MO_readText ok hA) d_MO_organ_1 k_MO_120 (by decide) rfl rfl rfl rfl (Nat.le_of_ble_eq_true rfl) (by omega) ?_
  rintro _ h _ ⟨rfl, rfl, e0, e1, hr⟩
  refine wp_bipush (v := zI (-9)) d_MO_organ_4 rfl ?_
  refine wz_icmp_eq (tgt := 12) d_MO_organ_6 (by decide) (by omega) (by omega) (fun h6 => ?_) (fun h6 => ?_)
  · obtain ⟨p3, p4, p5, q1, q2, q3⟩ := hr h6
    rw [r_organ, sx_organ, if_pos h6, if_pos h6]
    -- the last rows
    have last : ∀ g : HI, (∀ c, c < 41 ∨ c = 48 ∨ 59 ≤ c → g c = hi c) → g 41 15 = hi 41 15 → g 41 9 = zI (pQ σ) → g 41 10 = zI (pPp σ).2 → g 41 11 = zI (pH σ).2 → (∀ k, k < 6 → g 45 k = h 42 k) → (∀ k, k < 60 → g 46 k = h 43 k) → (∀ k, k < 24 → g 47 k = h 44 k) → Wp M_MO_organ 9 (pM (newS σ) (zI (100 * (pQ σ : Int) + (pPp σ).2)) hi) 114 [some (.ref 41), none] [] g hl := by
      intro g f0 f15 f9 f10 f11 g45 g46 g47
      refine wp_aload_n d_MO_organ_114 rfl ?_
      refine wp_iconst (v := zI 0) d_MO_organ_115 rfl ?_
      refine wp_putI d_MO_organ_116 f_MO_129 pk_MO_12 (by decide) rfl rfl ?_
      refine wp_aload_n d_MO_organ_119 rfl ?_
      refine wp_iconst (v := zI 0) d_MO_organ_120 rfl ?_
      refine wp_putI d_MO_organ_121 f_MO_132 pk_MO_13 (by decide) rfl rfl ?_
      refine wp_aload_n d_MO_organ_124 rfl ?_
      refine wp_getR d_MO_organ_125 f_MO_59 (by decide) rfl rfl ?_
      refine wp_iconst (v := zI 0) d_MO_organ_128 rfl ?_
      refine wp_iconst (v := zI 0) d_MO_organ_129 rfl ?_
      refine wz_zast (j := 0) rfl (by decide) (Or.inl rfl) d_MO_organ_130 (by decide) rfl (by decide) ?_
      refine wp_aload_n d_MO_organ_131 rfl ?_
      refine wp_getR d_MO_organ_132 f_MO_59 (by decide) rfl rfl ?_
      refine wp_iconst (v := zI 1) d_MO_organ_135 rfl ?_
      refine wp_iconst (v := zI 0) d_MO_organ_136 rfl ?_
      refine wz_zast (j := 1) rfl (by decide) (Or.inl rfl) d_MO_organ_137 (by decide) rfl (by decide) ?_
      have w9 : setI (setI (setI (setI g 41 12 (zI 0)) 41 13 (zI 0)) 58 0 (zI 0)) 58 1 (zI 0) 41 9 = zI (pQ σ) := rd1 (by decide) (rd1 (by decide) (rdS (by decide) (rdS (by decide) f9)))
      have w10 : setI (setI (setI (setI g 41 12 (zI 0)) 41 13 (zI 0)) 58 0 (zI 0)) 58 1 (zI 0) 41 10 = zI (pPp σ).2 := rd1 (by decide) (rd1 (by decide) (rdS (by decide) (rdS (by decide) f10)))
      refine wp_bipush (v := zI 100) d_MO_organ_138 rfl ?_
      refine wp_aload_n d_MO_organ_140 rfl ?_
      refine wz_getI (w9) d_MO_organ_141 f_MO_69 (by decide) rfl rfl ?_
      refine wz_imul d_MO_organ_144 ?_
      refine wp_aload_n d_MO_organ_145 rfl ?_
      refine wz_getI (w10) d_MO_organ_146 f_MO_123 (by decide) rfl rfl ?_
      refine wz_iadd d_MO_organ_149 ?_
      have cc : ∀ c, c ≠ 41 → c ≠ 58 → setI (setI (setI (setI g 41 12 (zI 0)) 41 13 (zI 0)) 58 0 (zI 0)) 58 1 (zI 0) c = g c := fun c h1 h2 => by rw [setI_ne _ _ _ h2, setI_ne _ _ _ h2, setI_ne _ _ _ h1, setI_ne _ _ _ h1]
      have fin : AM (newS σ) (setI (setI (setI (setI g 41 12 (zI 0)) 41 13 (zI 0)) 58 0 (zI 0)) 58 1 (zI 0)) := by
        have gm : ∀ m, m < (pPp σ).2 → ∀ f, f < 5 → setI (setI (setI (setI g 41 12 (zI 0)) 41 13 (zI 0)) 58 0 (zI 0)) 58 1 (zI 0) 46 (5 * m + f) = zI (newS σ (3 + f) m) := fun m hm f hf => by
          rw [cc 46 (by omega) (by omega), g46 (5 * m + f) (by omega)]
          exact q2 m hm f hf
        refine ⟨⟨w10, ?_, ?_, fun m hm => gm m hm 0 (by omega), fun m hm => gm m hm 1 (by omega), fun m hm => gm m hm 2 (by omega), fun m hm => gm m hm 3 (by omega), fun m hm => gm m hm 4 (by omega)⟩, ⟨w9, ?_, fun p hp => ?_, fun j hj => ?_⟩, ⟨?_, fun i hi' => ?_⟩, fun s hs => ⟨?_, fun q => absurd q (by show ¬ (0 : Nat) = 1; omega)⟩⟩
        · exact rd1 (by decide) (rd1 (by decide) (rdS (by decide) (rdA rfl)))
        · exact rd1 (by decide) (rd1 (by decide) (rdA rfl))
        · exact rd1 (by decide) (rd1 (by decide) (rdS (by decide) (rdS (by decide) f11)))
        · have hp' : p < pQ σ := hp
          rw [cc 45 (by omega) (by omega), g45 p (by omega)]
          exact q1 p hp'
        · have hj' : j < (pH σ).2 := hj
          rw [cc 47 (by omega) (by omega), g47 j (by omega)]
          exact q3 j hj'
        · refine rd1 (by decide) (rd1 (by decide) (rdS (by decide) (rdS (by decide) ?_)))
          rw [f15]
          exact hA.tl
        · rw [cc 48 (by omega) (by omega), f0 48 (by omega)]
          exact hA.2.2.1.2 i hi'
        · rcases (show s = 0 ∨ s = 1 by omega) with rfl | rfl
          · exact rdS (by decide) (rdA rfl)
          · exact rdA rfl
      exact wp_iret d_MO_organ_150 (Or.inl rfl) (⟨rfl, fin, fun c hc => by rw [cc c (by omega) (by omega)]; exact f0 c (by omega)⟩)
    have loop3 : ∀ k i, i + k = 24 → ∀ g : HI, (∀ c, c < 41 ∨ c = 48 ∨ 59 ≤ c → g c = hi c) → g 41 15 = hi 41 15 → g 41 9 = zI (pQ σ) → g 41 10 = zI (pPp σ).2 → g 41 11 = zI (pH σ).2 → (∀ k, k < 6 → g 45 k = h 42 k) → (∀ k, k < 60 → g 46 k = h 43 k) → g 44 = h 44 → (∀ k, k < i → g 47 k = h 44 k) → Wp M_MO_organ 9 (pM (newS σ) (zI (100 * (pQ σ : Int) + (pPp σ).2)) hi) 90 [some (.ref 41), some (.int (zI i))] [] g hl := by
      intro k
      induction k with
      | zero =>
        intro i hik g f0 f15 f9 f10 f11 g45 g46 g44 g47
        refine wp_iload_n d_MO_organ_90 rfl ?_
        refine wp_bipush (v := zI 24) d_MO_organ_91 rfl ?_
        refine wz_icmp_ge (tgt := 114) d_MO_organ_93 (by decide) (by omega) (by omega) (fun h93 => ?_) (fun h93 => ?_)
        · refine wp_drop (lv' := [some _, none]) ⟨rfl, trivial⟩ ?_
          exact last g f0 f15 f9 f10 f11 g45 g46 (fun k hk => g47 k (by omega))
        · exact absurd h93 (by omega)
      | succ k ih =>
        intro i hik g f0 f15 f9 f10 f11 g45 g46 g44 g47
        have v : g 44 i = zI (h 44 i).toInt := by rw [zI_of, g44]
        refine wp_iload_n d_MO_organ_90 rfl ?_
        refine wp_bipush (v := zI 24) d_MO_organ_91 rfl ?_
        refine wz_icmp_ge (tgt := 114) d_MO_organ_93 (by decide) (by omega) (by omega) (fun h93 => ?_) (fun h93 => ?_)
        · exact absurd h93 (by omega)
        · refine wp_aload_n d_MO_organ_96 rfl ?_
          refine wp_getR d_MO_organ_97 f_MO_25 (by decide) rfl rfl ?_
          refine wp_iload_n d_MO_organ_100 rfl ?_
          refine wp_aload_n d_MO_organ_101 rfl ?_
          refine wp_getR d_MO_organ_102 f_MO_16 (by decide) rfl rfl ?_
          refine wp_iload_n d_MO_organ_105 rfl ?_
          refine wz_iald (v) (rfl) ((by omega)) d_MO_organ_106 (by decide) rfl (by decide) ?_
          refine wz_iast (rfl) ((by omega)) d_MO_organ_107 (by decide) rfl (by decide) ?_
          refine wz_iinc (lv' := [_, _]) d_MO_organ_108 rfl (by decide) rfl ?_
          refine wp_goto (tgt := 90) d_MO_organ_111 (by decide) ?_
          refine ih (i + 1) (by omega) _ (fun c hc => by rw [setI_ne _ _ _ (by omega)]; exact f0 c hc) (rd1 (by decide) f15) (rd1 (by decide) f9) (rd1 (by decide) f10) (rd1 (by decide) f11) (fun k hk => rd1 (by decide) (g45 k hk)) (fun k hk => rd1 (by decide) (g46 k hk)) (by rw [setI_ne _ _ _ (by decide)]; exact g44) (fun k hk => ?_)
          by_cases z : k = i
          · subst z
            exact rdA (zI_of _)
          · exact rdS z (g47 k (by omega))
    have loop2 : ∀ k i, i + k = 60 → ∀ g : HI, (∀ c, c < 41 ∨ c = 48 ∨ 59 ≤ c → g c = hi c) → g 41 15 = hi 41 15 → g 41 9 = zI (pQ σ) → g 41 10 = zI (pPp σ).2 → g 41 11 = zI (pH σ).2 → (∀ k, k < 6 → g 45 k = h 42 k) → g 43 = h 43 → g 44 = h 44 → (∀ k, k < i → g 46 k = h 43 k) → Wp M_MO_organ 9 (pM (newS σ) (zI (100 * (pQ σ : Int) + (pPp σ).2)) hi) 64 [some (.ref 41), some (.int (zI i))] [] g hl := by
      intro k
      induction k with
      | zero =>
        intro i hik g f0 f15 f9 f10 f11 g45 g43 g44 g46
        refine wp_iload_n d_MO_organ_64 rfl ?_
        refine wp_bipush (v := zI 60) d_MO_organ_65 rfl ?_
        refine wz_icmp_ge (tgt := 88) d_MO_organ_67 (by decide) (by omega) (by omega) (fun h67 => ?_) (fun h67 => ?_)
        · refine wp_iconst (v := zI 0) d_MO_organ_88 rfl ?_
          refine wp_istore_n (lv' := [_, _]) d_MO_organ_89 (by decide) rfl ?_
          exact loop3 24 0 (by omega) g f0 f15 f9 f10 f11 g45 (fun k hk => g46 k (by omega)) g44 (fun k hk => absurd hk (by omega))
        · exact absurd h67 (by omega)
      | succ k ih =>
        intro i hik g f0 f15 f9 f10 f11 g45 g43 g44 g46
        have v : g 43 i = zI (h 43 i).toInt := by rw [zI_of, g43]
        refine wp_iload_n d_MO_organ_64 rfl ?_
        refine wp_bipush (v := zI 60) d_MO_organ_65 rfl ?_
        refine wz_icmp_ge (tgt := 88) d_MO_organ_67 (by decide) (by omega) (by omega) (fun h67 => ?_) (fun h67 => ?_)
        · exact absurd h67 (by omega)
        · refine wp_aload_n d_MO_organ_70 rfl ?_
          refine wp_getR d_MO_organ_71 f_MO_22 (by decide) rfl rfl ?_
          refine wp_iload_n d_MO_organ_74 rfl ?_
          refine wp_aload_n d_MO_organ_75 rfl ?_
          refine wp_getR d_MO_organ_76 f_MO_13 (by decide) rfl rfl ?_
          refine wp_iload_n d_MO_organ_79 rfl ?_
          refine wz_iald (v) (rfl) ((by omega)) d_MO_organ_80 (by decide) rfl (by decide) ?_
          refine wz_iast (rfl) ((by omega)) d_MO_organ_81 (by decide) rfl (by decide) ?_
          refine wz_iinc (lv' := [_, _]) d_MO_organ_82 rfl (by decide) rfl ?_
          refine wp_goto (tgt := 64) d_MO_organ_85 (by decide) ?_
          refine ih (i + 1) (by omega) _ (fun c hc => by rw [setI_ne _ _ _ (by omega)]; exact f0 c hc) (rd1 (by decide) f15) (rd1 (by decide) f9) (rd1 (by decide) f10) (rd1 (by decide) f11) (fun k hk => rd1 (by decide) (g45 k hk)) (by rw [setI_ne _ _ _ (by decide)]; exact g43) (by rw [setI_ne _ _ _ (by decide)]; exact g44) (fun k hk => ?_)
          by_cases z : k = i
          · subst z
            exact rdA (zI_of _)
          · exact rdS z (g46 k (by omega))
    have loop1 : ∀ k i, i + k = 6 → ∀ g : HI, (∀ c, c < 41 ∨ c = 48 ∨ 59 ≤ c → g c = hi c) → g 41 15 = hi 41 15 → g 41 9 = zI (pQ σ) → g 41 10 = zI (pPp σ).2 → g 41 11 = zI (pH σ).2 → g 42 = h 42 → g 43 = h 43 → g 44 = h 44 → (∀ k, k < i → g 45 k = h 42 k) → Wp M_MO_organ 9 (pM (newS σ) (zI (100 * (pQ σ : Int) + (pPp σ).2)) hi) 38 [some (.ref 41), some (.int (zI i))] [] g hl := by
      intro k
      induction k with
      | zero =>
        intro i hik g f0 f15 f9 f10 f11 g42 g43 g44 g45
        refine wp_iload_n d_MO_organ_38 rfl ?_
        refine wp_bipush (v := zI 6) d_MO_organ_39 rfl ?_
        refine wz_icmp_ge (tgt := 62) d_MO_organ_41 (by decide) (by omega) (by omega) (fun h41 => ?_) (fun h41 => ?_)
        · refine wp_iconst (v := zI 0) d_MO_organ_62 rfl ?_
          refine wp_istore_n (lv' := [_, _]) d_MO_organ_63 (by decide) rfl ?_
          exact loop2 60 0 (by omega) g f0 f15 f9 f10 f11 (fun k hk => g45 k (by omega)) g43 g44 (fun k hk => absurd hk (by omega))
        · exact absurd h41 (by omega)
      | succ k ih =>
        intro i hik g f0 f15 f9 f10 f11 g42 g43 g44 g45
        have v : g 42 i = zI (h 42 i).toInt := by rw [zI_of, g42]
        refine wp_iload_n d_MO_organ_38 rfl ?_
        refine wp_bipush (v := zI 6) d_MO_organ_39 rfl ?_
        refine wz_icmp_ge (tgt := 62) d_MO_organ_41 (by decide) (by omega) (by omega) (fun h41 => ?_) (fun h41 => ?_)
        · exact absurd h41 (by omega)
        · refine wp_aload_n d_MO_organ_44 rfl ?_
          refine wp_getR d_MO_organ_45 f_MO_19 (by decide) rfl rfl ?_
          refine wp_iload_n d_MO_organ_48 rfl ?_
          refine wp_aload_n d_MO_organ_49 rfl ?_
          refine wp_getR d_MO_organ_50 f_MO_7 (by decide) rfl rfl ?_
          refine wp_iload_n d_MO_organ_53 rfl ?_
          refine wz_iald (v) (rfl) ((by omega)) d_MO_organ_54 (by decide) rfl (by decide) ?_
          refine wz_iast (rfl) ((by omega)) d_MO_organ_55 (by decide) rfl (by decide) ?_
          refine wz_iinc (lv' := [_, _]) d_MO_organ_56 rfl (by decide) rfl ?_
          refine wp_goto (tgt := 38) d_MO_organ_59 (by decide) ?_
          refine ih (i + 1) (by omega) _ (fun c hc => by rw [setI_ne _ _ _ (by omega)]; exact f0 c hc) (rd1 (by decide) f15) (rd1 (by decide) f9) (rd1 (by decide) f10) (rd1 (by decide) f11) (by rw [setI_ne _ _ _ (by decide)]; exact g42) (by rw [setI_ne _ _ _ (by decide)]; exact g43) (by rw [setI_ne _ _ _ (by decide)]; exact g44) (fun k hk => ?_)
          by_cases z : k = i
          · subst z
            exact rdA (zI_of _)
          · exact rdS z (g45 k (by omega))
    refine wp_aload_n d_MO_organ_12 rfl ?_
    refine wp_aload_n d_MO_organ_13 rfl ?_
    refine wz_getI (p3) d_MO_organ_14 f_MO_99 (by decide) rfl rfl ?_
    refine wp_putI d_MO_organ_17 f_MO_69 pk_MO_9 (by decide) rfl rfl ?_
    refine wp_aload_n d_MO_organ_20 rfl ?_
    refine wp_aload_n d_MO_organ_21 rfl ?_
    refine wz_getI ((rdS (by decide) p4)) d_MO_organ_22 f_MO_102 (by decide) rfl rfl ?_
    refine wp_putI d_MO_organ_25 f_MO_123 pk_MO_10 (by decide) rfl rfl ?_
    refine wp_aload_n d_MO_organ_28 rfl ?_
    refine wp_aload_n d_MO_organ_29 rfl ?_
    refine wz_getI ((rdS (by decide) (rdS (by decide) p5))) d_MO_organ_30 f_MO_105 (by decide) rfl rfl ?_
    refine wp_putI d_MO_organ_33 f_MO_126 pk_MO_11 (by decide) rfl rfl ?_
    refine wp_iconst (v := zI 0) d_MO_organ_36 rfl ?_
    refine wp_istore_n (lv' := [_, _]) d_MO_organ_37 (by decide) rfl ?_
    refine loop1 6 0 (by omega) _ (fun c hc => ?_) ?_ ?_ ?_ ?_ ?_ ?_ ?_ (fun k hk => absurd hk (by omega))
    · rw [setI_ne _ _ _ (by omega), setI_ne _ _ _ (by omega), setI_ne _ _ _ (by omega)]
      exact e0 c (by omega) (by omega) (by omega) (by omega)
    · exact rdS (by decide) (rdS (by decide) (rdS (by decide) (e1 15 (by omega) (by omega))))
    · exact rdS (by decide) (rdS (by decide) (rdA rfl))
    · exact rdS (by decide) (rdA rfl)
    · exact rdA rfl
    · rw [setI_ne _ _ _ (by decide), setI_ne _ _ _ (by decide), setI_ne _ _ _ (by decide)]
    · rw [setI_ne _ _ _ (by decide), setI_ne _ _ _ (by decide), setI_ne _ _ _ (by decide)]
    · rw [setI_ne _ _ _ (by decide), setI_ne _ _ _ (by decide), setI_ne _ _ _ (by decide)]
  · refine wp_bipush (v := zI (-3)) d_MO_organ_9 rfl ?_
    rw [r_organ, sx_organ, if_neg h6, if_neg h6]
    exact wp_iret d_MO_organ_11 (Or.inl rfl) (⟨rfl, hA.keepR e0 e1, fun c hc => e0 c (by omega) (by omega) (by omega) (by omega)⟩)
end REFORGAN2
