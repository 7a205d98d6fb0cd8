/-! a slot takes what there is, and gives it back -/
section COPY
variable {hi : HI} {hl : HL}
theorem rd1 {h : HI} {k i c j : Nat} {v x : Int32} (hc : c ≠ k) (e : h c j = x) : setI h k i v c j = x := by rw [setI_ne _ _ _ hc]; exact e
theorem rdS {h : HI} {k i j : Nat} {v x : Int32} (hj : j ≠ i) (e : h k j = x) : setI h k i v k j = x := by rw [setI_at_ne _ _ _ hj]; exact e
theorem rdA {h : HI} {k i : Nat} {v x : Int32} (e : v = x) : setI h k i v k i = x := by rw [setI_at]; exact e
theorem ct_copy_12_6 {n : Nat} (d : Nat) (hn : n ≤ 12) (h0 : hi 6 0 = zI n) (hb : ∀ m, m < n → hi 11 m = 0 ∨ hi 11 m = 1) : Ct M_PE_copyFrom d [.ref 12, .ref 6] hi hl (fun r hi' hl' => r = none ∧ hl = hl' ∧ (∀ f, f < 3 → hi' 12 f = hi 6 f) ∧ (∀ m, m < n → hi' 13 m = hi 7 m ∧ hi' 14 m = hi 8 m ∧ hi' 15 m = hi 9 m ∧ hi' 16 m = hi 10 m ∧ hi' 17 m = hi 11 m) ∧ ∀ c, c < 12 ∨ 17 < c → hi' c = hi c) := by
  have loop : ∀ k i, i + k = n → ∀ h : HI, (∀ f, f < 3 → h 12 f = hi 6 f) → (∀ m, m < i → h 13 m = hi 7 m ∧ h 14 m = hi 8 m ∧ h 15 m = hi 9 m ∧ h 16 m = hi 10 m ∧ h 17 m = hi 11 m) → (∀ c, c < 12 ∨ 17 < c → h c = hi c) → Wp M_PE_copyFrom d (fun r hi' hl' => r = none ∧ hl = hl' ∧ (∀ f, f < 3 → hi' 12 f = hi 6 f) ∧ (∀ m, m < n → hi' 13 m = hi 7 m ∧ hi' 14 m = hi 8 m ∧ hi' 15 m = hi 9 m ∧ hi' 16 m = hi 10 m ∧ hi' 17 m = hi 11 m) ∧ ∀ c, c < 12 ∨ 17 < c → hi' c = hi c) 26 [some (.ref 12), some (.ref 6), some (.int (zI i))] [] h hl := by
    intro k
    induction k with
    | zero =>
      intro i hik h e1 e2 e3
      refine wp_iload_n d_PE_copyFrom_26 rfl ?_
      refine wp_aload_n d_PE_copyFrom_27 rfl ?_
      refine wz_getI (((e1 0 (by omega)).trans h0)) d_PE_copyFrom_28 f_PE_34 (by decide) rfl rfl ?_
      refine wz_icmp_ge (tgt := 100) d_PE_copyFrom_31 (by decide) (by omega) (by omega) (fun h31 => ?_) (fun h31 => ?_)
      · exact wp_vret d_PE_copyFrom_100 rfl (⟨rfl, rfl, e1, fun m hm => e2 m (by omega), e3⟩)
      · exact absurd h31 (by omega)
    | succ k ih =>
      intro i hik h e1 e2 e3
      refine wp_iload_n d_PE_copyFrom_26 rfl ?_
      refine wp_aload_n d_PE_copyFrom_27 rfl ?_
      refine wz_getI (((e1 0 (by omega)).trans h0)) d_PE_copyFrom_28 f_PE_34 (by decide) rfl rfl ?_
      refine wz_icmp_ge (tgt := 100) d_PE_copyFrom_31 (by decide) (by omega) (by omega) (fun h31 => ?_) (fun h31 => ?_)
      · exact absurd h31 (by omega)
      · have g1 : h 7 = hi 7 := e3 7 (by omega)
        have g2 : h 8 = hi 8 := e3 8 (by omega)
        have g3 : h 9 = hi 9 := e3 9 (by omega)
        have g4 : h 10 = hi 10 := e3 10 (by omega)
        have g5 : h 11 = hi 11 := e3 11 (by omega)
        have hbi : zI ((hi 11 i).toInt) = 0 ∨ zI ((hi 11 i).toInt) = 1 := by rw [zI_of]; exact hb i (by omega)
        have f1 : h 7 i = zI ((hi 7 i).toInt) := by rw [zI_of, g1]
        have f2 : h 8 i = zI ((hi 8 i).toInt) := by rw [zI_of, g2]
        have f3 : h 9 i = zI ((hi 9 i).toInt) := by rw [zI_of, g3]
        have f4 : h 10 i = zI ((hi 10 i).toInt) := by rw [zI_of, g4]
        have f5 : h 11 i = zI ((hi 11 i).toInt) := by rw [zI_of, g5]
        refine wp_aload_n d_PE_copyFrom_34 rfl ?_
        refine wp_getR d_PE_copyFrom_35 f_PE_9 (by decide) rfl rfl ?_
        refine wp_iload_n d_PE_copyFrom_38 rfl ?_
        refine wp_aload_n d_PE_copyFrom_39 rfl ?_
        refine wp_getR d_PE_copyFrom_40 f_PE_9 (by decide) rfl rfl ?_
        refine wp_iload_n d_PE_copyFrom_43 rfl ?_
        refine wz_iald (f1) (rfl) ((by omega)) d_PE_copyFrom_44 (by decide) rfl (by decide) ?_
        refine wz_iast (rfl) ((by omega)) d_PE_copyFrom_45 (by decide) rfl (by decide) ?_
        refine wp_aload_n d_PE_copyFrom_46 rfl ?_
        refine wp_getR d_PE_copyFrom_47 f_PE_15 (by decide) rfl rfl ?_
        refine wp_iload_n d_PE_copyFrom_50 rfl ?_
        refine wp_aload_n d_PE_copyFrom_51 rfl ?_
        refine wp_getR d_PE_copyFrom_52 f_PE_15 (by decide) rfl rfl ?_
        refine wp_iload_n d_PE_copyFrom_55 rfl ?_
        refine wz_iald (f2) (rfl) ((by omega)) d_PE_copyFrom_56 (by decide) rfl (by decide) ?_
        refine wz_iast (rfl) ((by omega)) d_PE_copyFrom_57 (by decide) rfl (by decide) ?_
        refine wp_aload_n d_PE_copyFrom_58 rfl ?_
        refine wp_getR d_PE_copyFrom_59 f_PE_18 (by decide) rfl rfl ?_
        refine wp_iload_n d_PE_copyFrom_62 rfl ?_
        refine wp_aload_n d_PE_copyFrom_63 rfl ?_
        refine wp_getR d_PE_copyFrom_64 f_PE_18 (by decide) rfl rfl ?_
        refine wp_iload_n d_PE_copyFrom_67 rfl ?_
        refine wz_iald (f3) (rfl) ((by omega)) d_PE_copyFrom_68 (by decide) rfl (by decide) ?_
        refine wz_iast (rfl) ((by omega)) d_PE_copyFrom_69 (by decide) rfl (by decide) ?_
        refine wp_aload_n d_PE_copyFrom_70 rfl ?_
        refine wp_getR d_PE_copyFrom_71 f_PE_21 (by decide) rfl rfl ?_
        refine wp_iload_n d_PE_copyFrom_74 rfl ?_
        refine wp_aload_n d_PE_copyFrom_75 rfl ?_
        refine wp_getR d_PE_copyFrom_76 f_PE_21 (by decide) rfl rfl ?_
        refine wp_iload_n d_PE_copyFrom_79 rfl ?_
        refine wz_iald (f4) (rfl) ((by omega)) d_PE_copyFrom_80 (by decide) rfl (by decide) ?_
        refine wz_iast (rfl) ((by omega)) d_PE_copyFrom_81 (by decide) rfl (by decide) ?_
        refine wp_aload_n d_PE_copyFrom_82 rfl ?_
        refine wp_getR d_PE_copyFrom_83 f_PE_24 (by decide) rfl rfl ?_
        refine wp_iload_n d_PE_copyFrom_86 rfl ?_
        refine wp_aload_n d_PE_copyFrom_87 rfl ?_
        refine wp_getR d_PE_copyFrom_88 f_PE_24 (by decide) rfl rfl ?_
        refine wp_iload_n d_PE_copyFrom_91 rfl ?_
        refine wz_zald (f5) (rfl) ((by omega)) d_PE_copyFrom_92 (by decide) rfl (by decide) ?_
        refine wz_zast (rfl) ((by omega)) (hbi) d_PE_copyFrom_93 (by decide) rfl (by decide) ?_
        refine wz_iinc (lv' := [_, _, _]) d_PE_copyFrom_94 rfl (by decide) rfl ?_
        refine wp_goto (tgt := 26) d_PE_copyFrom_97 (by decide) ?_
        refine ih (i + 1) (by omega) _ (fun f hf => ?_) (fun m hm => ?_) (fun c hc => ?_)
        · exact rd1 (by decide) (rd1 (by decide) (rd1 (by decide) (rd1 (by decide) (rd1 (by decide) (e1 f hf)))))
        · by_cases e : m = i
          · subst e
            refine ⟨?_, ?_, ?_, ?_, ?_⟩
            · exact rd1 (by decide) (rd1 (by decide) (rd1 (by decide) (rd1 (by decide) (rdA (zI_of _)))))
            · exact rd1 (by decide) (rd1 (by decide) (rd1 (by decide) (rdA (zI_of _))))
            · exact rd1 (by decide) (rd1 (by decide) (rdA (zI_of _)))
            · exact rd1 (by decide) (rdA (zI_of _))
            · exact rdA (zI_of _)
          · obtain ⟨q1, q2, q3, q4, q5⟩ := e2 m (by omega)
            refine ⟨?_, ?_, ?_, ?_, ?_⟩
            · exact rd1 (by decide) (rd1 (by decide) (rd1 (by decide) (rd1 (by decide) (rdS e q1))))
            · exact rd1 (by decide) (rd1 (by decide) (rd1 (by decide) (rdS e (rd1 (by decide) q2))))
            · exact rd1 (by decide) (rd1 (by decide) (rdS e (rd1 (by decide) (rd1 (by decide) q3))))
            · exact rd1 (by decide) (rdS e (rd1 (by decide) (rd1 (by decide) (rd1 (by decide) q4))))
            · exact rdS e (rd1 (by decide) (rd1 (by decide) (rd1 (by decide) (rd1 (by decide) q5))))
        · rw [setI_ne _ _ _ (by omega), setI_ne _ _ _ (by omega), setI_ne _ _ _ (by omega), setI_ne _ _ _ (by omega), setI_ne _ _ _ (by omega)]
          exact e3 c hc
  have k1 : hi 6 1 = zI ((hi 6 1).toInt) := (zI_of _).symm
  have k2 : hi 6 2 = zI ((hi 6 2).toInt) := (zI_of _).symm
  refine ct_intro (lv := [_, _, _]) (by decide +kernel) (Nat.le_of_ble_eq_true rfl) rfl ?_
  refine wp_aload_n d_PE_copyFrom_0 rfl ?_
  refine wp_aload_n d_PE_copyFrom_1 rfl ?_
  refine wz_getI (h0) d_PE_copyFrom_2 f_PE_34 (by decide) rfl rfl ?_
  refine wp_putI d_PE_copyFrom_5 f_PE_34 pk_PE_0 (by decide) rfl rfl ?_
  refine wp_aload_n d_PE_copyFrom_8 rfl ?_
  refine wp_aload_n d_PE_copyFrom_9 rfl ?_
  refine wz_getI (k1) d_PE_copyFrom_10 f_PE_37 (by decide) rfl rfl ?_
  refine wp_putI d_PE_copyFrom_13 f_PE_37 pk_PE_1 (by decide) rfl rfl ?_
  refine wp_aload_n d_PE_copyFrom_16 rfl ?_
  refine wp_aload_n d_PE_copyFrom_17 rfl ?_
  refine wz_getI (k2) d_PE_copyFrom_18 f_PE_40 (by decide) rfl rfl ?_
  refine wp_putI d_PE_copyFrom_21 f_PE_40 pk_PE_2 (by decide) rfl rfl ?_
  refine wp_iconst (v := zI 0) d_PE_copyFrom_24 rfl ?_
  refine wp_istore_n (lv' := [_, _, _]) d_PE_copyFrom_25 (by decide) rfl ?_
  refine loop n 0 (by omega) _ (fun f hf => ?_) (fun m hm => absurd hm (by omega)) (fun c hc => ?_)
  · rcases (show f = 0 ∨ f = 1 ∨ f = 2 by omega) with rfl | rfl | rfl
    · exact rdS (by decide) (rdS (by decide) (rdA h0.symm))
    · exact rdS (by decide) (rdA (zI_of _))
    · exact rdA (zI_of _)
  · rw [setI_ne _ _ _ (by omega), setI_ne _ _ _ (by omega), setI_ne _ _ _ (by omega)]
theorem ct_copy_18_6 {n : Nat} (d : Nat) (hn : n ≤ 12) (h0 : hi 6 0 = zI n) (hb : ∀ m, m < n → hi 11 m = 0 ∨ hi 11 m = 1) : Ct M_PE_copyFrom d [.ref 18, .ref 6] hi hl (fun r hi' hl' => r = none ∧ hl = hl' ∧ (∀ f, f < 3 → hi' 18 f = hi 6 f) ∧ (∀ m, m < n → hi' 19 m = hi 7 m ∧ hi' 20 m = hi 8 m ∧ hi' 21 m = hi 9 m ∧ hi' 22 m = hi 10 m ∧ hi' 23 m = hi 11 m) ∧ ∀ c, c < 18 ∨ 23 < c → hi' c = hi c) := by
  have loop : ∀ k i, i + k = n → ∀ h : HI, (∀ f, f < 3 → h 18 f = hi 6 f) → (∀ m, m < i → h 19 m = hi 7 m ∧ h 20 m = hi 8 m ∧ h 21 m = hi 9 m ∧ h 22 m = hi 10 m ∧ h 23 m = hi 11 m) → (∀ c, c < 18 ∨ 23 < c → h c = hi c) → Wp M_PE_copyFrom d (fun r hi' hl' => r = none ∧ hl = hl' ∧ (∀ f, f < 3 → hi' 18 f = hi 6 f) ∧ (∀ m, m < n → hi' 19 m = hi 7 m ∧ hi' 20 m = hi 8 m ∧ hi' 21 m = hi 9 m ∧ hi' 22 m = hi 10 m ∧ hi' 23 m = hi 11 m) ∧ ∀ c, c < 18 ∨ 23 < c → hi' c = hi c) 26 [some (.ref 18), some (.ref 6), some (.int (zI i))] [] h hl := by
    intro k
    induction k with
    | zero =>
      intro i hik h e1 e2 e3
      refine wp_iload_n d_PE_copyFrom_26 rfl ?_
      refine wp_aload_n d_PE_copyFrom_27 rfl ?_
      refine wz_getI (((e1 0 (by omega)).trans h0)) d_PE_copyFrom_28 f_PE_34 (by decide) rfl rfl ?_
      refine wz_icmp_ge (tgt := 100) d_PE_copyFrom_31 (by decide) (by omega) (by omega) (fun h31 => ?_) (fun h31 => ?_)
      · exact wp_vret d_PE_copyFrom_100 rfl (⟨rfl, rfl, e1, fun m hm => e2 m (by omega), e3⟩)
      · exact absurd h31 (by omega)
    | succ k ih =>
      intro i hik h e1 e2 e3
      refine wp_iload_n d_PE_copyFrom_26 rfl ?_
      refine wp_aload_n d_PE_copyFrom_27 rfl ?_
      refine wz_getI (((e1 0 (by omega)).trans h0)) d_PE_copyFrom_28 f_PE_34 (by decide) rfl rfl ?_
      refine wz_icmp_ge (tgt := 100) d_PE_copyFrom_31 (by decide) (by omega) (by omega) (fun h31 => ?_) (fun h31 => ?_)
      · exact absurd h31 (by omega)
      · have g1 : h 7 = hi 7 := e3 7 (by omega)
        have g2 : h 8 = hi 8 := e3 8 (by omega)
        have g3 : h 9 = hi 9 := e3 9 (by omega)
        have g4 : h 10 = hi 10 := e3 10 (by omega)
        have g5 : h 11 = hi 11 := e3 11 (by omega)
        have hbi : zI ((hi 11 i).toInt) = 0 ∨ zI ((hi 11 i).toInt) = 1 := by rw [zI_of]; exact hb i (by omega)
        have f1 : h 7 i = zI ((hi 7 i).toInt) := by rw [zI_of, g1]
        have f2 : h 8 i = zI ((hi 8 i).toInt) := by rw [zI_of, g2]
        have f3 : h 9 i = zI ((hi 9 i).toInt) := by rw [zI_of, g3]
        have f4 : h 10 i = zI ((hi 10 i).toInt) := by rw [zI_of, g4]
        have f5 : h 11 i = zI ((hi 11 i).toInt) := by rw [zI_of, g5]
        refine wp_aload_n d_PE_copyFrom_34 rfl ?_
        refine wp_getR d_PE_copyFrom_35 f_PE_9 (by decide) rfl rfl ?_
        refine wp_iload_n d_PE_copyFrom_38 rfl ?_
        refine wp_aload_n d_PE_copyFrom_39 rfl ?_
        refine wp_getR d_PE_copyFrom_40 f_PE_9 (by decide) rfl rfl ?_
        refine wp_iload_n d_PE_copyFrom_43 rfl ?_
        refine wz_iald (f1) (rfl) ((by omega)) d_PE_copyFrom_44 (by decide) rfl (by decide) ?_
        refine wz_iast (rfl) ((by omega)) d_PE_copyFrom_45 (by decide) rfl (by decide) ?_
        refine wp_aload_n d_PE_copyFrom_46 rfl ?_
        refine wp_getR d_PE_copyFrom_47 f_PE_15 (by decide) rfl rfl ?_
        refine wp_iload_n d_PE_copyFrom_50 rfl ?_
        refine wp_aload_n d_PE_copyFrom_51 rfl ?_
        refine wp_getR d_PE_copyFrom_52 f_PE_15 (by decide) rfl rfl ?_
        refine wp_iload_n d_PE_copyFrom_55 rfl ?_
        refine wz_iald (f2) (rfl) ((by omega)) d_PE_copyFrom_56 (by decide) rfl (by decide) ?_
        refine wz_iast (rfl) ((by omega)) d_PE_copyFrom_57 (by decide) rfl (by decide) ?_
        refine wp_aload_n d_PE_copyFrom_58 rfl ?_
        refine wp_getR d_PE_copyFrom_59 f_PE_18 (by decide) rfl rfl ?_
        refine wp_iload_n d_PE_copyFrom_62 rfl ?_
        refine wp_aload_n d_PE_copyFrom_63 rfl ?_
        refine wp_getR d_PE_copyFrom_64 f_PE_18 (by decide) rfl rfl ?_
        refine wp_iload_n d_PE_copyFrom_67 rfl ?_
        refine wz_iald (f3) (rfl) ((by omega)) d_PE_copyFrom_68 (by decide) rfl (by decide) ?_
        refine wz_iast (rfl) ((by omega)) d_PE_copyFrom_69 (by decide) rfl (by decide) ?_
        refine wp_aload_n d_PE_copyFrom_70 rfl ?_
        refine wp_getR d_PE_copyFrom_71 f_PE_21 (by decide) rfl rfl ?_
        refine wp_iload_n d_PE_copyFrom_74 rfl ?_
        refine wp_aload_n d_PE_copyFrom_75 rfl ?_
        refine wp_getR d_PE_copyFrom_76 f_PE_21 (by decide) rfl rfl ?_
        refine wp_iload_n d_PE_copyFrom_79 rfl ?_
        refine wz_iald (f4) (rfl) ((by omega)) d_PE_copyFrom_80 (by decide) rfl (by decide) ?_
        refine wz_iast (rfl) ((by omega)) d_PE_copyFrom_81 (by decide) rfl (by decide) ?_
        refine wp_aload_n d_PE_copyFrom_82 rfl ?_
        refine wp_getR d_PE_copyFrom_83 f_PE_24 (by decide) rfl rfl ?_
        refine wp_iload_n d_PE_copyFrom_86 rfl ?_
        refine wp_aload_n d_PE_copyFrom_87 rfl ?_
        refine wp_getR d_PE_copyFrom_88 f_PE_24 (by decide) rfl rfl ?_
        refine wp_iload_n d_PE_copyFrom_91 rfl ?_
        refine wz_zald (f5) (rfl) ((by omega)) d_PE_copyFrom_92 (by decide) rfl (by decide) ?_
        refine wz_zast (rfl) ((by omega)) (hbi) d_PE_copyFrom_93 (by decide) rfl (by decide) ?_
        refine wz_iinc (lv' := [_, _, _]) d_PE_copyFrom_94 rfl (by decide) rfl ?_
        refine wp_goto (tgt := 26) d_PE_copyFrom_97 (by decide) ?_
        refine ih (i + 1) (by omega) _ (fun f hf => ?_) (fun m hm => ?_) (fun c hc => ?_)
        · exact rd1 (by decide) (rd1 (by decide) (rd1 (by decide) (rd1 (by decide) (rd1 (by decide) (e1 f hf)))))
        · by_cases e : m = i
          · subst e
            refine ⟨?_, ?_, ?_, ?_, ?_⟩
            · exact rd1 (by decide) (rd1 (by decide) (rd1 (by decide) (rd1 (by decide) (rdA (zI_of _)))))
            · exact rd1 (by decide) (rd1 (by decide) (rd1 (by decide) (rdA (zI_of _))))
            · exact rd1 (by decide) (rd1 (by decide) (rdA (zI_of _)))
            · exact rd1 (by decide) (rdA (zI_of _))
            · exact rdA (zI_of _)
          · obtain ⟨q1, q2, q3, q4, q5⟩ := e2 m (by omega)
            refine ⟨?_, ?_, ?_, ?_, ?_⟩
            · exact rd1 (by decide) (rd1 (by decide) (rd1 (by decide) (rd1 (by decide) (rdS e q1))))
            · exact rd1 (by decide) (rd1 (by decide) (rd1 (by decide) (rdS e (rd1 (by decide) q2))))
            · exact rd1 (by decide) (rd1 (by decide) (rdS e (rd1 (by decide) (rd1 (by decide) q3))))
            · exact rd1 (by decide) (rdS e (rd1 (by decide) (rd1 (by decide) (rd1 (by decide) q4))))
            · exact rdS e (rd1 (by decide) (rd1 (by decide) (rd1 (by decide) (rd1 (by decide) q5))))
        · rw [setI_ne _ _ _ (by omega), setI_ne _ _ _ (by omega), setI_ne _ _ _ (by omega), setI_ne _ _ _ (by omega), setI_ne _ _ _ (by omega)]
          exact e3 c hc
  have k1 : hi 6 1 = zI ((hi 6 1).toInt) := (zI_of _).symm
  have k2 : hi 6 2 = zI ((hi 6 2).toInt) := (zI_of _).symm
  refine ct_intro (lv := [_, _, _]) (by decide +kernel) (Nat.le_of_ble_eq_true rfl) rfl ?_
  refine wp_aload_n d_PE_copyFrom_0 rfl ?_
  refine wp_aload_n d_PE_copyFrom_1 rfl ?_
  refine wz_getI (h0) d_PE_copyFrom_2 f_PE_34 (by decide) rfl rfl ?_
  refine wp_putI d_PE_copyFrom_5 f_PE_34 pk_PE_0 (by decide) rfl rfl ?_
  refine wp_aload_n d_PE_copyFrom_8 rfl ?_
  refine wp_aload_n d_PE_copyFrom_9 rfl ?_
  refine wz_getI (k1) d_PE_copyFrom_10 f_PE_37 (by decide) rfl rfl ?_
  refine wp_putI d_PE_copyFrom_13 f_PE_37 pk_PE_1 (by decide) rfl rfl ?_
  refine wp_aload_n d_PE_copyFrom_16 rfl ?_
  refine wp_aload_n d_PE_copyFrom_17 rfl ?_
  refine wz_getI (k2) d_PE_copyFrom_18 f_PE_40 (by decide) rfl rfl ?_
  refine wp_putI d_PE_copyFrom_21 f_PE_40 pk_PE_2 (by decide) rfl rfl ?_
  refine wp_iconst (v := zI 0) d_PE_copyFrom_24 rfl ?_
  refine wp_istore_n (lv' := [_, _, _]) d_PE_copyFrom_25 (by decide) rfl ?_
  refine loop n 0 (by omega) _ (fun f hf => ?_) (fun m hm => absurd hm (by omega)) (fun c hc => ?_)
  · rcases (show f = 0 ∨ f = 1 ∨ f = 2 by omega) with rfl | rfl | rfl
    · exact rdS (by decide) (rdS (by decide) (rdA h0.symm))
    · exact rdS (by decide) (rdA (zI_of _))
    · exact rdA (zI_of _)
  · rw [setI_ne _ _ _ (by omega), setI_ne _ _ _ (by omega), setI_ne _ _ _ (by omega)]
theorem ct_copy_6_12 {n : Nat} (d : Nat) (hn : n ≤ 12) (h0 : hi 12 0 = zI n) (hb : ∀ m, m < n → hi 17 m = 0 ∨ hi 17 m = 1) : Ct M_PE_copyFrom d [.ref 6, .ref 12] hi hl (fun r hi' hl' => r = none ∧ hl = hl' ∧ (∀ f, f < 3 → hi' 6 f = hi 12 f) ∧ (∀ m, m < n → hi' 7 m = hi 13 m ∧ hi' 8 m = hi 14 m ∧ hi' 9 m = hi 15 m ∧ hi' 10 m = hi 16 m ∧ hi' 11 m = hi 17 m) ∧ ∀ c, c < 6 ∨ 11 < c → hi' c = hi c) := by
  have loop : ∀ k i, i + k = n → ∀ h : HI, (∀ f, f < 3 → h 6 f = hi 12 f) → (∀ m, m < i → h 7 m = hi 13 m ∧ h 8 m = hi 14 m ∧ h 9 m = hi 15 m ∧ h 10 m = hi 16 m ∧ h 11 m = hi 17 m) → (∀ c, c < 6 ∨ 11 < c → h c = hi c) → Wp M_PE_copyFrom d (fun r hi' hl' => r = none ∧ hl = hl' ∧ (∀ f, f < 3 → hi' 6 f = hi 12 f) ∧ (∀ m, m < n → hi' 7 m = hi 13 m ∧ hi' 8 m = hi 14 m ∧ hi' 9 m = hi 15 m ∧ hi' 10 m = hi 16 m ∧ hi' 11 m = hi 17 m) ∧ ∀ c, c < 6 ∨ 11 < c → hi' c = hi c) 26 [some (.ref 6), some (.ref 12), some (.int (zI i))] [] h hl := by
    intro k
    induction k with
    | zero =>
      intro i hik h e1 e2 e3
      refine wp_iload_n d_PE_copyFrom_26 rfl ?_
      refine wp_aload_n d_PE_copyFrom_27 rfl ?_
      refine wz_getI (((e1 0 (by omega)).trans h0)) d_PE_copyFrom_28 f_PE_34 (by decide) rfl rfl ?_
      refine wz_icmp_ge (tgt := 100) d_PE_copyFrom_31 (by decide) (by omega) (by omega) (fun h31 => ?_) (fun h31 => ?_)
      · exact wp_vret d_PE_copyFrom_100 rfl (⟨rfl, rfl, e1, fun m hm => e2 m (by omega), e3⟩)
      · exact absurd h31 (by omega)
    | succ k ih =>
      intro i hik h e1 e2 e3
      refine wp_iload_n d_PE_copyFrom_26 rfl ?_
      refine wp_aload_n d_PE_copyFrom_27 rfl ?_
      refine wz_getI (((e1 0 (by omega)).trans h0)) d_PE_copyFrom_28 f_PE_34 (by decide) rfl rfl ?_
      refine wz_icmp_ge (tgt := 100) d_PE_copyFrom_31 (by decide) (by omega) (by omega) (fun h31 => ?_) (fun h31 => ?_)
      · exact absurd h31 (by omega)
      · have g1 : h 13 = hi 13 := e3 13 (by omega)
        have g2 : h 14 = hi 14 := e3 14 (by omega)
        have g3 : h 15 = hi 15 := e3 15 (by omega)
        have g4 : h 16 = hi 16 := e3 16 (by omega)
        have g5 : h 17 = hi 17 := e3 17 (by omega)
        have hbi : zI ((hi 17 i).toInt) = 0 ∨ zI ((hi 17 i).toInt) = 1 := by rw [zI_of]; exact hb i (by omega)
        have f1 : h 13 i = zI ((hi 13 i).toInt) := by rw [zI_of, g1]
        have f2 : h 14 i = zI ((hi 14 i).toInt) := by rw [zI_of, g2]
        have f3 : h 15 i = zI ((hi 15 i).toInt) := by rw [zI_of, g3]
        have f4 : h 16 i = zI ((hi 16 i).toInt) := by rw [zI_of, g4]
        have f5 : h 17 i = zI ((hi 17 i).toInt) := by rw [zI_of, g5]
        refine wp_aload_n d_PE_copyFrom_34 rfl ?_
        refine wp_getR d_PE_copyFrom_35 f_PE_9 (by decide) rfl rfl ?_
        refine wp_iload_n d_PE_copyFrom_38 rfl ?_
        refine wp_aload_n d_PE_copyFrom_39 rfl ?_
        refine wp_getR d_PE_copyFrom_40 f_PE_9 (by decide) rfl rfl ?_
        refine wp_iload_n d_PE_copyFrom_43 rfl ?_
        refine wz_iald (f1) (rfl) ((by omega)) d_PE_copyFrom_44 (by decide) rfl (by decide) ?_
        refine wz_iast (rfl) ((by omega)) d_PE_copyFrom_45 (by decide) rfl (by decide) ?_
        refine wp_aload_n d_PE_copyFrom_46 rfl ?_
        refine wp_getR d_PE_copyFrom_47 f_PE_15 (by decide) rfl rfl ?_
        refine wp_iload_n d_PE_copyFrom_50 rfl ?_
        refine wp_aload_n d_PE_copyFrom_51 rfl ?_
        refine wp_getR d_PE_copyFrom_52 f_PE_15 (by decide) rfl rfl ?_
        refine wp_iload_n d_PE_copyFrom_55 rfl ?_
        refine wz_iald (f2) (rfl) ((by omega)) d_PE_copyFrom_56 (by decide) rfl (by decide) ?_
        refine wz_iast (rfl) ((by omega)) d_PE_copyFrom_57 (by decide) rfl (by decide) ?_
        refine wp_aload_n d_PE_copyFrom_58 rfl ?_
        refine wp_getR d_PE_copyFrom_59 f_PE_18 (by decide) rfl rfl ?_
        refine wp_iload_n d_PE_copyFrom_62 rfl ?_
        refine wp_aload_n d_PE_copyFrom_63 rfl ?_
        refine wp_getR d_PE_copyFrom_64 f_PE_18 (by decide) rfl rfl ?_
        refine wp_iload_n d_PE_copyFrom_67 rfl ?_
        refine wz_iald (f3) (rfl) ((by omega)) d_PE_copyFrom_68 (by decide) rfl (by decide) ?_
        refine wz_iast (rfl) ((by omega)) d_PE_copyFrom_69 (by decide) rfl (by decide) ?_
        refine wp_aload_n d_PE_copyFrom_70 rfl ?_
        refine wp_getR d_PE_copyFrom_71 f_PE_21 (by decide) rfl rfl ?_
        refine wp_iload_n d_PE_copyFrom_74 rfl ?_
        refine wp_aload_n d_PE_copyFrom_75 rfl ?_
        refine wp_getR d_PE_copyFrom_76 f_PE_21 (by decide) rfl rfl ?_
        refine wp_iload_n d_PE_copyFrom_79 rfl ?_
        refine wz_iald (f4) (rfl) ((by omega)) d_PE_copyFrom_80 (by decide) rfl (by decide) ?_
        refine wz_iast (rfl) ((by omega)) d_PE_copyFrom_81 (by decide) rfl (by decide) ?_
        refine wp_aload_n d_PE_copyFrom_82 rfl ?_
        refine wp_getR d_PE_copyFrom_83 f_PE_24 (by decide) rfl rfl ?_
        refine wp_iload_n d_PE_copyFrom_86 rfl ?_
        refine wp_aload_n d_PE_copyFrom_87 rfl ?_
        refine wp_getR d_PE_copyFrom_88 f_PE_24 (by decide) rfl rfl ?_
        refine wp_iload_n d_PE_copyFrom_91 rfl ?_
        refine wz_zald (f5) (rfl) ((by omega)) d_PE_copyFrom_92 (by decide) rfl (by decide) ?_
        refine wz_zast (rfl) ((by omega)) (hbi) d_PE_copyFrom_93 (by decide) rfl (by decide) ?_
        refine wz_iinc (lv' := [_, _, _]) d_PE_copyFrom_94 rfl (by decide) rfl ?_
        refine wp_goto (tgt := 26) d_PE_copyFrom_97 (by decide) ?_
        refine ih (i + 1) (by omega) _ (fun f hf => ?_) (fun m hm => ?_) (fun c hc => ?_)
        · exact rd1 (by decide) (rd1 (by decide) (rd1 (by decide) (rd1 (by decide) (rd1 (by decide) (e1 f hf)))))
        · by_cases e : m = i
          · subst e
            refine ⟨?_, ?_, ?_, ?_, ?_⟩
            · exact rd1 (by decide) (rd1 (by decide) (rd1 (by decide) (rd1 (by decide) (rdA (zI_of _)))))
            · exact rd1 (by decide) (rd1 (by decide) (rd1 (by decide) (rdA (zI_of _))))
            · exact rd1 (by decide) (rd1 (by decide) (rdA (zI_of _)))
            · exact rd1 (by decide) (rdA (zI_of _))
            · exact rdA (zI_of _)
          · obtain ⟨q1, q2, q3, q4, q5⟩ := e2 m (by omega)
            refine ⟨?_, ?_, ?_, ?_, ?_⟩
            · exact rd1 (by decide) (rd1 (by decide) (rd1 (by decide) (rd1 (by decide) (rdS e q1))))
            · exact rd1 (by decide) (rd1 (by decide) (rd1 (by decide) (rdS e (rd1 (by decide) q2))))
            · exact rd1 (by decide) (rd1 (by decide) (rdS e (rd1 (by decide) (rd1 (by decide) q3))))
            · exact rd1 (by decide) (rdS e (rd1 (by decide) (rd1 (by decide) (rd1 (by decide) q4))))
            · exact rdS e (rd1 (by decide) (rd1 (by decide) (rd1 (by decide) (rd1 (by decide) q5))))
        · rw [setI_ne _ _ _ (by omega), setI_ne _ _ _ (by omega), setI_ne _ _ _ (by omega), setI_ne _ _ _ (by omega), setI_ne _ _ _ (by omega)]
          exact e3 c hc
  have k1 : hi 12 1 = zI ((hi 12 1).toInt) := (zI_of _).symm
  have k2 : hi 12 2 = zI ((hi 12 2).toInt) := (zI_of _).symm
  refine ct_intro (lv := [_, _, _]) (by decide +kernel) (Nat.le_of_ble_eq_true rfl) rfl ?_
  refine wp_aload_n d_PE_copyFrom_0 rfl ?_
  refine wp_aload_n d_PE_copyFrom_1 rfl ?_
  refine wz_getI (h0) d_PE_copyFrom_2 f_PE_34 (by decide) rfl rfl ?_
  refine wp_putI d_PE_copyFrom_5 f_PE_34 pk_PE_0 (by decide) rfl rfl ?_
  refine wp_aload_n d_PE_copyFrom_8 rfl ?_
  refine wp_aload_n d_PE_copyFrom_9 rfl ?_
  refine wz_getI (k1) d_PE_copyFrom_10 f_PE_37 (by decide) rfl rfl ?_
  refine wp_putI d_PE_copyFrom_13 f_PE_37 pk_PE_1 (by decide) rfl rfl ?_
  refine wp_aload_n d_PE_copyFrom_16 rfl ?_
  refine wp_aload_n d_PE_copyFrom_17 rfl ?_
  refine wz_getI (k2) d_PE_copyFrom_18 f_PE_40 (by decide) rfl rfl ?_
  refine wp_putI d_PE_copyFrom_21 f_PE_40 pk_PE_2 (by decide) rfl rfl ?_
  refine wp_iconst (v := zI 0) d_PE_copyFrom_24 rfl ?_
  refine wp_istore_n (lv' := [_, _, _]) d_PE_copyFrom_25 (by decide) rfl ?_
  refine loop n 0 (by omega) _ (fun f hf => ?_) (fun m hm => absurd hm (by omega)) (fun c hc => ?_)
  · rcases (show f = 0 ∨ f = 1 ∨ f = 2 by omega) with rfl | rfl | rfl
    · exact rdS (by decide) (rdS (by decide) (rdA h0.symm))
    · exact rdS (by decide) (rdA (zI_of _))
    · exact rdA (zI_of _)
  · rw [setI_ne _ _ _ (by omega), setI_ne _ _ _ (by omega), setI_ne _ _ _ (by omega)]
theorem ct_copy_6_18 {n : Nat} (d : Nat) (hn : n ≤ 12) (h0 : hi 18 0 = zI n) (hb : ∀ m, m < n → hi 23 m = 0 ∨ hi 23 m = 1) : Ct M_PE_copyFrom d [.ref 6, .ref 18] hi hl (fun r hi' hl' => r = none ∧ hl = hl' ∧ (∀ f, f < 3 → hi' 6 f = hi 18 f) ∧ (∀ m, m < n → hi' 7 m = hi 19 m ∧ hi' 8 m = hi 20 m ∧ hi' 9 m = hi 21 m ∧ hi' 10 m = hi 22 m ∧ hi' 11 m = hi 23 m) ∧ ∀ c, c < 6 ∨ 11 < c → hi' c = hi c) := by
  have loop : ∀ k i, i + k = n → ∀ h : HI, (∀ f, f < 3 → h 6 f = hi 18 f) → (∀ m, m < i → h 7 m = hi 19 m ∧ h 8 m = hi 20 m ∧ h 9 m = hi 21 m ∧ h 10 m = hi 22 m ∧ h 11 m = hi 23 m) → (∀ c, c < 6 ∨ 11 < c → h c = hi c) → Wp M_PE_copyFrom d (fun r hi' hl' => r = none ∧ hl = hl' ∧ (∀ f, f < 3 → hi' 6 f = hi 18 f) ∧ (∀ m, m < n → hi' 7 m = hi 19 m ∧ hi' 8 m = hi 20 m ∧ hi' 9 m = hi 21 m ∧ hi' 10 m = hi 22 m ∧ hi' 11 m = hi 23 m) ∧ ∀ c, c < 6 ∨ 11 < c → hi' c = hi c) 26 [some (.ref 6), some (.ref 18), some (.int (zI i))] [] h hl := by
    intro k
    induction k with
    | zero =>
      intro i hik h e1 e2 e3
      refine wp_iload_n d_PE_copyFrom_26 rfl ?_
      refine wp_aload_n d_PE_copyFrom_27 rfl ?_
      refine wz_getI (((e1 0 (by omega)).trans h0)) d_PE_copyFrom_28 f_PE_34 (by decide) rfl rfl ?_
      refine wz_icmp_ge (tgt := 100) d_PE_copyFrom_31 (by decide) (by omega) (by omega) (fun h31 => ?_) (fun h31 => ?_)
      · exact wp_vret d_PE_copyFrom_100 rfl (⟨rfl, rfl, e1, fun m hm => e2 m (by omega), e3⟩)
      · exact absurd h31 (by omega)
    | succ k ih =>
      intro i hik h e1 e2 e3
      refine wp_iload_n d_PE_copyFrom_26 rfl ?_
      refine wp_aload_n d_PE_copyFrom_27 rfl ?_
      refine wz_getI (((e1 0 (by omega)).trans h0)) d_PE_copyFrom_28 f_PE_34 (by decide) rfl rfl ?_
      refine wz_icmp_ge (tgt := 100) d_PE_copyFrom_31 (by decide) (by omega) (by omega) (fun h31 => ?_) (fun h31 => ?_)
      · exact absurd h31 (by omega)
      · have g1 : h 19 = hi 19 := e3 19 (by omega)
        have g2 : h 20 = hi 20 := e3 20 (by omega)
        have g3 : h 21 = hi 21 := e3 21 (by omega)
        have g4 : h 22 = hi 22 := e3 22 (by omega)
        have g5 : h 23 = hi 23 := e3 23 (by omega)
        have hbi : zI ((hi 23 i).toInt) = 0 ∨ zI ((hi 23 i).toInt) = 1 := by rw [zI_of]; exact hb i (by omega)
        have f1 : h 19 i = zI ((hi 19 i).toInt) := by rw [zI_of, g1]
        have f2 : h 20 i = zI ((hi 20 i).toInt) := by rw [zI_of, g2]
        have f3 : h 21 i = zI ((hi 21 i).toInt) := by rw [zI_of, g3]
        have f4 : h 22 i = zI ((hi 22 i).toInt) := by rw [zI_of, g4]
        have f5 : h 23 i = zI ((hi 23 i).toInt) := by rw [zI_of, g5]
        refine wp_aload_n d_PE_copyFrom_34 rfl ?_
        refine wp_getR d_PE_copyFrom_35 f_PE_9 (by decide) rfl rfl ?_
        refine wp_iload_n d_PE_copyFrom_38 rfl ?_
        refine wp_aload_n d_PE_copyFrom_39 rfl ?_
        refine wp_getR d_PE_copyFrom_40 f_PE_9 (by decide) rfl rfl ?_
        refine wp_iload_n d_PE_copyFrom_43 rfl ?_
        refine wz_iald (f1) (rfl) ((by omega)) d_PE_copyFrom_44 (by decide) rfl (by decide) ?_
        refine wz_iast (rfl) ((by omega)) d_PE_copyFrom_45 (by decide) rfl (by decide) ?_
        refine wp_aload_n d_PE_copyFrom_46 rfl ?_
        refine wp_getR d_PE_copyFrom_47 f_PE_15 (by decide) rfl rfl ?_
        refine wp_iload_n d_PE_copyFrom_50 rfl ?_
        refine wp_aload_n d_PE_copyFrom_51 rfl ?_
        refine wp_getR d_PE_copyFrom_52 f_PE_15 (by decide) rfl rfl ?_
        refine wp_iload_n d_PE_copyFrom_55 rfl ?_
        refine wz_iald (f2) (rfl) ((by omega)) d_PE_copyFrom_56 (by decide) rfl (by decide) ?_
        refine wz_iast (rfl) ((by omega)) d_PE_copyFrom_57 (by decide) rfl (by decide) ?_
        refine wp_aload_n d_PE_copyFrom_58 rfl ?_
        refine wp_getR d_PE_copyFrom_59 f_PE_18 (by decide) rfl rfl ?_
        refine wp_iload_n d_PE_copyFrom_62 rfl ?_
        refine wp_aload_n d_PE_copyFrom_63 rfl ?_
        refine wp_getR d_PE_copyFrom_64 f_PE_18 (by decide) rfl rfl ?_
        refine wp_iload_n d_PE_copyFrom_67 rfl ?_
        refine wz_iald (f3) (rfl) ((by omega)) d_PE_copyFrom_68 (by decide) rfl (by decide) ?_
        refine wz_iast (rfl) ((by omega)) d_PE_copyFrom_69 (by decide) rfl (by decide) ?_
        refine wp_aload_n d_PE_copyFrom_70 rfl ?_
        refine wp_getR d_PE_copyFrom_71 f_PE_21 (by decide) rfl rfl ?_
        refine wp_iload_n d_PE_copyFrom_74 rfl ?_
        refine wp_aload_n d_PE_copyFrom_75 rfl ?_
        refine wp_getR d_PE_copyFrom_76 f_PE_21 (by decide) rfl rfl ?_
        refine wp_iload_n d_PE_copyFrom_79 rfl ?_
        refine wz_iald (f4) (rfl) ((by omega)) d_PE_copyFrom_80 (by decide) rfl (by decide) ?_
        refine wz_iast (rfl) ((by omega)) d_PE_copyFrom_81 (by decide) rfl (by decide) ?_
        refine wp_aload_n d_PE_copyFrom_82 rfl ?_
        refine wp_getR d_PE_copyFrom_83 f_PE_24 (by decide) rfl rfl ?_
        refine wp_iload_n d_PE_copyFrom_86 rfl ?_
        refine wp_aload_n d_PE_copyFrom_87 rfl ?_
        refine wp_getR d_PE_copyFrom_88 f_PE_24 (by decide) rfl rfl ?_
        refine wp_iload_n d_PE_copyFrom_91 rfl ?_
        refine wz_zald (f5) (rfl) ((by omega)) d_PE_copyFrom_92 (by decide) rfl (by decide) ?_
        refine wz_zast (rfl) ((by omega)) (hbi) d_PE_copyFrom_93 (by decide) rfl (by decide) ?_
        refine wz_iinc (lv' := [_, _, _]) d_PE_copyFrom_94 rfl (by decide) rfl ?_
        refine wp_goto (tgt := 26) d_PE_copyFrom_97 (by decide) ?_
        refine ih (i + 1) (by omega) _ (fun f hf => ?_) (fun m hm => ?_) (fun c hc => ?_)
        · exact rd1 (by decide) (rd1 (by decide) (rd1 (by decide) (rd1 (by decide) (rd1 (by decide) (e1 f hf)))))
        · by_cases e : m = i
          · subst e
            refine ⟨?_, ?_, ?_, ?_, ?_⟩
            · exact rd1 (by decide) (rd1 (by decide) (rd1 (by decide) (rd1 (by decide) (rdA (zI_of _)))))
            · exact rd1 (by decide) (rd1 (by decide) (rd1 (by decide) (rdA (zI_of _))))
            · exact rd1 (by decide) (rd1 (by decide) (rdA (zI_of _)))
            · exact rd1 (by decide) (rdA (zI_of _))
            · exact rdA (zI_of _)
          · obtain ⟨q1, q2, q3, q4, q5⟩ := e2 m (by omega)
            refine ⟨?_, ?_, ?_, ?_, ?_⟩
            · exact rd1 (by decide) (rd1 (by decide) (rd1 (by decide) (rd1 (by decide) (rdS e q1))))
            · exact rd1 (by decide) (rd1 (by decide) (rd1 (by decide) (rdS e (rd1 (by decide) q2))))
            · exact rd1 (by decide) (rd1 (by decide) (rdS e (rd1 (by decide) (rd1 (by decide) q3))))
            · exact rd1 (by decide) (rdS e (rd1 (by decide) (rd1 (by decide) (rd1 (by decide) q4))))
            · exact rdS e (rd1 (by decide) (rd1 (by decide) (rd1 (by decide) (rd1 (by decide) q5))))
        · rw [setI_ne _ _ _ (by omega), setI_ne _ _ _ (by omega), setI_ne _ _ _ (by omega), setI_ne _ _ _ (by omega), setI_ne _ _ _ (by omega)]
          exact e3 c hc
  have k1 : hi 18 1 = zI ((hi 18 1).toInt) := (zI_of _).symm
  have k2 : hi 18 2 = zI ((hi 18 2).toInt) := (zI_of _).symm
  refine ct_intro (lv := [_, _, _]) (by decide +kernel) (Nat.le_of_ble_eq_true rfl) rfl ?_
  refine wp_aload_n d_PE_copyFrom_0 rfl ?_
  refine wp_aload_n d_PE_copyFrom_1 rfl ?_
  refine wz_getI (h0) d_PE_copyFrom_2 f_PE_34 (by decide) rfl rfl ?_
  refine wp_putI d_PE_copyFrom_5 f_PE_34 pk_PE_0 (by decide) rfl rfl ?_
  refine wp_aload_n d_PE_copyFrom_8 rfl ?_
  refine wp_aload_n d_PE_copyFrom_9 rfl ?_
  refine wz_getI (k1) d_PE_copyFrom_10 f_PE_37 (by decide) rfl rfl ?_
  refine wp_putI d_PE_copyFrom_13 f_PE_37 pk_PE_1 (by decide) rfl rfl ?_
  refine wp_aload_n d_PE_copyFrom_16 rfl ?_
  refine wp_aload_n d_PE_copyFrom_17 rfl ?_
  refine wz_getI (k2) d_PE_copyFrom_18 f_PE_40 (by decide) rfl rfl ?_
  refine wp_putI d_PE_copyFrom_21 f_PE_40 pk_PE_2 (by decide) rfl rfl ?_
  refine wp_iconst (v := zI 0) d_PE_copyFrom_24 rfl ?_
  refine wp_istore_n (lv' := [_, _, _]) d_PE_copyFrom_25 (by decide) rfl ?_
  refine loop n 0 (by omega) _ (fun f hf => ?_) (fun m hm => absurd hm (by omega)) (fun c hc => ?_)
  · rcases (show f = 0 ∨ f = 1 ∨ f = 2 by omega) with rfl | rfl | rfl
    · exact rdS (by decide) (rdS (by decide) (rdA h0.symm))
    · exact rdS (by decide) (rdA (zI_of _))
    · exact rdA (zI_of _)
  · rw [setI_ne _ _ _ (by omega), setI_ne _ _ _ (by omega), setI_ne _ _ _ (by omega)]
end COPY
