/-! SNEEZES: the reference's way -/
section REFSNEEZE
variable {σ : SG} {hi : HI} {hl : HL}
theorem ct_MO_layWays {set j x : Nat} (ok : Ok σ) (hA : AM σ hi) (hs : set < 2 ^ 12) (hj : j ≤ 100) (hx : x ≤ 10) : Ct M_MO_layWays 1 [.ref 41, .int (zI set), .int (zI j), .int (zI x)] hi hl (fun v hi' hl' => v = none ∧ hi = hi' ∧ (∀ s, s < 40 → hl' 57 s = lZ (wyN σ set (j + lt σ) x (nM σ) s)) ∧ hl' 41 27 = lZ (whN σ set (j + lt σ) (nM σ))) := by
  have hn := ok.nums
  have e10 : (10 : Int) - (x : Int) = ((10 - x : Nat) : Int) := by omega
  generalize hP : (fun (v : Option Value) (hi' : HI) (hl' : HL) => v = none ∧ hi = hi' ∧ (∀ s, s < 40 → hl' 57 s = lZ (wyN σ set (j + lt σ) x (nM σ) s)) ∧ hl' 41 27 = lZ (whN σ set (j + lt σ) (nM σ))) = Post
  have inner : ∀ (i g : Nat) (A : Nat → Nat) (B : Nat), 1 ≤ g → g ≤ 3 → (∀ h : HL, (∀ s, s < 40 → h 57 s = lZ (TN A g x s)) → h 41 27 = lZ B → Wp M_MO_layWays 1 Post 138 [some (.ref 41), some (.int (zI set)), some (.int (zI j)), some (.int (zI x)), some (.int (zI i)), some (.int (zI g)), none] [] hi h) →
      ∀ k, k ≤ 40 → ∀ h : HL, (∀ s, s < k → h 57 s = lZ (A s)) → (∀ s, k ≤ s → s < 40 → h 57 s = lZ (TN A g x s)) → h 41 27 = lZ B → Wp M_MO_layWays 1 Post 77 [some (.ref 41), some (.int (zI set)), some (.int (zI j)), some (.int (zI x)), some (.int (zI i)), some (.int (zI g)), some (.int (zI ((k : Int) - 1)))] [] hi h := by
    intro i g A B hg1 hg3 hex k
    induction k with
    | zero =>
      intro hk h e1 e2 e3
      refine wp_iload d_MO_layWays_77 rfl ?_
      refine wz_if_lt (tgt := 138) d_MO_layWays_79 (by decide) (by omega) (fun h79 => ?_) (fun h79 => ?_)
      · refine wp_drop (lv' := [some _, some _, some _, some _, some _, some _, none]) ⟨rfl, rfl, rfl, rfl, rfl, rfl, trivial⟩ ?_
        exact hex h (fun s hs2 => e2 s (by omega) hs2) e3
      · exact absurd h79 (by omega)
    | succ k ih =>
      intro hk h e1 e2 e3
      rw [show ((k + 1 : Nat) : Int) - 1 = (k : Int) by omega]
      have tail : ∀ y : Nat, y = (if g ≤ k then A (k - g) * (10 - x) else 0) → Wp M_MO_layWays 1 Post 130 [some (.ref 41), some (.int (zI set)), some (.int (zI j)), some (.int (zI x)), some (.int (zI i)), some (.int (zI g)), some (.int (zI k))] [.long (lZ (y : Int)), .long (lZ ((A k : Int) * (x : Int))), .int (zI k), .ref 57] hi h := by
        intro y hy
        refine wz_ladd d_MO_layWays_130 ?_
        refine wz_last (rfl) ((by omega)) d_MO_layWays_131 (by decide) rfl (by decide) ?_
        refine wz_iinc (lv' := [_, _, _, _, _, _, _]) d_MO_layWays_132 rfl (by decide) rfl ?_
        refine wp_goto (tgt := 77) d_MO_layWays_135 (by decide) ?_
        refine ih (by omega) _ (fun s hs2 => rlS (by omega) (e1 s (by omega))) (fun s h1 h2 => ?_) (rl1 (by decide) e3)
        by_cases z : s = k
        · subst z
          refine rlA ?_
          rw [TN, ← hy]
          rfl
        · exact rlS z (e2 s (by omega) h2)
      refine wp_iload d_MO_layWays_77 rfl ?_
      refine wz_if_lt (tgt := 138) d_MO_layWays_79 (by decide) (by omega) (fun h79 => ?_) (fun h79 => ?_)
      · exact absurd h79 (by omega)
      · refine wp_iload d_MO_layWays_82 rfl ?_
        refine wz_if_le (tgt := 138) d_MO_layWays_84 (by decide) (by omega) (fun h84 => ?_) (fun h84 => ?_)
        · exact absurd h84 (by omega)
        · refine wp_aload_n d_MO_layWays_87 rfl ?_
          refine wp_getR d_MO_layWays_88 f_MO_55 (by decide) rfl rfl ?_
          refine wp_iload d_MO_layWays_91 rfl ?_
          refine wp_aload_n d_MO_layWays_93 rfl ?_
          refine wp_getR d_MO_layWays_94 f_MO_55 (by decide) rfl rfl ?_
          refine wp_iload d_MO_layWays_97 rfl ?_
          refine wz_lald (e1 k (by omega)) (rfl) ((by omega)) d_MO_layWays_99 (by decide) rfl (by decide) ?_
          refine wp_iload_n d_MO_layWays_100 rfl ?_
          refine wz_i2l d_MO_layWays_101 (by omega) ?_
          refine wz_lmul d_MO_layWays_102 ?_
          refine wp_iload d_MO_layWays_103 rfl ?_
          refine wp_iload d_MO_layWays_105 rfl ?_
          refine wz_icmp_lt (tgt := 129) d_MO_layWays_107 (by decide) (by omega) (by omega) (fun h107 => ?_) (fun h107 => ?_)
          · refine wp_lconst (v := lZ 0) d_MO_layWays_129 rfl ?_
            exact tail 0 (by rw [if_neg (by omega)])
          · refine wp_aload_n d_MO_layWays_110 rfl ?_
            refine wp_getR d_MO_layWays_111 f_MO_55 (by decide) rfl rfl ?_
            refine wp_iload d_MO_layWays_114 rfl ?_
            refine wp_iload d_MO_layWays_116 rfl ?_
            refine wz_isub d_MO_layWays_118 ?_
            refine wz_lald (j := k - g) (e1 (k - g) (by omega)) (by omega) (by omega) d_MO_layWays_119 (by decide) rfl (by decide) ?_
            refine wp_bipush (v := zI 10) d_MO_layWays_120 rfl ?_
            refine wp_iload_n d_MO_layWays_122 rfl ?_
            refine wz_isub d_MO_layWays_123 ?_
            rw [e10]
            refine wz_i2l d_MO_layWays_124 (by omega) ?_
            refine wz_lmul d_MO_layWays_125 ?_
            refine wp_goto (tgt := 130) d_MO_layWays_126 (by decide) ?_
            exact tail (A (k - g) * (10 - x)) (by rw [if_pos (by omega)])
  have loop2 : ∀ k i, i + k = nM σ → ∀ h : HL, (∀ s, s < 40 → h 57 s = lZ (wyN σ set (j + lt σ) x i s)) → h 41 27 = lZ (whN σ set (j + lt σ) i) → Wp M_MO_layWays 1 Post 41 [some (.ref 41), some (.int (zI set)), some (.int (zI j)), some (.int (zI x)), some (.int (zI i)), none, none] [] hi h := by
    intro k
    induction k with
    | zero =>
      intro i hik h e1 e2
      refine wp_iload d_MO_layWays_41 rfl ?_
      refine wp_aload_n d_MO_layWays_43 rfl ?_
      refine wz_getI (hA.n) d_MO_layWays_44 f_MO_123 (by decide) rfl rfl ?_
      refine wz_icmp_ge (tgt := 165) d_MO_layWays_47 (by decide) (by omega) (by omega) (fun h47 => ?_) (fun h47 => ?_)
      · subst hP
        have hi2 : i = nM σ := by omega
        rw [hi2] at e1 e2
        exact wp_vret d_MO_layWays_165 rfl (⟨rfl, rfl, e1, e2⟩)
      · exact absurd h47 (by omega)
    | succ k ih =>
      intro i hik h e1 e2
      have hg := gv_le ok (m := i) (t := j + lt σ) (by omega)
      have none_ : ¬ (set.testBit i = true ∧ 0 < gv σ i (j + lt σ)) → Wp M_MO_layWays 1 Post 71 [some (.ref 41), some (.int (zI set)), some (.int (zI j)), some (.int (zI x)), some (.int (zI i)), none, none] [.int (zI ((0 : Nat) : Int))] hi h := by
        intro e
        refine wp_istore (lv' := [_, _, _, _, _, _, _]) d_MO_layWays_71 (by decide) rfl ?_
        refine wp_bipush (v := zI 39) d_MO_layWays_73 rfl ?_
        refine wp_istore (lv' := [_, _, _, _, _, _, _]) d_MO_layWays_75 (by decide) rfl ?_
        refine wp_iload d_MO_layWays_77 rfl ?_
        refine wz_if_lt (tgt := 138) d_MO_layWays_79 (by decide) (by omega) (fun h79 => ?_) (fun h79 => ?_)
        · exact absurd h79 (by decide)
        · refine wp_iload d_MO_layWays_82 rfl ?_
          refine wz_if_le (tgt := 138) d_MO_layWays_84 (by decide) (by omega) (fun h84 => ?_) (fun h84 => ?_)
          · refine wp_aload_n d_MO_layWays_138 rfl ?_
            refine wp_dup d_MO_layWays_139 rfl ?_
            refine wz_getJ (e2) d_MO_layWays_140 f_MO_184 (by decide) rfl rfl ?_
            refine wp_iload d_MO_layWays_143 rfl ?_
            refine wz_if_le (tgt := 154) d_MO_layWays_145 (by decide) (by omega) (fun h145 => ?_) (fun h145 => ?_)
            · refine wp_lconst (v := lZ 1) d_MO_layWays_154 rfl ?_
              refine wz_lmul d_MO_layWays_155 ?_
              refine wp_putJ d_MO_layWays_156 f_MO_184 pk_MO_27 (by decide) rfl rfl ?_
              refine wz_iinc (lv' := [_, _, _, _, _, _, _]) d_MO_layWays_159 rfl (by decide) rfl ?_
              refine wp_goto (tgt := 41) d_MO_layWays_162 (by decide) ?_
              refine wp_drop (lv' := [some _, some _, some _, some _, some _, none, none]) ⟨rfl, rfl, rfl, rfl, rfl, trivial⟩ ?_
              refine ih (i + 1) (by omega) _ (fun s hs2 => rl1 (by decide) (by rw [wyN, if_neg e]; exact e1 s hs2)) (rlA ?_)
              rw [whN, if_neg e, Int.mul_one]
            · exact absurd h145 (by decide)
          · exact absurd h84 (by decide)
      refine wp_iload d_MO_layWays_41 rfl ?_
      refine wp_aload_n d_MO_layWays_43 rfl ?_
      refine wz_getI (hA.n) d_MO_layWays_44 f_MO_123 (by decide) rfl rfl ?_
      refine wz_icmp_ge (tgt := 165) d_MO_layWays_47 (by decide) (by omega) (by omega) (fun h47 => ?_) (fun h47 => ?_)
      · exact absurd h47 (by omega)
      · refine wp_iload_n d_MO_layWays_50 rfl ?_
        refine wp_iload d_MO_layWays_51 rfl ?_
        refine wp_ishr d_MO_layWays_53 ?_
        refine wp_iconst (v := zI 1) d_MO_layWays_54 rfl ?_
        refine wp_iand d_MO_layWays_55 ?_
        rw [zI_bit (by omega) (by omega)]
        refine wp_iconst (v := zI 1) d_MO_layWays_56 rfl ?_
        refine wp_icmp_ne (tgt := 70) d_MO_layWays_57 (by decide) (fun h57 => ?_) (fun h57 => ?_)
        · refine wp_iconst (v := zI 0) d_MO_layWays_70 rfl ?_
          exact none_ (fun q => h57 (bI_t q.1))
        · have q : set.testBit i = true := Decidable.byContradiction fun q => by rw [bI_f q] at h57; exact absurd h57 (by decide)
          refine wp_aload_n d_MO_layWays_60 rfl ?_
          refine wp_iload d_MO_layWays_61 rfl ?_
          refine wp_iload_n d_MO_layWays_63 rfl ?_
          refine wp_callV (ct_MO_givesOf (m := i) (j := j) 0 ok hA (by omega) hj) d_MO_layWays_64 k_MO_154 (by decide) rfl rfl rfl rfl (Nat.le_of_ble_eq_true rfl) (by omega) ?_
          rintro _ _ _ ⟨rfl, rfl, rfl⟩
          refine wp_goto (tgt := 71) d_MO_layWays_67 (by decide) ?_
          by_cases g0 : gv σ i (j + lt σ) = 0
          · rw [g0]
            exact none_ (fun q => by omega)
          · have e : set.testBit i = true ∧ 0 < gv σ i (j + lt σ) := ⟨q, by omega⟩
            refine wp_istore (lv' := [_, _, _, _, _, _, _]) d_MO_layWays_71 (by decide) rfl ?_
            refine wp_bipush (v := zI 39) d_MO_layWays_73 rfl ?_
            refine wp_istore (lv' := [_, _, _, _, _, _, _]) d_MO_layWays_75 (by decide) rfl ?_
            refine inner i (gv σ i (j + lt σ)) (wyN σ set (j + lt σ) x i) (whN σ set (j + lt σ) i) (by omega) hg (fun h2 e3 e4 => ?_) 40 (by omega) h e1 (fun s h1 h2 => by omega) e2
            refine wp_aload_n d_MO_layWays_138 rfl ?_
            refine wp_dup d_MO_layWays_139 rfl ?_
            refine wz_getJ (e4) d_MO_layWays_140 f_MO_184 (by decide) rfl rfl ?_
            refine wp_iload d_MO_layWays_143 rfl ?_
            refine wz_if_le (tgt := 154) d_MO_layWays_145 (by decide) (by omega) (fun h145 => ?_) (fun h145 => ?_)
            · exact absurd h145 (by omega)
            · refine wz_ldc2 (z := 10) d_MO_layWays_148 cs_MO_188 rfl ?_
              refine wp_goto (tgt := 155) d_MO_layWays_151 (by decide) ?_
              refine wz_lmul d_MO_layWays_155 ?_
              refine wp_putJ d_MO_layWays_156 f_MO_184 pk_MO_27 (by decide) rfl rfl ?_
              refine wz_iinc (lv' := [_, _, _, _, _, _, _]) d_MO_layWays_159 rfl (by decide) rfl ?_
              refine wp_goto (tgt := 41) d_MO_layWays_162 (by decide) ?_
              refine wp_drop (lv' := [some _, some _, some _, some _, some _, none, none]) ⟨rfl, rfl, rfl, rfl, rfl, trivial⟩ ?_
              refine ih (i + 1) (by omega) _ (fun s hs2 => rl1 (by decide) (by rw [wyN, if_pos e]; exact e3 s hs2)) (rlA ?_)
              rw [whN, if_pos e]
              rfl
  have loop1 : ∀ k i, i + k = 40 → ∀ h : HL, (∀ s, s < i → h 57 s = lZ ((if s = 0 then 1 else 0 : Nat) : Int)) → Wp M_MO_layWays 1 Post 3 [some (.ref 41), some (.int (zI set)), some (.int (zI j)), some (.int (zI x)), some (.int (zI i)), none, none] [] hi h := by
    intro k
    induction k with
    | zero =>
      intro i hik h e1
      refine wp_iload d_MO_layWays_3 rfl ?_
      refine wp_bipush (v := zI 40) d_MO_layWays_5 rfl ?_
      refine wz_icmp_ge (tgt := 33) d_MO_layWays_7 (by decide) (by omega) (by omega) (fun h7 => ?_) (fun h7 => ?_)
      · refine wp_aload_n d_MO_layWays_33 rfl ?_
        refine wp_lconst (v := lZ 1) d_MO_layWays_34 rfl ?_
        refine wp_putJ d_MO_layWays_35 f_MO_184 pk_MO_27 (by decide) rfl rfl ?_
        refine wp_iconst (v := zI 0) d_MO_layWays_38 rfl ?_
        refine wp_istore (lv' := [_, _, _, _, _, _, _]) d_MO_layWays_39 (by decide) rfl ?_
        exact loop2 (nM σ) 0 (by omega) _ (fun s hs2 => rl1 (by decide) (e1 s (by omega))) (rlA rfl)
      · exact absurd h7 (by omega)
    | succ k ih =>
      intro i hik h e1
      refine wp_iload d_MO_layWays_3 rfl ?_
      refine wp_bipush (v := zI 40) d_MO_layWays_5 rfl ?_
      refine wz_icmp_ge (tgt := 33) d_MO_layWays_7 (by decide) (by omega) (by omega) (fun h7 => ?_) (fun h7 => ?_)
      · exact absurd h7 (by omega)
      · refine wp_aload_n d_MO_layWays_10 rfl ?_
        refine wp_getR d_MO_layWays_11 f_MO_55 (by decide) rfl rfl ?_
        refine wp_iload d_MO_layWays_14 rfl ?_
        refine wp_iload d_MO_layWays_16 rfl ?_
        refine wz_if_ne (tgt := 25) d_MO_layWays_18 (by decide) (by omega) (fun h18 => ?_) (fun h18 => ?_)
        · refine wp_lconst (v := lZ 0) d_MO_layWays_25 rfl ?_
          refine wz_last (rfl) ((by omega)) d_MO_layWays_26 (by decide) rfl (by decide) ?_
          refine wz_iinc (lv' := [_, _, _, _, _, _, _]) d_MO_layWays_27 rfl (by decide) rfl ?_
          refine wp_goto (tgt := 3) d_MO_layWays_30 (by decide) ?_
          refine ih (i + 1) (by omega) _ (fun s hs2 => ?_)
          by_cases z : s = i
          · subst z
            refine rlA ?_
            rw [if_neg (by omega)]
            rfl
          · exact rlS z (e1 s (by omega))
        · refine wp_lconst (v := lZ 1) d_MO_layWays_21 rfl ?_
          refine wp_goto (tgt := 26) d_MO_layWays_22 (by decide) ?_
          refine wz_last (rfl) ((by omega)) d_MO_layWays_26 (by decide) rfl (by decide) ?_
          refine wz_iinc (lv' := [_, _, _, _, _, _, _]) d_MO_layWays_27 rfl (by decide) rfl ?_
          refine wp_goto (tgt := 3) d_MO_layWays_30 (by decide) ?_
          refine ih (i + 1) (by omega) _ (fun s hs2 => ?_)
          by_cases z : s = i
          · subst z
            refine rlA ?_
            rw [if_pos (by omega)]
            rfl
          · exact rlS z (e1 s (by omega))
  subst hP
  refine ct_intro (lv := [_, _, _, _, _, _, _]) (by decide +kernel) (Nat.le_of_ble_eq_true rfl) rfl ?_
  refine wp_iconst (v := zI 0) d_MO_layWays_0 rfl ?_
  refine wp_istore (lv' := [_, _, _, _, _, _, _]) d_MO_layWays_1 (by decide) rfl ?_
  exact loop1 40 0 (by omega) hl (fun s hs2 => absurd hs2 (by omega))
theorem ct_MO_less {A : Nat → Nat} {z : Nat} (d : Nat) (hz : z ≤ 40) (hA : ∀ s, s < 40 → hl 57 s = lZ (A s)) : Ct M_MO_less d [.ref 41, .int (zI z)] hi hl (ansL (lZ (lsN A z)) hi hl) := by
  have loop : ∀ k i, i + k = z → Wp M_MO_less d (ansL (lZ (lsN A z)) hi hl) 5 [some (.ref 41), some (.int (zI z)), some (.long (lZ (lsN A i))), none, some (.int (zI i))] [] hi hl := by
    intro k
    induction k with
    | zero =>
      intro i hik
      refine wp_iload d_MO_less_5 rfl ?_
      refine wp_iload_n d_MO_less_7 rfl ?_
      refine wz_icmp_ge (tgt := 27) d_MO_less_8 (by decide) (by omega) (by omega) (fun h8 => ?_) (fun h8 => ?_)
      · refine wp_lload_n d_MO_less_27 rfl ?_
        exact wp_lret d_MO_less_28 rfl (⟨by rw [← hik]; rfl, rfl, rfl⟩)
      · exact absurd h8 (by omega)
    | succ k ih =>
      intro i hik
      refine wp_iload d_MO_less_5 rfl ?_
      refine wp_iload_n d_MO_less_7 rfl ?_
      refine wz_icmp_ge (tgt := 27) d_MO_less_8 (by decide) (by omega) (by omega) (fun h8 => ?_) (fun h8 => ?_)
      · exact absurd h8 (by omega)
      · refine wp_lload_n d_MO_less_11 rfl ?_
        refine wp_aload_n d_MO_less_12 rfl ?_
        refine wp_getR d_MO_less_13 f_MO_55 (by decide) rfl rfl ?_
        refine wp_iload d_MO_less_16 rfl ?_
        refine wz_lald (hA i (by omega)) (rfl) ((by omega)) d_MO_less_18 (by decide) rfl (by decide) ?_
        refine wz_ladd d_MO_less_19 ?_
        refine wp_lstore_n (lv' := [_, _, _, _, _]) d_MO_less_20 (by decide) rfl ?_
        refine wz_iinc (lv' := [_, _, _, _, _]) d_MO_less_21 rfl (by decide) rfl ?_
        refine wp_goto (tgt := 5) d_MO_less_24 (by decide) ?_
        exact ih (i + 1) (by omega)
  refine ct_intro (lv := [_, _, _, _, _]) (by decide +kernel) (Nat.le_of_ble_eq_true rfl) rfl ?_
  refine wp_lconst (v := lZ 0) d_MO_less_0 rfl ?_
  refine wp_lstore_n (lv' := [_, _, _, _, _]) d_MO_less_1 (by decide) rfl ?_
  refine wp_iconst (v := zI 0) d_MO_less_2 rfl ?_
  refine wp_istore (lv' := [_, _, _, _, _]) d_MO_less_3 (by decide) rfl ?_
  exact loop z 0 (by omega)
theorem ct_MO_part {a b u : Nat} (d : Nat) (ha : a ≤ 100000000000000) (hb : 1 ≤ b ∧ b ≤ 100000000000000) (hu : u ≤ 1) : Ct M_MO_part d [.long (lZ a), .long (lZ b), .int (zI u)] hi hl (ansL (lZ (frac a b (decide (u = 1)))) hi hl) := by
  have hG : 1 ≤ Nat.gcd a b := Nat.gcd_pos_of_pos_right a (by omega)
  have hG2 : Nat.gcd a b ≤ b := Nat.gcd_le_right a (by omega)
  have loop : ∀ y x, x ≤ 100000000000000 → y ≤ 100000000000000 → Nat.gcd x y = Nat.gcd a b → Wp M_MO_part d (ansL (lZ (frac a b (decide (u = 1)))) hi hl) 6 [some (.long (lZ a)), none, some (.long (lZ b)), none, some (.int (zI u)), some (.long (lZ x)), none, some (.long (lZ y)), none, none, none] [] hi hl := by
    intro y
    induction y using Nat.strongRecOn with
    | _ y ih =>
      intro x hx hy hg
      refine wp_lload d_MO_part_6 rfl ?_
      refine wp_lconst (v := lZ 0) d_MO_part_8 rfl ?_
      refine wz_lcmp d_MO_part_9 (by omega) (by omega) ?_
      refine wz_if_eq (tgt := 31) d_MO_part_10 (by decide) (cmp0_r _) (fun h10 => ?_) (fun h10 => ?_)
      · have h0 : y = 0 := cmp0_eq.mp h10
        subst h0
        rw [Nat.gcd_zero_right] at hg
        subst hg
        refine wp_iload d_MO_part_31 rfl ?_
        refine wz_if_eq (tgt := 43) d_MO_part_33 (by decide) (by omega) (fun h33 => ?_) (fun h33 => ?_)
        · refine wp_lload_n d_MO_part_43 rfl ?_
          refine wp_lload d_MO_part_44 rfl ?_
          refine wz_ldiv d_MO_part_46 (by omega) (by omega) (by omega) ?_
          exact wp_lret d_MO_part_47 rfl (⟨by rw [show decide (u = 1) = false from by simp; omega]; rfl, rfl, rfl⟩)
        · refine wp_lload_n d_MO_part_36 rfl ?_
          refine wp_lload d_MO_part_37 rfl ?_
          refine wz_ldiv d_MO_part_39 (by omega) (by omega) (by omega) ?_
          refine wp_goto (tgt := 47) d_MO_part_40 (by decide) ?_
          exact wp_lret d_MO_part_47 rfl (⟨by rw [show decide (u = 1) = true from by simp; omega]; rfl, rfl, rfl⟩)
      · have h0 : y ≠ 0 := fun q => h10 (cmp0_eq.mpr q)
        have hlt := Nat.mod_lt x (show 0 < y by omega)
        refine wp_lload d_MO_part_13 rfl ?_
        refine wp_lload d_MO_part_15 rfl ?_
        refine wz_lrem d_MO_part_17 (by omega) (by omega) (by omega) ?_
        refine wp_lstore (lv' := [_, _, _, _, _, _, _, _, _, _, _]) d_MO_part_18 (by decide) rfl ?_
        refine wp_lload d_MO_part_20 rfl ?_
        refine wp_lstore (lv' := [_, _, _, _, _, _, _, _, _, _, _]) d_MO_part_22 (by decide) rfl ?_
        refine wp_lload d_MO_part_24 rfl ?_
        refine wp_lstore (lv' := [_, _, _, _, _, _, _, _, _, _, _]) d_MO_part_26 (by decide) rfl ?_
        refine wp_goto (tgt := 6) d_MO_part_28 (by decide) ?_
        refine wp_drop (lv' := [some _, none, some _, none, some _, some _, none, some _, none, none, none]) ⟨rfl, rfl, rfl, rfl, rfl, trivial⟩ ?_
        exact ih (x % y) hlt y (by omega) (by omega) (by rw [← hg, Nat.gcd_comm x y, Nat.gcd_rec y x, Nat.gcd_comm])
  refine ct_intro (lv := [_, _, _, _, _, _, _, _, _, _, _]) (by decide +kernel) (Nat.le_of_ble_eq_true rfl) rfl ?_
  refine wp_lload_n d_MO_part_0 rfl ?_
  refine wp_lstore (lv' := [_, _, _, _, _, _, _, _, _, _, _]) d_MO_part_1 (by decide) rfl ?_
  refine wp_lload_n d_MO_part_3 rfl ?_
  refine wp_lstore (lv' := [_, _, _, _, _, _, _, _, _, _, _]) d_MO_part_4 (by decide) rfl ?_
  exact loop b a ha (by omega) rfl
theorem cm_steady {a b c : Int} {u : Nat} (ok : Ok σ) (hA : AM σ hi) (ha : inR a) (hb : inR b) (hc : inR c) (hu : u ≤ 1) : Ct M_MO_steady 9 [.ref 41, .int (zI a), .int (zI b), .int (zI c), .int (zI u)] hi hl (pMl σ (lZ (r_steady σ a b c (decide (u = 1)))) hi) := by
  have hn := ok.nums
  refine ct_intro (lv := [_, _, _, _, _]) (by decide +kernel) (Nat.le_of_ble_eq_true rfl) rfl ?_
  refine wp_aload_n d_MO_steady_0 rfl ?_
  refine wp_iload_n d_MO_steady_1 rfl ?_
  refine wp_callV (ct_MO_isPipe ok hA ha) d_MO_steady_2 k_MO_135 (by decide) rfl rfl rfl rfl (Nat.le_of_ble_eq_true rfl) (by omega) ?_
  rintro _ _ _ ⟨rfl, rfl, rfl⟩
  refine wz_if_eqB (tgt := 16) d_MO_steady_5 (by decide) (fun h5 => ?_) (fun h5 => ?_)
  · refine wz_ldc2 (z := -1) d_MO_steady_16 cs_MO_190 rfl ?_
    rw [r_steady, if_neg (fun q => h5 q.1)]
    exact wp_lret d_MO_steady_19 rfl (⟨rfl, hA, fun _ _ => rfl⟩)
  · refine wp_aload_n d_MO_steady_8 rfl ?_
    refine wp_iload_n d_MO_steady_9 rfl ?_
    refine wp_callV (ct_MO_isBeat ok hA hb) d_MO_steady_10 k_MO_139 (by decide) rfl rfl rfl rfl (Nat.le_of_ble_eq_true rfl) (by omega) ?_
    rintro _ _ _ ⟨rfl, rfl, rfl⟩
    refine wz_if_neB (tgt := 20) d_MO_steady_13 (by decide) (fun h13 => ?_) (fun h13 => ?_)
    · rw [r_steady, if_pos ⟨h5, h13⟩]
      refine wp_iload_n d_MO_steady_20 rfl ?_
      refine wz_i2l d_MO_steady_21 (by omega) ?_
      refine wp_lconst (v := lZ 0) d_MO_steady_22 rfl ?_
      refine wz_ldc2 (z := 10) d_MO_steady_23 cs_MO_188 rfl ?_
      refine wp_callS (ct_MO_in (x := c) (y := 0) (z := 10) 0 (by omega) (by omega) (by omega)) d_MO_steady_26 k_MO_75 rfl rfl (Nat.le_of_ble_eq_true rfl) (by omega) ?_
      rintro _ _ _ ⟨rfl, rfl, rfl⟩
      refine wz_if_neB (tgt := 36) d_MO_steady_29 (by decide) (fun h29 => ?_) (fun h29 => ?_)
      · obtain ⟨p, rfl, hpp⟩ := toN h5
        obtain ⟨j, rfl, hj⟩ := toN h13
        obtain ⟨x, rfl, hx⟩ := toN (show 0 ≤ c ∧ c < (11 : Nat) by omega)
        have hd := ok.dr hpp
        have hw := whN_12 ok (sit σ p) (j + lt σ) (Nat.le_refl (nM σ))
        have hls := lsN_le σ (sit σ p) (j + lt σ) (show x ≤ 10 by omega) (nM σ) (dr σ p)
        rw [if_pos h29, nC, nC, nC]
        refine wp_aload_n d_MO_steady_36 rfl ?_
        refine wp_aload_n d_MO_steady_37 rfl ?_
        refine wp_iload_n d_MO_steady_38 rfl ?_
        refine wp_callV (ct_MO_sitters (p := p) 0 ok hA (by omega)) d_MO_steady_39 k_MO_160 (by decide) rfl rfl rfl rfl (Nat.le_of_ble_eq_true rfl) (by omega) ?_
        rintro _ _ _ ⟨rfl, rfl, rfl⟩
        refine wp_iload_n d_MO_steady_42 rfl ?_
        refine wp_iload_n d_MO_steady_43 rfl ?_
        refine wp_callV (ct_MO_layWays (set := sit σ p) (j := j) (x := x) ok hA (sit_lt ok p) (by omega) (by omega)) d_MO_steady_44 k_MO_194 (by decide) rfl rfl rfl rfl (Nat.le_of_ble_eq_true rfl) (by omega) ?_
        rintro _ _ h2 ⟨rfl, rfl, e1, e2⟩
        refine wp_aload_n d_MO_steady_47 rfl ?_
        refine wz_getJ (e2) d_MO_steady_48 f_MO_184 (by decide) rfl rfl ?_
        refine wp_aload_n d_MO_steady_51 rfl ?_
        refine wp_aload_n d_MO_steady_52 rfl ?_
        refine wp_getR d_MO_steady_53 f_MO_19 (by decide) rfl rfl ?_
        refine wp_iload_n d_MO_steady_56 rfl ?_
        refine wz_iald (hA.dr hpp) (rfl) ((by omega)) d_MO_steady_57 (by decide) rfl (by decide) ?_
        refine wp_callV (ct_MO_less (A := wyN σ (sit σ p) (j + lt σ) x (nM σ)) (z := dr σ p) 0 (by omega) e1) d_MO_steady_58 k_MO_198 (by decide) rfl rfl rfl rfl (Nat.le_of_ble_eq_true rfl) (by omega) ?_
        rintro _ _ _ ⟨rfl, rfl, rfl⟩
        refine wz_lsub d_MO_steady_61 ?_
        refine wp_aload_n d_MO_steady_62 rfl ?_
        refine wz_getJ (e2) d_MO_steady_63 f_MO_184 (by decide) rfl rfl ?_
        refine wp_iload d_MO_steady_66 rfl ?_
        refine wz_st (st' := [.int (zI u), .long (lZ ((stN σ p j x).2 : Int)), .long (lZ ((stN σ p j x).1 : Int))]) ?_ ?_
        · have : (whN σ (sit σ p) (j + lt σ) (nM σ) : Int) - (lsN (wyN σ (sit σ p) (j + lt σ) x (nM σ)) (dr σ p) : Int) = ((stN σ p j x).1 : Int) := by
            show _ = ((whN σ (sit σ p) (j + lt σ) (nM σ) - lsN (wyN σ (sit σ p) (j + lt σ) x (nM σ)) (dr σ p) : Nat) : Int)
            omega
          rw [this]
          rfl
        · refine wp_callS (ct_MO_part (a := (stN σ p j x).1) (b := (stN σ p j x).2) (u := u) 0 (by show whN σ (sit σ p) (j + lt σ) (nM σ) - lsN (wyN σ (sit σ p) (j + lt σ) x (nM σ)) (dr σ p) ≤ 100000000000000; omega) (by show 1 ≤ whN σ (sit σ p) (j + lt σ) (nM σ) ∧ whN σ (sit σ p) (j + lt σ) (nM σ) ≤ 100000000000000; omega) hu) d_MO_steady_68 k_MO_202 rfl rfl (Nat.le_of_ble_eq_true rfl) (by omega) ?_
          rintro _ _ _ ⟨rfl, rfl, rfl⟩
          exact wp_lret d_MO_steady_71 rfl (⟨rfl, hA, fun _ _ => rfl⟩)
      · refine wz_ldc2 (z := -2) d_MO_steady_32 cs_MO_192 rfl ?_
        rw [if_neg h29]
        exact wp_lret d_MO_steady_35 rfl (⟨rfl, hA, fun _ _ => rfl⟩)
    · refine wz_ldc2 (z := -1) d_MO_steady_16 cs_MO_190 rfl ?_
      rw [r_steady, if_neg (fun q => h13 q.2)]
      exact wp_lret d_MO_steady_19 rfl (⟨rfl, hA, fun _ _ => rfl⟩)
theorem cm_blame {a b c : Int} {u : Nat} (ok : Ok σ) (hA : AM σ hi) (ha : inR a) (hb : inR b) (hc : inR c) (hu : u ≤ 1) : Ct M_MO_blame 9 [.ref 41, .int (zI a), .int (zI b), .int (zI c), .int (zI u)] hi hl (pMl σ (lZ (r_blame σ a b c (decide (u = 1)))) hi) := by
  have hn := ok.nums
  refine ct_intro (lv := [_, _, _, _, _, _, _, _]) (by decide +kernel) (Nat.le_of_ble_eq_true rfl) rfl ?_
  refine wp_aload_n d_MO_blame_0 rfl ?_
  refine wp_iload_n d_MO_blame_1 rfl ?_
  refine wp_callV (ct_MO_isPerson ok hA ha) d_MO_blame_2 k_MO_142 (by decide) rfl rfl rfl rfl (Nat.le_of_ble_eq_true rfl) (by omega) ?_
  rintro _ _ _ ⟨rfl, rfl, rfl⟩
  refine wz_if_eqB (tgt := 16) d_MO_blame_5 (by decide) (fun h5 => ?_) (fun h5 => ?_)
  · refine wz_ldc2 (z := -1) d_MO_blame_16 cs_MO_190 rfl ?_
    rw [r_blame, if_neg (fun q => h5 q.1)]
    exact wp_lret d_MO_blame_19 rfl (⟨rfl, hA, fun _ _ => rfl⟩)
  · refine wp_aload_n d_MO_blame_8 rfl ?_
    refine wp_iload_n d_MO_blame_9 rfl ?_
    refine wp_callV (ct_MO_isBeat ok hA hb) d_MO_blame_10 k_MO_139 (by decide) rfl rfl rfl rfl (Nat.le_of_ble_eq_true rfl) (by omega) ?_
    rintro _ _ _ ⟨rfl, rfl, rfl⟩
    refine wz_if_neB (tgt := 20) d_MO_blame_13 (by decide) (fun h13 => ?_) (fun h13 => ?_)
    · rw [r_blame, if_pos ⟨h5, h13⟩]
      refine wp_iload_n d_MO_blame_20 rfl ?_
      refine wz_i2l d_MO_blame_21 (by omega) ?_
      refine wp_lconst (v := lZ 0) d_MO_blame_22 rfl ?_
      refine wz_ldc2 (z := 10) d_MO_blame_23 cs_MO_188 rfl ?_
      refine wp_callS (ct_MO_in (x := c) (y := 0) (z := 10) 0 (by omega) (by omega) (by omega)) d_MO_blame_26 k_MO_75 rfl rfl (Nat.le_of_ble_eq_true rfl) (by omega) ?_
      rintro _ _ _ ⟨rfl, rfl, rfl⟩
      refine wz_if_neB (tgt := 36) d_MO_blame_29 (by decide) (fun h29 => ?_) (fun h29 => ?_)
      · obtain ⟨m, rfl, hm⟩ := toN h5
        obtain ⟨j, rfl, hj⟩ := toN h13
        obtain ⟨x, rfl, hx⟩ := toN (show 0 ≤ c ∧ c < (11 : Nat) by omega)
        have hmm := ok.m hm
        have hd := ok.dr hmm.2.2.2.2.1
        have hg := gv_le ok (m := m) (t := j + lt σ) hm
        have hw := whN_12 ok (sit σ (pl σ m)) (j + lt σ) (Nat.le_refl (nM σ))
        have hw2 := whN_12 ok (wo (sit σ (pl σ m)) m) (j + lt σ) (Nat.le_refl (nM σ))
        have hls : blAll σ m j x ≤ whN σ (sit σ (pl σ m)) (j + lt σ) (nM σ) := lsN_le σ (sit σ (pl σ m)) (j + lt σ) (show x ≤ 10 by omega) (nM σ) (dr σ (pl σ m))
        have hls2 := lsN_le σ (wo (sit σ (pl σ m)) m) (j + lt σ) (show x ≤ 10 by omega) (nM σ) (dr σ (pl σ m))
        rw [if_pos h29, nC, nC, nC]
        refine wp_aload_n d_MO_blame_36 rfl ?_
        refine wp_getR d_MO_blame_37 f_MO_22 (by decide) rfl rfl ?_
        refine wp_iconst (v := zI 5) d_MO_blame_40 rfl ?_
        refine wp_iload_n d_MO_blame_41 rfl ?_
        refine wz_imul d_MO_blame_42 ?_
        refine wp_iconst (v := zI 2) d_MO_blame_43 rfl ?_
        refine wz_iadd d_MO_blame_44 ?_
        refine wz_iald (hA.pl hm) ((by omega)) ((by omega)) d_MO_blame_45 (by decide) rfl (by decide) ?_
        refine wp_istore (lv' := [_, _, _, _, _, _, _, _]) d_MO_blame_46 (by decide) rfl ?_
        refine wp_aload_n d_MO_blame_48 rfl ?_
        refine wp_aload_n d_MO_blame_49 rfl ?_
        refine wp_iload d_MO_blame_50 rfl ?_
        refine wp_callV (ct_MO_sitters (p := pl σ m) 0 ok hA (by omega)) d_MO_blame_52 k_MO_160 (by decide) rfl rfl rfl rfl (Nat.le_of_ble_eq_true rfl) (by omega) ?_
        rintro _ _ _ ⟨rfl, rfl, rfl⟩
        refine wp_iload_n d_MO_blame_55 rfl ?_
        refine wp_iload_n d_MO_blame_56 rfl ?_
        refine wp_callV (ct_MO_layWays (set := sit σ (pl σ m)) (j := j) (x := x) ok hA (sit_lt ok _) (by omega) (by omega)) d_MO_blame_57 k_MO_194 (by decide) rfl rfl rfl rfl (Nat.le_of_ble_eq_true rfl) (by omega) ?_
        rintro _ _ h2 ⟨rfl, rfl, e1, e2⟩
        refine wp_aload_n d_MO_blame_60 rfl ?_
        refine wp_aload_n d_MO_blame_61 rfl ?_
        refine wp_getR d_MO_blame_62 f_MO_19 (by decide) rfl rfl ?_
        refine wp_iload d_MO_blame_65 rfl ?_
        refine wz_iald (hA.dr hmm.2.2.2.2.1) (rfl) ((by omega)) d_MO_blame_67 (by decide) rfl (by decide) ?_
        refine wp_callV (ct_MO_less (A := wyN σ (sit σ (pl σ m)) (j + lt σ) x (nM σ)) (z := dr σ (pl σ m)) 0 (by omega) e1) d_MO_blame_68 k_MO_198 (by decide) rfl rfl rfl rfl (Nat.le_of_ble_eq_true rfl) (by omega) ?_
        rintro _ _ _ ⟨rfl, rfl, rfl⟩
        refine wz_topl (y := lZ ((blAll σ m j x : Nat) : Int)) rfl ?_
        refine wp_lstore (lv' := [_, _, _, _, _, _, _, _]) d_MO_blame_71 (by decide) rfl ?_
        refine wp_lload d_MO_blame_73 rfl ?_
        refine wp_lconst (v := lZ 0) d_MO_blame_75 rfl ?_
        refine wz_lcmp d_MO_blame_76 (by omega) (by omega) ?_
        refine wz_if_ne (tgt := 84) d_MO_blame_77 (by decide) (cmp0_r _) (fun h77 => ?_) (fun h77 => ?_)
        · have hne : blAll σ m j x ≠ 0 := fun q => h77 (cmp0_eq.mpr q)
          rw [if_neg hne]
          refine wp_aload_n d_MO_blame_84 rfl ?_
          refine wp_iload_n d_MO_blame_85 rfl ?_
          refine wp_iload_n d_MO_blame_86 rfl ?_
          refine wp_callV (ct_MO_givesOf (m := m) (j := j) 0 ok hA hm (by omega)) d_MO_blame_87 k_MO_154 (by decide) rfl rfl rfl rfl (Nat.le_of_ble_eq_true rfl) (by omega) ?_
          rintro _ _ _ ⟨rfl, rfl, rfl⟩
          refine wz_if_ne (tgt := 102) d_MO_blame_90 (by decide) (by omega) (fun h90 => ?_) (fun h90 => ?_)
          · have g1 : ¬ gv σ m (j + lt σ) = 0 := by omega
            have eG : blG σ m j x = lsN (wyN σ (wo (sit σ (pl σ m)) m) (j + lt σ) x (nM σ)) (dr σ (pl σ m)) * x := by rw [blG, if_neg g1]
            have hm1 : lsN (wyN σ (wo (sit σ (pl σ m)) m) (j + lt σ) x (nM σ)) (dr σ (pl σ m)) * x ≤ 1000000000000 * 10 := Nat.mul_le_mul (by omega) (by omega)
            refine wp_aload_n d_MO_blame_102 rfl ?_
            refine wp_aload_n d_MO_blame_103 rfl ?_
            refine wp_iload d_MO_blame_104 rfl ?_
            refine wp_callV (ct_MO_sitters (p := pl σ m) 0 ok hA (by omega)) d_MO_blame_106 k_MO_160 (by decide) rfl rfl rfl rfl (Nat.le_of_ble_eq_true rfl) (by omega) ?_
            rintro _ _ _ ⟨rfl, rfl, rfl⟩
            refine wp_iconst (v := zI 1) d_MO_blame_109 rfl ?_
            refine wp_iload_n d_MO_blame_110 rfl ?_
            refine wp_ishl d_MO_blame_111 ?_
            refine wp_iconst (v := zI (-1)) d_MO_blame_112 rfl ?_
            refine wp_ixor d_MO_blame_113 ?_
            refine wp_iand d_MO_blame_114 ?_
            refine wz_top (zI_wo (n := sit σ (pl σ m)) (m := m) (sit_lt ok _) (by omega)) ?_
            refine wp_iload_n d_MO_blame_115 rfl ?_
            refine wp_iload_n d_MO_blame_116 rfl ?_
            refine wp_callV (ct_MO_layWays (set := wo (sit σ (pl σ m)) m) (j := j) (x := x) ok hA (wo_lt m (sit_lt ok _)) (by omega) (by omega)) d_MO_blame_117 k_MO_194 (by decide) rfl rfl rfl rfl (Nat.le_of_ble_eq_true rfl) (by omega) ?_
            rintro _ _ h3 ⟨rfl, rfl, e3, e4⟩
            refine wp_aload_n d_MO_blame_120 rfl ?_
            refine wp_aload_n d_MO_blame_121 rfl ?_
            refine wp_getR d_MO_blame_122 f_MO_19 (by decide) rfl rfl ?_
            refine wp_iload d_MO_blame_125 rfl ?_
            refine wz_iald (hA.dr hmm.2.2.2.2.1) (rfl) ((by omega)) d_MO_blame_127 (by decide) rfl (by decide) ?_
            refine wp_callV (ct_MO_less (A := wyN σ (wo (sit σ (pl σ m)) m) (j + lt σ) x (nM σ)) (z := dr σ (pl σ m)) 0 (by omega) e3) d_MO_blame_128 k_MO_198 (by decide) rfl rfl rfl rfl (Nat.le_of_ble_eq_true rfl) (by omega) ?_
            rintro _ _ _ ⟨rfl, rfl, rfl⟩
            refine wp_iload_n d_MO_blame_131 rfl ?_
            refine wz_i2l d_MO_blame_132 (by omega) ?_
            refine wz_lmul d_MO_blame_133 ?_
            refine wz_topl (y := lZ ((blG σ m j x : Nat) : Int)) (by rw [eG]; rfl) ?_
            refine wp_lload d_MO_blame_134 rfl ?_
            refine wp_iload d_MO_blame_136 rfl ?_
            refine wp_callS (ct_MO_part (a := blG σ m j x) (b := blAll σ m j x) (u := u) 0 (by omega) (by omega) hu) d_MO_blame_138 k_MO_202 rfl rfl (Nat.le_of_ble_eq_true rfl) (by omega) ?_
            rintro _ _ _ ⟨rfl, rfl, rfl⟩
            exact wp_lret d_MO_blame_141 rfl (⟨rfl, hA, fun _ _ => rfl⟩)
          · have g0 : gv σ m (j + lt σ) = 0 := by omega
            have eG : blG σ m j x = 0 := by rw [blG, if_pos g0]
            refine wp_lconst (v := lZ 0) d_MO_blame_93 rfl ?_
            refine wp_lload d_MO_blame_94 rfl ?_
            refine wp_iload d_MO_blame_96 rfl ?_
            refine wz_st (st' := [.int (zI u), .long (lZ ((blAll σ m j x : Nat) : Int)), .long (lZ ((blG σ m j x : Nat) : Int))]) (by rw [eG]; rfl) ?_
            refine wp_callS (ct_MO_part (a := blG σ m j x) (b := blAll σ m j x) (u := u) 0 (by omega) (by omega) hu) d_MO_blame_98 k_MO_202 rfl rfl (Nat.le_of_ble_eq_true rfl) (by omega) ?_
            rintro _ _ _ ⟨rfl, rfl, rfl⟩
            exact wp_lret d_MO_blame_101 rfl (⟨rfl, hA, fun _ _ => rfl⟩)
        · have h0 : blAll σ m j x = 0 := cmp0_eq.mp h77
          rw [if_pos h0]
          refine wz_ldc2 (z := -3) d_MO_blame_80 cs_MO_206 rfl ?_
          exact wp_lret d_MO_blame_83 rfl (⟨rfl, hA, fun _ _ => rfl⟩)
      · refine wz_ldc2 (z := -2) d_MO_blame_32 cs_MO_192 rfl ?_
        rw [if_neg h29]
        exact wp_lret d_MO_blame_35 rfl (⟨rfl, hA, fun _ _ => rfl⟩)
    · refine wz_ldc2 (z := -1) d_MO_blame_16 cs_MO_190 rfl ?_
      rw [r_blame, if_neg (fun q => h13 q.2)]
      exact wp_lret d_MO_blame_19 rfl (⟨rfl, hA, fun _ _ => rfl⟩)
end REFSNEEZE
