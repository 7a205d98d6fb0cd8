/-! THE TEXT, read as an ORGAN: the reference's way -/
def fgA (σ : SG) (s : Nat × Int) (lo hj : Int) : Nat × Int := if s.2 = -9 ∧ isF σ s.1 lo hj then (s.1 + 1, s.2) else (s.1, if s.2 = -9 then (s.1 : Int) else s.2)
def fgV (σ : SG) (s : Nat × Int) (lo hj : Int) : Int := if s.2 = -9 ∧ isF σ s.1 lo hj then sg σ s.1 - 48 else 0
section REFPARSE
variable {σ : SG} {hi : HI} {hl : HL}
/-- the reference's reading under way -/
def RM (hi h : HI) (s : Nat × Int) (np nm nb : Nat) : Prop := (∀ c, c ≠ 41 → c ≠ 42 → c ≠ 43 → c ≠ 44 → h c = hi c) ∧ (∀ f, 9 ≤ f → f ≤ 15 → h 41 f = hi 41 f) ∧ h 41 16 = zI s.1 ∧ h 41 17 = zI s.2 ∧ h 41 3 = zI np ∧ h 41 4 = zI nm ∧ h 41 5 = zI nb
theorem RM.atA {h : HI} {s : Nat × Int} {q m n : Nat} (r : RM hi h s q m n) (z : Nat) : RM hi (setI h 41 16 (zI z)) (z, s.2) q m n := ⟨fun c h1 h2 h3 h4 => by rw [setI_ne _ _ _ h1]; exact r.1 c h1 h2 h3 h4, fun f h1 h2 => rdS (by omega) (r.2.1 f h1 h2), rdA rfl, rdS (by decide) r.2.2.2.1, rdS (by decide) r.2.2.2.2.1, rdS (by decide) r.2.2.2.2.2.1, rdS (by decide) r.2.2.2.2.2.2⟩
theorem RM.fa {h : HI} {s : Nat × Int} {q m n : Nat} (r : RM hi h s q m n) (z : Int) : RM hi (setI h 41 17 (zI z)) (s.1, z) q m n := ⟨fun c h1 h2 h3 h4 => by rw [setI_ne _ _ _ h1]; exact r.1 c h1 h2 h3 h4, fun f h1 h2 => rdS (by omega) (r.2.1 f h1 h2), rdS (by decide) r.2.2.1, rdA rfl, rdS (by decide) r.2.2.2.2.1, rdS (by decide) r.2.2.2.2.2.1, rdS (by decide) r.2.2.2.2.2.2⟩
theorem RM.np {h : HI} {s : Nat × Int} {q m n : Nat} (r : RM hi h s q m n) (z : Nat) : RM hi (setI h 41 3 (zI z)) s z m n := ⟨fun c h1 h2 h3 h4 => by rw [setI_ne _ _ _ h1]; exact r.1 c h1 h2 h3 h4, fun f h1 h2 => rdS (by omega) (r.2.1 f h1 h2), rdS (by decide) r.2.2.1, rdS (by decide) r.2.2.2.1, rdA rfl, rdS (by decide) r.2.2.2.2.2.1, rdS (by decide) r.2.2.2.2.2.2⟩
theorem RM.nm {h : HI} {s : Nat × Int} {q m n : Nat} (r : RM hi h s q m n) (z : Nat) : RM hi (setI h 41 4 (zI z)) s q z n := ⟨fun c h1 h2 h3 h4 => by rw [setI_ne _ _ _ h1]; exact r.1 c h1 h2 h3 h4, fun f h1 h2 => rdS (by omega) (r.2.1 f h1 h2), rdS (by decide) r.2.2.1, rdS (by decide) r.2.2.2.1, rdS (by decide) r.2.2.2.2.1, rdA rfl, rdS (by decide) r.2.2.2.2.2.2⟩
theorem RM.nb {h : HI} {s : Nat × Int} {q m n : Nat} (r : RM hi h s q m n) (z : Nat) : RM hi (setI h 41 5 (zI z)) s q m z := ⟨fun c h1 h2 h3 h4 => by rw [setI_ne _ _ _ h1]; exact r.1 c h1 h2 h3 h4, fun f h1 h2 => rdS (by omega) (r.2.1 f h1 h2), rdS (by decide) r.2.2.1, rdS (by decide) r.2.2.2.1, rdS (by decide) r.2.2.2.2.1, rdS (by decide) r.2.2.2.2.2.1, rdA rfl⟩
/-- one of the rows that are read into -/
theorem RM.row {h : HI} {s : Nat × Int} {q m n k i : Nat} {v : Int32} (hk : k = 42 ∨ k = 43 ∨ k = 44) (r : RM hi h s q m n) : RM hi (setI h k i v) s q m n := by
  have e : setI h k i v 41 = h 41 := setI_ne _ _ _ (by omega)
  refine ⟨fun c h1 h2 h3 h4 => by rw [setI_ne _ _ _ (by omega)]; exact r.1 c h1 h2 h3 h4, ?_⟩
  rw [e]
  exact r.2
theorem RM.tl {h : HI} {s : Nat × Int} {q m n : Nat} (r : RM hi h s q m n) (hA : AM σ hi) : h 41 15 = zI (tl σ) := by rw [r.2.1 15 (by omega) (by omega)]; exact hA.tl
def hrM (σ : SG) (s : Nat × Int) : Int := if s.2 = -9 then sg σ s.1 else -1
theorem ct_MO_here {h : HI} {s : Nat × Int} {q m n : Nat} (d : Nat) (ok : Ok σ) (hA : AM σ hi) (r : RM hi h s q m n) (hs : s.1 ≤ 200 ∧ -9 ≤ s.2 ∧ s.2 ≤ 200) : Ct M_MO_here d [.ref 41] h hl (ans (zI (hrM σ s)) h hl) := by
  have hn := ok.nums
  refine ct_intro (lv := [_]) (by decide +kernel) (Nat.le_of_ble_eq_true rfl) rfl ?_
  refine wp_aload_n d_MO_here_0 rfl ?_
  refine wz_getI (r.2.2.2.1) d_MO_here_1 f_MO_84 (by decide) rfl rfl ?_
  refine wp_bipush (v := zI (-9)) d_MO_here_4 rfl ?_
  refine wz_icmp_ne (tgt := 32) d_MO_here_6 (by decide) (by omega) (by omega) (fun h6 => ?_) (fun h6 => ?_)
  · refine wp_iconst (v := zI (-1)) d_MO_here_32 rfl ?_
    exact wp_iret d_MO_here_33 (Or.inl rfl) (ans_of (by rw [hrM, if_neg h6]))
  · refine wp_aload_n d_MO_here_9 rfl ?_
    refine wz_getI (r.2.2.1) d_MO_here_10 f_MO_87 (by decide) rfl rfl ?_
    refine wp_aload_n d_MO_here_13 rfl ?_
    refine wz_getI ((r.tl hA)) d_MO_here_14 f_MO_79 (by decide) rfl rfl ?_
    refine wz_icmp_ge (tgt := 32) d_MO_here_17 (by decide) (by omega) (by omega) (fun h17 => ?_) (fun h17 => ?_)
    · refine wp_iconst (v := zI (-1)) d_MO_here_32 rfl ?_
      exact wp_iret d_MO_here_33 (Or.inl rfl) (ans_of (by rw [hrM, if_pos h6, sg, if_neg (by omega)]))
    · have ht : h 48 s.1 = zI (tx σ s.1) := by rw [r.1 48 (by omega) (by omega) (by omega) (by omega)]; exact hA.2.2.1.2 s.1 (by omega)
      refine wp_aload_n d_MO_here_20 rfl ?_
      refine wp_getR d_MO_here_21 f_MO_28 (by decide) rfl rfl ?_
      refine wp_aload_n d_MO_here_24 rfl ?_
      refine wz_getI (r.2.2.1) d_MO_here_25 f_MO_87 (by decide) rfl rfl ?_
      refine wz_iald (ht) (rfl) ((by omega)) d_MO_here_28 (by decide) rfl (by decide) ?_
      refine wp_goto (tgt := 33) d_MO_here_29 (by decide) ?_
      exact wp_iret d_MO_here_33 (Or.inl rfl) (ans_of (by rw [hrM, if_pos h6, sg, if_pos (by omega)]))
theorem ct_MO_fail {h : HI} {s : Nat × Int} {q m n : Nat} (d : Nat) (r : RM hi h s q m n) (hs : s.1 ≤ 200 ∧ -9 ≤ s.2 ∧ s.2 ≤ 200) : Ct M_MO_fail d [.ref 41] h hl (fun v h' hl' => v = none ∧ hl = hl' ∧ RM hi h' (s.1, if s.2 = -9 then (s.1 : Int) else s.2) q m n ∧ ∀ c, c ≠ 41 → h' c = h c) := by
  refine ct_intro (lv := [_]) (by decide +kernel) (Nat.le_of_ble_eq_true rfl) rfl ?_
  refine wp_aload_n d_MO_fail_0 rfl ?_
  refine wp_aload_n d_MO_fail_1 rfl ?_
  refine wz_getI (r.2.2.2.1) d_MO_fail_2 f_MO_84 (by decide) rfl rfl ?_
  refine wp_bipush (v := zI (-9)) d_MO_fail_5 rfl ?_
  refine wz_icmp_ne (tgt := 17) d_MO_fail_7 (by decide) (by omega) (by omega) (fun h7 => ?_) (fun h7 => ?_)
  · refine wp_aload_n d_MO_fail_17 rfl ?_
    refine wz_getI (r.2.2.2.1) d_MO_fail_18 f_MO_84 (by decide) rfl rfl ?_
    refine wp_putI d_MO_fail_21 f_MO_84 pk_MO_17 (by decide) rfl rfl ?_
    exact wp_vret d_MO_fail_24 rfl (⟨rfl, rfl, by rw [if_neg h7]; exact r.fa s.2, fun c hc => setI_ne _ _ _ hc⟩)
  · refine wp_aload_n d_MO_fail_10 rfl ?_
    refine wz_getI (r.2.2.1) d_MO_fail_11 f_MO_87 (by decide) rfl rfl ?_
    refine wp_goto (tgt := 21) d_MO_fail_14 (by decide) ?_
    refine wp_putI d_MO_fail_21 f_MO_84 pk_MO_17 (by decide) rfl rfl ?_
    exact wp_vret d_MO_fail_24 rfl (⟨rfl, rfl, by rw [if_pos h7]; exact r.fa s.1, fun c hc => setI_ne _ _ _ hc⟩)
theorem hr_b (ok : Ok σ) (s : Nat × Int) : -1 ≤ hrM σ s ∧ hrM σ s ≤ 255 := by
  have := sg_b ok s.1
  unfold hrM
  split <;> omega
theorem ct_MO_figure {h : HI} {s : Nat × Int} {q m n : Nat} {x y : Int} (ok : Ok σ) (hA : AM σ hi) (r : RM hi h s q m n) (hs : s.1 ≤ 200 ∧ -9 ≤ s.2 ∧ s.2 ≤ 200) (hx : 0 ≤ x ∧ x ≤ 20) (hy : -1 ≤ y ∧ y ≤ 20) : Ct M_MO_figure 1 [.ref 41, .int (zI x), .int (zI y)] h hl (fun v h' hl' => v = some (.int (zI (fgV σ s x y))) ∧ hl = hl' ∧ RM hi h' (fgA σ s x y) q m n ∧ ∀ c, c ≠ 41 → h' c = h c) := by
  have b1 := hr_b ok s
  refine ct_intro (lv := [_, _, _, _]) (by decide +kernel) (Nat.le_of_ble_eq_true rfl) rfl ?_
  refine wp_aload_n d_MO_figure_0 rfl ?_
  refine wp_callV (ct_MO_here (s := s) 0 ok hA r hs) d_MO_figure_1 k_MO_90 (by decide) rfl rfl rfl rfl (Nat.le_of_ble_eq_true rfl) (by omega) ?_
  rintro _ _ _ ⟨rfl, rfl, rfl⟩
  refine wp_bipush (v := zI 48) d_MO_figure_4 rfl ?_
  refine wz_isub d_MO_figure_6 ?_
  refine wp_istore_n (lv' := [_, _, _, _]) d_MO_figure_7 (by decide) rfl ?_
  refine wp_iload_n d_MO_figure_8 rfl ?_
  refine wz_i2l d_MO_figure_9 (by omega) ?_
  refine wp_iload_n d_MO_figure_10 rfl ?_
  refine wz_i2l d_MO_figure_11 (by omega) ?_
  refine wp_iload_n d_MO_figure_12 rfl ?_
  refine wz_i2l d_MO_figure_13 (by omega) ?_
  refine wp_callS (ct_MO_in (x := hrM σ s - 48) (y := x) (z := y) 0 (by omega) (by omega) (by omega)) d_MO_figure_14 k_MO_75 rfl rfl (Nat.le_of_ble_eq_true rfl) (by omega) ?_
  rintro _ _ _ ⟨rfl, rfl, rfl⟩
  refine wz_if_neB (tgt := 26) d_MO_figure_17 (by decide) (fun h17 => ?_) (fun h17 => ?_)
  · have h9 : s.2 = -9 := by
      unfold hrM at h17
      split at h17
      · assumption
      · omega
    have hh : hrM σ s = sg σ s.1 := by rw [hrM, if_pos h9]
    rw [hh] at h17 ⊢
    have r2 := r.atA (s.1 + 1)
    refine wp_aload_n d_MO_figure_26 rfl ?_
    refine wp_dup d_MO_figure_27 rfl ?_
    refine wz_getI (r.2.2.1) d_MO_figure_28 f_MO_87 (by decide) rfl rfl ?_
    refine wp_iconst (v := zI 1) d_MO_figure_31 rfl ?_
    refine wz_iadd d_MO_figure_32 ?_
    refine wp_putI d_MO_figure_33 f_MO_87 pk_MO_16 (by decide) rfl rfl ?_
    refine wp_iload_n d_MO_figure_36 rfl ?_
    exact wp_iret d_MO_figure_37 (Or.inl rfl) (⟨by rw [fgV, if_pos ⟨h9, h17⟩], rfl, by rw [fgA, if_pos ⟨h9, h17⟩]; exact r2, fun c hc => setI_ne _ _ _ hc⟩)
  · have e : ¬ (s.2 = -9 ∧ isF σ s.1 x y) := fun q => by
      rw [hrM, if_pos q.1] at h17
      exact h17 q.2
    refine wp_aload_n d_MO_figure_20 rfl ?_
    refine wp_callV (ct_MO_fail (s := s) 0 r hs) d_MO_figure_21 k_MO_94 (by decide) rfl rfl rfl rfl (Nat.le_of_ble_eq_true rfl) (by omega) ?_
    rintro _ h2 _ ⟨rfl, rfl, r2, e2⟩
    refine wp_iconst (v := zI 0) d_MO_figure_24 rfl ?_
    exact wp_iret d_MO_figure_25 (Or.inl rfl) (⟨by rw [fgV, if_neg e], rfl, by rw [fgA, if_neg e]; exact r2, e2⟩)
theorem mask_b {v k : Nat} (hv : v ≤ 7) (hk : k = 0 ∨ k = 1 ∨ k = 3 ∨ k = 7) : (zI (v : Int) &&& (zI (k : Int) ^^^ zI (-1)) = 0) ↔ v ≤ k := by
  have : ∀ a : Fin 8, ((zI (a.val : Int) &&& (zI 0 ^^^ zI (-1)) = 0) ↔ a.val ≤ 0) ∧ ((zI (a.val : Int) &&& (zI 1 ^^^ zI (-1)) = 0) ↔ a.val ≤ 1) ∧ ((zI (a.val : Int) &&& (zI 3 ^^^ zI (-1)) = 0) ↔ a.val ≤ 3) ∧ ((zI (a.val : Int) &&& (zI 7 ^^^ zI (-1)) = 0) ↔ a.val ≤ 7) := by decide +kernel
  obtain ⟨t0, t1, t3, t7⟩ := this ⟨v, by omega⟩
  rcases hk with rfl | rfl | rfl | rfl
  · exact t0
  · exact t1
  · exact t3
  · exact t7
theorem ct_MO_bits {h : HI} {s : Nat × Int} {q m n k : Nat} (ok : Ok σ) (hA : AM σ hi) (r : RM hi h s q m n) (hs : s.1 ≤ 200 ∧ -9 ≤ s.2 ∧ s.2 ≤ 200) (hk : k = 0 ∨ k = 1 ∨ k = 3 ∨ k = 7) : Ct M_MO_bits 1 [.ref 41, .int (zI k)] h hl (fun v h' hl' => v = some (.int (zI (fgV σ s 0 k))) ∧ hl = hl' ∧ RM hi h' (fgA σ s 0 k) q m n ∧ ∀ c, c ≠ 41 → h' c = h c) := by
  have b1 := hr_b ok s
  generalize hP : (fun (v : Option Value) (h' : HI) (hl' : HL) => v = some (.int (zI (fgV σ s 0 k))) ∧ hl = hl' ∧ RM hi h' (fgA σ s 0 k) q m n ∧ ∀ c, c ≠ 41 → h' c = h c) = Post
  have bad : ¬ (s.2 = -9 ∧ isF σ s.1 0 k) → Wp M_MO_bits 1 Post 28 [some (.ref 41), some (.int (zI k)), none] [] h hl := by
    intro e
    subst hP
    refine wp_aload_n d_MO_bits_28 rfl ?_
    refine wp_callV (ct_MO_fail (s := s) 0 r hs) d_MO_bits_29 k_MO_94 (by decide) rfl rfl rfl rfl (Nat.le_of_ble_eq_true rfl) (by omega) ?_
    rintro _ h2 _ ⟨rfl, rfl, r2, e2⟩
    refine wp_iconst (v := zI 0) d_MO_bits_32 rfl ?_
    exact wp_iret d_MO_bits_33 (Or.inl rfl) (⟨by rw [fgV, if_neg e], rfl, by rw [fgA, if_neg e]; exact r2, e2⟩)
  subst hP
  refine ct_intro (lv := [_, _, _]) (by decide +kernel) (Nat.le_of_ble_eq_true rfl) rfl ?_
  refine wp_aload_n d_MO_bits_0 rfl ?_
  refine wp_callV (ct_MO_here (s := s) 0 ok hA r hs) d_MO_bits_1 k_MO_90 (by decide) rfl rfl rfl rfl (Nat.le_of_ble_eq_true rfl) (by omega) ?_
  rintro _ _ _ ⟨rfl, rfl, rfl⟩
  refine wp_bipush (v := zI 48) d_MO_bits_4 rfl ?_
  refine wz_isub d_MO_bits_6 ?_
  refine wp_istore_n (lv' := [_, _, _]) d_MO_bits_7 (by decide) rfl ?_
  refine wp_iload_n d_MO_bits_8 rfl ?_
  refine wz_i2l d_MO_bits_9 (by omega) ?_
  refine wp_lconst (v := lZ 0) d_MO_bits_10 rfl ?_
  refine wz_ldc2 (z := 7) d_MO_bits_11 cs_MO_97 rfl ?_
  refine wp_callS (ct_MO_in (x := hrM σ s - 48) (y := 0) (z := 7) 0 (by omega) (by omega) (by omega)) d_MO_bits_14 k_MO_75 rfl rfl (Nat.le_of_ble_eq_true rfl) (by omega) ?_
  rintro _ _ _ ⟨rfl, rfl, rfl⟩
  refine wz_if_eqB (tgt := 28) d_MO_bits_17 (by decide) (fun h17 => ?_) (fun h17 => ?_)
  · refine wp_drop (lv' := [some _, some _, none]) ⟨rfl, rfl, trivial⟩ ?_
    refine bad (fun q => ?_)
    rw [hrM, if_pos q.1] at h17
    omega
  · have h9 : s.2 = -9 := by
      unfold hrM at h17
      split at h17
      · assumption
      · omega
    have hh : hrM σ s = sg σ s.1 := by rw [hrM, if_pos h9]
    rw [hh] at h17 ⊢
    obtain ⟨v, hv⟩ : ∃ v : Nat, sg σ s.1 - 48 = v := ⟨(sg σ s.1 - 48).toNat, by omega⟩
    have hm := mask_b (v := v) (k := k) (by omega) hk
    rw [hv]
    refine wp_iload_n d_MO_bits_20 rfl ?_
    refine wp_iload_n d_MO_bits_21 rfl ?_
    refine wp_iconst (v := zI (-1)) d_MO_bits_22 rfl ?_
    refine wp_ixor d_MO_bits_23 ?_
    refine wp_iand d_MO_bits_24 ?_
    refine wp_if_eq (tgt := 34) d_MO_bits_25 (by decide) (fun h25 => ?_) (fun h25 => ?_)
    · have e : s.2 = -9 ∧ isF σ s.1 0 k := ⟨h9, by have := hm.mp h25; omega⟩
      have r2 := r.atA (s.1 + 1)
      refine wp_aload_n d_MO_bits_34 rfl ?_
      refine wp_dup d_MO_bits_35 rfl ?_
      refine wz_getI (r.2.2.1) d_MO_bits_36 f_MO_87 (by decide) rfl rfl ?_
      refine wp_iconst (v := zI 1) d_MO_bits_39 rfl ?_
      refine wz_iadd d_MO_bits_40 ?_
      refine wp_putI d_MO_bits_41 f_MO_87 pk_MO_16 (by decide) rfl rfl ?_
      refine wp_iload_n d_MO_bits_44 rfl ?_
      exact wp_iret d_MO_bits_45 (Or.inl rfl) (⟨by rw [fgV, if_pos e, hv], rfl, by rw [fgA, if_pos e]; exact r2, fun c hc => setI_ne _ _ _ hc⟩)
    · refine wp_drop (lv' := [some _, some _, none]) ⟨rfl, rfl, trivial⟩ ?_
      refine bad (fun q => h25 (hm.mpr ?_))
      omega
theorem sg_lt {i : Nat} (h : 0 ≤ sg σ i) : i < tl σ := by
  unfold sg at h
  split at h
  · assumption
  · omega
theorem peoN_end (σ : SG) (q : Nat) : ∀ n i, 1 + q + 4 * i ≤ tl σ → (peoN σ q n i).1 = -9 → 1 + q + 4 * (peoN σ q n i).2 ≤ tl σ
  | 0, i, h, _ => h
  | n + 1, i, h, h0 => by
    rw [peoN] at h0 ⊢
    by_cases c1 : sg σ (1 + q + 4 * i) = 77
    · rw [if_pos c1] at h0 ⊢
      by_cases c2 : isF σ (1 + q + 4 * i + 1) 1 9
      · rw [if_pos c2] at h0 ⊢
        by_cases c3 : isF σ (1 + q + 4 * i + 2) 1 3
        · rw [if_pos c3] at h0 ⊢
          by_cases c4 : isF σ (1 + q + 4 * i + 3) 0 ((q : Int) - 1)
          · rw [if_pos c4] at h0 ⊢
            have := sg_lt (σ := σ) (i := 1 + q + 4 * i + 3) (by omega)
            exact peoN_end σ q n (i + 1) (by omega) h0
          · rw [if_neg c4] at h0
            exact absurd h0 (by show ¬ ((1 + q + 4 * i + 3 : Nat) : Int) = -9; omega)
        · rw [if_neg c3] at h0
          exact absurd h0 (by show ¬ ((1 + q + 4 * i + 2 : Nat) : Int) = -9; omega)
      · rw [if_neg c2] at h0
        exact absurd h0 (by show ¬ ((1 + q + 4 * i + 1 : Nat) : Int) = -9; omega)
    · rw [if_neg c1]
      exact h
theorem hymN_end (σ : SG) (q e : Nat) : ∀ n i, e + 2 * i ≤ tl σ → (hymN σ q e n i).1 = -9 → e + 2 * (hymN σ q e n i).2 ≤ tl σ
  | 0, i, h, _ => h
  | n + 1, i, h, h0 => by
    rw [hymN] at h0 ⊢
    by_cases c1 : i = 0 ∨ e + 2 * i < tl σ
    · rw [if_pos c1] at h0 ⊢
      by_cases c2 : isF σ (e + 2 * i) 0 (lowB q)
      · rw [if_pos c2] at h0 ⊢
        by_cases c3 : isF σ (e + 2 * i + 1) 0 (highB q)
        · rw [if_pos c3] at h0 ⊢
          have := sg_lt (σ := σ) (i := e + 2 * i + 1) (by omega)
          exact hymN_end σ q e n (i + 1) (by omega) h0
        · rw [if_neg c3] at h0
          exact absurd h0 (by show ¬ ((e + 2 * i + 1 : Nat) : Int) = -9; omega)
      · rw [if_neg c2] at h0
        exact absurd h0 (by show ¬ ((e + 2 * i : Nat) : Int) = -9; omega)
    · rw [if_neg c1]
      exact h
theorem pE_le (hq : 1 ≤ pQ σ) (h9 : (pPp σ).1 = -9) : pE σ ≤ tl σ := by
  have h1 := pipN_sp σ 6 0 (pQ σ - 1) (by omega) (by show pQ σ - 1 < pQ σ; omega)
  have h2 := sg_lt (σ := σ) (i := 1 + (pQ σ - 1)) (by omega)
  exact peoN_end σ (pQ σ) 12 0 (by omega) h9
theorem mk_low {q : Nat} (hq : q ≤ 6) : ((zI 1 <<< (zI (q : Int) &&& 31)) - zI 1) &&& zI 7 = zI (lowB q) := by
  rcases (show q = 0 ∨ q = 1 ∨ q = 2 ∨ q = 3 ∨ q = 4 ∨ q = 5 ∨ q = 6 by omega) with rfl | rfl | rfl | rfl | rfl | rfl | rfl <;> decide +kernel
theorem mk_high {q : Nat} (hq : q ≤ 6) : ((zI 1 <<< (zI (q : Int) &&& 31)) - zI 1) >>> (zI 3 &&& 31) = zI (highB q) := by
  rcases (show q = 0 ∨ q = 1 ∨ q = 2 ∨ q = 3 ∨ q = 4 ∨ q = 5 ∨ q = 6 by omega) with rfl | rfl | rfl | rfl | rfl | rfl | rfl <;> decide +kernel
theorem low_4 {q : Nat} (hq : q ≤ 6) : lowB q = 0 ∨ lowB q = 1 ∨ lowB q = 3 ∨ lowB q = 7 := by
  rcases (show q = 0 ∨ q = 1 ∨ q = 2 ∨ q = 3 ∨ q = 4 ∨ q = 5 ∨ q = 6 by omega) with rfl | rfl | rfl | rfl | rfl | rfl | rfl <;> decide
theorem high_4 {q : Nat} (hq : q ≤ 6) : highB q = 0 ∨ highB q = 1 ∨ highB q = 3 ∨ highB q = 7 := by
  rcases (show q = 0 ∨ q = 1 ∨ q = 2 ∨ q = 3 ∨ q = 4 ∨ q = 5 ∨ q = 6 by omega) with rfl | rfl | rfl | rfl | rfl | rfl | rfl <;> decide
theorem fgA_ok {s : Nat × Int} {x y : Int} (h9 : s.2 = -9) (h : isF σ s.1 x y) : fgA σ s x y = (s.1 + 1, -9) ∧ fgV σ s x y = sg σ s.1 - 48 := by rw [fgA, fgV, if_pos ⟨h9, h⟩, if_pos ⟨h9, h⟩, h9]; exact ⟨rfl, rfl⟩
theorem fgA_no {s : Nat × Int} {x y : Int} (h9 : s.2 = -9) (h : ¬ isF σ s.1 x y) : fgA σ s x y = (s.1, (s.1 : Int)) := by rw [fgA, if_neg (fun q => h q.2), if_pos h9]
theorem fgA_f {s : Nat × Int} {x y : Int} (h9 : s.2 ≠ -9) : fgA σ s x y = s := by rw [fgA, if_neg (fun q => h9 q.1), if_neg h9]
theorem fgV_b (ok : Ok σ) (s : Nat × Int) {x y : Int} (hx : 0 ≤ x) (hy : y ≤ 9) : 0 ≤ fgV σ s x y ∧ fgV σ s x y ≤ 9 := by
  unfold fgV
  split
  · rename_i h
    omega
  · omega
end REFPARSE
