/-! THE TEXT, read as an ORGAN: the reading, and the class's way of it -/
def sg (σ : SG) (i : Nat) : Int := if i < tl σ then (tx σ i : Int) else -1
abbrev isF (σ : SG) (i : Nat) (lo hj : Int) : Prop := lo ≤ sg σ i - 48 ∧ sg σ i - 48 ≤ hj
def pipN (σ : SG) : Nat → Nat → Nat
  | 0, i => i
  | n + 1, i => if isF σ (1 + i) 1 9 then pipN σ n (i + 1) else i
def peoN (σ : SG) (q : Nat) : Nat → Nat → Int × Nat
  | 0, i => (-9, i)
  | n + 1, i => if sg σ (1 + q + 4 * i) = 77 then (if isF σ (1 + q + 4 * i + 1) 1 9 then (if isF σ (1 + q + 4 * i + 2) 1 3 then (if isF σ (1 + q + 4 * i + 3) 0 ((q : Int) - 1) then peoN σ q n (i + 1) else (((1 + q + 4 * i + 3 : Nat) : Int), i)) else (((1 + q + 4 * i + 2 : Nat) : Int), i)) else (((1 + q + 4 * i + 1 : Nat) : Int), i)) else (-9, i)
def lowB (q : Nat) : Nat := 2 ^ (min q 3) - 1
def highB (q : Nat) : Nat := 2 ^ (q - 3) - 1
def hymN (σ : SG) (q e : Nat) : Nat → Nat → Int × Nat
  | 0, i => (-9, i)
  | n + 1, i => if i = 0 ∨ e + 2 * i < tl σ then (if isF σ (e + 2 * i) 0 (lowB q) then (if isF σ (e + 2 * i + 1) 0 (highB q) then hymN σ q e n (i + 1) else (((e + 2 * i + 1 : Nat) : Int), i)) else (((e + 2 * i : Nat) : Int), i)) else (-9, i)
def pQ (σ : SG) : Nat := pipN σ 6 0
def pPp (σ : SG) : Int × Nat := peoN σ (pQ σ) 12 0
def pE (σ : SG) : Nat := 1 + pQ σ + 4 * (pPp σ).2
def pH (σ : SG) : Int × Nat := if pE σ = tl σ then (-9, 0) else hymN σ (pQ σ) (pE σ + 1) 24 0
/-- THE FAULT -/
def r_fault (σ : SG) : Int := if sg σ 0 = 79 then (if pQ σ = 0 then 1 else if (pPp σ).1 ≠ -9 then (pPp σ).1 else if pE σ = tl σ then -9 else if sg σ (pE σ) ≠ 47 then pE σ else if (pH σ).1 ≠ -9 then (pH σ).1 else if pE σ + 1 + 2 * (pH σ).2 = tl σ then -9 else ((pE σ + 1 + 2 * (pH σ).2 : Nat) : Int)) else 0
section PARSE
variable {σ : SG} {hi : HI} {hl : HL}
theorem sg_b (ok : Ok σ) (i : Nat) : -1 ≤ sg σ i ∧ sg σ i ≤ 255 := by
  unfold sg
  split
  · have := ok.2.2.2.2.1 i (by assumption)
    omega
  · omega
theorem pipN_le (σ : SG) : ∀ n i, i ≤ pipN σ n i ∧ pipN σ n i ≤ i + n
  | 0, i => by simp [pipN]
  | n + 1, i => by
    have := pipN_le σ n (i + 1)
    rw [pipN]
    split <;> omega
theorem pQ_le (σ : SG) : pQ σ ≤ 6 := by have := pipN_le σ 6 0; unfold pQ; omega
theorem peoN_le (σ : SG) (q : Nat) : ∀ n i, i ≤ (peoN σ q n i).2 ∧ (peoN σ q n i).2 ≤ i + n ∧ ((peoN σ q n i).1 = -9 ∨ (0 ≤ (peoN σ q n i).1 ∧ (peoN σ q n i).1 ≤ q + 4 * (i + n) + 4))
  | 0, i => by simp [peoN]
  | n + 1, i => by
    have := peoN_le σ q n (i + 1)
    rw [peoN]
    split
    · split
      · split
        · split
          · omega
          · refine ⟨Nat.le_refl _, by show i ≤ _; omega, Or.inr ?_⟩
            show 0 ≤ ((1 + q + 4 * i + 3 : Nat) : Int) ∧ ((1 + q + 4 * i + 3 : Nat) : Int) ≤ _
            omega
        · refine ⟨Nat.le_refl _, by show i ≤ _; omega, Or.inr ?_⟩
          show 0 ≤ ((1 + q + 4 * i + 2 : Nat) : Int) ∧ ((1 + q + 4 * i + 2 : Nat) : Int) ≤ _
          omega
      · refine ⟨Nat.le_refl _, by show i ≤ _; omega, Or.inr ?_⟩
        show 0 ≤ ((1 + q + 4 * i + 1 : Nat) : Int) ∧ ((1 + q + 4 * i + 1 : Nat) : Int) ≤ _
        omega
    · exact ⟨Nat.le_refl _, by show i ≤ _; omega, Or.inl rfl⟩
theorem hymN_le (σ : SG) (q e : Nat) : ∀ n i, i ≤ (hymN σ q e n i).2 ∧ (hymN σ q e n i).2 ≤ i + n ∧ ((hymN σ q e n i).1 = -9 ∨ (0 ≤ (hymN σ q e n i).1 ∧ (hymN σ q e n i).1 ≤ e + 2 * (i + n) + 2))
  | 0, i => by simp [hymN]
  | n + 1, i => by
    have := hymN_le σ q e n (i + 1)
    rw [hymN]
    split
    · split
      · split
        · omega
        · refine ⟨Nat.le_refl _, by show i ≤ _; omega, Or.inr ?_⟩
          show 0 ≤ ((e + 2 * i + 1 : Nat) : Int) ∧ ((e + 2 * i + 1 : Nat) : Int) ≤ _
          omega
      · refine ⟨Nat.le_refl _, by show i ≤ _; omega, Or.inr ?_⟩
        show 0 ≤ ((e + 2 * i : Nat) : Int) ∧ ((e + 2 * i : Nat) : Int) ≤ _
        omega
    · exact ⟨Nat.le_refl _, by show i ≤ _; omega, Or.inl rfl⟩
theorem pPp_b (σ : SG) : (pPp σ).2 ≤ 12 ∧ ((pPp σ).1 = -9 ∨ (0 ≤ (pPp σ).1 ∧ (pPp σ).1 ≤ 60)) := by
  have h1 := peoN_le σ (pQ σ) 12 0
  have h2 := pQ_le σ
  unfold pPp
  omega
theorem pE_b (σ : SG) : pE σ ≤ 55 := by
  have h1 := pPp_b σ
  have h2 := pQ_le σ
  unfold pE
  omega
theorem pH_b (σ : SG) : (pH σ).2 ≤ 24 ∧ ((pH σ).1 = -9 ∨ (0 ≤ (pH σ).1 ∧ (pH σ).1 ≤ 120)) := by
  have h1 := hymN_le σ (pQ σ) (pE σ + 1) 24 0
  have h2 := pE_b σ
  unfold pH
  split
  · exact ⟨by show 0 ≤ 24; omega, Or.inl rfl⟩
  · omega
theorem lowB_b (q : Nat) : lowB q ≤ 7 := by
  unfold lowB
  have : 2 ^ (min q 3) ≤ 2 ^ 3 := Nat.pow_le_pow_right (by omega) (by omega)
  omega
theorem highB_b {q : Nat} (h : q ≤ 6) : highB q ≤ 7 := by
  unfold highB
  have : 2 ^ (q - 3) ≤ 2 ^ 3 := Nat.pow_le_pow_right (by omega) (by omega)
  omega
/-- the class's reading under way: where it stands, what it has counted -/
def RD (σ : SG) (hi h : HI) (at_ : Int) (np nm nb : Nat) : Prop := (∀ c, c ≠ 1 → h c = hi c) ∧ h 1 1 = zI (tl σ) ∧ h 1 2 = zI at_ ∧ h 1 3 = zI np ∧ h 1 4 = zI nm ∧ h 1 5 = zI nb
theorem RD.at {h : HI} {z : Int} {q m n : Nat} (r : RD σ hi h z q m n) (z' : Int) : RD σ hi (setI h 1 2 (zI z')) z' q m n := ⟨fun c hc => by rw [setI_ne _ _ _ hc]; exact r.1 c hc, rdS (by decide) r.2.1, rdA rfl, rdS (by decide) r.2.2.2.1, rdS (by decide) r.2.2.2.2.1, rdS (by decide) r.2.2.2.2.2⟩
theorem RD.np {h : HI} {z : Int} {q m n : Nat} (r : RD σ hi h z q m n) (q' : Nat) : RD σ hi (setI h 1 3 (zI q')) z q' m n := ⟨fun c hc => by rw [setI_ne _ _ _ hc]; exact r.1 c hc, rdS (by decide) r.2.1, rdS (by decide) r.2.2.1, rdA rfl, rdS (by decide) r.2.2.2.2.1, rdS (by decide) r.2.2.2.2.2⟩
theorem RD.nm {h : HI} {z : Int} {q m n : Nat} (r : RD σ hi h z q m n) (m' : Nat) : RD σ hi (setI h 1 4 (zI m')) z q m' n := ⟨fun c hc => by rw [setI_ne _ _ _ hc]; exact r.1 c hc, rdS (by decide) r.2.1, rdS (by decide) r.2.2.1, rdS (by decide) r.2.2.2.1, rdA rfl, rdS (by decide) r.2.2.2.2.2⟩
theorem RD.nb {h : HI} {z : Int} {q m n : Nat} (r : RD σ hi h z q m n) (n' : Nat) : RD σ hi (setI h 1 5 (zI n')) z q m n' := ⟨fun c hc => by rw [setI_ne _ _ _ hc]; exact r.1 c hc, rdS (by decide) r.2.1, rdS (by decide) r.2.2.1, rdS (by decide) r.2.2.2.1, rdS (by decide) r.2.2.2.2.1, rdA rfl⟩
theorem and255 {n : Nat} (h : n < 256) : zI (sgn8 n) &&& zI 255 = zI n := by
  have : ∀ k : Fin 256, zI (sgn8 k.val) &&& zI 255 = zI (k.val : Int) := by decide +kernel
  exact this ⟨n, h⟩
theorem ct_SC_signAt {h : HI} {i : Nat} (d : Nat) (ok : Ok σ) (ht : TV σ h) (hb : i ≤ 1000) : Ct M_SC_signAt d [.ref 1, .int (zI i)] h hl (ans (zI (sg σ i)) h hl) := by
  have hn := ok.nums
  refine ct_intro (lv := [_, _]) (by decide +kernel) (Nat.le_of_ble_eq_true rfl) rfl ?_
  refine wp_iload_n d_SC_signAt_0 rfl ?_
  refine wz_if_lt (tgt := 31) d_SC_signAt_1 (by decide) (by omega) (fun h1 => ?_) (fun h1 => ?_)
  · exact absurd h1 (by omega)
  · refine wp_iload_n d_SC_signAt_4 rfl ?_
    refine wp_aload_n d_SC_signAt_5 rfl ?_
    refine wz_getI (ht.1) d_SC_signAt_6 f_SC_15 (by decide) rfl rfl ?_
    refine wz_icmp_ge (tgt := 31) d_SC_signAt_9 (by decide) (by omega) (by omega) (fun h9 => ?_) (fun h9 => ?_)
    · refine wp_iconst (v := zI (-1)) d_SC_signAt_31 rfl ?_
      exact wp_iret d_SC_signAt_32 (Or.inl rfl) (ans_of (by rw [sg, if_neg (by omega)]))
    · refine wp_iload_n d_SC_signAt_12 rfl ?_
      refine wp_bipush (v := zI 104) d_SC_signAt_13 rfl ?_
      refine wz_icmp_ge (tgt := 31) d_SC_signAt_15 (by decide) (by omega) (by omega) (fun h15 => ?_) (fun h15 => ?_)
      · exact absurd h15 (by omega)
      · have hl2 : i < tl σ := by omega
        refine wp_aload_n d_SC_signAt_18 rfl ?_
        refine wp_getR d_SC_signAt_19 f_SC_9 (by decide) rfl rfl ?_
        refine wp_iload_n d_SC_signAt_22 rfl ?_
        refine wz_bald (ht.2 i hl2) (rfl) ((by omega)) d_SC_signAt_23 (by decide) rfl (by decide) ?_
        refine wp_sipush (v := zI 255) d_SC_signAt_24 rfl ?_
        refine wp_iand d_SC_signAt_27 ?_
        rw [and255 (ok.2.2.2.2.1 i hl2)]
        refine wp_goto (tgt := 32) d_SC_signAt_28 (by decide) ?_
        exact wp_iret d_SC_signAt_32 (Or.inl rfl) (ans_of (by rw [sg, if_pos hl2]))
theorem ct_SC_figureAt {h : HI} {i : Nat} (ok : Ok σ) (ht : TV σ h) (hb : i ≤ 1000) : Ct M_SC_figureAt 1 [.ref 1, .int (zI i)] h hl (ans (zI (sg σ i - 48)) h hl) := by
  refine ct_intro (lv := [_, _]) (by decide +kernel) (Nat.le_of_ble_eq_true rfl) rfl ?_
  refine wp_aload_n d_SC_figureAt_0 rfl ?_
  refine wp_iload_n d_SC_figureAt_1 rfl ?_
  refine wp_callV (ct_SC_signAt (i := i) 0 ok ht hb) d_SC_figureAt_2 k_SC_45 (by decide) rfl rfl rfl rfl (Nat.le_of_ble_eq_true rfl) (by omega) ?_
  rintro _ _ _ ⟨rfl, rfl, rfl⟩
  refine wp_bipush (v := zI 48) d_SC_figureAt_5 rfl ?_
  refine wz_isub d_SC_figureAt_7 ?_
  exact wp_iret d_SC_figureAt_8 (Or.inl rfl) (ans_of rfl)
theorem RD.tv {h : HI} {z : Int} {q m n : Nat} (r : RD σ hi h z q m n) (ht : TV σ hi) : TV σ h := ⟨r.2.1, by rw [r.1 2 (by omega)]; exact ht.2⟩
theorem ct_SC_takeSign {h : HI} {i q m n : Nat} {x : Int} (ok : Ok σ) (ht : TV σ hi) (r : RD σ hi h i q m n) (hb : i ≤ 200) (hx : 0 ≤ x ∧ x ≤ 255) : Ct M_SC_takeSign 2 [.ref 1, .int (zI x)] h hl (fun v h' hl' => v = some (.int (bI (sg σ i = x))) ∧ hl = hl' ∧ RD σ hi h' (if sg σ i = x then ((i : Int) + 1) else i) q m n) := by
  have b1 := sg_b ok i
  refine ct_intro (lv := [_, _]) (by decide +kernel) (Nat.le_of_ble_eq_true rfl) rfl ?_
  refine wp_aload_n d_SC_takeSign_0 rfl ?_
  refine wp_aload_n d_SC_takeSign_1 rfl ?_
  refine wz_getI (r.2.2.1) d_SC_takeSign_2 f_SC_19 (by decide) rfl rfl ?_
  refine wp_callV (ct_SC_signAt (i := i) 0 ok (r.tv ht) (by omega)) d_SC_takeSign_5 k_SC_45 (by decide) rfl rfl rfl rfl (Nat.le_of_ble_eq_true rfl) (by omega) ?_
  rintro _ _ _ ⟨rfl, rfl, rfl⟩
  refine wp_iload_n d_SC_takeSign_8 rfl ?_
  refine wz_icmp_eq (tgt := 14) d_SC_takeSign_9 (by decide) (by omega) (by omega) (fun h9 => ?_) (fun h9 => ?_)
  · refine wp_aload_n d_SC_takeSign_14 rfl ?_
    refine wp_dup d_SC_takeSign_15 rfl ?_
    refine wz_getI (r.2.2.1) d_SC_takeSign_16 f_SC_19 (by decide) rfl rfl ?_
    refine wp_iconst (v := zI 1) d_SC_takeSign_19 rfl ?_
    refine wz_iadd d_SC_takeSign_20 ?_
    refine wp_putI d_SC_takeSign_21 f_SC_19 pk_SC_2 (by decide) rfl rfl ?_
    refine wp_iconst (v := zI 1) d_SC_takeSign_24 rfl ?_
    exact wp_iret d_SC_takeSign_25 (Or.inr ⟨rfl, by first | exact bI_01 _ | exact Or.inl rfl | exact Or.inr rfl⟩) (⟨by rw [bI_t h9]; rfl, rfl, by rw [if_pos h9]; exact r.at _⟩)
  · refine wp_iconst (v := zI 0) d_SC_takeSign_12 rfl ?_
    exact wp_iret d_SC_takeSign_13 (Or.inr ⟨rfl, by first | exact bI_01 _ | exact Or.inl rfl | exact Or.inr rfl⟩) (⟨by rw [bI_f h9]; rfl, rfl, by rw [if_neg h9]; exact r⟩)
theorem ct_SC_takeFigure {h : HI} {i q m n : Nat} {x y : Int} (ok : Ok σ) (ht : TV σ hi) (r : RD σ hi h i q m n) (hb : i ≤ 200) (hx : -10 ≤ x ∧ x ≤ 255) (hy : -10 ≤ y ∧ y ≤ 255) : Ct M_SC_takeFigure 2 [.ref 1, .int (zI x), .int (zI y)] h hl (fun v h' hl' => v = some (.int (bI (isF σ i x y))) ∧ hl = hl' ∧ RD σ hi h' (if isF σ i x y then ((i : Int) + 1) else i) q m n) := by
  have b1 := sg_b ok i
  refine ct_intro (lv := [_, _, _, _]) (by decide +kernel) (Nat.le_of_ble_eq_true rfl) rfl ?_
  refine wp_aload_n d_SC_takeFigure_0 rfl ?_
  refine wp_aload_n d_SC_takeFigure_1 rfl ?_
  refine wz_getI (r.2.2.1) d_SC_takeFigure_2 f_SC_19 (by decide) rfl rfl ?_
  refine wp_callV (ct_SC_figureAt (i := i) ok (r.tv ht) (by omega)) d_SC_takeFigure_5 k_SC_49 (by decide) rfl rfl rfl rfl (Nat.le_of_ble_eq_true rfl) (by omega) ?_
  rintro _ _ _ ⟨rfl, rfl, rfl⟩
  refine wp_istore_n (lv' := [_, _, _, _]) d_SC_takeFigure_8 (by decide) rfl ?_
  refine wp_iload_n d_SC_takeFigure_9 rfl ?_
  refine wp_iload_n d_SC_takeFigure_10 rfl ?_
  refine wz_icmp_lt (tgt := 19) d_SC_takeFigure_11 (by decide) (by omega) (by omega) (fun h11 => ?_) (fun h11 => ?_)
  · refine wp_iconst (v := zI 0) d_SC_takeFigure_19 rfl ?_
    have e : ¬ isF σ i x y := by omega
    exact wp_iret d_SC_takeFigure_20 (Or.inr ⟨rfl, by first | exact bI_01 _ | exact Or.inl rfl | exact Or.inr rfl⟩) (⟨by rw [bI_f e]; rfl, rfl, by rw [if_neg e]; exact r⟩)
  · refine wp_iload_n d_SC_takeFigure_14 rfl ?_
    refine wp_iload_n d_SC_takeFigure_15 rfl ?_
    refine wz_icmp_le (tgt := 21) d_SC_takeFigure_16 (by decide) (by omega) (by omega) (fun h16 => ?_) (fun h16 => ?_)
    · refine wp_aload_n d_SC_takeFigure_21 rfl ?_
      refine wp_dup d_SC_takeFigure_22 rfl ?_
      refine wz_getI (r.2.2.1) d_SC_takeFigure_23 f_SC_19 (by decide) rfl rfl ?_
      refine wp_iconst (v := zI 1) d_SC_takeFigure_26 rfl ?_
      refine wz_iadd d_SC_takeFigure_27 ?_
      refine wp_putI d_SC_takeFigure_28 f_SC_19 pk_SC_2 (by decide) rfl rfl ?_
      refine wp_iconst (v := zI 1) d_SC_takeFigure_31 rfl ?_
      have e : isF σ i x y := ⟨h11, h16⟩
      exact wp_iret d_SC_takeFigure_32 (Or.inr ⟨rfl, by first | exact bI_01 _ | exact Or.inl rfl | exact Or.inr rfl⟩) (⟨by rw [bI_t e]; rfl, rfl, by rw [if_pos e]; exact r.at _⟩)
    · refine wp_iconst (v := zI 0) d_SC_takeFigure_19 rfl ?_
      have e : ¬ isF σ i x y := by omega
      exact wp_iret d_SC_takeFigure_20 (Or.inr ⟨rfl, by first | exact bI_01 _ | exact Or.inl rfl | exact Or.inr rfl⟩) (⟨by rw [bI_f e]; rfl, rfl, by rw [if_neg e]; exact r⟩)
theorem ct_SC_takePipes {h : HI} (ok : Ok σ) (ht : TV σ hi) (r : RD σ hi h 1 0 0 0) : Ct M_SC_takePipes 3 [.ref 1] h hl (fun v h' hl' => v = some (.int (bI (0 < pQ σ))) ∧ hl = hl' ∧ RD σ hi h' (1 + (pQ σ : Int)) (pQ σ) 0 0) := by
  have hend : ∀ h' : HI, RD σ hi h' (1 + (pQ σ : Int)) (pQ σ) 0 0 → Wp M_SC_takePipes 3 (fun v h' hl' => v = some (.int (bI (0 < pQ σ))) ∧ hl = hl' ∧ RD σ hi h' (1 + (pQ σ : Int)) (pQ σ) 0 0) 34 [some (.ref 1), none] [] h' hl := by
    intro h' r'
    have := pQ_le σ
    refine wp_aload_n d_SC_takePipes_34 rfl ?_
    refine wz_getI (r'.2.2.2.1) d_SC_takePipes_35 f_SC_22 (by decide) rfl rfl ?_
    refine wz_if_le (tgt := 45) d_SC_takePipes_38 (by decide) (by omega) (fun h38 => ?_) (fun h38 => ?_)
    · refine wp_iconst (v := zI 0) d_SC_takePipes_45 rfl ?_
      exact wp_iret d_SC_takePipes_46 (Or.inr ⟨rfl, by first | exact bI_01 _ | exact Or.inl rfl | exact Or.inr rfl⟩) (⟨by rw [bI_f (by omega)]; rfl, rfl, r'⟩)
    · refine wp_iconst (v := zI 1) d_SC_takePipes_41 rfl ?_
      refine wp_goto (tgt := 46) d_SC_takePipes_42 (by decide) ?_
      exact wp_iret d_SC_takePipes_46 (Or.inr ⟨rfl, by first | exact bI_01 _ | exact Or.inl rfl | exact Or.inr rfl⟩) (⟨by rw [bI_t (by omega)]; rfl, rfl, r'⟩)
  have loop : ∀ k i : Nat, i + k = 6 → ∀ h' : HI, RD σ hi h' (1 + (i : Int)) i 0 0 → pQ σ = pipN σ k i → Wp M_SC_takePipes 3 (fun v h' hl' => v = some (.int (bI (0 < pQ σ))) ∧ hl = hl' ∧ RD σ hi h' (1 + (pQ σ : Int)) (pQ σ) 0 0) 2 [some (.ref 1), some (.int (zI i))] [] h' hl := by
    intro k
    induction k with
    | zero =>
      intro i hik h' r' e
      refine wp_iload_n d_SC_takePipes_2 rfl ?_
      refine wp_bipush (v := zI 6) d_SC_takePipes_3 rfl ?_
      refine wz_icmp_ge (tgt := 34) d_SC_takePipes_5 (by decide) (by omega) (by omega) (fun h5 => ?_) (fun h5 => ?_)
      · refine wp_drop (lv' := [some _, none]) ⟨rfl, trivial⟩ ?_
        rw [pipN] at e
        rw [← e] at r'
        exact hend h' r'
      · exact absurd h5 (by omega)
    | succ k ih =>
      intro i hik h' r' e
      refine wp_iload_n d_SC_takePipes_2 rfl ?_
      refine wp_bipush (v := zI 6) d_SC_takePipes_3 rfl ?_
      refine wz_icmp_ge (tgt := 34) d_SC_takePipes_5 (by decide) (by omega) (by omega) (fun h5 => ?_) (fun h5 => ?_)
      · exact absurd h5 (by omega)
      · refine wp_aload_n d_SC_takePipes_8 rfl ?_
        refine wp_iconst (v := zI 1) d_SC_takePipes_9 rfl ?_
        refine wp_bipush (v := zI 9) d_SC_takePipes_10 rfl ?_
        refine wp_callV (ct_SC_takeFigure (i := 1 + i) (x := 1) (y := 9) ok ht r' (by omega) (by omega) (by omega)) d_SC_takePipes_12 k_SC_52 (by decide) rfl rfl rfl rfl (Nat.le_of_ble_eq_true rfl) (by omega) ?_
        rintro _ h2 _ ⟨rfl, rfl, r2⟩
        refine wz_if_eqB (tgt := 34) d_SC_takePipes_15 (by decide) (fun h15 => ?_) (fun h15 => ?_)
        · refine wp_drop (lv' := [some _, none]) ⟨rfl, trivial⟩ ?_
          rw [pipN, if_neg h15] at e
          rw [if_neg h15] at r2
          rw [← e] at r2
          exact hend h2 r2
        · rw [if_pos h15] at r2
          refine wp_aload_n d_SC_takePipes_18 rfl ?_
          refine wp_dup d_SC_takePipes_19 rfl ?_
          refine wz_getI (r2.2.2.2.1) d_SC_takePipes_20 f_SC_22 (by decide) rfl rfl ?_
          refine wp_iconst (v := zI 1) d_SC_takePipes_23 rfl ?_
          refine wz_iadd d_SC_takePipes_24 ?_
          refine wp_putI d_SC_takePipes_25 f_SC_22 pk_SC_3 (by decide) rfl rfl ?_
          refine wz_iinc (lv' := [_, _]) d_SC_takePipes_28 rfl (by decide) rfl ?_
          refine wp_goto (tgt := 2) d_SC_takePipes_31 (by decide) ?_
          have r3 := r2.np (i + 1)
          rw [show (((1 + i : Nat) : Int) + 1) = 1 + ((i + 1 : Nat) : Int) by omega] at r3
          exact ih (i + 1) (by omega) _ r3 (by rw [e, pipN, if_pos h15])
  refine ct_intro (lv := [_, _]) (by decide +kernel) (Nat.le_of_ble_eq_true rfl) rfl ?_
  refine wp_iconst (v := zI 0) d_SC_takePipes_0 rfl ?_
  refine wp_istore_n (lv' := [_, _]) d_SC_takePipes_1 (by decide) rfl ?_
  exact loop 6 0 (by omega) h r rfl
theorem ct_SC_takePeople {h : HI} {q : Nat} (hq : q ≤ 6) (ok : Ok σ) (ht : TV σ hi) (r : RD σ hi h (1 + (q : Int)) q 0 0) : Ct M_SC_takePeople 3 [.ref 1] h hl (fun v h' hl' => v = some (.int (bI ((peoN σ q 12 0).1 = -9))) ∧ hl = hl' ∧ RD σ hi h' (if (peoN σ q 12 0).1 = -9 then ((1 + q + 4 * (peoN σ q 12 0).2 : Nat) : Int) else (peoN σ q 12 0).1) q (peoN σ q 12 0).2 0) := by
  generalize hP : (fun (v : Option Value) (h' : HI) (hl' : HL) => v = some (.int (bI ((peoN σ q 12 0).1 = -9))) ∧ hl = hl' ∧ RD σ hi h' (if (peoN σ q 12 0).1 = -9 then ((1 + q + 4 * (peoN σ q 12 0).2 : Nat) : Int) else (peoN σ q 12 0).1) q (peoN σ q 12 0).2 0) = Post
  have good : ∀ (i : Nat) (h' : HI), RD σ hi h' ((1 + q + 4 * i : Nat) : Int) q i 0 → peoN σ q 12 0 = (-9, i) → Wp M_SC_takePeople 3 Post 68 [some (.ref 1), none] [] h' hl := by
    intro i h' r' e
    subst hP
    refine wp_iconst (v := zI 1) d_SC_takePeople_68 rfl ?_
    exact wp_iret d_SC_takePeople_69 (Or.inr ⟨rfl, by first | exact bI_01 _ | exact Or.inl rfl | exact Or.inr rfl⟩) (⟨by rw [e, bI_t rfl]; rfl, rfl, by rw [e, if_pos rfl]; exact r'⟩)
  have bad : ∀ (i z : Nat) (h' : HI), RD σ hi h' (z : Int) q i 0 → peoN σ q 12 0 = ((z : Int), i) → Wp M_SC_takePeople 3 Post 50 [some (.ref 1), none] [] h' hl := by
    intro i z h' r' e
    subst hP
    refine wp_iconst (v := zI 0) d_SC_takePeople_50 rfl ?_
    exact wp_iret d_SC_takePeople_51 (Or.inr ⟨rfl, by first | exact bI_01 _ | exact Or.inl rfl | exact Or.inr rfl⟩) (⟨by rw [e, bI_f (by show ¬ (z : Int) = -9; omega)]; rfl, rfl, by rw [e, if_neg (by show ¬ (z : Int) = -9; omega)]; exact r'⟩)
  have loop : ∀ k i : Nat, i + k = 12 → ∀ h' : HI, RD σ hi h' ((1 + q + 4 * i : Nat) : Int) q i 0 → peoN σ q 12 0 = peoN σ q k i → Wp M_SC_takePeople 3 Post 2 [some (.ref 1), some (.int (zI i))] [] h' hl := by
    intro k
    induction k with
    | zero =>
      intro i hik h' r' e
      refine wp_iload_n d_SC_takePeople_2 rfl ?_
      refine wp_bipush (v := zI 12) d_SC_takePeople_3 rfl ?_
      refine wz_icmp_ge (tgt := 68) d_SC_takePeople_5 (by decide) (by omega) (by omega) (fun h5 => ?_) (fun h5 => ?_)
      · refine wp_drop (lv' := [some _, none]) ⟨rfl, trivial⟩ ?_
        exact good i h' r' e
      · exact absurd h5 (by omega)
    | succ k ih =>
      intro i hik h' r' e
      refine wp_iload_n d_SC_takePeople_2 rfl ?_
      refine wp_bipush (v := zI 12) d_SC_takePeople_3 rfl ?_
      refine wz_icmp_ge (tgt := 68) d_SC_takePeople_5 (by decide) (by omega) (by omega) (fun h5 => ?_) (fun h5 => ?_)
      · exact absurd h5 (by omega)
      · refine wp_aload_n d_SC_takePeople_8 rfl ?_
        refine wp_bipush (v := zI 77) d_SC_takePeople_9 rfl ?_
        refine wp_callV (ct_SC_takeSign (i := 1 + q + 4 * i) (x := 77) ok ht r' (by omega) (by omega)) d_SC_takePeople_11 k_SC_31 (by decide) rfl rfl rfl rfl (Nat.le_of_ble_eq_true rfl) (by omega) ?_
        rintro _ h2 _ ⟨rfl, rfl, r2⟩
        refine wz_if_eqB (tgt := 68) d_SC_takePeople_14 (by decide) (fun h14 => ?_) (fun h14 => ?_)
        · refine wp_drop (lv' := [some _, none]) ⟨rfl, trivial⟩ ?_
          rw [if_neg h14] at r2
          exact good i h2 r2 (by rw [e, peoN, if_neg h14])
        · rw [if_pos h14] at r2
          refine wp_aload_n d_SC_takePeople_17 rfl ?_
          refine wp_iconst (v := zI 1) d_SC_takePeople_18 rfl ?_
          refine wp_bipush (v := zI 9) d_SC_takePeople_19 rfl ?_
          refine wp_callV (ct_SC_takeFigure (i := 1 + q + 4 * i + 1) (x := 1) (y := 9) ok ht r2 (by omega) (by omega) (by omega)) d_SC_takePeople_21 k_SC_52 (by decide) rfl rfl rfl rfl (Nat.le_of_ble_eq_true rfl) (by omega) ?_
          rintro _ h3 _ ⟨rfl, rfl, r3⟩
          refine wz_if_eqB (tgt := 50) d_SC_takePeople_24 (by decide) (fun h24 => ?_) (fun h24 => ?_)
          · refine wp_drop (lv' := [some _, none]) ⟨rfl, trivial⟩ ?_
            rw [if_neg h24] at r3
            exact bad i (1 + q + 4 * i + 1) h3 r3 (by rw [e, peoN, if_pos h14, if_neg h24])
          · rw [if_pos h24] at r3
            refine wp_aload_n d_SC_takePeople_27 rfl ?_
            refine wp_iconst (v := zI 1) d_SC_takePeople_28 rfl ?_
            refine wp_iconst (v := zI 3) d_SC_takePeople_29 rfl ?_
            refine wp_callV (ct_SC_takeFigure (i := 1 + q + 4 * i + 2) (x := 1) (y := 3) ok ht r3 (by omega) (by omega) (by omega)) d_SC_takePeople_30 k_SC_52 (by decide) rfl rfl rfl rfl (Nat.le_of_ble_eq_true rfl) (by omega) ?_
            rintro _ h4 _ ⟨rfl, rfl, r4⟩
            refine wz_if_eqB (tgt := 50) d_SC_takePeople_33 (by decide) (fun h33 => ?_) (fun h33 => ?_)
            · refine wp_drop (lv' := [some _, none]) ⟨rfl, trivial⟩ ?_
              rw [if_neg h33] at r4
              exact bad i (1 + q + 4 * i + 2) h4 r4 (by rw [e, peoN, if_pos h14, if_pos h24, if_neg h33])
            · rw [if_pos h33] at r4
              refine wp_aload_n d_SC_takePeople_36 rfl ?_
              refine wp_iconst (v := zI 0) d_SC_takePeople_37 rfl ?_
              refine wp_aload_n d_SC_takePeople_38 rfl ?_
              refine wz_getI (r4.2.2.2.1) d_SC_takePeople_39 f_SC_22 (by decide) rfl rfl ?_
              refine wp_iconst (v := zI 1) d_SC_takePeople_42 rfl ?_
              refine wz_isub d_SC_takePeople_43 ?_
              refine wp_callV (ct_SC_takeFigure (i := 1 + q + 4 * i + 3) (x := 0) (y := (q : Int) - 1) ok ht r4 (by omega) (by omega) (by omega)) d_SC_takePeople_44 k_SC_52 (by decide) rfl rfl rfl rfl (Nat.le_of_ble_eq_true rfl) (by omega) ?_
              rintro _ h5' _ ⟨rfl, rfl, r5⟩
              refine wz_if_neB (tgt := 52) d_SC_takePeople_47 (by decide) (fun h47 => ?_) (fun h47 => ?_)
              · rw [if_pos h47] at r5
                refine wp_aload_n d_SC_takePeople_52 rfl ?_
                refine wp_dup d_SC_takePeople_53 rfl ?_
                refine wz_getI (r5.2.2.2.2.1) d_SC_takePeople_54 f_SC_25 (by decide) rfl rfl ?_
                refine wp_iconst (v := zI 1) d_SC_takePeople_57 rfl ?_
                refine wz_iadd d_SC_takePeople_58 ?_
                refine wp_putI d_SC_takePeople_59 f_SC_25 pk_SC_4 (by decide) rfl rfl ?_
                refine wz_iinc (lv' := [_, _]) d_SC_takePeople_62 rfl (by decide) rfl ?_
                refine wp_goto (tgt := 2) d_SC_takePeople_65 (by decide) ?_
                have r6 := r5.nm (i + 1)
                rw [show (((1 + q + 4 * i + 3 : Nat) : Int) + 1) = ((1 + q + 4 * (i + 1) : Nat) : Int) by omega] at r6
                exact ih (i + 1) (by omega) _ r6 (by rw [e, peoN, if_pos h14, if_pos h24, if_pos h33, if_pos h47])
              · refine wp_drop (lv' := [some _, none]) ⟨rfl, trivial⟩ ?_
                rw [if_neg h47] at r5
                exact bad i (1 + q + 4 * i + 3) h5' r5 (by rw [e, peoN, if_pos h14, if_pos h24, if_pos h33, if_neg h47])
  subst hP
  refine ct_intro (lv := [_, _]) (by decide +kernel) (Nat.le_of_ble_eq_true rfl) rfl ?_
  refine wp_iconst (v := zI 0) d_SC_takePeople_0 rfl ?_
  refine wp_istore_n (lv' := [_, _]) d_SC_takePeople_1 (by decide) rfl ?_
  exact loop 12 0 (by omega) h r rfl
theorem low_m {q : Nat} (hq : q ≤ 6) : (zI 1 <<< (zI (min (q : Int) 3) &&& 31)) - zI 1 = zI (lowB q) := by
  rcases (show q = 0 ∨ q = 1 ∨ q = 2 ∨ q = 3 ∨ q = 4 ∨ q = 5 ∨ q = 6 by omega) with rfl | rfl | rfl | rfl | rfl | rfl | rfl <;> decide +kernel
theorem high_m {q : Nat} (hq : q ≤ 6) : (zI 1 <<< (zI (max ((q : Int) - 3) 0) &&& 31)) - zI 1 = zI (highB q) := by
  rcases (show q = 0 ∨ q = 1 ∨ q = 2 ∨ q = 3 ∨ q = 4 ∨ q = 5 ∨ q = 6 by omega) with rfl | rfl | rfl | rfl | rfl | rfl | rfl <;> decide +kernel
theorem ct_SC_takeHymn {h : HI} {q m z : Nat} (hq : q ≤ 6) (hz : z ≤ 60) (ok : Ok σ) (ht : TV σ hi) (r : RD σ hi h z q m 0) : Ct M_SC_takeHymn 3 [.ref 1] h hl (fun v h' hl' => hl = hl' ∧ ((z = tl σ ∧ v = some (.int 1) ∧ RD σ hi h' z q m 0) ∨ (z ≠ tl σ ∧ sg σ z ≠ 47 ∧ v = some (.int 0) ∧ RD σ hi h' z q m 0) ∨ (z ≠ tl σ ∧ sg σ z = 47 ∧ v = some (.int (bI ((hymN σ q (z + 1) 24 0).1 = -9))) ∧ RD σ hi h' (if (hymN σ q (z + 1) 24 0).1 = -9 then ((z + 1 + 2 * (hymN σ q (z + 1) 24 0).2 : Nat) : Int) else (hymN σ q (z + 1) 24 0).1) q m (hymN σ q (z + 1) 24 0).2))) := by
  have hn := ok.nums
  generalize hP : (fun (v : Option Value) (h' : HI) (hl' : HL) => hl = hl' ∧ ((z = tl σ ∧ v = some (.int 1) ∧ RD σ hi h' z q m 0) ∨ (z ≠ tl σ ∧ sg σ z ≠ 47 ∧ v = some (.int 0) ∧ RD σ hi h' z q m 0) ∨ (z ≠ tl σ ∧ sg σ z = 47 ∧ v = some (.int (bI ((hymN σ q (z + 1) 24 0).1 = -9))) ∧ RD σ hi h' (if (hymN σ q (z + 1) 24 0).1 = -9 then ((z + 1 + 2 * (hymN σ q (z + 1) 24 0).2 : Nat) : Int) else (hymN σ q (z + 1) 24 0).1) q m (hymN σ q (z + 1) 24 0).2))) = Post
  have b1 := lowB_b q
  have b2 := highB_b hq
  have good : z ≠ tl σ → sg σ z = 47 → ∀ (i : Nat) (h' : HI), RD σ hi h' ((z + 1 + 2 * i : Nat) : Int) q m i → hymN σ q (z + 1) 24 0 = (-9, i) → Wp M_SC_takeHymn 3 Post 111 [some (.ref 1), none, none, none] [] h' hl := by
    intro k1 k2 i h' r' e
    subst hP
    refine wp_iconst (v := zI 1) d_SC_takeHymn_111 rfl ?_
    exact wp_iret d_SC_takeHymn_112 (Or.inr ⟨rfl, by first | exact bI_01 _ | exact Or.inl rfl | exact Or.inr rfl⟩) (⟨rfl, Or.inr (Or.inr ⟨k1, k2, by rw [e, bI_t rfl]; rfl, by rw [e, if_pos rfl]; exact r'⟩)⟩)
  have bad : z ≠ tl σ → sg σ z = 47 → ∀ (i x : Nat) (h' : HI), RD σ hi h' (x : Int) q m i → hymN σ q (z + 1) 24 0 = ((x : Int), i) → Wp M_SC_takeHymn 3 Post 93 [some (.ref 1), none, none, none] [] h' hl := by
    intro k1 k2 i x h' r' e
    subst hP
    refine wp_iconst (v := zI 0) d_SC_takeHymn_93 rfl ?_
    exact wp_iret d_SC_takeHymn_94 (Or.inr ⟨rfl, by first | exact bI_01 _ | exact Or.inl rfl | exact Or.inr rfl⟩) (⟨rfl, Or.inr (Or.inr ⟨k1, k2, by rw [e, bI_f (by show ¬ (x : Int) = -9; omega)]; rfl, by rw [e, if_neg (by show ¬ (x : Int) = -9; omega)]; exact r'⟩)⟩)
  have loop : z ≠ tl σ → sg σ z = 47 → ∀ k i : Nat, i + k = 24 → ∀ h' : HI, RD σ hi h' ((z + 1 + 2 * i : Nat) : Int) q m i → hymN σ q (z + 1) 24 0 = hymN σ q (z + 1) k i → Wp M_SC_takeHymn 3 Post 54 [some (.ref 1), some (.int (zI (lowB q))), some (.int (zI (highB q))), some (.int (zI i))] [] h' hl := by
    intro k1 k2 k
    induction k with
    | zero =>
      intro i hik h' r' e
      refine wp_iload_n d_SC_takeHymn_54 rfl ?_
      refine wp_bipush (v := zI 24) d_SC_takeHymn_55 rfl ?_
      refine wz_icmp_ge (tgt := 111) d_SC_takeHymn_57 (by decide) (by omega) (by omega) (fun h57 => ?_) (fun h57 => ?_)
      · refine wp_drop (lv' := [some _, none, none, none]) ⟨rfl, trivial⟩ ?_
        exact good k1 k2 i h' r' e
      · exact absurd h57 (by omega)
    | succ k ih =>
      intro i hik h' r' e
      have body : (i = 0 ∨ z + 1 + 2 * i < tl σ) → Wp M_SC_takeHymn 3 Post 75 [some (.ref 1), some (.int (zI (lowB q))), some (.int (zI (highB q))), some (.int (zI i))] [] h' hl := by
        intro hc
        refine wp_aload_n d_SC_takeHymn_75 rfl ?_
        refine wp_iconst (v := zI 0) d_SC_takeHymn_76 rfl ?_
        refine wp_iload_n d_SC_takeHymn_77 rfl ?_
        refine wp_callV (ct_SC_takeFigure (i := z + 1 + 2 * i) (x := 0) (y := lowB q) ok ht r' (by omega) (by omega) (by omega)) d_SC_takeHymn_78 k_SC_52 (by decide) rfl rfl rfl rfl (Nat.le_of_ble_eq_true rfl) (by omega) ?_
        rintro _ h2 _ ⟨rfl, rfl, r2⟩
        refine wz_if_eqB (tgt := 93) d_SC_takeHymn_81 (by decide) (fun h81 => ?_) (fun h81 => ?_)
        · refine wp_drop (lv' := [some _, none, none, none]) ⟨rfl, trivial⟩ ?_
          rw [if_neg h81] at r2
          exact bad k1 k2 i (z + 1 + 2 * i) h2 r2 (by rw [e, hymN, if_pos hc, if_neg h81])
        · rw [if_pos h81] at r2
          refine wp_aload_n d_SC_takeHymn_84 rfl ?_
          refine wp_iconst (v := zI 0) d_SC_takeHymn_85 rfl ?_
          refine wp_iload_n d_SC_takeHymn_86 rfl ?_
          refine wp_callV (ct_SC_takeFigure (i := z + 1 + 2 * i + 1) (x := 0) (y := highB q) ok ht r2 (by omega) (by omega) (by omega)) d_SC_takeHymn_87 k_SC_52 (by decide) rfl rfl rfl rfl (Nat.le_of_ble_eq_true rfl) (by omega) ?_
          rintro _ h3 _ ⟨rfl, rfl, r3⟩
          refine wz_if_neB (tgt := 95) d_SC_takeHymn_90 (by decide) (fun h90 => ?_) (fun h90 => ?_)
          · rw [if_pos h90] at r3
            refine wp_aload_n d_SC_takeHymn_95 rfl ?_
            refine wp_dup d_SC_takeHymn_96 rfl ?_
            refine wz_getI (r3.2.2.2.2.2) d_SC_takeHymn_97 f_SC_28 (by decide) rfl rfl ?_
            refine wp_iconst (v := zI 1) d_SC_takeHymn_100 rfl ?_
            refine wz_iadd d_SC_takeHymn_101 ?_
            refine wp_putI d_SC_takeHymn_102 f_SC_28 pk_SC_5 (by decide) rfl rfl ?_
            refine wz_iinc (lv' := [_, _, _, _]) d_SC_takeHymn_105 rfl (by decide) rfl ?_
            refine wp_goto (tgt := 54) d_SC_takeHymn_108 (by decide) ?_
            have r4 := r3.nb (i + 1)
            rw [show (((z + 1 + 2 * i + 1 : Nat) : Int) + 1) = ((z + 1 + 2 * (i + 1) : Nat) : Int) by omega] at r4
            exact ih (i + 1) (by omega) _ r4 (by rw [e, hymN, if_pos hc, if_pos h81, if_pos h90])
          · refine wp_drop (lv' := [some _, none, none, none]) ⟨rfl, trivial⟩ ?_
            rw [if_neg h90] at r3
            exact bad k1 k2 i (z + 1 + 2 * i + 1) h3 r3 (by rw [e, hymN, if_pos hc, if_pos h81, if_neg h90])
      refine wp_iload_n d_SC_takeHymn_54 rfl ?_
      refine wp_bipush (v := zI 24) d_SC_takeHymn_55 rfl ?_
      refine wz_icmp_ge (tgt := 111) d_SC_takeHymn_57 (by decide) (by omega) (by omega) (fun h57 => ?_) (fun h57 => ?_)
      · exact absurd h57 (by omega)
      · refine wp_iload_n d_SC_takeHymn_60 rfl ?_
        refine wz_if_eq (tgt := 75) d_SC_takeHymn_61 (by decide) (by omega) (fun h61 => ?_) (fun h61 => ?_)
        · exact body (Or.inl (by omega))
        · refine wp_aload_n d_SC_takeHymn_64 rfl ?_
          refine wz_getI (r'.2.2.1) d_SC_takeHymn_65 f_SC_19 (by decide) rfl rfl ?_
          refine wp_aload_n d_SC_takeHymn_68 rfl ?_
          refine wz_getI (r'.2.1) d_SC_takeHymn_69 f_SC_15 (by decide) rfl rfl ?_
          refine wz_icmp_ge (tgt := 111) d_SC_takeHymn_72 (by decide) (by omega) (by omega) (fun h72 => ?_) (fun h72 => ?_)
          · refine wp_drop (lv' := [some _, none, none, none]) ⟨rfl, trivial⟩ ?_
            exact good k1 k2 i h' r' (by rw [e, hymN, if_neg (by omega)])
          · exact body (Or.inr (by omega))
  subst hP
  refine ct_intro (lv := [_, _, _, _]) (by decide +kernel) (Nat.le_of_ble_eq_true rfl) rfl ?_
  refine wp_aload_n d_SC_takeHymn_0 rfl ?_
  refine wz_getI (r.2.2.1) d_SC_takeHymn_1 f_SC_19 (by decide) rfl rfl ?_
  refine wp_aload_n d_SC_takeHymn_4 rfl ?_
  refine wz_getI (r.2.1) d_SC_takeHymn_5 f_SC_15 (by decide) rfl rfl ?_
  refine wz_icmp_ne (tgt := 13) d_SC_takeHymn_8 (by decide) (by omega) (by omega) (fun h8 => ?_) (fun h8 => ?_)
  · refine wp_aload_n d_SC_takeHymn_13 rfl ?_
    refine wp_bipush (v := zI 47) d_SC_takeHymn_14 rfl ?_
    refine wp_callV (ct_SC_takeSign (i := z) (x := 47) ok ht r (by omega) (by omega)) d_SC_takeHymn_16 k_SC_31 (by decide) rfl rfl rfl rfl (Nat.le_of_ble_eq_true rfl) (by omega) ?_
    rintro _ h2 _ ⟨rfl, rfl, r2⟩
    refine wz_if_neB (tgt := 24) d_SC_takeHymn_19 (by decide) (fun h19 => ?_) (fun h19 => ?_)
    · rw [if_pos h19] at r2
      refine wp_iconst (v := zI 1) d_SC_takeHymn_24 rfl ?_
      refine wp_aload_n d_SC_takeHymn_25 rfl ?_
      refine wz_getI (r2.2.2.2.1) d_SC_takeHymn_26 f_SC_22 (by decide) rfl rfl ?_
      refine wp_iconst (v := zI 3) d_SC_takeHymn_29 rfl ?_
      refine wp_callS (ct_MT_min (a := (q : Int)) (b := 3) 0 (by omega) (by omega)) d_SC_takeHymn_30 k_SC_56 rfl rfl (Nat.le_of_ble_eq_true rfl) (by omega) ?_
      rintro _ _ _ ⟨rfl, rfl, rfl⟩
      refine wp_ishl d_SC_takeHymn_33 ?_
      refine wp_iconst (v := zI 1) d_SC_takeHymn_34 rfl ?_
      refine wp_isub d_SC_takeHymn_35 ?_
      rw [low_m hq]
      refine wp_istore_n (lv' := [_, _, _, _]) d_SC_takeHymn_36 (by decide) rfl ?_
      refine wp_iconst (v := zI 1) d_SC_takeHymn_37 rfl ?_
      refine wp_aload_n d_SC_takeHymn_38 rfl ?_
      refine wz_getI (r2.2.2.2.1) d_SC_takeHymn_39 f_SC_22 (by decide) rfl rfl ?_
      refine wp_iconst (v := zI 3) d_SC_takeHymn_42 rfl ?_
      refine wz_isub d_SC_takeHymn_43 ?_
      refine wp_iconst (v := zI 0) d_SC_takeHymn_44 rfl ?_
      refine wp_callS (ct_MT_max (a := (q : Int) - 3) (b := 0) 0 (by omega) (by omega)) d_SC_takeHymn_45 k_SC_62 rfl rfl (Nat.le_of_ble_eq_true rfl) (by omega) ?_
      rintro _ _ _ ⟨rfl, rfl, rfl⟩
      refine wp_ishl d_SC_takeHymn_48 ?_
      refine wp_iconst (v := zI 1) d_SC_takeHymn_49 rfl ?_
      refine wp_isub d_SC_takeHymn_50 ?_
      rw [high_m hq]
      refine wp_istore_n (lv' := [_, _, _, _]) d_SC_takeHymn_51 (by decide) rfl ?_
      refine wp_iconst (v := zI 0) d_SC_takeHymn_52 rfl ?_
      refine wp_istore_n (lv' := [_, _, _, _]) d_SC_takeHymn_53 (by decide) rfl ?_
      exact loop (by omega) h19 24 0 (by omega) h2 r2 rfl
    · rw [if_neg h19] at r2
      refine wp_iconst (v := zI 0) d_SC_takeHymn_22 rfl ?_
      exact wp_iret d_SC_takeHymn_23 (Or.inr ⟨rfl, by first | exact bI_01 _ | exact Or.inl rfl | exact Or.inr rfl⟩) (⟨rfl, Or.inr (Or.inl ⟨by omega, h19, rfl, r2⟩)⟩)
  · refine wp_iconst (v := zI 1) d_SC_takeHymn_11 rfl ?_
    exact wp_iret d_SC_takeHymn_12 (Or.inr ⟨rfl, by first | exact bI_01 _ | exact Or.inl rfl | exact Or.inr rfl⟩) (⟨rfl, Or.inl ⟨by omega, rfl, r⟩⟩)
theorem ct_SC_read (ok : Ok σ) (ht : TV σ hi) : Ct M_SC_read 4 [.ref 1] hi hl (fun v h' hl' => v = some (.int (zI (r_fault σ))) ∧ hl = hl' ∧ (∀ c, c ≠ 1 → h' c = hi c) ∧ h' 1 1 = zI (tl σ) ∧ (r_fault σ = -9 → h' 1 3 = zI (pQ σ) ∧ h' 1 4 = zI (pPp σ).2 ∧ h' 1 5 = zI (pH σ).2)) := by
  have hn := ok.nums
  have b1 := pQ_le σ
  have b2 := pPp_b σ
  have b3 := pE_b σ
  have b4 := pH_b σ
  generalize hP : (fun (v : Option Value) (h' : HI) (hl' : HL) => v = some (.int (zI (r_fault σ))) ∧ hl = hl' ∧ (∀ c, c ≠ 1 → h' c = hi c) ∧ h' 1 1 = zI (tl σ) ∧ (r_fault σ = -9 → h' 1 3 = zI (pQ σ) ∧ h' 1 4 = zI (pPp σ).2 ∧ h' 1 5 = zI (pH σ).2)) = Post
  have bad : ∀ (h' : HI) (z : Int) (q m n : Nat), RD σ hi h' z q m n → r_fault σ = z → z ≠ -9 → Wp M_SC_read 4 Post 65 [some (.ref 1), none] [] h' hl := by
    intro h' z q m n r e hz
    subst hP
    refine wp_iconst (v := zI 0) d_SC_read_65 rfl ?_
    refine wp_istore_n (lv' := [_, _]) d_SC_read_66 (by decide) rfl ?_
    refine wp_iload_n d_SC_read_67 rfl ?_
    refine wz_if_eq (tgt := 76) d_SC_read_68 (by decide) (by omega) (fun h68 => ?_) (fun h68 => ?_)
    · refine wp_aload_n d_SC_read_76 rfl ?_
      refine wz_getI (r.2.2.1) d_SC_read_77 f_SC_19 (by decide) rfl rfl ?_
      exact wp_iret d_SC_read_80 (Or.inl rfl) (⟨by rw [e], rfl, r.1, r.2.1, fun q => absurd (e.symm.trans q) hz⟩)
    · exact absurd rfl h68
  have good : ∀ h' : HI, RD σ hi h' (tl σ) (pQ σ) (pPp σ).2 (pH σ).2 → r_fault σ = -9 → Wp M_SC_read 4 Post 61 [some (.ref 1), none] [] h' hl := by
    intro h' r e
    subst hP
    refine wp_iconst (v := zI 1) d_SC_read_61 rfl ?_
    refine wp_goto (tgt := 66) d_SC_read_62 (by decide) ?_
    refine wp_istore_n (lv' := [_, _]) d_SC_read_66 (by decide) rfl ?_
    refine wp_iload_n d_SC_read_67 rfl ?_
    refine wz_if_eq (tgt := 76) d_SC_read_68 (by decide) (by omega) (fun h68 => ?_) (fun h68 => ?_)
    · exact absurd h68 (by decide)
    · refine wp_bipush (v := zI (-9)) d_SC_read_71 rfl ?_
      refine wp_goto (tgt := 80) d_SC_read_73 (by decide) ?_
      exact wp_iret d_SC_read_80 (Or.inl rfl) (⟨by rw [e], rfl, r.1, r.2.1, fun _ => ⟨r.2.2.2.1, r.2.2.2.2.1, r.2.2.2.2.2⟩⟩)
  have start : RD σ hi (setI (setI (setI (setI hi 1 2 (zI 0)) 1 3 (zI 0)) 1 4 (zI 0)) 1 5 (zI 0)) ((0 : Nat) : Int) 0 0 0 := by
    refine ⟨fun c hc => by rw [setI_ne _ _ _ hc, setI_ne _ _ _ hc, setI_ne _ _ _ hc, setI_ne _ _ _ hc], ?_, ?_, ?_, ?_, ?_⟩
    · exact rdS (by decide) (rdS (by decide) (rdS (by decide) (rdS (by decide) ht.1)))
    · exact rdS (by decide) (rdS (by decide) (rdS (by decide) (rdA rfl)))
    · exact rdS (by decide) (rdS (by decide) (rdA rfl))
    · exact rdS (by decide) (rdA rfl)
    · exact rdA rfl
  subst hP
  refine ct_intro (lv := [_, _]) (by decide +kernel) (Nat.le_of_ble_eq_true rfl) rfl ?_
  refine wp_aload_n d_SC_read_0 rfl ?_
  refine wp_iconst (v := zI 0) d_SC_read_1 rfl ?_
  refine wp_putI d_SC_read_2 f_SC_19 pk_SC_2 (by decide) rfl rfl ?_
  refine wp_aload_n d_SC_read_5 rfl ?_
  refine wp_iconst (v := zI 0) d_SC_read_6 rfl ?_
  refine wp_putI d_SC_read_7 f_SC_22 pk_SC_3 (by decide) rfl rfl ?_
  refine wp_aload_n d_SC_read_10 rfl ?_
  refine wp_iconst (v := zI 0) d_SC_read_11 rfl ?_
  refine wp_putI d_SC_read_12 f_SC_25 pk_SC_4 (by decide) rfl rfl ?_
  refine wp_aload_n d_SC_read_15 rfl ?_
  refine wp_iconst (v := zI 0) d_SC_read_16 rfl ?_
  refine wp_putI d_SC_read_17 f_SC_28 pk_SC_5 (by decide) rfl rfl ?_
  refine wp_aload_n d_SC_read_20 rfl ?_
  refine wp_bipush (v := zI 79) d_SC_read_21 rfl ?_
  refine wp_callV (ct_SC_takeSign (i := 0) (x := 79) ok ht start (by omega) (by omega)) d_SC_read_23 k_SC_31 (by decide) rfl rfl rfl rfl (Nat.le_of_ble_eq_true rfl) (by omega) ?_
  rintro _ h2 _ ⟨rfl, rfl, r2⟩
  refine wz_if_eqB (tgt := 65) d_SC_read_26 (by decide) (fun h26 => ?_) (fun h26 => ?_)
  · rw [if_neg h26] at r2
    exact bad h2 _ 0 0 0 r2 (by rw [r_fault, if_neg h26]; rfl) (by omega)
  · rw [if_pos h26] at r2
    refine wp_aload_n d_SC_read_29 rfl ?_
    refine wp_callV (ct_SC_takePipes ok ht r2) d_SC_read_30 k_SC_35 (by decide) rfl rfl rfl rfl (Nat.le_of_ble_eq_true rfl) (by omega) ?_
    rintro _ h3 _ ⟨rfl, rfl, r3⟩
    refine wz_if_eqB (tgt := 65) d_SC_read_33 (by decide) (fun h33 => ?_) (fun h33 => ?_)
    · exact bad h3 _ _ _ _ r3 (by rw [r_fault, if_pos h26, if_pos (by omega)]; omega) (by omega)
    · have hq0 : ¬ pQ σ = 0 := by omega
      refine wp_aload_n d_SC_read_36 rfl ?_
      refine wp_callV (ct_SC_takePeople (q := pQ σ) b1 ok ht r3) d_SC_read_37 k_SC_39 (by decide) rfl rfl rfl rfl (Nat.le_of_ble_eq_true rfl) (by omega) ?_
      rintro _ h4 _ ⟨rfl, rfl, r4⟩
      refine wz_if_eqB (tgt := 65) d_SC_read_40 (by decide) (fun h40 => ?_) (fun h40 => ?_)
      · rw [if_neg h40] at r4
        exact bad h4 _ _ _ _ r4 (by rw [r_fault, if_pos h26, if_neg hq0, if_pos (show (pPp σ).1 ≠ -9 from h40)]; rfl) h40
      · rw [if_pos h40] at r4
        have hp9 : ¬ (pPp σ).1 ≠ -9 := fun q => q h40
        refine wp_aload_n d_SC_read_43 rfl ?_
        refine wp_callV (ct_SC_takeHymn (q := pQ σ) (m := (pPp σ).2) (z := pE σ) b1 (by omega) ok ht r4) d_SC_read_44 k_SC_42 (by decide) rfl rfl rfl rfl (Nat.le_of_ble_eq_true rfl) (by omega) ?_
        rintro _ h5 _ ⟨rfl, ⟨k1, rfl, r5⟩ | ⟨k1, k2, rfl, r5⟩ | ⟨k1, k2, rfl, r5⟩⟩
        · refine wz_if_eq (a := 1) (tgt := 65) d_SC_read_47 (by decide) (by omega) (fun q => absurd q (by decide)) (fun _ => ?_)
          refine wp_aload_n d_SC_read_50 rfl ?_
          refine wz_getI (r5.2.2.1) d_SC_read_51 f_SC_19 (by decide) rfl rfl ?_
          refine wp_aload_n d_SC_read_54 rfl ?_
          refine wz_getI (r5.2.1) d_SC_read_55 f_SC_15 (by decide) rfl rfl ?_
          refine wz_icmp_ne (tgt := 65) d_SC_read_58 (by decide) (by omega) (by omega) (fun h58 => ?_) (fun h58 => ?_)
          · exact absurd h58 (by omega)
          · have e0 : (pH σ).2 = 0 := by unfold pH; rw [if_pos k1]
            refine good h5 ?_ (by rw [r_fault, if_pos h26, if_neg hq0, if_neg hp9, if_pos k1])
            rw [e0, ← k1]
            exact r5
        · refine wz_if_eq (a := 0) (tgt := 65) d_SC_read_47 (by decide) (by omega) (fun _ => ?_) (fun q => absurd rfl q)
          exact bad h5 _ _ _ _ r5 (by rw [r_fault, if_pos h26, if_neg hq0, if_neg hp9, if_neg k1, if_pos k2]) (by omega)
        · have eH : pH σ = hymN σ (pQ σ) (pE σ + 1) 24 0 := by unfold pH; rw [if_neg k1]
          rw [← eH] at r5 ⊢
          have k2' : ¬ sg σ (pE σ) ≠ 47 := fun q => q k2
          refine wz_if_eqB (tgt := 65) d_SC_read_47 (by decide) (fun h47 => ?_) (fun h47 => ?_)
          · rw [if_neg h47] at r5
            exact bad h5 _ _ _ _ r5 (by rw [r_fault, if_pos h26, if_neg hq0, if_neg hp9, if_neg k1, if_neg k2', if_pos h47]) h47
          · rw [if_pos h47] at r5
            have h9 : ¬ (pH σ).1 ≠ -9 := fun q => q h47
            refine wp_aload_n d_SC_read_50 rfl ?_
            refine wz_getI (r5.2.2.1) d_SC_read_51 f_SC_19 (by decide) rfl rfl ?_
            refine wp_aload_n d_SC_read_54 rfl ?_
            refine wz_getI (r5.2.1) d_SC_read_55 f_SC_15 (by decide) rfl rfl ?_
            refine wz_icmp_ne (tgt := 65) d_SC_read_58 (by decide) (by omega) (by omega) (fun h58 => ?_) (fun h58 => ?_)
            · exact bad h5 _ _ _ _ r5 (by rw [r_fault, if_pos h26, if_neg hq0, if_neg hp9, if_neg k1, if_neg k2', if_neg h9, if_neg (by omega)]) (by omega)
            · have e1 : pE σ + 1 + 2 * (pH σ).2 = tl σ := by omega
              rw [e1] at r5
              exact good h5 r5 (by rw [r_fault, if_pos h26, if_neg hq0, if_neg hp9, if_neg k1, if_neg k2', if_neg h9, if_pos e1])
theorem cx_fault (ok : Ok σ) (hA : AX σ hi) : Ct M_BB_fault 9 [.ref 0] hi hl (pX σ (zI (r_fault σ)) hi) := by
  refine ct_intro (lv := [_]) (by decide +kernel) (Nat.le_of_ble_eq_true rfl) rfl ?_
  refine wp_aload_n d_BB_fault_0 rfl ?_
  refine wp_getR d_BB_fault_1 f_BB_10 (by decide) rfl rfl ?_
  refine wp_callV (ct_SC_read ok hA.2.2.1) d_BB_fault_4 k_BB_91 (by decide) rfl rfl rfl rfl (Nat.le_of_ble_eq_true rfl) (by omega) ?_
  rintro _ h _ ⟨rfl, rfl, he, h1, -⟩
  exact wp_iret d_BB_fault_7 (Or.inl rfl) (⟨rfl, ⟨hA.1.keep (fun c _ _ => he c (by omega)), hA.2.1.keep (fun c _ _ => he c (by omega)), ⟨h1, by rw [he 2 (by omega)]; exact hA.2.2.1.2⟩, hA.2.2.2.keep (fun c _ _ => he c (by omega)) (he 40 (by omega))⟩, fun c hc => he c (by omega)⟩)
end PARSE
