/-! The class's calls: first, worst, best late, needed, never, slots, the text's bytes -/
def msP (σ : SG) (p j : Nat) : Int := msA (rm σ) (dnS σ p) (wnd σ (sit σ p) (lt σ)) j
def fstN (σ : SG) : Nat → Int
  | 0 => -9
  | n + 1 => if fpos (msP σ n) (nB σ) 0 ≠ -9 ∧ (fstN σ n = -9 ∨ 10 * fpos (msP σ n) (nB σ) 0 + n < fstN σ n) then 10 * fpos (msP σ n) (nB σ) 0 + n else fstN σ n
def wrN (σ : SG) : Nat → Int × Int
  | 0 => (-9, 0)
  | n + 1 => if (wrN σ n).2 < sag σ n (sit σ n) (lt σ) then ((n : Int), sag σ n (sit σ n) (lt σ)) else wrN σ n
def blN (σ : SG) : Nat → Int × Int
  | 0 => (0, tot σ 0)
  | k + 1 => if tot σ (k + 1) < (blN σ k).2 then ((k : Int) + 1, tot σ (k + 1)) else blN σ k
/-- a set without PERSON m -/
def wo (a m : Nat) : Nat := a &&& (4095 ^^^ 2 ^ m)
def r_needed (σ : SG) (a : Int) : Int := if inM σ a then sag σ (pl σ a.toNat) (wo (sit σ (pl σ a.toNat)) a.toNat) (lt σ) - sag σ (pl σ a.toNat) (sit σ (pl σ a.toNat)) (lt σ) else -1
def nvP (σ : SG) (j : Nat) : Nat → Nat → Int
  | 0, _ => -9
  | k + 1, p => if (sn σ j).testBit p = true ∧ forS σ (sit σ p) + rm σ < dr σ p then 10 * (j : Int) + p else nvP σ j k (p + 1)
def nvB (σ : SG) : Nat → Nat → Int
  | 0, _ => -9
  | k + 1, j => if nvP σ j (nP σ) 0 = -9 then nvB σ k (j + 1) else nvP σ j (nP σ) 0
def kept (σ : SG) (s : Nat) : SG := fun f i => if f = 9 ∧ i = s then 1 else if f = 10 ∧ i = s then lt σ else if f = 11 ∧ i = s then rm σ else if 23 + 10 * s ≤ f ∧ f ≤ 27 + 10 * s then σ (f - (20 + 10 * s)) i else σ f i
def anew (σ : SG) (s : Nat) : SG := fun f i => if f = 0 ∧ i = 3 then klt σ s else if f = 0 ∧ i = 4 then krm σ s else if 3 ≤ f ∧ f ≤ 7 then kf σ s f i else σ f i
def r_keep (σ : SG) (a : Int) : Int := if 0 ≤ a ∧ a < 2 then nM σ else -1
def sx_keep (σ : SG) (a : Int) : SG := if 0 ≤ a ∧ a < 2 then kept σ a.toNat else σ
def r_again (σ : SG) (a : Int) : Int := if 0 ≤ a ∧ a < 2 then (if kp σ a.toNat = 1 then nM σ else -3) else -1
def sx_again (σ : SG) (a : Int) : SG := if (0 ≤ a ∧ a < 2) ∧ kp σ a.toNat = 1 then anew σ a.toNat else σ
section CLASSB
variable {σ : SG} {hi : HI} {hl : HL} {a b : Int}
theorem msP_b (ok : Ok σ) {p : Nat} (hp : p < nP σ) (j : Nat) : 0 ≤ msP σ p j ∧ msP σ p j ≤ 2009 := by
  have hn := ok.nums
  have h1 := wnd_b ok (sit σ p) (lt σ) j
  exact msA_b (by omega) (dnS_b ok hp j) (by omega)
theorem fpos_b (f : Nat → Int) : ∀ k j, j + k ≤ 24 → -9 ≤ fpos f k j ∧ fpos f k j ≤ 24
  | 0, j, _ => by simp [fpos]
  | k + 1, j, h => by
    rw [fpos]
    split
    · omega
    · exact fpos_b f k (j + 1) (by omega)
theorem fpos_nn (f : Nat → Int) : ∀ k j, fpos f k j = -9 ∨ (j : Int) ≤ fpos f k j
  | 0, j => Or.inl rfl
  | k + 1, j => by
    rw [fpos]
    split
    · right; omega
    · rcases fpos_nn f k (j + 1) with h | h
      · exact Or.inl h
      · right; omega
theorem fstN_b (ok : Ok σ) : ∀ n, n ≤ 6 → -9 ≤ fstN σ n ∧ fstN σ n ≤ 300
  | 0, _ => by simp [fstN]
  | n + 1, h => by
    have h1 := fstN_b ok n (by omega)
    have h2 := fpos_b (msP σ n) (nB σ) 0 (by have := ok.nums; omega)
    have h3 := fpos_nn (msP σ n) (nB σ) 0
    rw [fstN]
    split
    · rename_i h4
      rcases h3 with h3 | h3
      · exact absurd h3 h4.1
      · omega
    · exact h1
theorem cx_first (ok : Ok σ) (hA : AX σ hi) : Ct M_BB_first 9 [.ref 0] hi hl (pX σ (zI (fstN σ (nP σ))) hi) := by
  have hn := ok.nums
  have loop : ∀ k i, i + k = nP σ → ∀ h : HI, (∀ c, c ≠ 25 → c ≠ 26 → c ≠ 27 → h c = hi c) → Wp M_BB_first 9 (pX σ (zI (fstN σ (nP σ))) hi) 5 [some (.ref 0), some (.int (zI (fstN σ i))), some (.int (zI i)), none] [] h hl := by
    intro k
    induction k with
    | zero =>
      intro i hik h he
      have hA' : AX σ h := hA.keepS he
      refine wp_iload_n d_BB_first_5 rfl ?_
      refine wp_aload_n d_BB_first_6 rfl ?_
      refine wp_getR d_BB_first_7 f_BB_19 (by decide) rfl rfl ?_
      refine wz_getI (hA'.2.1.np) d_BB_first_10 f_BB_99 (by decide) rfl rfl ?_
      refine wz_icmp_ge (tgt := 75) d_BB_first_13 (by decide) (by omega) (by omega) (fun h13 => ?_) (fun h13 => ?_)
      · refine wp_iload_n d_BB_first_75 rfl ?_
        exact wp_iret d_BB_first_76 (Or.inl rfl) (⟨by rw [← hik]; rfl, hA', fun c hc => he c (by omega) (by omega) (by omega)⟩)
      · exact absurd h13 (by omega)
    | succ k ih =>
      intro i hik h he
      have hA' : AX σ h := hA.keepS he
      have b1 := fpos_b (msP σ i) (nB σ) 0 (by omega)
      have b2 := fstN_b ok i (by omega)
      refine wp_iload_n d_BB_first_5 rfl ?_
      refine wp_aload_n d_BB_first_6 rfl ?_
      refine wp_getR d_BB_first_7 f_BB_19 (by decide) rfl rfl ?_
      refine wz_getI (hA'.2.1.np) d_BB_first_10 f_BB_99 (by decide) rfl rfl ?_
      refine wz_icmp_ge (tgt := 75) d_BB_first_13 (by decide) (by omega) (by omega) (fun h13 => ?_) (fun h13 => ?_)
      · exact absurd h13 (by omega)
      · refine wp_aload_n d_BB_first_16 rfl ?_
        refine wp_getR d_BB_first_17 f_BB_35 (by decide) rfl rfl ?_
        refine wp_iload_n d_BB_first_20 rfl ?_
        refine wp_aload_n d_BB_first_21 rfl ?_
        refine wp_getR d_BB_first_22 f_BB_26 (by decide) rfl rfl ?_
        refine wz_getI (hA'.1.late) d_BB_first_25 f_BB_137 (by decide) rfl rfl ?_
        refine wp_callV (ct_MA_play (p := i) (k := lt σ) ok hA'.1 hA'.2.1 (by omega) (by omega)) d_BB_first_28 k_BB_158 (by decide) rfl rfl rfl rfl (Nat.le_of_ble_eq_true rfl) (by omega) ?_
        rintro _ h2 _ ⟨rfl, rfl, he2, -, h27⟩
        have he3 : ∀ c, c ≠ 25 → c ≠ 26 → c ≠ 27 → h2 c = hi c := fun c q1 q2 q3 => by rw [he2 c q1 q2 q3, he c q1 q2 q3]
        have hA2 : AX σ h2 := hA.keepS he3
        refine wp_pop d_BB_first_31 rfl ?_
        refine wp_aload_n d_BB_first_32 rfl ?_
        refine wp_getR d_BB_first_33 f_BB_35 (by decide) rfl rfl ?_
        refine wp_callV (ct_MA_firstMissing (f := msP σ i) 0 ok hA2.2.1 h27 (fun j hj => by have := msP_b ok (p := i) (by omega) j; omega)) d_BB_first_36 k_BB_170 (by decide) rfl rfl rfl rfl (Nat.le_of_ble_eq_true rfl) (by omega) ?_
        rintro _ _ _ ⟨rfl, rfl, rfl⟩
        refine wp_istore_n (lv' := [_, _, _, _]) d_BB_first_39 (by decide) rfl ?_
        refine wp_iload_n d_BB_first_40 rfl ?_
        refine wp_bipush (v := zI (-9)) d_BB_first_41 rfl ?_
        refine wz_icmp_eq (tgt := 69) d_BB_first_43 (by decide) (by omega) (by omega) (fun h43 => ?_) (fun h43 => ?_)
        · refine wp_drop (lv' := [some _, some _, some _, none]) ⟨rfl, rfl, rfl, trivial⟩ ?_
          refine wz_iinc (lv' := [_, _, _, _]) d_BB_first_69 rfl (by decide) rfl ?_
          refine wp_goto (tgt := 5) d_BB_first_72 (by decide) ?_
          have e : fstN σ (i + 1) = fstN σ i := by rw [fstN, if_neg (fun q => q.1 h43)]
          have := ih (i + 1) (by omega) h2 he3
          rw [e] at this
          exact this
        · refine wp_iload_n d_BB_first_46 rfl ?_
          refine wp_bipush (v := zI (-9)) d_BB_first_47 rfl ?_
          have tk : (fstN σ i = -9 ∨ 10 * fpos (msP σ i) (nB σ) 0 + i < fstN σ i) → Wp M_BB_first 9 (pX σ (zI (fstN σ (nP σ))) hi) 62 [some (.ref 0), some (.int (zI (fstN σ i))), some (.int (zI i)), some (.int (zI (fpos (msP σ i) (nB σ) 0)))] [] h2 hl := by
            intro hc
            refine wp_bipush (v := zI 10) d_BB_first_62 rfl ?_
            refine wp_iload_n d_BB_first_64 rfl ?_
            refine wz_imul d_BB_first_65 ?_
            refine wp_iload_n d_BB_first_66 rfl ?_
            refine wz_iadd d_BB_first_67 ?_
            refine wp_istore_n (lv' := [_, _, _, _]) d_BB_first_68 (by decide) rfl ?_
            refine wp_drop (lv' := [some _, some _, some _, none]) ⟨rfl, rfl, rfl, trivial⟩ ?_
            refine wz_iinc (lv' := [_, _, _, _]) d_BB_first_69 rfl (by decide) rfl ?_
            refine wp_goto (tgt := 5) d_BB_first_72 (by decide) ?_
            have e : fstN σ (i + 1) = 10 * fpos (msP σ i) (nB σ) 0 + i := by rw [fstN, if_pos ⟨h43, hc⟩]
            have := ih (i + 1) (by omega) h2 he3
            rw [e] at this
            exact this
          refine wz_icmp_eq (tgt := 62) d_BB_first_49 (by decide) (by omega) (by omega) (fun h49 => ?_) (fun h49 => ?_)
          · exact tk (Or.inl h49)
          · refine wp_bipush (v := zI 10) d_BB_first_52 rfl ?_
            refine wp_iload_n d_BB_first_54 rfl ?_
            refine wz_imul d_BB_first_55 ?_
            refine wp_iload_n d_BB_first_56 rfl ?_
            refine wz_iadd d_BB_first_57 ?_
            refine wp_iload_n d_BB_first_58 rfl ?_
            refine wz_icmp_ge (tgt := 69) d_BB_first_59 (by decide) (by omega) (by omega) (fun h59 => ?_) (fun h59 => ?_)
            · refine wp_drop (lv' := [some _, some _, some _, none]) ⟨rfl, rfl, rfl, trivial⟩ ?_
              refine wz_iinc (lv' := [_, _, _, _]) d_BB_first_69 rfl (by decide) rfl ?_
              refine wp_goto (tgt := 5) d_BB_first_72 (by decide) ?_
              have e : fstN σ (i + 1) = fstN σ i := by rw [fstN, if_neg (fun q => by rcases q.2 with z | z; exact h49 z; omega)]
              have := ih (i + 1) (by omega) h2 he3
              rw [e] at this
              exact this
            · exact tk (Or.inr h59)
  refine ct_intro (lv := [_, _, _, _]) (by decide +kernel) (Nat.le_of_ble_eq_true rfl) rfl ?_
  refine wp_bipush (v := zI (-9)) d_BB_first_0 rfl ?_
  refine wp_istore_n (lv' := [_, _, _, _]) d_BB_first_2 (by decide) rfl ?_
  refine wp_iconst (v := zI 0) d_BB_first_3 rfl ?_
  refine wp_istore_n (lv' := [_, _, _, _]) d_BB_first_4 (by decide) rfl ?_
  exact loop (nP σ) 0 (by omega) hi (fun _ _ _ _ => rfl)
theorem wrN_b (ok : Ok σ) : ∀ n, n ≤ nP σ → (0 ≤ (wrN σ n).2 ∧ (wrN σ n).2 ≤ 48216) ∧ -9 ≤ (wrN σ n).1 ∧ (wrN σ n).1 ≤ 10
  | 0, _ => by simp [wrN]
  | n + 1, h => by
    have h1 := wrN_b ok n (by omega)
    have h2 := sag_b ok (p := n) (by omega) (sit σ n) (lt σ)
    have := ok.nums
    rw [wrN]
    split
    · exact ⟨h2, by show -9 ≤ (n : Int) ∧ (n : Int) ≤ 10; omega⟩
    · exact h1
theorem cx_worst (ok : Ok σ) (hA : AX σ hi) : Ct M_BB_worst 9 [.ref 0] hi hl (pX σ (zI (wrN σ (nP σ)).1) hi) := by
  have hn := ok.nums
  have loop : ∀ k i, i + k = nP σ → ∀ h : HI, (∀ c, c ≠ 25 → c ≠ 26 → c ≠ 27 → h c = hi c) → Wp M_BB_worst 9 (pX σ (zI (wrN σ (nP σ)).1) hi) 7 [some (.ref 0), some (.int (zI (wrN σ i).1)), some (.int (zI (wrN σ i).2)), some (.int (zI i)), none] [] h hl := by
    intro k
    induction k with
    | zero =>
      intro i hik h he
      have hA' : AX σ h := hA.keepS he
      refine wp_iload_n d_BB_worst_7 rfl ?_
      refine wp_aload_n d_BB_worst_8 rfl ?_
      refine wp_getR d_BB_worst_9 f_BB_19 (by decide) rfl rfl ?_
      refine wz_getI (hA'.2.1.np) d_BB_worst_12 f_BB_99 (by decide) rfl rfl ?_
      refine wz_icmp_ge (tgt := 52) d_BB_worst_15 (by decide) (by omega) (by omega) (fun h15 => ?_) (fun h15 => ?_)
      · refine wp_iload_n d_BB_worst_52 rfl ?_
        exact wp_iret d_BB_worst_53 (Or.inl rfl) (⟨by rw [← hik]; rfl, hA', fun c hc => he c (by omega) (by omega) (by omega)⟩)
      · exact absurd h15 (by omega)
    | succ k ih =>
      intro i hik h he
      have hA' : AX σ h := hA.keepS he
      have b1 := wrN_b ok i (by omega)
      have b2 := sag_b ok (p := i) (by omega) (sit σ i) (lt σ)
      refine wp_iload_n d_BB_worst_7 rfl ?_
      refine wp_aload_n d_BB_worst_8 rfl ?_
      refine wp_getR d_BB_worst_9 f_BB_19 (by decide) rfl rfl ?_
      refine wz_getI (hA'.2.1.np) d_BB_worst_12 f_BB_99 (by decide) rfl rfl ?_
      refine wz_icmp_ge (tgt := 52) d_BB_worst_15 (by decide) (by omega) (by omega) (fun h15 => ?_) (fun h15 => ?_)
      · exact absurd h15 (by omega)
      · refine wp_aload_n d_BB_worst_18 rfl ?_
        refine wp_getR d_BB_worst_19 f_BB_35 (by decide) rfl rfl ?_
        refine wp_iload_n d_BB_worst_22 rfl ?_
        refine wp_aload_n d_BB_worst_23 rfl ?_
        refine wp_getR d_BB_worst_24 f_BB_26 (by decide) rfl rfl ?_
        refine wz_getI (hA'.1.late) d_BB_worst_27 f_BB_137 (by decide) rfl rfl ?_
        refine wp_callV (ct_MA_play (p := i) (k := lt σ) ok hA'.1 hA'.2.1 (by omega) (by omega)) d_BB_worst_30 k_BB_158 (by decide) rfl rfl rfl rfl (Nat.le_of_ble_eq_true rfl) (by omega) ?_
        rintro _ h2 _ ⟨rfl, rfl, he2, -, -⟩
        have he3 : ∀ c, c ≠ 25 → c ≠ 26 → c ≠ 27 → h2 c = hi c := fun c q1 q2 q3 => by rw [he2 c q1 q2 q3, he c q1 q2 q3]
        have := ih (i + 1) (by omega) h2 he3
        refine wp_istore (lv' := [_, _, _, _, _]) d_BB_worst_33 (by decide) rfl ?_
        refine wp_iload d_BB_worst_35 rfl ?_
        refine wp_iload_n d_BB_worst_37 rfl ?_
        refine wz_icmp_le (tgt := 46) d_BB_worst_38 (by decide) (by omega) (by omega) (fun h38 => ?_) (fun h38 => ?_)
        · refine wp_drop (lv' := [some _, some _, some _, some _, none]) ⟨rfl, rfl, rfl, rfl, trivial⟩ ?_
          refine wz_iinc (lv' := [_, _, _, _, _]) d_BB_worst_46 rfl (by decide) rfl ?_
          refine wp_goto (tgt := 7) d_BB_worst_49 (by decide) ?_
          rw [wrN, if_neg (by omega)] at this
          exact this
        · refine wp_iload d_BB_worst_41 rfl ?_
          refine wp_istore_n (lv' := [_, _, _, _, _]) d_BB_worst_43 (by decide) rfl ?_
          refine wp_iload_n d_BB_worst_44 rfl ?_
          refine wp_istore_n (lv' := [_, _, _, _, _]) d_BB_worst_45 (by decide) rfl ?_
          refine wp_drop (lv' := [some _, some _, some _, some _, none]) ⟨rfl, rfl, rfl, rfl, trivial⟩ ?_
          refine wz_iinc (lv' := [_, _, _, _, _]) d_BB_worst_46 rfl (by decide) rfl ?_
          refine wp_goto (tgt := 7) d_BB_worst_49 (by decide) ?_
          rw [wrN, if_pos (by omega)] at this
          exact this
  refine ct_intro (lv := [_, _, _, _, _]) (by decide +kernel) (Nat.le_of_ble_eq_true rfl) rfl ?_
  refine wp_bipush (v := zI (-9)) d_BB_worst_0 rfl ?_
  refine wp_istore_n (lv' := [_, _, _, _, _]) d_BB_worst_2 (by decide) rfl ?_
  refine wp_iconst (v := zI 0) d_BB_worst_3 rfl ?_
  refine wp_istore_n (lv' := [_, _, _, _, _]) d_BB_worst_4 (by decide) rfl ?_
  refine wp_iconst (v := zI 0) d_BB_worst_5 rfl ?_
  refine wp_istore_n (lv' := [_, _, _, _, _]) d_BB_worst_6 (by decide) rfl ?_
  exact loop (nP σ) 0 (by omega) hi (fun _ _ _ _ => rfl)
theorem tot_b (ok : Ok σ) (k : Nat) : 0 ≤ tot σ k ∧ tot σ k ≤ 300000 := by
  have h1 := totN_b ok k (nP σ) (Nat.le_refl _)
  have := ok.nums
  unfold tot
  omega
theorem blN_b (ok : Ok σ) : ∀ n, n ≤ 20 → (0 ≤ (blN σ n).2 ∧ (blN σ n).2 ≤ 300000) ∧ 0 ≤ (blN σ n).1 ∧ (blN σ n).1 ≤ 20
  | 0, _ => ⟨tot_b ok 0, by simp [blN]⟩
  | n + 1, h => by
    have h1 := blN_b ok n (by omega)
    have h2 := tot_b ok (n + 1)
    rw [blN]
    split
    · exact ⟨h2, by show 0 ≤ (n : Int) + 1 ∧ (n : Int) + 1 ≤ 20; omega⟩
    · exact h1
theorem cx_bestLate (ok : Ok σ) (hA : AX σ hi) : Ct M_BB_bestLate 9 [.ref 0] hi hl (pX σ (zI (blN σ 11).1) hi) := by
  have hn := ok.nums
  have loop : ∀ k i, i + k = 11 → ∀ h : HI, (∀ c, c ≠ 25 → c ≠ 26 → c ≠ 27 → h c = hi c) → Wp M_BB_bestLate 9 (pX σ (zI (blN σ 11).1) hi) 13 [some (.ref 0), some (.int (zI (blN σ i).1)), some (.int (zI (blN σ i).2)), some (.int (zI ((i : Int) + 1))), none] [] h hl := by
    intro k
    induction k with
    | zero =>
      intro i hik h he
      have hA' : AX σ h := hA.keepS he
      refine wp_iload_n d_BB_bestLate_13 rfl ?_
      refine wp_bipush (v := zI 11) d_BB_bestLate_14 rfl ?_
      refine wz_icmp_gt (tgt := 46) d_BB_bestLate_16 (by decide) (by omega) (by omega) (fun h16 => ?_) (fun h16 => ?_)
      · refine wp_iload_n d_BB_bestLate_46 rfl ?_
        exact wp_iret d_BB_bestLate_47 (Or.inl rfl) (⟨by rw [show i = 11 by omega], hA', fun c hc => he c (by omega) (by omega) (by omega)⟩)
      · exact absurd h16 (by omega)
    | succ k ih =>
      intro i hik h he
      have hA' : AX σ h := hA.keepS he
      have b1 := blN_b ok i (by omega)
      have b2 := tot_b ok (i + 1)
      refine wp_iload_n d_BB_bestLate_13 rfl ?_
      refine wp_bipush (v := zI 11) d_BB_bestLate_14 rfl ?_
      refine wz_icmp_gt (tgt := 46) d_BB_bestLate_16 (by decide) (by omega) (by omega) (fun h16 => ?_) (fun h16 => ?_)
      · exact absurd h16 (by omega)
      · refine wp_aload_n d_BB_bestLate_19 rfl ?_
        refine wp_getR d_BB_bestLate_20 f_BB_35 (by decide) rfl rfl ?_
        refine wp_iload_n d_BB_bestLate_23 rfl ?_
        refine wp_callV (ct_MA_playAll (k := i + 1) ok hA'.1 hA'.2.1 (by omega)) d_BB_bestLate_24 k_BB_167 (by decide) rfl rfl rfl rfl (Nat.le_of_ble_eq_true rfl) (by omega) ?_
        rintro _ h2 _ ⟨rfl, rfl, he2⟩
        have he3 : ∀ c, c ≠ 25 → c ≠ 26 → c ≠ 27 → h2 c = hi c := fun c q1 q2 q3 => by rw [he2 c q1 q2 q3, he c q1 q2 q3]
        have := ih (i + 1) (by omega) h2 he3
        refine wp_istore (lv' := [_, _, _, _, _]) d_BB_bestLate_27 (by decide) rfl ?_
        refine wp_iload d_BB_bestLate_29 rfl ?_
        refine wp_iload_n d_BB_bestLate_31 rfl ?_
        refine wz_icmp_ge (tgt := 40) d_BB_bestLate_32 (by decide) (by omega) (by omega) (fun h32 => ?_) (fun h32 => ?_)
        · refine wp_drop (lv' := [some _, some _, some _, some _, none]) ⟨rfl, rfl, rfl, rfl, trivial⟩ ?_
          refine wz_iinc (lv' := [_, _, _, _, _]) d_BB_bestLate_40 rfl (by decide) rfl ?_
          refine wp_goto (tgt := 13) d_BB_bestLate_43 (by decide) ?_
          have e : blN σ (i + 1) = blN σ i := by rw [blN, if_neg (by omega)]
          rw [e] at this
          exact this
        · refine wp_iload d_BB_bestLate_35 rfl ?_
          refine wp_istore_n (lv' := [_, _, _, _, _]) d_BB_bestLate_37 (by decide) rfl ?_
          refine wp_iload_n d_BB_bestLate_38 rfl ?_
          refine wp_istore_n (lv' := [_, _, _, _, _]) d_BB_bestLate_39 (by decide) rfl ?_
          refine wp_drop (lv' := [some _, some _, some _, some _, none]) ⟨rfl, rfl, rfl, rfl, trivial⟩ ?_
          refine wz_iinc (lv' := [_, _, _, _, _]) d_BB_bestLate_40 rfl (by decide) rfl ?_
          refine wp_goto (tgt := 13) d_BB_bestLate_43 (by decide) ?_
          have e : blN σ (i + 1) = ((i : Int) + 1, tot σ (i + 1)) := by rw [blN, if_pos (by omega)]
          rw [e] at this
          exact this
  refine ct_intro (lv := [_, _, _, _, _]) (by decide +kernel) (Nat.le_of_ble_eq_true rfl) rfl ?_
  refine wp_iconst (v := zI 0) d_BB_bestLate_0 rfl ?_
  refine wp_istore_n (lv' := [_, _, _, _, _]) d_BB_bestLate_1 (by decide) rfl ?_
  refine wp_aload_n d_BB_bestLate_2 rfl ?_
  refine wp_getR d_BB_bestLate_3 f_BB_35 (by decide) rfl rfl ?_
  refine wp_iconst (v := zI 0) d_BB_bestLate_6 rfl ?_
  refine wp_callV (ct_MA_playAll (k := 0) ok hA.1 hA.2.1 (by omega)) d_BB_bestLate_7 k_BB_167 (by decide) rfl rfl rfl rfl (Nat.le_of_ble_eq_true rfl) (by omega) ?_
  rintro _ h2 _ ⟨rfl, rfl, he2⟩
  refine wp_istore_n (lv' := [_, _, _, _, _]) d_BB_bestLate_10 (by decide) rfl ?_
  refine wp_iconst (v := zI 1) d_BB_bestLate_11 rfl ?_
  refine wp_istore_n (lv' := [_, _, _, _, _]) d_BB_bestLate_12 (by decide) rfl ?_
  exact loop 11 0 (by omega) h2 he2
theorem zI_wo {n m : Nat} (hn : n < 2 ^ 12) (hm : m < 12) : zI (n : Int) &&& ((zI 1 <<< (zI (m : Int) &&& 31)) ^^^ zI (-1)) = zI ((wo n m : Nat) : Int) := by
  have h2 : 2 ^ m ≤ 2 ^ 11 := Nat.pow_le_pow_right (by omega) (by omega)
  rw [show zI 1 = zI ((1 : Nat) : Int) from rfl, zI_shl (by omega) (by omega), Nat.one_mul, zI_nat, zI_nat, zI_nat]
  apply Int32.toBitVec_inj.1
  show BitVec.ofNat 32 n &&& (BitVec.ofNat 32 (2 ^ m) ^^^ BitVec.allOnes 32) = BitVec.ofNat 32 (wo n m)
  apply BitVec.eq_of_getLsbD_eq
  intro i hi
  have h4 : (4095 : Nat).testBit i = decide (i < 12) := by
    rw [show (4095 : Nat) = 2 ^ 12 - 1 from rfl, Nat.testBit_two_pow_sub_one]
  simp only [BitVec.getLsbD_and, BitVec.getLsbD_xor, BitVec.getLsbD_ofNat, BitVec.getLsbD_allOnes, wo, Nat.testBit_and, Nat.testBit_xor, h4, hi, decide_true, Bool.true_and]
  by_cases h12 : i < 12
  · simp [h12]
  · have : n.testBit i = false := Nat.testBit_lt_two_pow (Nat.lt_of_lt_of_le hn (Nat.pow_le_pow_right (by omega) (by omega)))
    simp [this]
theorem wo_lt {n : Nat} (m : Nat) (hn : n < 2 ^ 12) : wo n m < 2 ^ 12 := Nat.lt_of_le_of_lt Nat.and_le_left hn
theorem cx_needed (ok : Ok σ) (hA : AX σ hi) (ha : inR a) : Ct M_BB_needed 9 [.ref 0, .int (zI a)] hi hl (pX σ (zI (r_needed σ a)) hi) := by
  have hn := ok.nums
  refine ct_intro (lv := [_, _, _, _]) (by decide +kernel) (Nat.le_of_ble_eq_true rfl) rfl ?_
  refine wp_aload_n d_BB_needed_0 rfl ?_
  refine wp_getR d_BB_needed_1 f_BB_26 (by decide) rfl rfl ?_
  refine wp_iload_n d_BB_needed_4 rfl ?_
  refine wp_callV (ct_PE_has 0 ok hA.1 ha) d_BB_needed_5 k_BB_118 (by decide) rfl rfl rfl rfl (Nat.le_of_ble_eq_true rfl) (by omega) ?_
  rintro _ _ _ ⟨rfl, rfl, rfl⟩
  refine wz_if_neB (tgt := 13) d_BB_needed_8 (by decide) (fun h8 => ?_) (fun h8 => ?_)
  · obtain ⟨m, rfl, hm⟩ := toN h8
    have hmm := ok.m hm
    refine wp_aload_n d_BB_needed_13 rfl ?_
    refine wp_getR d_BB_needed_14 f_BB_26 (by decide) rfl rfl ?_
    refine wp_getR d_BB_needed_17 f_BB_125 (by decide) rfl rfl ?_
    refine wp_iload_n d_BB_needed_20 rfl ?_
    refine wz_iald (hA.1.pl hm) (rfl) ((by omega)) d_BB_needed_21 (by decide) rfl (by decide) ?_
    refine wp_istore_n (lv' := [_, _, _, _]) d_BB_needed_22 (by decide) rfl ?_
    refine wp_aload_n d_BB_needed_23 rfl ?_
    refine wp_getR d_BB_needed_24 f_BB_35 (by decide) rfl rfl ?_
    refine wp_iload_n d_BB_needed_27 rfl ?_
    refine wp_aload_n d_BB_needed_28 rfl ?_
    refine wp_getR d_BB_needed_29 f_BB_26 (by decide) rfl rfl ?_
    refine wz_getI (hA.1.late) d_BB_needed_32 f_BB_137 (by decide) rfl rfl ?_
    refine wp_callV (ct_MA_play (p := pl σ m) (k := lt σ) ok hA.1 hA.2.1 hmm.2.2.2.2.1 (by omega)) d_BB_needed_35 k_BB_158 (by decide) rfl rfl rfl rfl (Nat.le_of_ble_eq_true rfl) (by omega) ?_
    rintro _ h2 _ ⟨rfl, rfl, he2, -, -⟩
    have hA2 : AX σ h2 := hA.keepS he2
    refine wp_istore_n (lv' := [_, _, _, _]) d_BB_needed_38 (by decide) rfl ?_
    refine wp_aload_n d_BB_needed_39 rfl ?_
    refine wp_getR d_BB_needed_40 f_BB_35 (by decide) rfl rfl ?_
    refine wp_aload_n d_BB_needed_43 rfl ?_
    refine wp_getR d_BB_needed_44 f_BB_26 (by decide) rfl rfl ?_
    refine wp_iload_n d_BB_needed_47 rfl ?_
    refine wp_callV (ct_PE_sittingAt (p := pl σ m) 0 ok hA2.1 (by omega)) d_BB_needed_48 k_BB_147 (by decide) rfl rfl rfl rfl (Nat.le_of_ble_eq_true rfl) (by omega) ?_
    rintro _ _ _ ⟨rfl, rfl, rfl⟩
    refine wp_iconst (v := zI 1) d_BB_needed_51 rfl ?_
    refine wp_iload_n d_BB_needed_52 rfl ?_
    refine wp_ishl d_BB_needed_53 ?_
    refine wp_iconst (v := zI (-1)) d_BB_needed_54 rfl ?_
    refine wp_ixor d_BB_needed_55 ?_
    refine wp_iand d_BB_needed_56 ?_
    refine wz_top (zI_wo (n := sit σ (pl σ m)) (m := m) (sit_lt ok _) (by omega)) ?_
    refine wp_aload_n d_BB_needed_57 rfl ?_
    refine wp_getR d_BB_needed_58 f_BB_26 (by decide) rfl rfl ?_
    refine wz_getI (hA2.1.late) d_BB_needed_61 f_BB_137 (by decide) rfl rfl ?_
    refine wp_callV (ct_MA_gather (set := wo (sit σ (pl σ m)) m) (k := lt σ) ok hA2.1 hA2.2.1 (wo_lt m (sit_lt ok _)) (by omega)) d_BB_needed_64 k_BB_151 (by decide) rfl rfl rfl rfl (Nat.le_of_ble_eq_true rfl) (by omega) ?_
    rintro _ h3 _ ⟨rfl, rfl, he3, hw⟩
    have he4 : ∀ c, c ≠ 25 → c ≠ 26 → c ≠ 27 → h3 c = hi c := fun c q1 q2 q3 => by rw [he3 c q1, he2 c q1 q2 q3]
    have hA3 : AX σ h3 := hA.keepS he4
    refine wp_aload_n d_BB_needed_67 rfl ?_
    refine wp_getR d_BB_needed_68 f_BB_35 (by decide) rfl rfl ?_
    refine wp_iload_n d_BB_needed_71 rfl ?_
    refine wp_callV (ct_MA_blow (p := pl σ m) (w := wnd σ (wo (sit σ (pl σ m)) m) (lt σ)) ok hA3.1 hA3.2.1 hmm.2.2.2.2.1 hw (fun j _ => by have := wnd_b ok (wo (sit σ (pl σ m)) m) (lt σ) j; omega)) d_BB_needed_72 k_BB_192 (by decide) rfl rfl rfl rfl (Nat.le_of_ble_eq_true rfl) (by omega) ?_
    rintro _ h5 _ ⟨rfl, rfl, he5, -, -⟩
    have he6 : ∀ c, c ≠ 25 → c ≠ 26 → c ≠ 27 → h5 c = hi c := fun c q1 q2 q3 => by rw [he5 c q2 q3, he4 c q1 q2 q3]
    refine wp_iload_n d_BB_needed_75 rfl ?_
    refine wz_isub d_BB_needed_76 ?_
    exact wp_iret d_BB_needed_77 (Or.inl rfl) (⟨by rw [r_needed, if_pos h8, nC]; rfl, hA.keepS he6, fun c hc => he6 c (by omega) (by omega) (by omega)⟩)
  · refine wp_iconst (v := zI (-1)) d_BB_needed_11 rfl ?_
    exact wp_iret d_BB_needed_12 (Or.inl rfl) (pX_of hA (by rw [r_needed, if_neg h8]))
theorem cx_never (ok : Ok σ) (hA : AX σ hi) : Ct M_BB_never 9 [.ref 0] hi hl (pX σ (zI (nvB σ (nB σ) 0)) hi) := by
  have hn := ok.nums
  have inner : ∀ j, j < nB σ → (nvP σ j (nP σ) 0 = -9 → Wp M_BB_never 9 (pX σ (zI (nvB σ (nB σ) 0)) hi) 88 [some (.ref 0), some (.int (zI j)), none, none] [] hi hl) → (nvP σ j (nP σ) 0 ≠ -9 → nvB σ (nB σ) 0 = nvP σ j (nP σ) 0) →
      ∀ k i, i + k = nP σ → nvP σ j (nP σ) 0 = nvP σ j k i → ∀ o : Option Value, Wp M_BB_never 9 (pX σ (zI (nvB σ (nB σ) 0)) hi) 15 [some (.ref 0), some (.int (zI j)), some (.int (zI i)), none] [] hi hl := by
    intro j hj hex hres k
    induction k with
    | zero =>
      intro i hik e o
      refine wp_iload_n d_BB_never_15 rfl ?_
      refine wp_aload_n d_BB_never_16 rfl ?_
      refine wp_getR d_BB_never_17 f_BB_19 (by decide) rfl rfl ?_
      refine wz_getI (hA.2.1.np) d_BB_never_20 f_BB_99 (by decide) rfl rfl ?_
      refine wz_icmp_ge (tgt := 88) d_BB_never_23 (by decide) (by omega) (by omega) (fun h23 => ?_) (fun h23 => ?_)
      · refine wp_drop (lv' := [some _, some _, none, none]) ⟨rfl, rfl, trivial⟩ ?_
        exact hex (by rw [e]; rfl)
      · exact absurd h23 (by omega)
    | succ k ih =>
      intro i hik e o
      have b1 := forN_le ok (sit σ i) (nM σ) (Nat.le_refl _)
      have b1 : forS σ (sit σ i) ≤ 36 := by unfold forS; omega
      have b2 := ok.dr (p := i) (by omega)
      refine wp_iload_n d_BB_never_15 rfl ?_
      refine wp_aload_n d_BB_never_16 rfl ?_
      refine wp_getR d_BB_never_17 f_BB_19 (by decide) rfl rfl ?_
      refine wz_getI (hA.2.1.np) d_BB_never_20 f_BB_99 (by decide) rfl rfl ?_
      refine wz_icmp_ge (tgt := 88) d_BB_never_23 (by decide) (by omega) (by omega) (fun h23 => ?_) (fun h23 => ?_)
      · exact absurd h23 (by omega)
      · refine wp_aload_n d_BB_never_26 rfl ?_
        refine wp_getR d_BB_never_27 f_BB_26 (by decide) rfl rfl ?_
        refine wp_aload_n d_BB_never_30 rfl ?_
        refine wp_getR d_BB_never_31 f_BB_26 (by decide) rfl rfl ?_
        refine wp_iload_n d_BB_never_34 rfl ?_
        refine wp_callV (ct_PE_sittingAt (p := i) 0 ok hA.1 (by omega)) d_BB_never_35 k_BB_147 (by decide) rfl rfl rfl rfl (Nat.le_of_ble_eq_true rfl) (by omega) ?_
        rintro _ _ _ ⟨rfl, rfl, rfl⟩
        refine wp_callV (ct_PE_forceOf (set := sit σ i) 0 ok hA.1 (sit_lt ok i)) d_BB_never_38 k_BB_198 (by decide) rfl rfl rfl rfl (Nat.le_of_ble_eq_true rfl) (by omega) ?_
        rintro _ _ _ ⟨rfl, rfl, rfl⟩
        refine wp_aload_n d_BB_never_41 rfl ?_
        refine wp_getR d_BB_never_42 f_BB_26 (by decide) rfl rfl ?_
        refine wz_getI (hA.1.room) d_BB_never_45 f_BB_134 (by decide) rfl rfl ?_
        refine wz_iadd d_BB_never_48 ?_
        refine wp_istore_n (lv' := [_, _, _, _]) d_BB_never_49 (by decide) rfl ?_
        refine wp_aload_n d_BB_never_50 rfl ?_
        refine wp_getR d_BB_never_51 f_BB_19 (by decide) rfl rfl ?_
        refine wp_iload_n d_BB_never_54 rfl ?_
        refine wp_iload_n d_BB_never_55 rfl ?_
        refine wp_callV (ct_PI_isSounding (p := i) (j := j) 0 ok hA.2.1 (by omega) hj) d_BB_never_56 k_BB_115 (by decide) rfl rfl rfl rfl (Nat.le_of_ble_eq_true rfl) (by omega) ?_
        rintro _ _ _ ⟨rfl, rfl, rfl⟩
        refine wz_if_eqB (tgt := 82) d_BB_never_59 (by decide) (fun h59 => ?_) (fun h59 => ?_)
        · refine wp_drop (lv' := [some _, some _, some _, none]) ⟨rfl, rfl, rfl, trivial⟩ ?_
          refine wz_iinc (lv' := [_, _, _, _]) d_BB_never_82 rfl (by decide) rfl ?_
          refine wp_goto (tgt := 15) d_BB_never_85 (by decide) ?_
          exact ih (i + 1) (by omega) (by rw [e, nvP, if_neg (fun q => h59 q.1)]) none
        · refine wp_aload_n d_BB_never_62 rfl ?_
          refine wp_getR d_BB_never_63 f_BB_19 (by decide) rfl rfl ?_
          refine wp_getR d_BB_never_66 f_BB_107 (by decide) rfl rfl ?_
          refine wp_iload_n d_BB_never_69 rfl ?_
          refine wz_iald (hA.2.1.dr (p := i) (by omega)) (rfl) ((by omega)) d_BB_never_70 (by decide) rfl (by decide) ?_
          refine wp_iload_n d_BB_never_71 rfl ?_
          refine wz_icmp_le (tgt := 82) d_BB_never_72 (by decide) (by omega) (by omega) (fun h72 => ?_) (fun h72 => ?_)
          · refine wp_drop (lv' := [some _, some _, some _, none]) ⟨rfl, rfl, rfl, trivial⟩ ?_
            refine wz_iinc (lv' := [_, _, _, _]) d_BB_never_82 rfl (by decide) rfl ?_
            refine wp_goto (tgt := 15) d_BB_never_85 (by decide) ?_
            exact ih (i + 1) (by omega) (by rw [e, nvP, if_neg (by omega)]) none
          · have e2 : nvP σ j (nP σ) 0 = 10 * (j : Int) + i := by rw [e, nvP, if_pos ⟨h59, by omega⟩]
            refine wp_bipush (v := zI 10) d_BB_never_75 rfl ?_
            refine wp_iload_n d_BB_never_77 rfl ?_
            refine wz_imul d_BB_never_78 ?_
            refine wp_iload_n d_BB_never_79 rfl ?_
            refine wz_iadd d_BB_never_80 ?_
            exact wp_iret d_BB_never_81 (Or.inl rfl) (pX_of hA (by rw [hres (by omega), e2]))
  have outer : ∀ k j, j + k = nB σ → nvB σ (nB σ) 0 = nvB σ k j → Wp M_BB_never 9 (pX σ (zI (nvB σ (nB σ) 0)) hi) 2 [some (.ref 0), some (.int (zI j)), none, none] [] hi hl := by
    intro k
    induction k with
    | zero =>
      intro j hjk e
      refine wp_iload_n d_BB_never_2 rfl ?_
      refine wp_aload_n d_BB_never_3 rfl ?_
      refine wp_getR d_BB_never_4 f_BB_19 (by decide) rfl rfl ?_
      refine wz_getI (hA.2.1.nb) d_BB_never_7 f_BB_195 (by decide) rfl rfl ?_
      refine wz_icmp_ge (tgt := 94) d_BB_never_10 (by decide) (by omega) (by omega) (fun h10 => ?_) (fun h10 => ?_)
      · refine wp_bipush (v := zI (-9)) d_BB_never_94 rfl ?_
        exact wp_iret d_BB_never_96 (Or.inl rfl) (pX_of hA (by rw [e]; rfl))
      · exact absurd h10 (by omega)
    | succ k ih =>
      intro j hjk e
      refine wp_iload_n d_BB_never_2 rfl ?_
      refine wp_aload_n d_BB_never_3 rfl ?_
      refine wp_getR d_BB_never_4 f_BB_19 (by decide) rfl rfl ?_
      refine wz_getI (hA.2.1.nb) d_BB_never_7 f_BB_195 (by decide) rfl rfl ?_
      refine wz_icmp_ge (tgt := 94) d_BB_never_10 (by decide) (by omega) (by omega) (fun h10 => ?_) (fun h10 => ?_)
      · exact absurd h10 (by omega)
      · refine wp_iconst (v := zI 0) d_BB_never_13 rfl ?_
        refine wp_istore_n (lv' := [_, _, _, _]) d_BB_never_14 (by decide) rfl ?_
        refine inner j (by omega) (fun h9 => ?_) (fun h9 => ?_) (nP σ) 0 (by omega) rfl none
        · refine wz_iinc (lv' := [_, _, _, _]) d_BB_never_88 rfl (by decide) rfl ?_
          refine wp_goto (tgt := 2) d_BB_never_91 (by decide) ?_
          exact ih (j + 1) (by omega) (by rw [e, nvB, if_pos h9])
        · rw [e, nvB, if_neg h9]
  refine ct_intro (lv := [_, _, _, _]) (by decide +kernel) (Nat.le_of_ble_eq_true rfl) rfl ?_
  refine wp_iconst (v := zI 0) d_BB_never_0 rfl ?_
  refine wp_istore_n (lv' := [_, _, _, _]) d_BB_never_1 (by decide) rfl ?_
  exact outer (nB σ) 0 (by omega) rfl
end CLASSB
