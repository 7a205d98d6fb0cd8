/-! PHASES: the class's way -/
def ush (x y : Int32) : Int32 := (x.toUInt32 >>> (y.toUInt32 &&& Int32.toUInt32 31)).toInt32
def bc1 (x : Int32) : Int32 := x - (ush x (zI 1) &&& 1431655765)
def bc2 (x : Int32) : Int32 := (x &&& 858993459) + (ush x (zI 2) &&& 858993459)
def bc3 (x : Int32) : Int32 := (x + ush x (zI 4)) &&& 252645135
def bc4 (x : Int32) : Int32 := x + ush x (zI 8)
def bc5 (x : Int32) : Int32 := x + ush x (zI 16)
theorem bc_all : ∀ a : Fin 64, ∀ b : Fin 64, bc5 (bc4 (bc3 (bc2 (bc1 (zI ((64 * a.val + b.val : Nat) : Int)))))) &&& zI 63 = zI (cnt (64 * a.val + b.val) 12) := by decide +kernel
theorem bc_eq {set : Nat} (h : set < 4096) : bc5 (bc4 (bc3 (bc2 (bc1 (zI (set : Int)))))) &&& zI 63 = zI (cnt set 12) := by
  have := bc_all ⟨set / 64, by omega⟩ ⟨set % 64, by omega⟩
  rw [show 64 * (set / 64) + set % 64 = set by omega] at this
  exact this
section PHC
variable {σ : SG} {hi : HI} {hl : HL} {p : Nat} {a b : Int}
theorem ct_IG_bitCount {set : Nat} (d : Nat) (hs : set < 4096) : Ct M_IG_bitCount d [.int (zI set)] hi hl (ans (zI (cnt set 12)) hi hl) := by
  refine ct_intro (lv := [_]) (by decide +kernel) (Nat.le_of_ble_eq_true rfl) rfl ?_
  refine wp_iload_n d_IG_bitCount_0 rfl ?_
  refine wp_iload_n d_IG_bitCount_1 rfl ?_
  refine wp_iconst (v := zI 1) d_IG_bitCount_2 rfl ?_
  refine wp_iushr d_IG_bitCount_3 ?_
  refine wp_ldcw d_IG_bitCount_4 cs_IG_265 ?_
  refine wp_iand d_IG_bitCount_7 ?_
  refine wp_isub d_IG_bitCount_8 ?_
  refine wp_istore_n (lv' := [_]) d_IG_bitCount_9 (by decide) rfl ?_
  refine wp_iload_n d_IG_bitCount_10 rfl ?_
  refine wp_ldcw d_IG_bitCount_11 cs_IG_266 ?_
  refine wp_iand d_IG_bitCount_14 ?_
  refine wp_iload_n d_IG_bitCount_15 rfl ?_
  refine wp_iconst (v := zI 2) d_IG_bitCount_16 rfl ?_
  refine wp_iushr d_IG_bitCount_17 ?_
  refine wp_ldcw d_IG_bitCount_18 cs_IG_266 ?_
  refine wp_iand d_IG_bitCount_21 ?_
  refine wp_iadd d_IG_bitCount_22 ?_
  refine wp_istore_n (lv' := [_]) d_IG_bitCount_23 (by decide) rfl ?_
  refine wp_iload_n d_IG_bitCount_24 rfl ?_
  refine wp_iload_n d_IG_bitCount_25 rfl ?_
  refine wp_iconst (v := zI 4) d_IG_bitCount_26 rfl ?_
  refine wp_iushr d_IG_bitCount_27 ?_
  refine wp_iadd d_IG_bitCount_28 ?_
  refine wp_ldcw d_IG_bitCount_29 cs_IG_267 ?_
  refine wp_iand d_IG_bitCount_32 ?_
  refine wp_istore_n (lv' := [_]) d_IG_bitCount_33 (by decide) rfl ?_
  refine wp_iload_n d_IG_bitCount_34 rfl ?_
  refine wp_iload_n d_IG_bitCount_35 rfl ?_
  refine wp_bipush (v := zI 8) d_IG_bitCount_36 rfl ?_
  refine wp_iushr d_IG_bitCount_38 ?_
  refine wp_iadd d_IG_bitCount_39 ?_
  refine wp_istore_n (lv' := [_]) d_IG_bitCount_40 (by decide) rfl ?_
  refine wp_iload_n d_IG_bitCount_41 rfl ?_
  refine wp_iload_n d_IG_bitCount_42 rfl ?_
  refine wp_bipush (v := zI 16) d_IG_bitCount_43 rfl ?_
  refine wp_iushr d_IG_bitCount_45 ?_
  refine wp_iadd d_IG_bitCount_46 ?_
  refine wp_istore_n (lv' := [_]) d_IG_bitCount_47 (by decide) rfl ?_
  refine wp_iload_n d_IG_bitCount_48 rfl ?_
  refine wp_bipush (v := zI 63) d_IG_bitCount_49 rfl ?_
  refine wp_iand d_IG_bitCount_51 ?_
  exact wp_iret d_IG_bitCount_52 (Or.inl rfl) (ans_of (bc_eq hs))
theorem ct_PH_lastPhase {m : Nat} (d : Nat) (ok : Ok σ) (hp : PV σ hi) (hm : m < nM σ) : Ct M_PH_lastPhase d [.ref 28, .int (zI m)] hi hl (ans (zI (lP σ m)) hi hl) := by
  have hn := ok.nums
  have hmm := ok.m hm
  refine ct_intro (lv := [_, _]) (by decide +kernel) (Nat.le_of_ble_eq_true rfl) rfl ?_
  refine wp_aload_n d_PH_lastPhase_0 rfl ?_
  refine wp_getR d_PH_lastPhase_1 f_PH_9 (by decide) rfl rfl ?_
  refine wp_getR d_PH_lastPhase_4 f_PH_98 (by decide) rfl rfl ?_
  refine wp_iload_n d_PH_lastPhase_7 rfl ?_
  refine wz_zald (hp.br hm) (rfl) ((by omega)) d_PH_lastPhase_8 (by decide) rfl (by decide) ?_
  refine wz_if_eq (tgt := 16) d_PH_lastPhase_9 (by decide) (by omega) (fun h9 => ?_) (fun h9 => ?_)
  · refine wp_aload_n d_PH_lastPhase_16 rfl ?_
    refine wp_getR d_PH_lastPhase_17 f_PH_9 (by decide) rfl rfl ?_
    refine wp_getR d_PH_lastPhase_20 f_PH_102 (by decide) rfl rfl ?_
    refine wp_iload_n d_PH_lastPhase_23 rfl ?_
    refine wz_iald (hp.lu hm) (rfl) ((by omega)) d_PH_lastPhase_24 (by decide) rfl (by decide) ?_
    exact wp_iret d_PH_lastPhase_25 (Or.inl rfl) (ans_of (by rw [lP, if_pos (by omega)]))
  · refine wp_iconst (v := zI 0) d_PH_lastPhase_12 rfl ?_
    refine wp_goto (tgt := 25) d_PH_lastPhase_13 (by decide) ?_
    exact wp_iret d_PH_lastPhase_25 (Or.inl rfl) (ans_of (by rw [lP, if_neg (by omega)]; rfl))
theorem ct_PH_breath {m : Nat} (d : Nat) (ok : Ok σ) (hp : PV σ hi) (hm : m < nM σ) : Ct M_PH_breath d [.ref 28, .int (zI m)] hi hl (ans (zI (bth σ m)) hi hl) := by
  have hn := ok.nums
  have hmm := ok.m hm
  refine ct_intro (lv := [_, _]) (by decide +kernel) (Nat.le_of_ble_eq_true rfl) rfl ?_
  refine wp_aload_n d_PH_breath_0 rfl ?_
  refine wp_getR d_PH_breath_1 f_PH_9 (by decide) rfl rfl ?_
  refine wp_getR d_PH_breath_4 f_PH_98 (by decide) rfl rfl ?_
  refine wp_iload_n d_PH_breath_7 rfl ?_
  refine wz_zald (hp.br hm) (rfl) ((by omega)) d_PH_breath_8 (by decide) rfl (by decide) ?_
  refine wz_if_eq (tgt := 16) d_PH_breath_9 (by decide) (by omega) (fun h9 => ?_) (fun h9 => ?_)
  · refine wp_aload_n d_PH_breath_16 rfl ?_
    refine wp_getR d_PH_breath_17 f_PH_9 (by decide) rfl rfl ?_
    refine wp_getR d_PH_breath_20 f_PH_105 (by decide) rfl rfl ?_
    refine wp_iload_n d_PH_breath_23 rfl ?_
    refine wz_iald (hp.fo hm) (rfl) ((by omega)) d_PH_breath_24 (by decide) rfl (by decide) ?_
    exact wp_iret d_PH_breath_25 (Or.inl rfl) (ans_of (by rw [bth, if_pos (by omega)]))
  · refine wp_iconst (v := zI 0) d_PH_breath_12 rfl ?_
    refine wp_goto (tgt := 25) d_PH_breath_13 (by decide) ?_
    exact wp_iret d_PH_breath_25 (Or.inl rfl) (ans_of (by rw [bth, if_neg (by omega)]; rfl))
theorem sit_bit (σ : SG) (p m : Nat) : (sit σ p).testBit m = true ↔ m < nM σ ∧ pl σ m = p := by
  rw [sit, sitN_bit]
  simp
theorem cnt_sit (ok : Ok σ) (p : Nat) : cnt (sit σ p) (nM σ) = nS σ p := by
  have h : ∀ k, cnt (sit σ p) (nM σ + k) = cnt (sit σ p) (nM σ) := by
    intro k
    induction k with
    | zero => rfl
    | succ k ih =>
      rw [← Nat.add_assoc, cnt, if_neg (fun q => by have := ((sit_bit σ p _).mp q).1; omega), ih, Nat.add_zero]
  have := h (12 - nM σ)
  have hn := ok.nums
  rw [show nM σ + (12 - nM σ) = 12 by omega] at this
  rw [nS, this]
theorem mb_sit (ok : Ok σ) {i : Nat} (h : i < nS σ p) : mb (sit σ p) i < nM σ ∧ pl σ (mb (sit σ p) i) = p := (sit_bit σ p _).mp (mb_spec h).2.1
theorem ct_PH_list (d : Nat) (ok : Ok σ) (hp : PV σ hi) (h4 : nS σ p ≤ 4) : Ct M_PH_list d [.ref 28, .int (zI (sit σ p))] hi hl (fun r hi' hl' => r = none ∧ hl = hl' ∧ (∀ c, c ≠ 28 → c ≠ 29 → hi' c = hi c) ∧ (∀ f, f ≠ 7 → hi' 28 f = hi 28 f) ∧ hi' 28 7 = zI (nS σ p) ∧ ∀ i, i < nS σ p → hi' 29 i = zI (mb (sit σ p) i)) := by
  have hn := ok.nums
  have hs := sit_lt ok p
  have loop : ∀ k i : Nat, i + k = nM σ → ∀ h : HI, (∀ c, c ≠ 28 → c ≠ 29 → h c = hi c) → (∀ f, f ≠ 7 → h 28 f = hi 28 f) → h 28 7 = zI (cnt (sit σ p) i) → (∀ a, a < cnt (sit σ p) i → h 29 a = zI (mb (sit σ p) a)) →
      Wp M_PH_list d (fun r hi' hl' => r = none ∧ hl = hl' ∧ (∀ c, c ≠ 28 → c ≠ 29 → hi' c = hi c) ∧ (∀ f, f ≠ 7 → hi' 28 f = hi 28 f) ∧ hi' 28 7 = zI (nS σ p) ∧ ∀ i, i < nS σ p → hi' 29 i = zI (mb (sit σ p) i)) 7 [some (.ref 28), some (.int (zI (sit σ p))), some (.int (zI i))] [] h hl := by
    intro k
    induction k with
    | zero =>
      intro i hik h e0 e1 e2 e3
      have hp' : PV σ h := hp.keep (fun c _ _ => e0 c (by omega) (by omega))
      have e : cnt (sit σ p) i = nS σ p := by rw [show i = nM σ by omega]; exact cnt_sit ok p
      refine wp_iload_n d_PH_list_7 rfl ?_
      refine wp_aload_n d_PH_list_8 rfl ?_
      refine wp_getR d_PH_list_9 f_PH_9 (by decide) rfl rfl ?_
      refine wz_getI (hp'.n) d_PH_list_12 f_PH_73 (by decide) rfl rfl ?_
      refine wz_icmp_ge (tgt := 61) d_PH_list_15 (by decide) (by omega) (by omega) (fun h15 => ?_) (fun h15 => ?_)
      · exact wp_vret d_PH_list_61 rfl (⟨rfl, rfl, e0, e1, by rw [e2, e], fun a ha => e3 a (by omega)⟩)
      · exact absurd h15 (by omega)
    | succ k ih =>
      intro i hik h e0 e1 e2 e3
      have hp' : PV σ h := hp.keep (fun c _ _ => e0 c (by omega) (by omega))
      have hle : cnt (sit σ p) i ≤ nS σ p := cnt_le _ (by omega)
      have hc1 : cnt (sit σ p) (i + 1) ≤ nS σ p := cnt_le _ (by omega)
      refine wp_iload_n d_PH_list_7 rfl ?_
      refine wp_aload_n d_PH_list_8 rfl ?_
      refine wp_getR d_PH_list_9 f_PH_9 (by decide) rfl rfl ?_
      refine wz_getI (hp'.n) d_PH_list_12 f_PH_73 (by decide) rfl rfl ?_
      refine wz_icmp_ge (tgt := 61) d_PH_list_15 (by decide) (by omega) (by omega) (fun h15 => ?_) (fun h15 => ?_)
      · exact absurd h15 (by omega)
      · refine wp_aload_n d_PH_list_18 rfl ?_
        refine wz_getI (e2) d_PH_list_19 f_PH_70 (by decide) rfl rfl ?_
        refine wp_iconst (v := zI 4) d_PH_list_22 rfl ?_
        refine wz_icmp_ge (tgt := 61) d_PH_list_23 (by decide) (by omega) (by omega) (fun h23 => ?_) (fun h23 => ?_)
        · have e : cnt (sit σ p) i = nS σ p := by omega
          exact wp_vret d_PH_list_61 rfl (⟨rfl, rfl, e0, e1, by rw [e2, e], fun a ha => e3 a (by omega)⟩)
        · refine wp_iload_n d_PH_list_26 rfl ?_
          refine wp_iload_n d_PH_list_27 rfl ?_
          refine wp_ishr d_PH_list_28 ?_
          refine wp_iconst (v := zI 1) d_PH_list_29 rfl ?_
          refine wp_iand d_PH_list_30 ?_
          rw [zI_bit (by omega) (by omega)]
          by_cases hb : (sit σ p).testBit i = true
          · rw [bI_t hb, zI_1]
            refine wp_iconst (v := zI 1) d_PH_list_31 rfl ?_
            refine wz_icmp_ne (tgt := 55) d_PH_list_32 (by decide) (by omega) (by omega) (fun h32 => ?_) (fun h32 => ?_)
            · exact absurd rfl h32
            · rw [cnt, if_pos hb] at hc1
              refine wp_aload_n d_PH_list_35 rfl ?_
              refine wp_getR d_PH_list_36 f_PH_19 (by decide) rfl rfl ?_
              refine wp_aload_n d_PH_list_39 rfl ?_
              refine wz_getI (e2) d_PH_list_40 f_PH_70 (by decide) rfl rfl ?_
              refine wp_iload_n d_PH_list_43 rfl ?_
              refine wz_iast (rfl) ((by omega)) d_PH_list_44 (by decide) rfl (by decide) ?_
              refine wp_aload_n d_PH_list_45 rfl ?_
              refine wp_dup d_PH_list_46 rfl ?_
              refine wz_getI ((rd1 (by decide) e2)) d_PH_list_47 f_PH_70 (by decide) rfl rfl ?_
              refine wp_iconst (v := zI 1) d_PH_list_50 rfl ?_
              refine wz_iadd d_PH_list_51 ?_
              refine wp_putI d_PH_list_52 f_PH_70 pk_PH_7 (by decide) rfl rfl ?_
              refine wz_iinc (lv' := [_, _, _]) d_PH_list_55 rfl (by decide) rfl ?_
              refine wp_goto (tgt := 7) d_PH_list_58 (by decide) ?_
              refine ih (i + 1) (by omega) _ (fun c h1 h2 => ?_) (fun f hf => ?_) ?_ (fun a ha => ?_)
              · rw [setI_ne _ _ _ h1, setI_ne _ _ _ h2, e0 c h1 h2]
              · exact rdS hf (rd1 (by decide) (e1 f hf))
              · refine rdA ?_
                rw [cnt, if_pos hb]; rfl
              · refine rd1 (by decide) ?_
                rw [cnt, if_pos hb] at ha
                by_cases q : a = cnt (sit σ p) i
                · subst q
                  refine rdA ?_
                  rw [mb_at hb (by omega)]
                · exact rdS q (e3 a (by omega))
          · rw [bI_f hb, zI_0]
            refine wp_iconst (v := zI 1) d_PH_list_31 rfl ?_
            refine wz_icmp_ne (tgt := 55) d_PH_list_32 (by decide) (by omega) (by omega) (fun h32 => ?_) (fun h32 => ?_)
            · refine wz_iinc (lv' := [_, _, _]) d_PH_list_55 rfl (by decide) rfl ?_
              refine wp_goto (tgt := 7) d_PH_list_58 (by decide) ?_
              have ec : cnt (sit σ p) (i + 1) = cnt (sit σ p) i := by rw [cnt, if_neg hb]; rfl
              exact ih (i + 1) (by omega) _ e0 e1 (by rw [ec]; exact e2) (fun a ha => e3 a (by omega))
            · exact absurd h32 (by decide)
  refine ct_intro (lv := [_, _, _]) (by decide +kernel) (Nat.le_of_ble_eq_true rfl) rfl ?_
  refine wp_aload_n d_PH_list_0 rfl ?_
  refine wp_iconst (v := zI 0) d_PH_list_1 rfl ?_
  refine wp_putI d_PH_list_2 f_PH_70 pk_PH_7 (by decide) rfl rfl ?_
  refine wp_iconst (v := zI 0) d_PH_list_5 rfl ?_
  refine wp_istore_n (lv' := [_, _, _]) d_PH_list_6 (by decide) rfl ?_
  refine loop (nM σ) 0 (by omega) _ (fun c h1 _ => by rw [setI_ne _ _ _ h1]) (fun f hf => rdS hf rfl) (rdA rfl) (fun a ha => absurd ha (by simp [cnt]))
theorem dl_b {set i s j : Nat} {b : Bool} (h : b = true ↔ brt σ (mb set i) s j) : dl σ set i s j = if b then (bth σ (mb set i) : Int) else 0 := by
  unfold dl bth brt at *
  cases b with
  | true =>
    have q := h.mp rfl
    by_cases z : br σ (mb set i) = 0
    · rw [if_pos ⟨q, z⟩, if_pos z]; rfl
    · rw [if_neg (fun y => z y.2), if_neg z]; rfl
  | false =>
    rw [if_neg (fun y => by have := h.mpr y.1; simp at this)]
    rfl
theorem dl_le (ok : Ok σ) {i s j : Nat} (h : i < nS σ p) : dl σ (sit σ p) i s j ≤ 3 := by
  have := ok.m (mb_sit ok h).1
  unfold dl
  split <;> omega
theorem forS_b (ok : Ok σ) (set : Nat) : forS σ set ≤ 36 := by
  have := forN_le ok set (nM σ) (Nat.le_refl _)
  have := ok.nums
  unfold forS
  omega
theorem FF_b (ok : Ok σ) (hpp : p < nP σ) {w : Nat → Int} (h : ∀ j, -2000 ≤ w j ∧ w j ≤ 2000) : 0 ≤ FF σ p w ∧ FF σ p w ≤ 48216 := by
  have hn := ok.nums
  have := smA_b (c := rm σ) (by omega) (dn := dnS σ p) (w := w) (nB σ) (fun j _ => ⟨dnS_b ok hpp j, h j⟩)
  unfold FF
  omega
theorem smf_dl (ok : Ok σ) (p j : Nat) (f : Nat → Nat) : ∀ q, q ≤ nS σ p → 0 ≤ smf (fun i => dl σ (sit σ p) i (f i) j) q ∧ smf (fun i => dl σ (sit σ p) i (f i) j) q ≤ 3 * q
  | 0, _ => by simp [smf]
  | q + 1, h => by
    have h1 := smf_dl ok p j f q (by omega)
    have h2 := dl_le ok (s := f q) (j := j) (show q < nS σ p by omega)
    have h3 := dl_nn σ (sit σ p) q (f q) j
    rw [smf]
    omega
theorem nS_le (σ : SG) (p : Nat) : nS σ p ≤ 12 := cnt_n _ _
theorem WW_b (ok : Ok σ) {q : Nat} (hq : q ≤ nS σ p) (v j : Nat) : -2000 ≤ WW σ p q v j ∧ WW σ p q v j ≤ 2000 := by
  have h1 := smf_dl ok p j (fun i => dg σ p i v) q hq
  have h2 := forS_b ok (sit σ p)
  have h3 := nS_le σ p
  unfold WW
  omega
theorem mnN_b {F : Nat → Int} (h : ∀ s, 0 ≤ F s) : ∀ n, 0 ≤ mnN F n ∧ mnN F n ≤ 2147483647
  | 0 => by simp [mnN]
  | n + 1 => by
    have := mnN_b h n
    have := h n
    rw [mnN]
    omega
theorem w1_b (ok : Ok σ) {i : Nat} (h : i < nS σ p) (s j : Nat) : -2000 ≤ (forS σ (sit σ p) : Int) - dl σ (sit σ p) i s j ∧ (forS σ (sit σ p) : Int) - dl σ (sit σ p) i s j ≤ 2000 := by
  have h1 := dl_le ok (s := s) (j := j) h
  have h2 := dl_nn σ (sit σ p) i s j
  have h3 := forS_b ok (sit σ p)
  omega
theorem la_b (ok : Ok σ) (hpp : p < nP σ) {i : Nat} (h : i < nS σ p) : 0 ≤ la σ p i ∧ la σ p i ≤ 48216 := by
  have h1 := mnN_b (F := fun s => FF σ p (fun j => (forS σ (sit σ p) : Int) - dl σ (sit σ p) i s j)) (fun s => (FF_b ok hpp (fun j => w1_b ok h s j)).1) (lP σ (mb (sit σ p) i) + 1)
  have h2 := mnN_le (fun s => FF σ p (fun j => (forS σ (sit σ p) : Int) - dl σ (sit σ p) i s j)) (lP σ (mb (sit σ p) i) + 1) 0 (by omega)
  have h3 := FF_b ok hpp (fun j => w1_b ok h 0 j)
  unfold la
  omega
theorem Fz_b (ok : Ok σ) (hpp : p < nP σ) : 0 ≤ Fz σ p ∧ Fz σ p ≤ 48216 := FF_b ok hpp (fun _ => by have h3 := forS_b ok (sit σ p); omega)
theorem tc_b (ok : Ok σ) (hpp : p < nP σ) : ∀ q i, i + q ≤ nS σ p → -(48216 * (q : Int)) ≤ tc σ p q i ∧ tc σ p q i ≤ 48216 * (q : Int)
  | 0, _, _ => by simp [tc]
  | q + 1, i, h => by
    have h1 := tc_b ok hpp q (i + 1) (by omega)
    have h2 := la_b ok hpp (show i < nS σ p by omega)
    have h3 := Fz_b ok hpp
    rw [tc]
    omega
theorem ct_PH_leastAlone {i : Nat} (ok : Ok σ) (hp : PV σ hi) (hv : IV σ hi) (hpp : p < nP σ) (hin : i < nS σ p) (h6 : hi 28 6 = zI p) (hw : ∀ j, j < nB σ → hi 25 j = zI (forS σ (sit σ p))) : Ct M_PH_leastAlone 3 [.ref 28, .int (zI (mb (sit σ p) i))] hi hl (fun r hi' hl' => r = some (.int (zI (la σ p i))) ∧ hl = hl' ∧ (∀ c, c ≠ 25 → c ≠ 26 → c ≠ 27 → hi' c = hi c) ∧ ∀ j, j < nB σ → hi' 25 j = zI (forS σ (sit σ p))) := by
  have hn := ok.nums
  have hm := (mb_sit ok hin).1
  have hmm := ok.m hm
  have hlp : lP σ (mb (sit σ p) i) ≤ 9 := by unfold lP; split <;> omega
  have hfb := fun s => FF_b ok hpp (fun j => w1_b ok hin s j)
  have loop : ∀ k s : Nat, s + k = lP σ (mb (sit σ p) i) + 1 → ∀ h : HI, (∀ c, c ≠ 25 → c ≠ 26 → c ≠ 27 → h c = hi c) → (∀ j, j < nB σ → h 25 j = zI (forS σ (sit σ p))) →
      Wp M_PH_leastAlone 3 (fun r hi' hl' => r = some (.int (zI (la σ p i))) ∧ hl = hl' ∧ (∀ c, c ≠ 25 → c ≠ 26 → c ≠ 27 → hi' c = hi c) ∧ ∀ j, j < nB σ → hi' 25 j = zI (forS σ (sit σ p))) 5 [some (.ref 28), some (.int (zI (mb (sit σ p) i))), some (.int (zI (mnN (fun s => FF σ p (fun j => (forS σ (sit σ p) : Int) - dl σ (sit σ p) i s j)) s))), some (.int (zI s))] [] h hl := by
    intro k
    induction k with
    | zero =>
      intro s hsk h e0 e1
      have hp' : PV σ h := hp.keep (fun c _ _ => e0 c (by omega) (by omega) (by omega))
      refine wp_iload_n d_PH_leastAlone_5 rfl ?_
      refine wp_aload_n d_PH_leastAlone_6 rfl ?_
      refine wp_iload_n d_PH_leastAlone_7 rfl ?_
      refine wp_callV (ct_PH_lastPhase (m := mb (sit σ p) i) 0 ok hp' hm) d_PH_leastAlone_8 k_PH_82 (by decide) rfl rfl rfl rfl (Nat.le_of_ble_eq_true rfl) (by omega) ?_
      rintro _ _ _ ⟨rfl, rfl, rfl⟩
      refine wz_icmp_gt (tgt := 65) d_PH_leastAlone_11 (by decide) (by omega) (by omega) (fun h11 => ?_) (fun h11 => ?_)
      · refine wp_iload_n d_PH_leastAlone_65 rfl ?_
        exact wp_iret d_PH_leastAlone_66 (Or.inl rfl) (⟨by rw [la, ← hsk]; rfl, rfl, e0, e1⟩)
      · exact absurd h11 (by omega)
    | succ k ih =>
      intro s hsk h e0 e1
      have hp' : PV σ h := hp.keep (fun c _ _ => e0 c (by omega) (by omega) (by omega))
      have hv' : IV σ h := hv.keep (fun c _ _ => e0 c (by omega) (by omega) (by omega))
      refine wp_iload_n d_PH_leastAlone_5 rfl ?_
      refine wp_aload_n d_PH_leastAlone_6 rfl ?_
      refine wp_iload_n d_PH_leastAlone_7 rfl ?_
      refine wp_callV (ct_PH_lastPhase (m := mb (sit σ p) i) 0 ok hp' hm) d_PH_leastAlone_8 k_PH_82 (by decide) rfl rfl rfl rfl (Nat.le_of_ble_eq_true rfl) (by omega) ?_
      rintro _ _ _ ⟨rfl, rfl, rfl⟩
      refine wz_icmp_gt (tgt := 65) d_PH_leastAlone_11 (by decide) (by omega) (by omega) (fun h11 => ?_) (fun h11 => ?_)
      · exact absurd h11 (by omega)
      · refine wp_aload_n d_PH_leastAlone_14 rfl ?_
        refine wp_getR d_PH_leastAlone_15 f_PH_15 (by decide) rfl rfl ?_
        refine wp_iload_n d_PH_leastAlone_18 rfl ?_
        refine wp_iload_n d_PH_leastAlone_19 rfl ?_
        refine wp_aload_n d_PH_leastAlone_20 rfl ?_
        refine wp_iload_n d_PH_leastAlone_21 rfl ?_
        refine wp_callV (ct_PH_breath (m := mb (sit σ p) i) 0 ok hp' hm) d_PH_leastAlone_22 k_PH_85 (by decide) rfl rfl rfl rfl (Nat.le_of_ble_eq_true rfl) (by omega) ?_
        rintro _ _ _ ⟨rfl, rfl, rfl⟩
        refine wz_ineg d_PH_leastAlone_25 ?_
        refine wp_callV (ct_MA_addAtBreaths (m := mb (sit σ p) i) (s := s) (x := -(bth σ (mb (sit σ p) i) : Int)) (w := fun _ => (forS σ (sit σ p) : Int)) ok hp' hv' hm (by omega) e1) d_PH_leastAlone_26 k_PH_88 (by decide) rfl rfl rfl rfl (Nat.le_of_ble_eq_true rfl) (by omega) ?_
        rintro _ h2 _ ⟨rfl, rfl, e2, w2⟩
        have w2' : ∀ j, j < nB σ → h2 25 j = zI ((forS σ (sit σ p) : Int) - dl σ (sit σ p) i s j) := fun j hj => by
          obtain ⟨b, hb, q⟩ := w2 j hj
          rw [q, dl_b hb]
          cases b <;> simp <;> rfl
        have hp2 : PV σ h2 := hp'.keep (fun c _ _ => e2 c (by omega))
        have hv2 : IV σ h2 := hv'.keep (fun c _ _ => e2 c (by omega))
        refine wp_iload_n d_PH_leastAlone_29 rfl ?_
        refine wp_aload_n d_PH_leastAlone_30 rfl ?_
        refine wp_getR d_PH_leastAlone_31 f_PH_15 (by decide) rfl rfl ?_
        refine wp_aload_n d_PH_leastAlone_34 rfl ?_
        refine wz_getI ((by rw [e2 28 (by omega), e0 28 (by omega) (by omega) (by omega)]; exact h6)) d_PH_leastAlone_35 f_PH_43 (by decide) rfl rfl ?_
        refine wp_callV (ct_MA_blow (p := p) (w := fun j => (forS σ (sit σ p) : Int) - dl σ (sit σ p) i s j) ok hp2 hv2 hpp w2' (fun j _ => w1_b ok hin s j)) d_PH_leastAlone_38 k_PH_76 (by decide) rfl rfl rfl rfl (Nat.le_of_ble_eq_true rfl) (by omega) ?_
        rintro _ h3 _ ⟨rfl, rfl, e3, -, -⟩
        have b1 := mnN_b (F := fun s => FF σ p (fun j => (forS σ (sit σ p) : Int) - dl σ (sit σ p) i s j)) (fun s => (hfb s).1) s
        have b2 : 0 ≤ smA (rm σ) (dnS σ p) (fun j => (forS σ (sit σ p) : Int) - dl σ (sit σ p) i s j) (nB σ) ∧ smA (rm σ) (dnS σ p) (fun j => (forS σ (sit σ p) : Int) - dl σ (sit σ p) i s j) (nB σ) ≤ 48216 := hfb s
        refine wp_callS (ct_MT_min (a := mnN (fun s => FF σ p (fun j => (forS σ (sit σ p) : Int) - dl σ (sit σ p) i s j)) s) (b := smA (rm σ) (dnS σ p) (fun j => (forS σ (sit σ p) : Int) - dl σ (sit σ p) i s j) (nB σ)) 0 (by omega) (by omega)) d_PH_leastAlone_41 k_PH_92 rfl rfl (Nat.le_of_ble_eq_true rfl) (by omega) ?_
        rintro _ _ _ ⟨rfl, rfl, rfl⟩
        have hp3 : PV σ h3 := hp2.keep (fun c _ _ => e3 c (by omega) (by omega))
        have hv3 : IV σ h3 := hv2.keep (fun c _ _ => e3 c (by omega) (by omega))
        refine wp_istore_n (lv' := [_, _, _, _]) d_PH_leastAlone_44 (by decide) rfl ?_
        refine wp_aload_n d_PH_leastAlone_45 rfl ?_
        refine wp_getR d_PH_leastAlone_46 f_PH_15 (by decide) rfl rfl ?_
        refine wp_iload_n d_PH_leastAlone_49 rfl ?_
        refine wp_iload_n d_PH_leastAlone_50 rfl ?_
        refine wp_aload_n d_PH_leastAlone_51 rfl ?_
        refine wp_iload_n d_PH_leastAlone_52 rfl ?_
        refine wp_callV (ct_PH_breath (m := mb (sit σ p) i) 0 ok hp3 hm) d_PH_leastAlone_53 k_PH_85 (by decide) rfl rfl rfl rfl (Nat.le_of_ble_eq_true rfl) (by omega) ?_
        rintro _ _ _ ⟨rfl, rfl, rfl⟩
        refine wp_callV (ct_MA_addAtBreaths (m := mb (sit σ p) i) (s := s) (x := (bth σ (mb (sit σ p) i) : Int)) (w := fun j => (forS σ (sit σ p) : Int) - dl σ (sit σ p) i s j) ok hp3 hv3 hm (by omega) (fun j hj => by rw [e3 25 (by omega) (by omega)]; exact w2' j hj)) d_PH_leastAlone_56 k_PH_88 (by decide) rfl rfl rfl rfl (Nat.le_of_ble_eq_true rfl) (by omega) ?_
        rintro _ h4 _ ⟨rfl, rfl, e4, w4⟩
        refine wz_iinc (lv' := [_, _, _, _]) d_PH_leastAlone_59 rfl (by decide) rfl ?_
        refine wp_goto (tgt := 5) d_PH_leastAlone_62 (by decide) ?_
        refine ih (s + 1) (by omega) h4 (fun c h1 h2 h3 => by rw [e4 c h1, e3 c h2 h3, e2 c h1, e0 c h1 h2 h3]) (fun j hj => ?_)
        obtain ⟨b, hb, q⟩ := w4 j hj
        rw [q, dl_b hb]
        congr 1
        omega
  refine ct_intro (lv := [_, _, _, _]) (by decide +kernel) (Nat.le_of_ble_eq_true rfl) rfl ?_
  refine wz_ldc (z := 2147483647) d_PH_leastAlone_0 cs_PH_62 rfl ?_
  refine wp_istore_n (lv' := [_, _, _, _]) d_PH_leastAlone_2 (by decide) rfl ?_
  refine wp_iconst (v := zI 0) d_PH_leastAlone_3 rfl ?_
  refine wp_istore_n (lv' := [_, _, _, _]) d_PH_leastAlone_4 (by decide) rfl ?_
  exact loop (lP σ (mb (sit σ p) i) + 1) 0 (by omega) hi (fun _ _ _ _ => rfl) hw
theorem ct_PH_foresee (ok : Ok σ) (hp : PV σ hi) (hv : IV σ hi) (hpp : p < nP σ) (h4 : nS σ p ≤ 4) (h6 : hi 28 6 = zI p) (h7 : hi 28 7 = zI (nS σ p)) (h29 : ∀ i, i < nS σ p → hi 29 i = zI (mb (sit σ p) i)) (hw : ∀ j, j < nB σ → hi 25 j = zI (forS σ (sit σ p))) : Ct M_PH_foresee 4 [.ref 28] hi hl (fun r hi' hl' => r = none ∧ hl = hl' ∧ (∀ c, c ≠ 25 → c ≠ 26 → c ≠ 27 → c ≠ 32 → hi' c = hi c) ∧ (∀ j, j < nB σ → hi' 25 j = zI (forS σ (sit σ p))) ∧ ∀ i, i ≤ nS σ p → hi' 32 i = zI (tc σ p (nS σ p - i) i)) := by
  have hn := ok.nums
  have loop : ∀ k : Nat, k ≤ nS σ p → ∀ h : HI, (∀ c, c ≠ 25 → c ≠ 26 → c ≠ 27 → c ≠ 32 → h c = hi c) → (∀ j, j < nB σ → h 25 j = zI (forS σ (sit σ p))) → (∀ i, k ≤ i → i ≤ nS σ p → h 32 i = zI (tc σ p (nS σ p - i) i)) →
      Wp M_PH_foresee 4 (fun r hi' hl' => r = none ∧ hl = hl' ∧ (∀ c, c ≠ 25 → c ≠ 26 → c ≠ 27 → c ≠ 32 → hi' c = hi c) ∧ (∀ j, j < nB σ → hi' 25 j = zI (forS σ (sit σ p))) ∧ ∀ i, i ≤ nS σ p → hi' 32 i = zI (tc σ p (nS σ p - i) i)) 29 [some (.ref 28), some (.int (zI (Fz σ p))), some (.int (zI ((k : Int) - 1)))] [] h hl := by
    intro k
    induction k with
    | zero =>
      intro hk h e0 e1 e2
      refine wp_iload_n d_PH_foresee_29 rfl ?_
      refine wz_if_lt (tgt := 66) d_PH_foresee_30 (by decide) (by omega) (fun h30 => ?_) (fun h30 => ?_)
      · exact wp_vret d_PH_foresee_66 rfl (⟨rfl, rfl, e0, e1, fun i hi => e2 i (by omega) hi⟩)
      · exact absurd h30 (by omega)
    | succ k ih =>
      intro hk h e0 e1 e2
      have hp' : PV σ h := hp.keep (fun c _ _ => e0 c (by omega) (by omega) (by omega) (by omega))
      have hv' : IV σ h := hv.keep (fun c _ _ => e0 c (by omega) (by omega) (by omega) (by omega))
      rw [show (((k + 1 : Nat) : Int) - 1) = (k : Int) by omega]
      refine wp_iload_n d_PH_foresee_29 rfl ?_
      refine wz_if_lt (tgt := 66) d_PH_foresee_30 (by decide) (by omega) (fun h30 => ?_) (fun h30 => ?_)
      · exact absurd h30 (by omega)
      · have h29' : h 29 k = zI (mb (sit σ p) k) := by rw [e0 29 (by omega) (by omega) (by omega) (by omega)]; exact h29 k (by omega)
        refine wp_aload_n d_PH_foresee_33 rfl ?_
        refine wp_getR d_PH_foresee_34 f_PH_29 (by decide) rfl rfl ?_
        refine wp_iload_n d_PH_foresee_37 rfl ?_
        refine wp_aload_n d_PH_foresee_38 rfl ?_
        refine wp_getR d_PH_foresee_39 f_PH_29 (by decide) rfl rfl ?_
        refine wp_iload_n d_PH_foresee_42 rfl ?_
        refine wp_iconst (v := zI 1) d_PH_foresee_43 rfl ?_
        refine wz_iadd d_PH_foresee_44 ?_
        refine wz_iald ((e2 (k + 1) (by omega) (by omega))) (rfl) ((by omega)) d_PH_foresee_45 (by decide) rfl (by decide) ?_
        refine wp_aload_n d_PH_foresee_46 rfl ?_
        refine wp_aload_n d_PH_foresee_47 rfl ?_
        refine wp_getR d_PH_foresee_48 f_PH_19 (by decide) rfl rfl ?_
        refine wp_iload_n d_PH_foresee_51 rfl ?_
        refine wz_iald (h29') (rfl) ((by omega)) d_PH_foresee_52 (by decide) rfl (by decide) ?_
        refine wp_callV (ct_PH_leastAlone (i := k) ok hp' hv' hpp (by omega) (by rw [e0 28 (by omega) (by omega) (by omega) (by omega)]; exact h6) e1) d_PH_foresee_53 k_PH_79 (by decide) rfl rfl rfl rfl (Nat.le_of_ble_eq_true rfl) (by omega) ?_
        rintro _ h2 _ ⟨rfl, rfl, e3, e4⟩
        refine wz_iadd d_PH_foresee_56 ?_
        refine wp_iload_n d_PH_foresee_57 rfl ?_
        refine wz_isub d_PH_foresee_58 ?_
        refine wz_iast (rfl) ((by omega)) d_PH_foresee_59 (by decide) rfl (by decide) ?_
        refine wz_iinc (lv' := [_, _, _]) d_PH_foresee_60 rfl (by decide) rfl ?_
        refine wp_goto (tgt := 29) d_PH_foresee_63 (by decide) ?_
        refine ih (by omega) _ (fun c h1 h2 h3 h4 => by rw [setI_ne _ _ _ h4, e3 c h1 h2 h3, e0 c h1 h2 h3 h4]) (fun j hj => rd1 (by decide) (e4 j hj)) (fun i h1 h2 => ?_)
        by_cases q : i = k
        · subst q
          refine rdA ?_
          rw [show nS σ p - i = (nS σ p - (i + 1)) + 1 by omega, tc]
        · refine rdS q ?_
          rw [e3 32 (by omega) (by omega) (by omega)]
          exact e2 i (by omega) h2
  refine ct_intro (lv := [_, _, _]) (by decide +kernel) (Nat.le_of_ble_eq_true rfl) rfl ?_
  refine wp_aload_n d_PH_foresee_0 rfl ?_
  refine wp_getR d_PH_foresee_1 f_PH_15 (by decide) rfl rfl ?_
  refine wp_aload_n d_PH_foresee_4 rfl ?_
  refine wz_getI (h6) d_PH_foresee_5 f_PH_43 (by decide) rfl rfl ?_
  refine wp_callV (ct_MA_blow (p := p) (w := fun _ => (forS σ (sit σ p) : Int)) ok hp hv hpp hw (fun j _ => by have := forS_b ok (sit σ p); omega)) d_PH_foresee_8 k_PH_76 (by decide) rfl rfl rfl rfl (Nat.le_of_ble_eq_true rfl) (by omega) ?_
  rintro _ h2 _ ⟨rfl, rfl, e2, -, -⟩
  refine wp_istore_n (lv' := [_, _, _]) d_PH_foresee_11 (by decide) rfl ?_
  refine wp_aload_n d_PH_foresee_12 rfl ?_
  refine wp_getR d_PH_foresee_13 f_PH_29 (by decide) rfl rfl ?_
  refine wp_aload_n d_PH_foresee_16 rfl ?_
  refine wz_getI ((by rw [e2 28 (by omega) (by omega)]; exact h7)) d_PH_foresee_17 f_PH_70 (by decide) rfl rfl ?_
  refine wp_iconst (v := zI 0) d_PH_foresee_20 rfl ?_
  refine wz_iast (rfl) ((by omega)) d_PH_foresee_21 (by decide) rfl (by decide) ?_
  refine wp_aload_n d_PH_foresee_22 rfl ?_
  refine wz_getI ((rd1 (by decide) (by rw [e2 28 (by omega) (by omega)]; exact h7))) d_PH_foresee_23 f_PH_70 (by decide) rfl rfl ?_
  refine wp_iconst (v := zI 1) d_PH_foresee_26 rfl ?_
  refine wz_isub d_PH_foresee_27 ?_
  refine wp_istore_n (lv' := [_, _, _]) d_PH_foresee_28 (by decide) rfl ?_
  refine loop (nS σ p) (Nat.le_refl _) _ (fun c h1 h2 h3 h4 => by rw [setI_ne _ _ _ h4, e2 c h2 h3]) (fun j hj => rd1 (by decide) (by rw [e2 25 (by omega) (by omega)]; exact hw j hj)) (fun i h1 h2 => ?_)
  rw [show i = nS σ p by omega, Nat.sub_self]
  exact rdA rfl
theorem ct_PH_settle {n : Nat} {x : Int32} {f : Nat → Int} (d : Nat) (h4 : n ≤ 4) (h7 : hi 28 7 = zI n) (ht : ∀ i, i < n → hi 30 i = zI (f i)) : Ct M_PH_settle d [.ref 28, .int x] hi hl (fun r hi' hl' => r = none ∧ hl = hl' ∧ (∀ c, c ≠ 28 → c ≠ 31 → hi' c = hi c) ∧ (∀ f, f ≠ 8 → hi' 28 f = hi 28 f) ∧ hi' 28 8 = x ∧ ∀ i, i < n → hi' 31 i = zI (f i)) := by
  have loop : ∀ k i : Nat, i + k = n → ∀ h : HI, (∀ c, c ≠ 28 → c ≠ 31 → h c = hi c) → (∀ f, f ≠ 8 → h 28 f = hi 28 f) → h 28 8 = x → (∀ a, a < i → h 31 a = zI (f a)) →
      Wp M_PH_settle d (fun r hi' hl' => r = none ∧ hl = hl' ∧ (∀ c, c ≠ 28 → c ≠ 31 → hi' c = hi c) ∧ (∀ f, f ≠ 8 → hi' 28 f = hi 28 f) ∧ hi' 28 8 = x ∧ ∀ i, i < n → hi' 31 i = zI (f i)) 7 [some (.ref 28), some (.int x), some (.int (zI i))] [] h hl := by
    intro k
    induction k with
    | zero =>
      intro i hik h e0 e1 e2 e3
      refine wp_iload_n d_PH_settle_7 rfl ?_
      refine wp_aload_n d_PH_settle_8 rfl ?_
      refine wz_getI ((by rw [e1 7 (by omega)]; exact h7)) d_PH_settle_9 f_PH_70 (by decide) rfl rfl ?_
      refine wz_icmp_ge (tgt := 33) d_PH_settle_12 (by decide) (by omega) (by omega) (fun h12 => ?_) (fun h12 => ?_)
      · exact wp_vret d_PH_settle_33 rfl (⟨rfl, rfl, e0, e1, e2, fun a ha => e3 a (by omega)⟩)
      · exact absurd h12 (by omega)
    | succ k ih =>
      intro i hik h e0 e1 e2 e3
      refine wp_iload_n d_PH_settle_7 rfl ?_
      refine wp_aload_n d_PH_settle_8 rfl ?_
      refine wz_getI ((by rw [e1 7 (by omega)]; exact h7)) d_PH_settle_9 f_PH_70 (by decide) rfl rfl ?_
      refine wz_icmp_ge (tgt := 33) d_PH_settle_12 (by decide) (by omega) (by omega) (fun h12 => ?_) (fun h12 => ?_)
      · exact absurd h12 (by omega)
      · have h30' : h 30 i = zI (f i) := by rw [e0 30 (by omega) (by omega)]; exact ht i (by omega)
        refine wp_aload_n d_PH_settle_15 rfl ?_
        refine wp_getR d_PH_settle_16 f_PH_26 (by decide) rfl rfl ?_
        refine wp_iload_n d_PH_settle_19 rfl ?_
        refine wp_aload_n d_PH_settle_20 rfl ?_
        refine wp_getR d_PH_settle_21 f_PH_23 (by decide) rfl rfl ?_
        refine wp_iload_n d_PH_settle_24 rfl ?_
        refine wz_iald (h30') (rfl) ((by omega)) d_PH_settle_25 (by decide) rfl (by decide) ?_
        refine wz_iast (rfl) ((by omega)) d_PH_settle_26 (by decide) rfl (by decide) ?_
        refine wz_iinc (lv' := [_, _, _]) d_PH_settle_27 rfl (by decide) rfl ?_
        refine wp_goto (tgt := 7) d_PH_settle_30 (by decide) ?_
        refine ih (i + 1) (by omega) _ (fun c h1 h2 => by rw [setI_ne _ _ _ h2, e0 c h1 h2]) (fun f hf => rd1 (by decide) (e1 f hf)) (rd1 (by decide) e2) (fun a ha => ?_)
        by_cases q : a = i
        · subst q; exact rdA rfl
        · exact rdS q (e3 a (by omega))
  refine ct_intro (lv := [_, _, _]) (by decide +kernel) (Nat.le_of_ble_eq_true rfl) rfl ?_
  refine wp_aload_n d_PH_settle_0 rfl ?_
  refine wp_iload_n d_PH_settle_1 rfl ?_
  refine wp_putI d_PH_settle_2 f_PH_63 pk_PH_8 (by decide) rfl rfl ?_
  refine wp_iconst (v := zI 0) d_PH_settle_5 rfl ?_
  refine wp_istore_n (lv' := [_, _, _]) d_PH_settle_6 (by decide) rfl ?_
  exact loop n 0 (by omega) _ (fun c h1 h2 => by rw [setI_ne _ _ _ h1]) (fun f hf => rdS hf rfl) (rdA rfl) (fun a ha => absurd ha (by omega))
end PHC
