/-! PHASES: the class's answers, and the reference's way -/
def r_phases (σ : SG) (a : Int) : Int := if inP σ a then (if nS σ a.toNat ≤ 4 then (bw σ a.toNat).1 else -3) else -1
def r_phaseAt (σ : SG) (a b : Int) : Int := if inP σ a then (if nS σ a.toNat ≤ 4 then (if 0 ≤ b ∧ b < nS σ a.toNat then (dg σ a.toNat b.toNat (bw σ a.toNat).2 : Int) else -9) else -3) else -1
section PHP
variable {σ : SG} {hi : HI} {hl : HL} {p : Nat} {a b : Int}
theorem cx_phases (ok : Ok σ) (hA : AX σ hi) (ha : inR a) : Ct M_BB_phases 9 [.ref 0, .int (zI a)] hi hl (pX σ (zI (r_phases σ a)) hi) := by
  have hn := ok.nums
  refine ct_intro (lv := [_, _]) (by decide +kernel) (Nat.le_of_ble_eq_true rfl) rfl ?_
  refine wp_aload_n d_BB_phases_0 rfl ?_
  refine wp_getR d_BB_phases_1 f_BB_19 (by decide) rfl rfl ?_
  refine wp_iload_n d_BB_phases_4 rfl ?_
  refine wp_callV (ct_PI_has (z := a) 0 ok hA.2.1 ha) d_BB_phases_5 k_BB_104 (by decide) rfl rfl rfl rfl (Nat.le_of_ble_eq_true rfl) (by omega) ?_
  rintro _ _ _ ⟨rfl, rfl, rfl⟩
  refine wz_if_neB (tgt := 13) d_BB_phases_8 (by decide) (fun h8 => ?_) (fun h8 => ?_)
  · obtain ⟨p, rfl, hpp⟩ := toN h8
    refine wp_aload_n d_BB_phases_13 rfl ?_
    refine wp_getR d_BB_phases_14 f_BB_44 (by decide) rfl rfl ?_
    refine wp_iload_n d_BB_phases_17 rfl ?_
    refine wp_callV (ct_PH_find (p := p) ok hA hpp) d_BB_phases_18 k_BB_173 (by decide) rfl rfl rfl rfl (Nat.le_of_ble_eq_true rfl) (by omega) ?_
    rintro _ h2 _ ⟨rfl, rfl, e2, f2⟩
    have hA2 : AX σ h2 := hA.keep (fun c hc => e2 c (by omega))
    refine wz_if_eqB (tgt := 34) d_BB_phases_21 (by decide) (fun h21 => ?_) (fun h21 => ?_)
    · refine wp_bipush (v := zI (-3)) d_BB_phases_34 rfl ?_
      exact wp_iret d_BB_phases_36 (Or.inl rfl) (⟨by rw [r_phases, if_pos h8, nC, if_neg h21], hA2, fun c hc => e2 c (by omega)⟩)
    · refine wp_aload_n d_BB_phases_24 rfl ?_
      refine wp_getR d_BB_phases_25 f_BB_44 (by decide) rfl rfl ?_
      refine wz_getI ((f2 h21).2.1) d_BB_phases_28 f_BB_176 (by decide) rfl rfl ?_
      refine wp_goto (tgt := 36) d_BB_phases_31 (by decide) ?_
      exact wp_iret d_BB_phases_36 (Or.inl rfl) (⟨by rw [r_phases, if_pos h8, nC, if_pos h21], hA2, fun c hc => e2 c (by omega)⟩)
  · refine wp_iconst (v := zI (-1)) d_BB_phases_11 rfl ?_
    exact wp_iret d_BB_phases_12 (Or.inl rfl) (pX_of hA (by rw [r_phases, if_neg h8]))
theorem ct_PH_phaseOf {n : Nat} {f : Nat → Int} (d : Nat) (hn : n ≤ 4) (h7 : hi 28 7 = zI n) (hf : ∀ i, i < n → hi 31 i = zI (f i)) (hb : inR b) : Ct M_PH_phaseOf d [.ref 28, .int (zI b)] hi hl (ans (zI (if 0 ≤ b ∧ b < n then f b.toNat else -9)) hi hl) := by
  refine ct_intro (lv := [_, _]) (by decide +kernel) (Nat.le_of_ble_eq_true rfl) rfl ?_
  refine wp_iload_n d_PH_phaseOf_0 rfl ?_
  refine wz_if_lt (tgt := 21) d_PH_phaseOf_1 (by decide) (by omega) (fun h1 => ?_) (fun h1 => ?_)
  · refine wp_bipush (v := zI (-9)) d_PH_phaseOf_21 rfl ?_
    exact wp_iret d_PH_phaseOf_23 (Or.inl rfl) (ans_of (by rw [if_neg (by omega)]))
  · refine wp_iload_n d_PH_phaseOf_4 rfl ?_
    refine wp_aload_n d_PH_phaseOf_5 rfl ?_
    refine wz_getI (h7) d_PH_phaseOf_6 f_PH_70 (by decide) rfl rfl ?_
    refine wz_icmp_ge (tgt := 21) d_PH_phaseOf_9 (by decide) (by omega) (by omega) (fun h9 => ?_) (fun h9 => ?_)
    · refine wp_bipush (v := zI (-9)) d_PH_phaseOf_21 rfl ?_
      exact wp_iret d_PH_phaseOf_23 (Or.inl rfl) (ans_of (by rw [if_neg (by omega)]))
    · obtain ⟨i, rfl, hi'⟩ := toN (show 0 ≤ b ∧ b < n from ⟨h1, h9⟩)
      refine wp_aload_n d_PH_phaseOf_12 rfl ?_
      refine wp_getR d_PH_phaseOf_13 f_PH_26 (by decide) rfl rfl ?_
      refine wp_iload_n d_PH_phaseOf_16 rfl ?_
      refine wz_iald ((hf i hi')) (rfl) ((by omega)) d_PH_phaseOf_17 (by decide) rfl (by decide) ?_
      refine wp_goto (tgt := 23) d_PH_phaseOf_18 (by decide) ?_
      exact wp_iret d_PH_phaseOf_23 (Or.inl rfl) (ans_of (by rw [if_pos (by omega), nC]))
theorem cx_phaseAt (ok : Ok σ) (hA : AX σ hi) (ha : inR a) (hb : inR b) : Ct M_BB_phaseAt 9 [.ref 0, .int (zI a), .int (zI b)] hi hl (pX σ (zI (r_phaseAt σ a b)) hi) := by
  have hn := ok.nums
  refine ct_intro (lv := [_, _, _]) (by decide +kernel) (Nat.le_of_ble_eq_true rfl) rfl ?_
  refine wp_aload_n d_BB_phaseAt_0 rfl ?_
  refine wp_getR d_BB_phaseAt_1 f_BB_19 (by decide) rfl rfl ?_
  refine wp_iload_n d_BB_phaseAt_4 rfl ?_
  refine wp_callV (ct_PI_has (z := a) 0 ok hA.2.1 ha) d_BB_phaseAt_5 k_BB_104 (by decide) rfl rfl rfl rfl (Nat.le_of_ble_eq_true rfl) (by omega) ?_
  rintro _ _ _ ⟨rfl, rfl, rfl⟩
  refine wz_if_neB (tgt := 13) d_BB_phaseAt_8 (by decide) (fun h8 => ?_) (fun h8 => ?_)
  · obtain ⟨p, rfl, hpp⟩ := toN h8
    refine wp_aload_n d_BB_phaseAt_13 rfl ?_
    refine wp_getR d_BB_phaseAt_14 f_BB_44 (by decide) rfl rfl ?_
    refine wp_iload_n d_BB_phaseAt_17 rfl ?_
    refine wp_callV (ct_PH_find (p := p) ok hA hpp) d_BB_phaseAt_18 k_BB_173 (by decide) rfl rfl rfl rfl (Nat.le_of_ble_eq_true rfl) (by omega) ?_
    rintro _ h2 _ ⟨rfl, rfl, e2, f2⟩
    have hA2 : AX σ h2 := hA.keep (fun c hc => e2 c (by omega))
    refine wz_if_neB (tgt := 27) d_BB_phaseAt_21 (by decide) (fun h21 => ?_) (fun h21 => ?_)
    · obtain ⟨g7, g8, g31⟩ := f2 h21
      refine wp_aload_n d_BB_phaseAt_27 rfl ?_
      refine wp_getR d_BB_phaseAt_28 f_BB_44 (by decide) rfl rfl ?_
      refine wp_iload_n d_BB_phaseAt_31 rfl ?_
      refine wp_callV (ct_PH_phaseOf (n := nS σ p) (f := fun i => (dg σ p i (bw σ p).2 : Int)) (b := b) 0 h21 g7 g31 hb) d_BB_phaseAt_32 k_BB_179 (by decide) rfl rfl rfl rfl (Nat.le_of_ble_eq_true rfl) (by omega) ?_
      rintro _ _ _ ⟨rfl, rfl, rfl⟩
      exact wp_iret d_BB_phaseAt_35 (Or.inl rfl) (⟨by rw [r_phaseAt, if_pos h8, nC, if_pos h21], hA2, fun c hc => e2 c (by omega)⟩)
    · refine wp_bipush (v := zI (-3)) d_BB_phaseAt_24 rfl ?_
      exact wp_iret d_BB_phaseAt_26 (Or.inl rfl) (⟨by rw [r_phaseAt, if_pos h8, nC, if_neg h21], hA2, fun c hc => e2 c (by omega)⟩)
  · refine wp_iconst (v := zI (-1)) d_BB_phaseAt_11 rfl ?_
    exact wp_iret d_BB_phaseAt_12 (Or.inl rfl) (pX_of hA (by rw [r_phaseAt, if_neg h8]))
/-! the reference -/
theorem ct_MO_ones {set : Nat} (d : Nat) (hs : set < 4096) : Ct M_MO_ones d [.int (zI set)] hi hl (ans (zI (cnt set 12)) hi hl) := by
  have loop : ∀ k i : Nat, i + k = 12 → Wp M_MO_ones d (ans (zI (cnt set 12)) hi hl) 4 [some (.int (zI set)), some (.int (zI (cnt set i))), some (.int (zI i))] [] hi hl := by
    intro k
    induction k with
    | zero =>
      intro i hik
      refine wp_iload_n d_MO_ones_4 rfl ?_
      refine wp_bipush (v := zI 12) d_MO_ones_5 rfl ?_
      refine wz_icmp_ge (tgt := 24) d_MO_ones_7 (by decide) (by omega) (by omega) (fun h7 => ?_) (fun h7 => ?_)
      · refine wp_iload_n d_MO_ones_24 rfl ?_
        exact wp_iret d_MO_ones_25 (Or.inl rfl) (ans_of (by rw [show i = 12 by omega]))
      · exact absurd h7 (by omega)
    | succ k ih =>
      intro i hik
      refine wp_iload_n d_MO_ones_4 rfl ?_
      refine wp_bipush (v := zI 12) d_MO_ones_5 rfl ?_
      refine wz_icmp_ge (tgt := 24) d_MO_ones_7 (by decide) (by omega) (by omega) (fun h7 => ?_) (fun h7 => ?_)
      · exact absurd h7 (by omega)
      · refine wp_iload_n d_MO_ones_10 rfl ?_
        refine wp_iload_n d_MO_ones_11 rfl ?_
        refine wp_iload_n d_MO_ones_12 rfl ?_
        refine wp_ishr d_MO_ones_13 ?_
        refine wp_iconst (v := zI 1) d_MO_ones_14 rfl ?_
        refine wp_iand d_MO_ones_15 ?_
        rw [zI_bit (by omega) (by omega)]
        have e : bI (set.testBit i = true) = zI ((if set.testBit i = true then 1 else 0 : Nat) : Int) := by
          by_cases q : set.testBit i = true
          · rw [bI_t q, if_pos q]; rfl
          · rw [bI_f q, if_neg q]; rfl
        rw [e]
        refine wz_iadd d_MO_ones_16 ?_
        refine wp_istore_n (lv' := [_, _, _]) d_MO_ones_17 (by decide) rfl ?_
        refine wz_iinc (lv' := [_, _, _]) d_MO_ones_18 rfl (by decide) rfl ?_
        refine wp_goto (tgt := 4) d_MO_ones_21 (by decide) ?_
        have ih' := ih (i + 1) (by omega)
        rw [cnt, Int.natCast_add] at ih'
        exact ih'
  refine ct_intro (lv := [_, _, _]) (by decide +kernel) (Nat.le_of_ble_eq_true rfl) rfl ?_
  refine wp_iconst (v := zI 0) d_MO_ones_0 rfl ?_
  refine wp_istore_n (lv' := [_, _, _]) d_MO_ones_1 (by decide) rfl ?_
  refine wp_iconst (v := zI 0) d_MO_ones_2 rfl ?_
  refine wp_istore_n (lv' := [_, _, _]) d_MO_ones_3 (by decide) rfl ?_
  exact loop 12 0 (by omega)
theorem ct_MO_member {set i : Nat} (d : Nat) (hs : set < 4096) (hin : i < cnt set 12) : Ct M_MO_member d [.int (zI set), .int (zI i)] hi hl (ans (zI (mb set i)) hi hl) := by
  obtain ⟨hM1, hM2, hM3⟩ := mb_spec hin
  have hi12 : i < 12 := by have := cnt_n set 12; omega
  have loop : ∀ k m : Nat, m + k = mb set i → Wp M_MO_member d (ans (zI (mb set i)) hi hl) 4 [some (.int (zI set)), some (.int (zI i)), some (.int (zI ((i : Int) - cnt set m))), some (.int (zI m))] [] hi hl := by
    intro k
    induction k with
    | zero =>
      intro m hmk
      have e : m = mb set i := by omega
      rw [e, hM3]
      refine wp_iload_n d_MO_member_4 rfl ?_
      refine wp_iload_n d_MO_member_5 rfl ?_
      refine wp_ishr d_MO_member_6 ?_
      refine wp_iconst (v := zI 1) d_MO_member_7 rfl ?_
      refine wp_iand d_MO_member_8 ?_
      rw [zI_bit (by omega) (by omega)]
      refine wz_if_eqB (tgt := 16) d_MO_member_9 (by decide) (fun h9 => ?_) (fun h9 => ?_)
      · exact absurd hM2 h9
      · refine wp_iload_n d_MO_member_12 rfl ?_
        refine wz_if_le (tgt := 30) d_MO_member_13 (by decide) (by omega) (fun h13 => ?_) (fun h13 => ?_)
        · refine wp_iload_n d_MO_member_30 rfl ?_
          exact wp_iret d_MO_member_31 (Or.inl rfl) (ans_of rfl)
        · exact absurd h13 (by omega)
    | succ k ih =>
      intro m hmk
      have hlt : m < mb set i := by omega
      have hc : cnt set (m + 1) ≤ i := by
        have := cnt_le set (show m + 1 ≤ mb set i by omega)
        omega
      have hc2 : cnt set m ≤ cnt set (m + 1) := cnt_le set (by omega)
      have e : bI (set.testBit m = true) = zI ((if set.testBit m = true then 1 else 0 : Nat) : Int) := by
        by_cases q : set.testBit m = true
        · rw [bI_t q, if_pos q]; rfl
        · rw [bI_f q, if_neg q]; rfl
      have tail : Wp M_MO_member d (ans (zI (mb set i)) hi hl) 16 [some (.int (zI set)), some (.int (zI i)), some (.int (zI ((i : Int) - cnt set m))), some (.int (zI m))] [] hi hl := by
        refine wp_iload_n d_MO_member_16 rfl ?_
        refine wp_iload_n d_MO_member_17 rfl ?_
        refine wp_iload_n d_MO_member_18 rfl ?_
        refine wp_ishr d_MO_member_19 ?_
        refine wp_iconst (v := zI 1) d_MO_member_20 rfl ?_
        refine wp_iand d_MO_member_21 ?_
        rw [zI_bit (by omega) (by omega), e]
        refine wz_isub d_MO_member_22 ?_
        refine wp_istore_n (lv' := [_, _, _, _]) d_MO_member_23 (by decide) rfl ?_
        refine wz_iinc (lv' := [_, _, _, _]) d_MO_member_24 rfl (by decide) rfl ?_
        refine wp_goto (tgt := 4) d_MO_member_27 (by decide) ?_
        have ih' := ih (m + 1) (by omega)
        rw [cnt, Int.natCast_add, show (i : Int) - ((cnt set m : Int) + ((if set.testBit m = true then 1 else 0 : Nat) : Int)) = (i : Int) - cnt set m - ((if set.testBit m = true then 1 else 0 : Nat) : Int) by omega] at ih'
        exact ih'
      refine wp_iload_n d_MO_member_4 rfl ?_
      refine wp_iload_n d_MO_member_5 rfl ?_
      refine wp_ishr d_MO_member_6 ?_
      refine wp_iconst (v := zI 1) d_MO_member_7 rfl ?_
      refine wp_iand d_MO_member_8 ?_
      rw [zI_bit (by omega) (by omega)]
      refine wz_if_eqB (tgt := 16) d_MO_member_9 (by decide) (fun h9 => ?_) (fun h9 => ?_)
      · exact tail
      · refine wp_iload_n d_MO_member_12 rfl ?_
        refine wz_if_le (tgt := 30) d_MO_member_13 (by decide) (by omega) (fun h13 => ?_) (fun h13 => ?_)
        · exfalso
          rw [cnt, if_pos h9] at hc
          omega
        · exact tail
  refine ct_intro (lv := [_, _, _, _]) (by decide +kernel) (Nat.le_of_ble_eq_true rfl) rfl ?_
  refine wp_iload_n d_MO_member_0 rfl ?_
  refine wp_istore_n (lv' := [_, _, _, _]) d_MO_member_1 (by decide) rfl ?_
  refine wp_iconst (v := zI 0) d_MO_member_2 rfl ?_
  refine wp_istore_n (lv' := [_, _, _, _]) d_MO_member_3 (by decide) rfl ?_
  have e : zI (i : Int) = zI ((i : Int) - cnt set 0) := by rw [cnt]; simp
  refine wz_lv (lv' := [some (.int (zI set)), some (.int (zI i)), some (.int (zI ((i : Int) - cnt set 0))), some (.int (zI ((0 : Nat) : Int)))]) (by rw [← e]; rfl) ?_
  exact loop (mb set i) 0 (by omega)
/-- the organ with the phases of the way v at the pipe p -/
def psi (σ : SG) (p v : Nat) : SG := fun f m => if f = 6 ∧ (sit σ p).testBit m = true then dg σ p (cnt (sit σ p) m) v else σ f m
theorem psi_ph {v m : Nat} : ph (psi σ p v) m = if (sit σ p).testBit m = true then dg σ p (cnt (sit σ p) m) v else ph σ m := by
  unfold ph psi
  by_cases h : (sit σ p).testBit m = true
  · rw [if_pos ⟨rfl, h⟩, if_pos h]
  · rw [if_neg (fun q => h q.2), if_neg h]
theorem bit12 (ok : Ok σ) {m : Nat} (h : (sit σ p).testBit m = true) : m < 12 := by
  have := ((sit_bit σ p m).mp h).1
  have := ok.nums
  omega
theorem psi_kf (s f m v : Nat) : kf (psi σ p v) s f m = kf σ s f m := by
  unfold kf psi
  rw [if_neg (fun q => by have := q.1; omega)]
theorem Ok_psi (ok : Ok σ) (v : Nat) : Ok (psi σ p v) := by
  refine ⟨ok.1, ok.2.1, ok.2.2.1, fun m hm => ?_, ok.2.2.2.2.1, fun s hs => ⟨(ok.2.2.2.2.2 s hs).1, fun hk => ⟨((ok.2.2.2.2.2 s hs).2 hk).1, ((ok.2.2.2.2.2 s hs).2 hk).2.1, fun m hm => by rw [psi_kf, psi_kf, psi_kf, psi_kf, psi_kf]; exact ((ok.2.2.2.2.2 s hs).2 hk).2.2 m hm⟩⟩⟩
  have h := ok.m (show m < nM σ from hm)
  refine ⟨h.1, h.2.1, h.2.2.1, h.2.2.2.1, h.2.2.2.2.1, ?_, h.2.2.2.2.2.2⟩
  rw [psi_ph]
  by_cases q : (sit σ p).testBit m = true
  · rw [if_pos q]
    have e := dig_le σ (sit σ p) (nS σ p) (cnt (sit σ p) m) v
    rw [mb_at q (bit12 ok q)] at e
    exact e
  · rw [if_neg q]
    exact h.2.2.2.2.2.1
theorem AM_psi {h : HI} {v : Nat} (hA : AM σ hi) (e0 : ∀ f, 9 ≤ f → f ≤ 15 → h 41 f = hi 41 f) (e : ∀ c, (45 ≤ c ∧ c ≤ 48 ∧ c ≠ 46) ∨ 58 ≤ c → h c = hi c) (e1 : ∀ k, (∀ m, (sit σ p).testBit m = true → k ≠ 5 * m + 3) → h 46 k = hi 46 k) (e2 : ∀ m, (sit σ p).testBit m = true → h 46 (5 * m + 3) = zI (dg σ p (cnt (sit σ p) m) v)) : AM (psi σ p v) h := by
  have q1 : ∀ m, h 46 (5 * m) = hi 46 (5 * m) := fun m => e1 _ (fun _ _ => by omega)
  have q2 : ∀ m, h 46 (5 * m + 1) = hi 46 (5 * m + 1) := fun m => e1 _ (fun _ _ => by omega)
  have q3 : ∀ m, h 46 (5 * m + 2) = hi 46 (5 * m + 2) := fun m => e1 _ (fun _ _ => by omega)
  have q5 : ∀ m, h 46 (5 * m + 4) = hi 46 (5 * m + 4) := fun m => e1 _ (fun _ _ => by omega)
  refine ⟨⟨(e0 10 (by omega) (by omega)).trans hA.n, (e0 12 (by omega) (by omega)).trans hA.late, (e0 13 (by omega) (by omega)).trans hA.room, fun m hm => (q1 m).trans (hA.lu hm), fun m hm => (q2 m).trans (hA.fo hm), fun m hm => (q3 m).trans (hA.pl hm), fun m hm => ?_, fun m hm => (q5 m).trans (hA.br hm)⟩, ⟨(e0 9 (by omega) (by omega)).trans hA.np, (e0 11 (by omega) (by omega)).trans hA.nb, fun p hp => ?_, fun j hj => ?_⟩, ⟨(e0 15 (by omega) (by omega)).trans hA.tl, fun i hi' => ?_⟩, ?_⟩
  · rw [psi_ph]
    by_cases q : (sit σ p).testBit m = true
    · rw [if_pos q, e2 m q]
    · rw [if_neg q, e1 _ (fun m' hm' => by rintro z; exact q (by rw [show m = m' by omega]; exact hm'))]
      exact hA.ph hm
  · rw [e 45 (by omega)]; exact hA.dr hp
  · rw [e 47 (by omega)]; exact hA.sn hj
  · rw [e 48 (by omega)]; exact hA.2.2.1.2 i hi'
  · have h4 := hA.2.2.2
    intro s hs
    rw [e 58 (by omega), e 59 (by omega), e 60 (by omega)]
    exact ⟨(h4 s hs).1, fun hk => ⟨((h4 s hs).2 hk).1, ((h4 s hs).2 hk).2.1, fun m hm f hf => by rw [psi_kf]; exact ((h4 s hs).2 hk).2.2 m hm f hf⟩⟩
theorem gv_psi {v m t : Nat} (hb : (sit σ p).testBit m = true) (j : Nat) : (gv (psi σ p v) m (j + lt σ) : Int) = (fo σ m : Int) - (if (j + lt σ + dg σ p (cnt (sit σ p) m) v) % (lu σ m + 1) = lu σ m ∧ br σ m = 0 then (fo σ m : Int) else 0) := by
  have e1 : gv (psi σ p v) m (j + lt σ) = if (j + lt σ + ph (psi σ p v) m) % (lu σ m + 1) = lu σ m ∧ br σ m = 0 then 0 else fo σ m := rfl
  rw [e1, psi_ph, if_pos hb]
  split <;> simp
theorem air_psi (v j : Nat) : ∀ N, (airN (psi σ p v) (sit σ p) (lt σ) j N : Int) = (forN σ (sit σ p) N : Int) - smf (fun m => if (sit σ p).testBit m = true then (if (j + lt σ + dg σ p (cnt (sit σ p) m) v) % (lu σ m + 1) = lu σ m ∧ br σ m = 0 then (fo σ m : Int) else 0) else 0) N
  | 0 => rfl
  | N + 1 => by
    have ih := air_psi v j N
    rw [airN, forN, smf]
    by_cases hb : (sit σ p).testBit N = true
    · have h := gv_psi (t := 0) (v := v) hb j
      rw [if_pos hb, if_pos hb, if_pos hb]
      omega
    · rw [if_neg hb, if_neg hb, if_neg hb]
      omega
theorem sag_psi (ok : Ok σ) (v : Nat) : sag (psi σ p v) p (sit σ p) (lt (psi σ p v)) = VV σ p v := by
  have e : sag (psi σ p v) p (sit σ p) (lt (psi σ p v)) = smA (rm σ) (dnS σ p) (wnd (psi σ p v) (sit σ p) (lt σ)) (nB σ) := rfl
  rw [e, VV, FF]
  refine smA_cong _ (fun j _ => ?_)
  have e2 : wnd (psi σ p v) (sit σ p) (lt σ) j = (airN (psi σ p v) (sit σ p) (lt σ) j (nM σ) : Int) := rfl
  rw [e2, air_psi, smf_bits (sit σ p) (fun m => if (j + lt σ + dg σ p (cnt (sit σ p) m) v) % (lu σ m + 1) = lu σ m ∧ br σ m = 0 then (fo σ m : Int) else 0) (nM σ) ok.nums.2.2.1, cnt_sit ok p]
  unfold WW forS
  congr 1
  refine smf_cong _ (fun i hi => ?_)
  have h := (mb_spec (show i < cnt (sit σ p) 12 from hi)).2.2
  show (if (j + lt σ + dg σ p (cnt (sit σ p) (mb (sit σ p) i)) v) % (lu σ (mb (sit σ p) i) + 1) = lu σ (mb (sit σ p) i) ∧ br σ (mb (sit σ p) i) = 0 then (fo σ (mb (sit σ p) i) : Int) else 0) = dl σ (sit σ p) i (dg σ p i v) j
  rw [h, dl]
theorem RR_le (ok : Ok σ) : ∀ q i, i + q ≤ nS σ p → RR σ (sit σ p) q i ≤ 10 ^ q
  | 0, _, _ => by simp [RR]
  | q + 1, i, h => by
    have h1 := RR_le ok q (i + 1) (by omega)
    have h2 := (ok.m (mb_sit ok (show i < nS σ p by omega)).1).2.1
    rw [RR, Nat.pow_succ, Nat.mul_comm (10 ^ q)]
    exact Nat.mul_le_mul (by unfold rx; omega) h1
end PHP
