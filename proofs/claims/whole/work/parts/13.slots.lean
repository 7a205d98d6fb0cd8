/-! The class's calls: slots; the text's bytes -/
def byt (v : Int64) (i : Nat) : Nat := (v >>> ((zI (8 * (i : Int))).toInt64 &&& 63)).toBitVec.toNat % 256
def wrt (σ : SG) (v : Int64) (n : Nat) : SG := fun f i => if f = 0 ∧ i = 5 then tl σ + n else if f = 8 ∧ tl σ ≤ i ∧ i < tl σ + n then byt v (n - 1 - (i - tl σ)) else σ f i
def r_write (σ : SG) (a : Int) : Int := if 1 ≤ a ∧ a ≤ 8 then (if (tl σ : Int) + a ≤ 104 then tl σ + a else -4) else -2
def sx_write (σ : SG) (a : Int) (v : Int64) : SG := if (1 ≤ a ∧ a ≤ 8) ∧ (tl σ : Int) + a ≤ 104 then wrt σ v a.toNat else σ
theorem byte_x (X : Int64) : X.toInt32.toInt8.toInt32 = zI (sgn8 (X.toBitVec.toNat % 256)) := by
  apply Int32.toInt_inj.mp
  have h1 : inR (sgn8 (X.toBitVec.toNat % 256)) := by
    unfold sgn8
    split <;> omega
  rw [zI_toInt h1, Int8.toInt_toInt32, Int32.toInt_toInt8, Int64.toInt_toInt32]
  have e : X.toInt = Int.bmod (X.toBitVec.toNat : Int) (2 ^ 64) := BitVec.toInt_eq_toNat_bmod X.toBitVec
  rw [e, Int.bmod_bmod_of_dvd (by decide), Int.bmod_bmod_of_dvd (by decide)]
  unfold sgn8 Int.bmod
  have h2 : (X.toBitVec.toNat : Int) % ((2 ^ 8 : Nat) : Int) = ((X.toBitVec.toNat % 256 : Nat) : Int) := by simp
  rw [h2]
  by_cases q : X.toBitVec.toNat % 256 < 128
  · rw [if_pos (by omega), if_pos q]
  · rw [if_neg (by omega), if_neg q]
    rfl
theorem byte_m (X : Int64) : (X &&& lZ 255).toInt32 = zI ((X.toBitVec.toNat % 256 : Nat) : Int) := by
  have e : X &&& lZ 255 = lN (X.toBitVec.toNat % 256) := by
    apply Int64.toBitVec_inj.mp
    apply BitVec.eq_of_toNat_eq
    show (X.toBitVec &&& (lZ 255).toBitVec).toNat = (BitVec.ofNat 64 (X.toBitVec.toNat % 256)).toNat
    rw [BitVec.toNat_and, show (lZ 255).toBitVec.toNat = 2 ^ 8 - 1 from by decide, Nat.and_two_pow_sub_one_eq_mod, BitVec.toNat_ofNat]
    exact (Nat.mod_eq_of_lt (show X.toBitVec.toNat % 256 < 2 ^ 64 by omega)).symm
  rw [e, lN_i, zI_nat]
theorem byt_lt (v : Int64) (i : Nat) : byt v i < 256 := Nat.mod_lt _ (by omega)
section SLOTS
variable {σ : SG} {hi : HI} {hl : HL} {a b : Int}
theorem Ok_kept (h : Ok σ) {s : Nat} (hs : s < 2) : Ok (kept σ s) := by
  obtain ⟨h0, h1, h2, h3, h4, h5⟩ := h
  rcases (show s = 0 ∨ s = 1 by omega) with rfl | rfl
  · refine ⟨h0, h1, h2, h3, h4, fun s' hs' => ?_⟩
    rcases (show s' = 0 ∨ s' = 1 by omega) with rfl | rfl
    · exact ⟨Nat.le_refl 1, fun _ => ⟨h0.2.2.2.2.1, h0.2.2.2.2.2.1, fun m hm => h3 m hm⟩⟩
    · exact h5 1 (by omega)
  · refine ⟨h0, h1, h2, h3, h4, fun s' hs' => ?_⟩
    rcases (show s' = 0 ∨ s' = 1 by omega) with rfl | rfl
    · exact h5 0 (by omega)
    · exact ⟨Nat.le_refl 1, fun _ => ⟨h0.2.2.2.2.1, h0.2.2.2.2.2.1, fun m hm => h3 m hm⟩⟩
theorem Ok_anew (h : Ok σ) {s : Nat} (hs : s < 2) (hk : kp σ s = 1) : Ok (anew σ s) := by
  obtain ⟨⟨b1, b2, b3, b4, b5, b6, b7⟩, h1, h2, h3, h4, h5⟩ := h
  obtain ⟨k1, k2⟩ := h5 s hs
  obtain ⟨k2, k3, k4⟩ := k2 hk
  rcases (show s = 0 ∨ s = 1 by omega) with rfl | rfl
  · exact ⟨⟨b1, b2, b3, b4, k2, k3, b7⟩, h1, h2, fun m hm => k4 m hm, h4, fun s' hs' => by rcases (show s' = 0 ∨ s' = 1 by omega) with rfl | rfl; exact h5 0 (by omega); exact h5 1 (by omega)⟩
  · exact ⟨⟨b1, b2, b3, b4, k2, k3, b7⟩, h1, h2, fun m hm => k4 m hm, h4, fun s' hs' => by rcases (show s' = 0 ∨ s' = 1 by omega) with rfl | rfl; exact h5 0 (by omega); exact h5 1 (by omega)⟩
theorem AX_kept0 {h : HI} (hA : AX σ hi) (e1 : ∀ f, f < 3 → h 12 f = hi 6 f) (e2 : ∀ m, m < nM σ → h 13 m = hi 7 m ∧ h 14 m = hi 8 m ∧ h 15 m = hi 9 m ∧ h 16 m = hi 10 m ∧ h 17 m = hi 11 m) (e3 : ∀ c, c < 12 ∨ 17 < c → c ≠ 40 → h c = hi c) (e4 : h 40 0 = zI 1) (e5 : h 40 1 = hi 40 1) : AX (kept σ 0) h := by
  obtain ⟨hp, hv, ht, hk⟩ := hA
  have p1 : PV σ h := hp.keep (fun c _ _ => e3 c (by omega) (by omega))
  have p2 : IV σ h := hv.keep (fun c _ _ => e3 c (by omega) (by omega))
  have p3 : TV σ h := ht.keep (by rw [e3 1 (by omega) (by omega)]) (e3 2 (by omega) (by omega))
  refine ⟨p1, p2, p3, fun s' hs' => ?_⟩
  rcases (show s' = 0 ∨ s' = 1 by omega) with rfl | rfl
  · refine ⟨e4, fun _ => ⟨(e1 0 (by omega)).trans hp.n, (e1 1 (by omega)).trans hp.late, (e1 2 (by omega)).trans hp.room, fun m hm => ?_⟩⟩
    obtain ⟨q1, q2, q3, q4, q5⟩ := e2 m hm
    exact ⟨q1.trans (hp.lu hm), q2.trans (hp.fo hm), q3.trans (hp.pl hm), q4.trans (hp.ph hm), q5.trans (hp.br hm)⟩
  · obtain ⟨r1, r2⟩ := hk 1 (by omega)
    refine ⟨e5.trans r1, fun hq => ?_⟩
    obtain ⟨r3, r4, r5, r6⟩ := r2 hq
    have g : ∀ c, 18 ≤ c → c ≤ 23 → h c = hi c := fun c _ _ => e3 c (by omega) (by omega)
    refine ⟨?_, ?_, ?_, fun m hm => ?_⟩
    · show h 18 0 = _
      rw [g 18 (by omega) (by omega)]; exact r3
    · show h 18 1 = _
      rw [g 18 (by omega) (by omega)]; exact r4
    · show h 18 2 = _
      rw [g 18 (by omega) (by omega)]; exact r5
    · show h 19 m = _ ∧ h 20 m = _ ∧ h 21 m = _ ∧ h 22 m = _ ∧ h 23 m = _
      rw [g 19 (by omega) (by omega), g 20 (by omega) (by omega), g 21 (by omega) (by omega), g 22 (by omega) (by omega), g 23 (by omega) (by omega)]
      exact r6 m hm
theorem AX_anew0 {h : HI} (hA : AX σ hi) (hkp : kp σ 0 = 1) (e1 : ∀ f, f < 3 → h 6 f = hi 12 f) (e2 : ∀ m, m < nM σ → h 7 m = hi 13 m ∧ h 8 m = hi 14 m ∧ h 9 m = hi 15 m ∧ h 10 m = hi 16 m ∧ h 11 m = hi 17 m) (e3 : ∀ c, c < 6 ∨ 11 < c → h c = hi c) : AX (anew σ 0) h := by
  obtain ⟨hp, hv, ht, hk⟩ := hA
  obtain ⟨r1, r2⟩ := hk 0 (by omega)
  obtain ⟨r3, r4, r5, r6⟩ := r2 hkp
  have p2 : IV σ h := hv.keep (fun c _ _ => e3 c (by omega))
  have p3 : TV σ h := ht.keep (by rw [e3 1 (by omega)]) (e3 2 (by omega))
  have p4 : KV σ h := hk.keep (fun c _ _ => e3 c (by omega)) (e3 40 (by omega))
  refine ⟨⟨(e1 0 (by omega)).trans r3, (e1 1 (by omega)).trans r4, (e1 2 (by omega)).trans r5, fun m hm => (e2 m hm).1.trans (r6 m hm).1, fun m hm => (e2 m hm).2.1.trans (r6 m hm).2.1, fun m hm => (e2 m hm).2.2.1.trans (r6 m hm).2.2.1, fun m hm => (e2 m hm).2.2.2.1.trans (r6 m hm).2.2.2.1, fun m hm => (e2 m hm).2.2.2.2.trans (r6 m hm).2.2.2.2⟩, p2, p3, fun s' hs' => ?_⟩
  rcases (show s' = 0 ∨ s' = 1 by omega) with rfl | rfl
  · exact p4 0 (by omega)
  · exact p4 1 (by omega)
theorem AX_kept1 {h : HI} (hA : AX σ hi) (e1 : ∀ f, f < 3 → h 18 f = hi 6 f) (e2 : ∀ m, m < nM σ → h 19 m = hi 7 m ∧ h 20 m = hi 8 m ∧ h 21 m = hi 9 m ∧ h 22 m = hi 10 m ∧ h 23 m = hi 11 m) (e3 : ∀ c, c < 18 ∨ 23 < c → c ≠ 40 → h c = hi c) (e4 : h 40 1 = zI 1) (e5 : h 40 0 = hi 40 0) : AX (kept σ 1) h := by
  obtain ⟨hp, hv, ht, hk⟩ := hA
  have p1 : PV σ h := hp.keep (fun c _ _ => e3 c (by omega) (by omega))
  have p2 : IV σ h := hv.keep (fun c _ _ => e3 c (by omega) (by omega))
  have p3 : TV σ h := ht.keep (by rw [e3 1 (by omega) (by omega)]) (e3 2 (by omega) (by omega))
  refine ⟨p1, p2, p3, fun s' hs' => ?_⟩
  rcases (show s' = 1 ∨ s' = 0 by omega) with rfl | rfl
  · refine ⟨e4, fun _ => ⟨(e1 0 (by omega)).trans hp.n, (e1 1 (by omega)).trans hp.late, (e1 2 (by omega)).trans hp.room, fun m hm => ?_⟩⟩
    obtain ⟨q1, q2, q3, q4, q5⟩ := e2 m hm
    exact ⟨q1.trans (hp.lu hm), q2.trans (hp.fo hm), q3.trans (hp.pl hm), q4.trans (hp.ph hm), q5.trans (hp.br hm)⟩
  · obtain ⟨r1, r2⟩ := hk 0 (by omega)
    refine ⟨e5.trans r1, fun hq => ?_⟩
    obtain ⟨r3, r4, r5, r6⟩ := r2 hq
    have g : ∀ c, 12 ≤ c → c ≤ 17 → h c = hi c := fun c _ _ => e3 c (by omega) (by omega)
    refine ⟨?_, ?_, ?_, fun m hm => ?_⟩
    · show h 12 0 = _
      rw [g 12 (by omega) (by omega)]; exact r3
    · show h 12 1 = _
      rw [g 12 (by omega) (by omega)]; exact r4
    · show h 12 2 = _
      rw [g 12 (by omega) (by omega)]; exact r5
    · show h 13 m = _ ∧ h 14 m = _ ∧ h 15 m = _ ∧ h 16 m = _ ∧ h 17 m = _
      rw [g 13 (by omega) (by omega), g 14 (by omega) (by omega), g 15 (by omega) (by omega), g 16 (by omega) (by omega), g 17 (by omega) (by omega)]
      exact r6 m hm
theorem AX_anew1 {h : HI} (hA : AX σ hi) (hkp : kp σ 1 = 1) (e1 : ∀ f, f < 3 → h 6 f = hi 18 f) (e2 : ∀ m, m < nM σ → h 7 m = hi 19 m ∧ h 8 m = hi 20 m ∧ h 9 m = hi 21 m ∧ h 10 m = hi 22 m ∧ h 11 m = hi 23 m) (e3 : ∀ c, c < 6 ∨ 11 < c → h c = hi c) : AX (anew σ 1) h := by
  obtain ⟨hp, hv, ht, hk⟩ := hA
  obtain ⟨r1, r2⟩ := hk 1 (by omega)
  obtain ⟨r3, r4, r5, r6⟩ := r2 hkp
  have p2 : IV σ h := hv.keep (fun c _ _ => e3 c (by omega))
  have p3 : TV σ h := ht.keep (by rw [e3 1 (by omega)]) (e3 2 (by omega))
  have p4 : KV σ h := hk.keep (fun c _ _ => e3 c (by omega)) (e3 40 (by omega))
  refine ⟨⟨(e1 0 (by omega)).trans r3, (e1 1 (by omega)).trans r4, (e1 2 (by omega)).trans r5, fun m hm => (e2 m hm).1.trans (r6 m hm).1, fun m hm => (e2 m hm).2.1.trans (r6 m hm).2.1, fun m hm => (e2 m hm).2.2.1.trans (r6 m hm).2.2.1, fun m hm => (e2 m hm).2.2.2.1.trans (r6 m hm).2.2.2.1, fun m hm => (e2 m hm).2.2.2.2.trans (r6 m hm).2.2.2.2⟩, p2, p3, fun s' hs' => ?_⟩
  rcases (show s' = 0 ∨ s' = 1 by omega) with rfl | rfl
  · exact p4 0 (by omega)
  · exact p4 1 (by omega)
theorem bit01 {x : Int32} {n : Nat} (h : x = zI n) (hn : n ≤ 1) : x = 0 ∨ x = 1 := by
  rcases (show n = 0 ∨ n = 1 by omega) with rfl | rfl
  · exact Or.inl h
  · exact Or.inr h
theorem cx_keep (ok : Ok σ) (hA : AX σ hi) (ha : inR a) : Ct M_BB_keep 9 [.ref 0, .int (zI a)] hi hl (pX (sx_keep σ a) (zI (r_keep σ a)) hi) := by
  have hn := ok.nums
  have hb : ∀ m, m < nM σ → hi 11 m = 0 ∨ hi 11 m = 1 := fun m hm => bit01 (hA.1.br hm) (ok.m hm).2.2.2.2.2.2
  refine ct_intro (lv := [_, _]) (by decide +kernel) (Nat.le_of_ble_eq_true rfl) rfl ?_
  refine wp_iload_n d_BB_keep_0 rfl ?_
  refine wz_if_lt (tgt := 9) d_BB_keep_1 (by decide) (by omega) (fun h1 => ?_) (fun h1 => ?_)
  · refine wp_iconst (v := zI (-1)) d_BB_keep_9 rfl ?_
    rw [r_keep, sx_keep, if_neg (by omega), if_neg (by omega)]
    exact wp_iret d_BB_keep_10 (Or.inl rfl) (pX_of hA rfl)
  · refine wp_iload_n d_BB_keep_4 rfl ?_
    refine wp_iconst (v := zI 2) d_BB_keep_5 rfl ?_
    refine wz_icmp_lt (tgt := 11) d_BB_keep_6 (by decide) (by omega) (by omega) (fun h6 => ?_) (fun h6 => ?_)
    · rw [r_keep, sx_keep, if_pos ⟨h1, h6⟩, if_pos ⟨h1, h6⟩]
      rcases (show a = ((0 : Nat) : Int) ∨ a = ((1 : Nat) : Int) by omega) with rfl | rfl
      · rw [nC]
        refine wp_aload_n d_BB_keep_11 rfl ?_
        refine wp_getR d_BB_keep_12 f_BB_71 (by decide) rfl rfl ?_
        refine wp_iload_n d_BB_keep_15 rfl ?_
        refine wp_aald d_BB_keep_16 (rfl) ((by omega)) (rfl) ?_
        refine wp_aload_n d_BB_keep_17 rfl ?_
        refine wp_getR d_BB_keep_18 f_BB_26 (by decide) rfl rfl ?_
        refine wp_callV (ct_copy_12_6 (n := nM σ) 0 hn.2.2.1 hA.1.n hb) d_BB_keep_21 k_BB_222 (by decide) rfl rfl rfl rfl (Nat.le_of_ble_eq_true rfl) (by omega) ?_
        rintro _ h _ ⟨rfl, rfl, e1, e2, e3⟩
        have p6 : h 6 0 = zI (nM σ) := by rw [e3 6 (by omega)]; exact hA.1.n
        refine wp_aload_n d_BB_keep_24 rfl ?_
        refine wp_getR d_BB_keep_25 f_BB_75 (by decide) rfl rfl ?_
        refine wp_iload_n d_BB_keep_28 rfl ?_
        refine wp_iconst (v := zI 1) d_BB_keep_29 rfl ?_
        refine wz_zast (rfl) ((by omega)) ((Or.inr rfl)) d_BB_keep_30 (by decide) rfl (by decide) ?_
        refine wp_aload_n d_BB_keep_31 rfl ?_
        refine wp_getR d_BB_keep_32 f_BB_26 (by decide) rfl rfl ?_
        refine wz_getI (p6) d_BB_keep_35 f_BB_103 (by decide) rfl rfl ?_
        exact wp_iret d_BB_keep_38 (Or.inl rfl) (⟨rfl, AX_kept0 hA e1 e2 (fun c hc h4 => by rw [setI_ne _ _ _ h4]; exact e3 c hc) (rdA rfl) (rdS (by decide) (by rw [e3 40 (by omega)])), fun c hc => by rw [setI_ne _ _ _ (by omega)]; exact e3 c (by omega)⟩)
      · rw [nC]
        refine wp_aload_n d_BB_keep_11 rfl ?_
        refine wp_getR d_BB_keep_12 f_BB_71 (by decide) rfl rfl ?_
        refine wp_iload_n d_BB_keep_15 rfl ?_
        refine wp_aald d_BB_keep_16 (rfl) ((by omega)) (rfl) ?_
        refine wp_aload_n d_BB_keep_17 rfl ?_
        refine wp_getR d_BB_keep_18 f_BB_26 (by decide) rfl rfl ?_
        refine wp_callV (ct_copy_18_6 (n := nM σ) 0 hn.2.2.1 hA.1.n hb) d_BB_keep_21 k_BB_222 (by decide) rfl rfl rfl rfl (Nat.le_of_ble_eq_true rfl) (by omega) ?_
        rintro _ h _ ⟨rfl, rfl, e1, e2, e3⟩
        have p6 : h 6 0 = zI (nM σ) := by rw [e3 6 (by omega)]; exact hA.1.n
        refine wp_aload_n d_BB_keep_24 rfl ?_
        refine wp_getR d_BB_keep_25 f_BB_75 (by decide) rfl rfl ?_
        refine wp_iload_n d_BB_keep_28 rfl ?_
        refine wp_iconst (v := zI 1) d_BB_keep_29 rfl ?_
        refine wz_zast (rfl) ((by omega)) ((Or.inr rfl)) d_BB_keep_30 (by decide) rfl (by decide) ?_
        refine wp_aload_n d_BB_keep_31 rfl ?_
        refine wp_getR d_BB_keep_32 f_BB_26 (by decide) rfl rfl ?_
        refine wz_getI (p6) d_BB_keep_35 f_BB_103 (by decide) rfl rfl ?_
        exact wp_iret d_BB_keep_38 (Or.inl rfl) (⟨rfl, AX_kept1 hA e1 e2 (fun c hc h4 => by rw [setI_ne _ _ _ h4]; exact e3 c hc) (rdA rfl) (rdS (by decide) (by rw [e3 40 (by omega)])), fun c hc => by rw [setI_ne _ _ _ (by omega)]; exact e3 c (by omega)⟩)
    · refine wp_iconst (v := zI (-1)) d_BB_keep_9 rfl ?_
      rw [r_keep, sx_keep, if_neg (by omega), if_neg (by omega)]
      exact wp_iret d_BB_keep_10 (Or.inl rfl) (pX_of hA rfl)
theorem cx_again (ok : Ok σ) (hA : AX σ hi) (ha : inR a) : Ct M_BB_again 9 [.ref 0, .int (zI a)] hi hl (pX (sx_again σ a) (zI (r_again σ a)) hi) := by
  have hn := ok.nums
  refine ct_intro (lv := [_, _]) (by decide +kernel) (Nat.le_of_ble_eq_true rfl) rfl ?_
  refine wp_iload_n d_BB_again_0 rfl ?_
  refine wz_if_lt (tgt := 9) d_BB_again_1 (by decide) (by omega) (fun h1 => ?_) (fun h1 => ?_)
  · refine wp_iconst (v := zI (-1)) d_BB_again_9 rfl ?_
    rw [r_again, sx_again, if_neg (by omega), if_neg (by omega)]
    exact wp_iret d_BB_again_10 (Or.inl rfl) (pX_of hA rfl)
  · refine wp_iload_n d_BB_again_4 rfl ?_
    refine wp_iconst (v := zI 2) d_BB_again_5 rfl ?_
    refine wz_icmp_lt (tgt := 11) d_BB_again_6 (by decide) (by omega) (by omega) (fun h6 => ?_) (fun h6 => ?_)
    · obtain ⟨s, rfl, hs⟩ := toN (show 0 ≤ a ∧ a < (2 : Nat) by omega)
      obtain ⟨r1, r2⟩ := hA.2.2.2 s hs
      have hk1 := (ok.2.2.2.2.2 s hs).1
      rw [r_again, sx_again, nC]
      refine wp_aload_n d_BB_again_11 rfl ?_
      refine wp_getR d_BB_again_12 f_BB_75 (by decide) rfl rfl ?_
      refine wp_iload_n d_BB_again_15 rfl ?_
      refine wz_zald (r1) (rfl) ((by omega)) d_BB_again_16 (by decide) rfl (by decide) ?_
      refine wz_if_ne (tgt := 23) d_BB_again_17 (by decide) (by omega) (fun h17 => ?_) (fun h17 => ?_)
      · have hkp : kp σ s = 1 := by omega
        obtain ⟨r3, r4, r5, r6⟩ := r2 hkp
        obtain ⟨-, -, k4⟩ := (ok.2.2.2.2.2 s hs).2 hkp
        rw [if_pos ⟨⟨h1, h6⟩, hkp⟩, if_pos ⟨h1, h6⟩, if_pos hkp]
        rcases (show s = 0 ∨ s = 1 by omega) with rfl | rfl
        · refine wp_aload_n d_BB_again_23 rfl ?_
          refine wp_getR d_BB_again_24 f_BB_26 (by decide) rfl rfl ?_
          refine wp_aload_n d_BB_again_27 rfl ?_
          refine wp_getR d_BB_again_28 f_BB_71 (by decide) rfl rfl ?_
          refine wp_iload_n d_BB_again_31 rfl ?_
          refine wp_aald d_BB_again_32 (rfl) ((by omega)) (rfl) ?_
          refine wp_callV (ct_copy_6_12 (n := nM σ) 0 hn.2.2.1 r3 (fun m hm => bit01 (r6 m hm).2.2.2.2 (k4 m hm).2.2.2.2.2.2)) d_BB_again_33 k_BB_222 (by decide) rfl rfl rfl rfl (Nat.le_of_ble_eq_true rfl) (by omega) ?_
          rintro _ h _ ⟨rfl, rfl, e1, e2, e3⟩
          refine wp_aload_n d_BB_again_36 rfl ?_
          refine wp_getR d_BB_again_37 f_BB_26 (by decide) rfl rfl ?_
          refine wz_getI (((e1 0 (by omega)).trans r3)) d_BB_again_40 f_BB_103 (by decide) rfl rfl ?_
          exact wp_iret d_BB_again_43 (Or.inl rfl) (⟨rfl, AX_anew0 hA hkp e1 e2 e3, fun c hc => e3 c (by omega)⟩)
        · refine wp_aload_n d_BB_again_23 rfl ?_
          refine wp_getR d_BB_again_24 f_BB_26 (by decide) rfl rfl ?_
          refine wp_aload_n d_BB_again_27 rfl ?_
          refine wp_getR d_BB_again_28 f_BB_71 (by decide) rfl rfl ?_
          refine wp_iload_n d_BB_again_31 rfl ?_
          refine wp_aald d_BB_again_32 (rfl) ((by omega)) (rfl) ?_
          refine wp_callV (ct_copy_6_18 (n := nM σ) 0 hn.2.2.1 r3 (fun m hm => bit01 (r6 m hm).2.2.2.2 (k4 m hm).2.2.2.2.2.2)) d_BB_again_33 k_BB_222 (by decide) rfl rfl rfl rfl (Nat.le_of_ble_eq_true rfl) (by omega) ?_
          rintro _ h _ ⟨rfl, rfl, e1, e2, e3⟩
          refine wp_aload_n d_BB_again_36 rfl ?_
          refine wp_getR d_BB_again_37 f_BB_26 (by decide) rfl rfl ?_
          refine wz_getI (((e1 0 (by omega)).trans r3)) d_BB_again_40 f_BB_103 (by decide) rfl rfl ?_
          exact wp_iret d_BB_again_43 (Or.inl rfl) (⟨rfl, AX_anew1 hA hkp e1 e2 e3, fun c hc => e3 c (by omega)⟩)
      · refine wp_bipush (v := zI (-3)) d_BB_again_20 rfl ?_
        rw [if_neg (by omega), if_pos ⟨h1, h6⟩, if_neg (by omega)]
        exact wp_iret d_BB_again_22 (Or.inl rfl) (pX_of hA rfl)
    · refine wp_iconst (v := zI (-1)) d_BB_again_9 rfl ?_
      rw [r_again, sx_again, if_neg (by omega), if_neg (by omega)]
      exact wp_iret d_BB_again_10 (Or.inl rfl) (pX_of hA rfl)
theorem ct_SC_clear (d : Nat) (hA : AX σ hi) : Ct M_SC_clear d [.ref 1] hi hl (fun r hi' hl' => r = some (.int (zI (tl σ))) ∧ hl = hl' ∧ setI hi 1 1 (zI 0) = hi') := by
  refine ct_intro (lv := [_, _]) (by decide +kernel) (Nat.le_of_ble_eq_true rfl) rfl ?_
  refine wp_aload_n d_SC_clear_0 rfl ?_
  refine wz_getI (hA.2.2.1.1) d_SC_clear_1 f_SC_15 (by decide) rfl rfl ?_
  refine wp_istore_n (lv' := [_, _]) d_SC_clear_4 (by decide) rfl ?_
  refine wp_aload_n d_SC_clear_5 rfl ?_
  refine wp_iconst (v := zI 0) d_SC_clear_6 rfl ?_
  refine wp_putI d_SC_clear_7 f_SC_15 pk_SC_1 (by decide) rfl rfl ?_
  refine wp_iload_n d_SC_clear_10 rfl ?_
  exact wp_iret d_SC_clear_11 (Or.inl rfl) (⟨rfl, rfl, rfl⟩)
theorem cx_wipe (hA : AX σ hi) : Ct M_BB_wipe 9 [.ref 0] hi hl (pX (up σ 0 5 0) (zI (tl σ)) hi) := by
  refine ct_intro (lv := [_]) (by decide +kernel) (Nat.le_of_ble_eq_true rfl) rfl ?_
  refine wp_aload_n d_BB_wipe_0 rfl ?_
  refine wp_getR d_BB_wipe_1 f_BB_10 (by decide) rfl rfl ?_
  refine wp_callV (ct_SC_clear 0 hA) d_BB_wipe_4 k_BB_87 (by decide) rfl rfl rfl rfl (Nat.le_of_ble_eq_true rfl) (by omega) ?_
  rintro _ _ _ ⟨rfl, rfl, rfl⟩
  have hA2 : AX (up σ 0 5 0) (setI hi 1 1 (zI 0)) := by
    obtain ⟨hp, hv, ht, hk⟩ := hA
    exact ⟨hp, hv, ⟨rdA rfl, fun i hi' => absurd hi' (Nat.not_lt_zero i)⟩, (hk.keep (fun c _ _ => setI_ne _ _ _ (by omega)) rfl).anew (by omega) (by omega)⟩
  exact wp_iret d_BB_wipe_7 (Or.inl rfl) (⟨rfl, hA2, fun c hc => setI_ne _ _ _ (by omega)⟩)
theorem Ok_wipe (h : Ok σ) : Ok (up σ 0 5 0) := by
  obtain ⟨⟨b1, b2, b3, b4, b5, b6, b7⟩, h1, h2, h3, h4, h5⟩ := h
  exact ⟨⟨b1, b2, b3, b4, b5, b6, Nat.zero_le _⟩, h1, h2, h3, fun i hi => absurd hi (Nat.not_lt_zero i), okK_up (by omega) (by omega) (by omega) h5⟩
theorem Ok_wrt (h : Ok σ) (v : Int64) {n : Nat} (hn : tl σ + n ≤ 104) : Ok (wrt σ v n) := by
  obtain ⟨⟨b1, b2, b3, b4, b5, b6, b7⟩, h1, h2, h3, h4, h5⟩ := h
  have eK : ∀ s g m, kf (wrt σ v n) s g m = kf σ s g m := fun s g m => by
    unfold kf wrt
    rw [if_neg (by omega), if_neg (by omega)]
  refine ⟨⟨b1, b2, b3, b4, b5, b6, hn⟩, h1, h2, h3, fun i hi => ?_, fun s hs => ?_⟩
  · show (if 8 = 0 ∧ i = 5 then tl σ + n else if 8 = 8 ∧ tl σ ≤ i ∧ i < tl σ + n then byt v (n - 1 - (i - tl σ)) else σ 8 i) < 256
    rw [if_neg (by omega)]
    split
    · exact byt_lt _ _
    · have hi2 : i < tl σ + n := hi
      exact h4 i (by omega)
  · simp only [eK]
    exact h5 s hs
theorem ct_SC_hasRoom (d : Nat) (ok : Ok σ) (hA : AX σ hi) (ha : 1 ≤ a ∧ a ≤ 8) : Ct M_SC_hasRoom d [.ref 1, .int (zI a)] hi hl (ans (bI ((tl σ : Int) + a ≤ 104)) hi hl) := by
  have hn := ok.nums
  refine ct_intro (lv := [_, _]) (by decide +kernel) (Nat.le_of_ble_eq_true rfl) rfl ?_
  refine wp_iload_n d_SC_hasRoom_0 rfl ?_
  refine wp_bipush (v := zI 104) d_SC_hasRoom_1 rfl ?_
  refine wp_aload_n d_SC_hasRoom_3 rfl ?_
  refine wz_getI (hA.2.2.1.1) d_SC_hasRoom_4 f_SC_15 (by decide) rfl rfl ?_
  refine wz_isub d_SC_hasRoom_7 ?_
  refine wz_icmp_gt (tgt := 15) d_SC_hasRoom_8 (by decide) (by omega) (by omega) (fun h8 => ?_) (fun h8 => ?_)
  · refine wp_iconst (v := zI 0) d_SC_hasRoom_15 rfl ?_
    exact wp_iret d_SC_hasRoom_16 (Or.inr ⟨rfl, by first | exact bI_01 _ | exact Or.inl rfl | exact Or.inr rfl⟩) (ans_f (by omega))
  · refine wp_iconst (v := zI 1) d_SC_hasRoom_11 rfl ?_
    refine wp_goto (tgt := 16) d_SC_hasRoom_12 (by decide) ?_
    exact wp_iret d_SC_hasRoom_16 (Or.inr ⟨rfl, by first | exact bI_01 _ | exact Or.inl rfl | exact Or.inr rfl⟩) (ans_t (by omega))
theorem ct_SC_append {n : Nat} {v : Int64} (d : Nat) (ok : Ok σ) (hA : AX σ hi) (ha : 1 ≤ n ∧ n ≤ 8) (hr : tl σ + n ≤ 104) : Ct M_SC_append d [.ref 1, .int (zI n), .long v] hi hl (fun r hi' hl' => r = some (.int (zI ((tl σ : Int) + n))) ∧ hl = hl' ∧ AX (wrt σ v n) hi' ∧ ∀ c, 3 ≤ c → hi' c = hi c) := by
  have hn := ok.nums
  have loop : ∀ k t, t + k = n → ∀ h : HI, (∀ c, 3 ≤ c → h c = hi c) → h 1 1 = zI ((tl σ : Int) + t) → (∀ i, i < tl σ → h 2 i = hi 2 i) → (∀ u, u < t → h 2 (tl σ + u) = zI (sgn8 (byt v (n - 1 - u)))) → Wp M_SC_append d (fun r hi' hl' => r = some (.int (zI ((tl σ : Int) + n))) ∧ hl = hl' ∧ AX (wrt σ v n) hi' ∧ ∀ c, 3 ≤ c → hi' c = hi c) 5 [some (.ref 1), some (.int (zI n)), some (.long v), none, some (.int (zI ((n : Int) - 1 - t)))] [] h hl := by
    intro k
    induction k with
    | zero =>
      intro t htk h e3 e1 e2 e4
      have hA2 : AX (wrt σ v n) h := by
        obtain ⟨hp, hv, ht, hk⟩ := hA
        have k2 : KV σ h := hk.keep (fun c _ _ => e3 c (by omega)) (e3 40 (by omega))
        refine ⟨hp.keep (fun c _ _ => e3 c (by omega)), hv.keep (fun c _ _ => e3 c (by omega)), ⟨?_, fun i hi' => ?_⟩, fun s hs => ?_⟩
        · show h 1 1 = zI ((tl σ + n : Nat) : Int)
          rw [e1, show t = n by omega]
          rfl
        · have hi2 : i < tl σ + n := hi'
          show h 2 i = zI (sgn8 (if 8 = 0 ∧ i = 5 then tl σ + n else if 8 = 8 ∧ tl σ ≤ i ∧ i < tl σ + n then byt v (n - 1 - (i - tl σ)) else σ 8 i))
          rw [if_neg (by omega)]
          by_cases q : tl σ ≤ i
          · rw [if_pos ⟨rfl, q, hi2⟩]
            have := e4 (i - tl σ) (by omega)
            rw [show tl σ + (i - tl σ) = i by omega] at this
            exact this
          · rw [if_neg (by omega), e2 i (by omega)]
            exact ht.2 i (by omega)
        · have eK : ∀ s g m, kf (wrt σ v n) s g m = kf σ s g m := fun s g m => by
            unfold kf wrt
            rw [if_neg (by omega), if_neg (by omega)]
          simp only [eK]
          exact k2 s hs
      refine wp_iload d_SC_append_5 rfl ?_
      refine wz_if_lt (tgt := 53) d_SC_append_7 (by decide) (by omega) (fun h7 => ?_) (fun h7 => ?_)
      · refine wp_aload_n d_SC_append_53 rfl ?_
        refine wz_getI (e1) d_SC_append_54 f_SC_15 (by decide) rfl rfl ?_
        exact wp_iret d_SC_append_57 (Or.inl rfl) (⟨by rw [show t = n by omega], rfl, hA2, e3⟩)
      · exact absurd h7 (by omega)
    | succ k ih =>
      intro t htk h e3 e1 e2 e4
      refine wp_iload d_SC_append_5 rfl ?_
      refine wz_if_lt (tgt := 53) d_SC_append_7 (by decide) (by omega) (fun h7 => ?_) (fun h7 => ?_)
      · exact absurd h7 (by omega)
      · refine wp_aload_n d_SC_append_10 rfl ?_
        refine wz_getI (e1) d_SC_append_11 f_SC_15 (by decide) rfl rfl ?_
        refine wp_bipush (v := zI 104) d_SC_append_14 rfl ?_
        refine wz_icmp_ge (tgt := 53) d_SC_append_16 (by decide) (by omega) (by omega) (fun h16 => ?_) (fun h16 => ?_)
        · exact absurd h16 (by omega)
        · have e1' : h 1 1 = zI (((tl σ + t : Nat)) : Int) := e1
          refine wp_aload_n d_SC_append_19 rfl ?_
          refine wp_getR d_SC_append_20 f_SC_9 (by decide) rfl rfl ?_
          refine wp_aload_n d_SC_append_23 rfl ?_
          refine wz_getI (e1') d_SC_append_24 f_SC_15 (by decide) rfl rfl ?_
          refine wp_lload_n d_SC_append_27 rfl ?_
          refine wp_bipush (v := zI 8) d_SC_append_28 rfl ?_
          refine wp_iload d_SC_append_30 rfl ?_
          refine wz_imul d_SC_append_32 ?_
          refine wp_lshr d_SC_append_33 ?_
          refine wp_l2i d_SC_append_34 ?_
          refine wp_i2b d_SC_append_35 ?_
          refine wz_bast (j := tl σ + t) rfl (by omega) d_SC_append_36 (by decide) rfl (by decide) ?_
          rw [pk_vb, byte_x]
          have e5 : ∀ y : Int32, setI h 2 (tl σ + t) y 1 1 = zI ((tl σ : Int) + t) := fun y => rd1 (by decide) e1
          refine wp_aload_n d_SC_append_37 rfl ?_
          refine wp_dup d_SC_append_38 rfl ?_
          refine wz_getI ((e5 _)) d_SC_append_39 f_SC_15 (by decide) rfl rfl ?_
          refine wp_iconst (v := zI 1) d_SC_append_42 rfl ?_
          refine wz_iadd d_SC_append_43 ?_
          refine wp_putI d_SC_append_44 f_SC_15 pk_SC_1 (by decide) rfl rfl ?_
          refine wz_iinc (lv' := [_, _, _, _, _]) d_SC_append_47 rfl (by decide) rfl ?_
          refine wp_goto (tgt := 5) d_SC_append_50 (by decide) ?_
          have hidx : (8 * ((n : Int) - 1 - t)) = 8 * ((n - 1 - t : Nat) : Int) := by omega
          rw [hidx]
          have := ih (t + 1) (by omega) (setI (setI h 2 (tl σ + t) (zI (sgn8 (byt v (n - 1 - t))))) 1 1 (zI ((tl σ : Int) + t + 1))) (fun c hc => by rw [setI_ne _ _ _ (by omega), setI_ne _ _ _ (by omega)]; exact e3 c hc) (rdA (by rfl)) (fun i hi' => rd1 (by decide) (rdS (by omega) (e2 i hi'))) (fun u hu => by
            by_cases q : u = t
            · subst q
              exact rd1 (by decide) (rdA rfl)
            · exact rd1 (by decide) (rdS (by omega) (e4 u (by omega))))
          rw [show (n : Int) - 1 - ((t + 1 : Nat) : Int) = (n : Int) - 1 - t + -1 by omega] at this
          exact this
  refine ct_intro (lv := [_, _, _, _, _]) (by decide +kernel) (Nat.le_of_ble_eq_true rfl) rfl ?_
  refine wp_iload_n d_SC_append_0 rfl ?_
  refine wp_iconst (v := zI 1) d_SC_append_1 rfl ?_
  refine wz_isub d_SC_append_2 ?_
  refine wp_istore (lv' := [_, _, _, _, _]) d_SC_append_3 (by decide) rfl ?_
  have := loop n 0 (by omega) hi (fun _ _ => rfl) (by rw [hA.2.2.1.1]; congr 1) (fun _ _ => rfl) (fun u hu => absurd hu (by omega))
  rw [show (n : Int) - 1 - ((0 : Nat) : Int) = (n : Int) - 1 by omega] at this
  exact this
theorem cx_write {v : Int64} (ok : Ok σ) (hA : AX σ hi) (ha : inR a) : Ct M_BB_write 9 [.ref 0, .int (zI a), .long v] hi hl (pX (sx_write σ a v) (zI (r_write σ a)) hi) := by
  have hn := ok.nums
  refine ct_intro (lv := [_, _, _, _]) (by decide +kernel) (Nat.le_of_ble_eq_true rfl) rfl ?_
  refine wp_iload_n d_BB_write_0 rfl ?_
  refine wp_iconst (v := zI 1) d_BB_write_1 rfl ?_
  refine wz_icmp_lt (tgt := 11) d_BB_write_2 (by decide) (by omega) (by omega) (fun h2 => ?_) (fun h2 => ?_)
  · refine wp_bipush (v := zI (-2)) d_BB_write_11 rfl ?_
    rw [r_write, sx_write, if_neg (by omega), if_neg (by omega)]
    exact wp_iret d_BB_write_13 (Or.inl rfl) (pX_of hA rfl)
  · refine wp_iload_n d_BB_write_5 rfl ?_
    refine wp_bipush (v := zI 8) d_BB_write_6 rfl ?_
    refine wz_icmp_le (tgt := 14) d_BB_write_8 (by decide) (by omega) (by omega) (fun h8 => ?_) (fun h8 => ?_)
    · refine wp_aload_n d_BB_write_14 rfl ?_
      refine wp_getR d_BB_write_15 f_BB_10 (by decide) rfl rfl ?_
      refine wp_iload_n d_BB_write_18 rfl ?_
      refine wp_callV (ct_SC_hasRoom 0 ok hA ⟨h2, h8⟩) d_BB_write_19 k_BB_79 (by decide) rfl rfl rfl rfl (Nat.le_of_ble_eq_true rfl) (by omega) ?_
      rintro _ _ _ ⟨rfl, rfl, rfl⟩
      refine wz_if_eqB (tgt := 37) d_BB_write_22 (by decide) (fun h22 => ?_) (fun h22 => ?_)
      · refine wp_bipush (v := zI (-4)) d_BB_write_37 rfl ?_
        rw [r_write, sx_write, if_neg (fun q => h22 q.2), if_pos ⟨h2, h8⟩, if_neg h22]
        exact wp_iret d_BB_write_39 (Or.inl rfl) (pX_of hA rfl)
      · obtain ⟨n, rfl, hnn⟩ := toN (show 0 ≤ a ∧ a < (9 : Nat) by omega)
        rw [r_write, sx_write, if_pos ⟨⟨h2, h8⟩, h22⟩, if_pos ⟨h2, h8⟩, if_pos h22, nC]
        refine wp_aload_n d_BB_write_25 rfl ?_
        refine wp_getR d_BB_write_26 f_BB_10 (by decide) rfl rfl ?_
        refine wp_iload_n d_BB_write_29 rfl ?_
        refine wp_lload_n d_BB_write_30 rfl ?_
        refine wp_callV (ct_SC_append (n := n) (v := v) 0 ok hA (by omega) (by omega)) d_BB_write_31 k_BB_83 (by decide) rfl rfl rfl rfl (Nat.le_of_ble_eq_true rfl) (by omega) ?_
        rintro _ h _ ⟨rfl, rfl, hA2, e3⟩
        refine wp_goto (tgt := 39) d_BB_write_34 (by decide) ?_
        exact wp_iret d_BB_write_39 (Or.inl rfl) (⟨rfl, hA2, fun c hc => e3 c (by omega)⟩)
    · refine wp_bipush (v := zI (-2)) d_BB_write_11 rfl ?_
      rw [r_write, sx_write, if_neg (by omega), if_neg (by omega)]
      exact wp_iret d_BB_write_13 (Or.inl rfl) (pX_of hA rfl)
end SLOTS
