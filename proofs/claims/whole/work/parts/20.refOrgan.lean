/-! THE ORGAN out of a text: the reference's way -/
section REFORGAN
variable {σ : SG} {hi : HI} {hl : HL}
def PoR (σ : SG) (hi : HI) (hl : HL) : Option Value → HI → HL → Prop := fun v h' hl' => v = some (.int (zI (r_fault σ))) ∧ hl = hl' ∧ (∀ c, c ≠ 41 → c ≠ 42 → c ≠ 43 → c ≠ 44 → h' c = hi c) ∧ (∀ f, 9 ≤ f → f ≤ 15 → h' 41 f = hi 41 f) ∧ (r_fault σ = -9 → h' 41 3 = zI (pQ σ) ∧ h' 41 4 = zI (pPp σ).2 ∧ h' 41 5 = zI (pH σ).2 ∧ (∀ p, p < pQ σ → h' 42 p = zI (newS σ 1 p)) ∧ (∀ m, m < (pPp σ).2 → ∀ f, f < 5 → h' 43 (5 * m + f) = zI (newS σ (3 + f) m)) ∧ (∀ j, j < (pH σ).2 → h' 44 j = zI (newS σ 2 j)))
theorem rt_bad331 {h : HI} {s : Nat × Int} {q m n : Nat} (r : RM hi h s q m n) (hs : s.1 ≤ 200 ∧ -9 ≤ s.2 ∧ s.2 ≤ 200) (h9 : s.2 ≠ -9) (e : r_fault σ = s.2) : Wp M_MO_readText 8 (PoR σ hi hl) 331 [some (.ref 41), none, none] [] h hl := by
  refine wp_aload_n d_MO_readText_331 rfl ?_
  refine wz_getI (r.2.2.2.1) d_MO_readText_332 f_MO_84 (by decide) rfl rfl ?_
  refine wp_bipush (v := zI (-9)) d_MO_readText_335 rfl ?_
  refine wz_icmp_ne (tgt := 355) d_MO_readText_337 (by decide) (by omega) (by omega) (fun h337 => ?_) (fun h337 => ?_)
  · refine wp_aload_n d_MO_readText_355 rfl ?_
    refine wz_getI (r.2.2.2.1) d_MO_readText_356 f_MO_84 (by decide) rfl rfl ?_
    exact wp_iret d_MO_readText_359 (Or.inl rfl) (⟨by rw [e], rfl, r.1, r.2.1, fun q => absurd (e.symm.trans q) h9⟩)
  · exact absurd h337 h9
theorem rt_bad225 {h : HI} {s : Nat × Int} {q m n : Nat} (ok : Ok σ) (hA : AM σ hi) (r : RM hi h s q m n) (hs : s.1 ≤ 200 ∧ -9 ≤ s.2 ∧ s.2 ≤ 200) (h9 : s.2 ≠ -9) (e : r_fault σ = s.2) : Wp M_MO_readText 8 (PoR σ hi hl) 225 [some (.ref 41), none, none] [] h hl := by
  have hh : hrM σ s = -1 := by rw [hrM, if_neg h9]
  refine wp_aload_n d_MO_readText_225 rfl ?_
  refine wp_callV (ct_MO_here (s := s) 0 ok hA r hs) d_MO_readText_226 k_MO_90 (by decide) rfl rfl rfl rfl (Nat.le_of_ble_eq_true rfl) (by omega) ?_
  rintro _ _ _ ⟨rfl, rfl, rfl⟩
  rw [hh]
  refine wp_bipush (v := zI 47) d_MO_readText_229 rfl ?_
  refine wz_icmp_ne (tgt := 331) d_MO_readText_231 (by decide) (by omega) (by omega) (fun h231 => ?_) (fun h231 => ?_)
  · exact rt_bad331 r hs h9 e
  · exact absurd h231 (by decide)
theorem rt_bad113 {h : HI} {s : Nat × Int} {q m n : Nat} (ok : Ok σ) (hA : AM σ hi) (r : RM hi h s q m n) (hm : m ≤ 100) (hs : s.1 ≤ 200 ∧ -9 ≤ s.2 ∧ s.2 ≤ 200) (h9 : s.2 ≠ -9) (e : r_fault σ = s.2) : Wp M_MO_readText 8 (PoR σ hi hl) 113 [some (.ref 41), none, none] [] h hl := by
  have hh : hrM σ s = -1 := by rw [hrM, if_neg h9]
  refine wp_aload_n d_MO_readText_113 rfl ?_
  refine wz_getI (r.2.2.2.2.2.1) d_MO_readText_114 f_MO_102 (by decide) rfl rfl ?_
  refine wp_bipush (v := zI 12) d_MO_readText_117 rfl ?_
  refine wz_icmp_ge (tgt := 225) d_MO_readText_119 (by decide) (by omega) (by omega) (fun h119 => ?_) (fun h119 => ?_)
  · exact rt_bad225 ok hA r hs h9 e
  · refine wp_aload_n d_MO_readText_122 rfl ?_
    refine wp_callV (ct_MO_here (s := s) 0 ok hA r hs) d_MO_readText_123 k_MO_90 (by decide) rfl rfl rfl rfl (Nat.le_of_ble_eq_true rfl) (by omega) ?_
    rintro _ _ _ ⟨rfl, rfl, rfl⟩
    rw [hh]
    refine wp_bipush (v := zI 77) d_MO_readText_126 rfl ?_
    refine wz_icmp_ne (tgt := 225) d_MO_readText_128 (by decide) (by omega) (by omega) (fun h128 => ?_) (fun h128 => ?_)
    · exact rt_bad225 ok hA r hs h9 e
    · exact absurd h128 (by decide)
theorem rt_good331 {h : HI} {z q m n : Nat} (ok : Ok σ) (hA : AM σ hi) (r : RM hi h (z, -9) q m n) (hz : z ≤ tl σ) (e1 : z < tl σ → r_fault σ = z) (e2 : z = tl σ → r_fault σ = -9 ∧ PoR σ hi hl (some (.int (zI (-9)))) h hl) : Wp M_MO_readText 8 (PoR σ hi hl) 331 [some (.ref 41), none, none] [] h hl := by
  have hn := ok.nums
  refine wp_aload_n d_MO_readText_331 rfl ?_
  refine wz_getI (r.2.2.2.1) d_MO_readText_332 f_MO_84 (by decide) rfl rfl ?_
  refine wp_bipush (v := zI (-9)) d_MO_readText_335 rfl ?_
  refine wz_icmp_ne (tgt := 355) d_MO_readText_337 (by decide) (by omega) (by omega) (fun h337 => ?_) (fun h337 => ?_)
  · exact absurd rfl h337
  · refine wp_aload_n d_MO_readText_340 rfl ?_
    refine wz_getI (r.2.2.1) d_MO_readText_341 f_MO_87 (by decide) rfl rfl ?_
    refine wp_aload_n d_MO_readText_344 rfl ?_
    refine wz_getI ((r.tl hA)) d_MO_readText_345 f_MO_79 (by decide) rfl rfl ?_
    refine wz_icmp_ge (tgt := 355) d_MO_readText_348 (by decide) (by omega) (by omega) (fun h348 => ?_) (fun h348 => ?_)
    · obtain ⟨e3, e4⟩ := e2 (by show z = tl σ; have : ((tl σ : Nat) : Int) ≤ (z : Int) := h348; omega)
      refine wp_aload_n d_MO_readText_355 rfl ?_
      refine wz_getI (r.2.2.2.1) d_MO_readText_356 f_MO_84 (by decide) rfl rfl ?_
      exact wp_iret d_MO_readText_359 (Or.inl rfl) (e4)
    · refine wp_aload_n d_MO_readText_351 rfl ?_
      refine wp_callV (ct_MO_fail (s := (z, -9)) 0 r (by show z ≤ 200 ∧ -9 ≤ (-9 : Int) ∧ (-9 : Int) ≤ 200; omega)) d_MO_readText_352 k_MO_94 (by decide) rfl rfl rfl rfl (Nat.le_of_ble_eq_true rfl) (by omega) ?_
      rintro _ h2 _ ⟨rfl, rfl, r2, e5⟩
      have r3 : RM hi h2 (z, (z : Int)) q m n := r2
      have e6 : r_fault σ = z := e1 (by have : (z : Int) < ((tl σ : Nat) : Int) := h348; omega)
      refine wp_aload_n d_MO_readText_355 rfl ?_
      refine wz_getI (r3.2.2.2.1) d_MO_readText_356 f_MO_84 (by decide) rfl rfl ?_
      exact wp_iret d_MO_readText_359 (Or.inl rfl) (⟨by rw [e6], rfl, r3.1, r3.2.1, fun q => absurd (e6.symm.trans q) (by omega)⟩)
/-- the people that are read -/
def RPe (σ : SG) (h : HI) (n : Nat) : Prop := ∀ m, m < n → ∀ f, f < 5 → h 43 (5 * m + f) = zI (newS σ (3 + f) m)
theorem rt_hymn {h0 : HI} (ok : Ok σ) (hA : AM σ hi) (hO : sg σ 0 = 79) (hq1 : 1 ≤ pQ σ) (hp9 : (pPp σ).1 = -9) (hE : pE σ ≠ tl σ) (hS : sg σ (pE σ) = 47) {A : Int32} (hlo : A &&& zI 7 = zI (lowB (pQ σ))) (hhi : A >>> (zI 3 &&& 31) = zI (highB (pQ σ))) :
    ∀ k i, i + k = 24 → ∀ h : HI, RM hi h (pE σ + 1 + 2 * i, -9) (pQ σ) (pPp σ).2 i → (∀ p, p < pQ σ → h 42 p = zI (newS σ 1 p)) → RPe σ h (pPp σ).2 → (∀ j, j < i → h 44 j = zI (newS σ 2 j)) → hymN σ (pQ σ) (pE σ + 1) 24 0 = hymN σ (pQ σ) (pE σ + 1) k i → pE σ + 1 + 2 * i ≤ tl σ → Wp M_MO_readText 8 (PoR σ hi hl) 253 [some (.ref 41), some (.int A), none] [] h hl := by
  have hn := ok.nums
  have b1 := pQ_le σ
  have b2 := pPp_b σ
  have b3 := pE_b σ
  have l1 := lowB_b (pQ σ)
  have l2 := highB_b b1
  have eH : pH σ = hymN σ (pQ σ) (pE σ + 1) 24 0 := by unfold pH; rw [if_neg hE]
  have hq0 : ¬ pQ σ = 0 := by omega
  have hp9' : ¬ (pPp σ).1 ≠ -9 := fun q => q hp9
  have hS' : ¬ sg σ (pE σ) ≠ 47 := fun q => q hS
  have ending : ∀ (i : Nat) (h : HI), RM hi h (pE σ + 1 + 2 * i, -9) (pQ σ) (pPp σ).2 i → (∀ p, p < pQ σ → h 42 p = zI (newS σ 1 p)) → RPe σ h (pPp σ).2 → (∀ j, j < i → h 44 j = zI (newS σ 2 j)) → hymN σ (pQ σ) (pE σ + 1) 24 0 = (-9, i) → pE σ + 1 + 2 * i ≤ tl σ → Wp M_MO_readText 8 (PoR σ hi hl) 331 [some (.ref 41), none, none] [] h hl := by
    intro i h r g1 g2 g3 e hle
    have hH2 : (pH σ).2 = i := by rw [eH, e]
    have hH1 : ¬ (pH σ).1 ≠ -9 := fun q => q (by rw [eH, e])
    refine rt_good331 ok hA r hle (fun q => ?_) (fun q => ?_)
    · rw [r_fault, if_pos hO, if_neg hq0, if_neg hp9', if_neg hE, if_neg hS', if_neg hH1, hH2, if_neg (by omega)]
    · have e9 : r_fault σ = -9 := by rw [r_fault, if_pos hO, if_neg hq0, if_neg hp9', if_neg hE, if_neg hS', if_neg hH1, hH2, if_pos q]
      exact ⟨e9, by rw [e9], rfl, r.1, r.2.1, fun _ => ⟨r.2.2.2.2.1, r.2.2.2.2.2.1, by rw [hH2]; exact r.2.2.2.2.2.2, g1, g2, fun j hj => g3 j (by omega)⟩⟩
  intro k
  induction k with
  | zero =>
    intro i hik h r g1 g2 g3 e hle
    have r16 : h 41 16 = zI ((pE σ + 1 + 2 * i : Nat) : Int) := r.2.2.1
    have r17 : h 41 17 = zI (-9) := r.2.2.2.1
    refine wp_aload_n d_MO_readText_253 rfl ?_
    refine wz_getI (r17) d_MO_readText_254 f_MO_84 (by decide) rfl rfl ?_
    refine wp_bipush (v := zI (-9)) d_MO_readText_257 rfl ?_
    refine wz_icmp_ne (tgt := 331) d_MO_readText_259 (by decide) (by omega) (by omega) (fun h259 => ?_) (fun h259 => ?_)
    · exact absurd rfl h259
    · refine wp_aload_n d_MO_readText_262 rfl ?_
      refine wz_getI (r.2.2.2.2.2.2) d_MO_readText_263 f_MO_105 (by decide) rfl rfl ?_
      refine wz_if_eq (tgt := 280) d_MO_readText_266 (by decide) (by omega) (fun h266 => ?_) (fun h266 => ?_)
      · exact absurd h266 (by omega)
      · refine wp_aload_n d_MO_readText_269 rfl ?_
        refine wz_getI (r16) d_MO_readText_270 f_MO_87 (by decide) rfl rfl ?_
        refine wp_aload_n d_MO_readText_273 rfl ?_
        refine wz_getI ((r.tl hA)) d_MO_readText_274 f_MO_79 (by decide) rfl rfl ?_
        refine wz_icmp_ge (tgt := 331) d_MO_readText_277 (by decide) (by omega) (by omega) (fun h277 => ?_) (fun h277 => ?_)
        · refine wp_drop (lv' := [some _, none, none]) ⟨rfl, trivial⟩ ?_
          exact ending i h r g1 g2 g3 e hle
        · refine wp_aload_n d_MO_readText_280 rfl ?_
          refine wz_getI (r.2.2.2.2.2.2) d_MO_readText_281 f_MO_105 (by decide) rfl rfl ?_
          refine wp_bipush (v := zI 24) d_MO_readText_284 rfl ?_
          refine wz_icmp_ge (tgt := 331) d_MO_readText_286 (by decide) (by omega) (by omega) (fun h286 => ?_) (fun h286 => ?_)
          · refine wp_drop (lv' := [some _, none, none]) ⟨rfl, trivial⟩ ?_
            exact ending i h r g1 g2 g3 e hle
          · exact absurd h286 (by omega)
  | succ k ih =>
    intro i hik h r g1 g2 g3 e hle
    have r16 : h 41 16 = zI ((pE σ + 1 + 2 * i : Nat) : Int) := r.2.2.1
    have r17 : h 41 17 = zI (-9) := r.2.2.2.1
    have body : (i = 0 ∨ pE σ + 1 + 2 * i < tl σ) → Wp M_MO_readText 8 (PoR σ hi hl) 280 [some (.ref 41), some (.int A), none] [] h hl := by
      intro hc
      refine wp_aload_n d_MO_readText_280 rfl ?_
      refine wz_getI (r.2.2.2.2.2.2) d_MO_readText_281 f_MO_105 (by decide) rfl rfl ?_
      refine wp_bipush (v := zI 24) d_MO_readText_284 rfl ?_
      refine wz_icmp_ge (tgt := 331) d_MO_readText_286 (by decide) (by omega) (by omega) (fun h286 => ?_) (fun h286 => ?_)
      · exact absurd h286 (by omega)
      · refine wp_aload_n d_MO_readText_289 rfl ?_
        refine wp_iload_n d_MO_readText_290 rfl ?_
        refine wp_bipush (v := zI 7) d_MO_readText_291 rfl ?_
        refine wp_iand d_MO_readText_293 ?_
        rw [hlo]
        refine wp_callV (ct_MO_bits (s := (pE σ + 1 + 2 * i, -9)) (k := lowB (pQ σ)) ok hA r (by show pE σ + 1 + 2 * i ≤ 200 ∧ -9 ≤ (-9 : Int) ∧ (-9 : Int) ≤ 200; omega) (low_4 b1)) d_MO_readText_294 k_MO_116 (by decide) rfl rfl rfl rfl (Nat.le_of_ble_eq_true rfl) (by omega) ?_
        rintro _ h2 _ ⟨rfl, rfl, r2, c2⟩
        obtain ⟨u, hu⟩ : ∃ u : Nat, fgV σ (pE σ + 1 + 2 * i, -9) 0 (lowB (pQ σ)) = u := ⟨_, (Int.toNat_of_nonneg (fgV_b ok _ (by omega) (by omega)).1).symm⟩
        rw [hu]
        have hs2 : (fgA σ (pE σ + 1 + 2 * i, -9) 0 (lowB (pQ σ))).1 ≤ 200 ∧ -9 ≤ (fgA σ (pE σ + 1 + 2 * i, -9) 0 (lowB (pQ σ))).2 ∧ (fgA σ (pE σ + 1 + 2 * i, -9) 0 (lowB (pQ σ))).2 ≤ 200 := by
          unfold fgA
          split
          · show pE σ + 1 + 2 * i + 1 ≤ 200 ∧ -9 ≤ (-9 : Int) ∧ (-9 : Int) ≤ 200
            omega
          · show pE σ + 1 + 2 * i ≤ 200 ∧ -9 ≤ ((pE σ + 1 + 2 * i : Nat) : Int) ∧ ((pE σ + 1 + 2 * i : Nat) : Int) ≤ 200
            omega
        refine wp_istore_n (lv' := [_, _, _]) d_MO_readText_297 (by decide) rfl ?_
        refine wp_aload_n d_MO_readText_298 rfl ?_
        refine wp_getR d_MO_readText_299 f_MO_16 (by decide) rfl rfl ?_
        refine wp_aload_n d_MO_readText_302 rfl ?_
        refine wz_getI (r2.2.2.2.2.2.2) d_MO_readText_303 f_MO_105 (by decide) rfl rfl ?_
        refine wp_iload_n d_MO_readText_306 rfl ?_
        refine wp_aload_n d_MO_readText_307 rfl ?_
        refine wp_iload_n d_MO_readText_308 rfl ?_
        refine wp_iconst (v := zI 3) d_MO_readText_309 rfl ?_
        refine wp_ishr d_MO_readText_310 ?_
        rw [hhi]
        refine wp_callV (ct_MO_bits (s := fgA σ (pE σ + 1 + 2 * i, -9) 0 (lowB (pQ σ))) (k := highB (pQ σ)) ok hA r2 hs2 (high_4 b1)) d_MO_readText_311 k_MO_116 (by decide) rfl rfl rfl rfl (Nat.le_of_ble_eq_true rfl) (by omega) ?_
        rintro _ h3 _ ⟨rfl, rfl, r3, c3⟩
        have hb := fgV_b ok (fgA σ (pE σ + 1 + 2 * i, -9) 0 (lowB (pQ σ))) (x := 0) (y := highB (pQ σ)) (by omega) (by omega)
        have hb7 : fgV σ (fgA σ (pE σ + 1 + 2 * i, -9) 0 (lowB (pQ σ))) 0 (highB (pQ σ)) ≤ 7 := by
          unfold fgV
          split
          · rename_i w; omega
          · omega
        obtain ⟨v, hv⟩ : ∃ v : Nat, fgV σ (fgA σ (pE σ + 1 + 2 * i, -9) 0 (lowB (pQ σ))) 0 (highB (pQ σ)) = v := ⟨_, (Int.toNat_of_nonneg hb.1).symm⟩
        rw [hv]
        refine wp_iconst (v := zI 3) d_MO_readText_314 rfl ?_
        refine wp_ishl d_MO_readText_315 ?_
        rw [shl3 (by omega)]
        refine wp_ior d_MO_readText_316 ?_
        rw [zI_or]
        refine wz_iast (rfl) ((by omega)) d_MO_readText_317 (by decide) rfl (by decide) ?_
        have r4 : RM hi (setI h3 44 i (zI ((u ||| v * 8 : Nat) : Int))) (fgA σ (fgA σ (pE σ + 1 + 2 * i, -9) 0 (lowB (pQ σ))) 0 (highB (pQ σ))) (pQ σ) (pPp σ).2 i := r3.row (by omega)
        refine wp_aload_n d_MO_readText_318 rfl ?_
        refine wp_dup d_MO_readText_319 rfl ?_
        refine wz_getI (r4.2.2.2.2.2.2) d_MO_readText_320 f_MO_105 (by decide) rfl rfl ?_
        refine wp_iconst (v := zI 1) d_MO_readText_323 rfl ?_
        refine wz_iadd d_MO_readText_324 ?_
        refine wp_putI d_MO_readText_325 f_MO_105 pk_MO_5 (by decide) rfl rfl ?_
        refine wp_goto (tgt := 253) d_MO_readText_328 (by decide) ?_
        refine wp_drop (lv' := [some _, some _, none]) ⟨rfl, rfl, trivial⟩ ?_
        have r5 := r4.nb (i + 1)
        have cc : ∀ (y : Int32) c, c ≠ 41 → c ≠ 44 → setI (setI h3 44 i (zI ((u ||| v * 8 : Nat) : Int))) 41 5 y c = h c := fun y c h1 h4 => by rw [setI_ne _ _ _ h1, setI_ne _ _ _ h4, c3 c h1, c2 c h1]
        by_cases c2' : isF σ (pE σ + 1 + 2 * i) 0 (lowB (pQ σ))
        · obtain ⟨w1, w2⟩ := fgA_ok (s := (pE σ + 1 + 2 * i, -9)) rfl c2'
          rw [w1] at r5 hv
          by_cases c3' : isF σ (pE σ + 1 + 2 * i + 1) 0 (highB (pQ σ))
          · obtain ⟨w3, w4⟩ := fgA_ok (s := (pE σ + 1 + 2 * i + 1, -9)) rfl c3'
            rw [w3] at r5
            have t1 := sg_lt (σ := σ) (i := pE σ + 1 + 2 * i + 1) (by omega)
            refine ih (i + 1) (by omega) _ r5 (fun p hp => by rw [cc _ 42 (by omega) (by omega)]; exact g1 p hp) (fun m hm f hf => by rw [cc _ 43 (by omega) (by omega)]; exact g2 m hm f hf) (fun j hj => ?_) (by rw [e, hymN, if_pos hc, if_pos c2', if_pos c3']) (by omega)
            by_cases z : j = i
            · subst z
              refine rd1 (by decide) (rdA ?_)
              have q1 : fgN σ (pE σ + 1 + 2 * j) = u := by
                have := w2.symm.trans hu
                have w5 : sg σ (pE σ + 1 + 2 * j) - 48 = (u : Int) := this
                unfold fgN
                omega
              have q2 : fgN σ (pE σ + 1 + 2 * j + 1) = v := by
                have := w4.symm.trans hv
                have w5 : sg σ (pE σ + 1 + 2 * j + 1) - 48 = (v : Int) := this
                unfold fgN
                omega
              show _ = zI ((fgN σ (pE σ + 1 + 2 * j) ||| fgN σ (pE σ + 1 + 2 * j + 1) * 8 : Nat) : Int)
              rw [q1, q2]
            · refine rd1 (by decide) (rdS z ?_)
              rw [c3 44 (by omega), c2 44 (by omega)]
              exact g3 j (by omega)
          · have w3 := fgA_no (s := (pE σ + 1 + 2 * i + 1, -9)) rfl c3'
            rw [w3] at r5
            have eF : r_fault σ = ((pE σ + 1 + 2 * i + 1 : Nat) : Int) := by
              have e2 : pH σ = (((pE σ + 1 + 2 * i + 1 : Nat) : Int), i) := by rw [eH, e, hymN, if_pos hc, if_pos c2', if_neg c3']
              rw [r_fault, if_pos hO, if_neg hq0, if_neg hp9', if_neg hE, if_neg hS', e2, if_pos (by show ((pE σ + 1 + 2 * i + 1 : Nat) : Int) ≠ -9; omega)]
            have r17' : _ = zI ((pE σ + 1 + 2 * i + 1 : Nat) : Int) := r5.2.2.2.1
            refine wp_aload_n d_MO_readText_253 rfl ?_
            refine wz_getI (r17') d_MO_readText_254 f_MO_84 (by decide) rfl rfl ?_
            refine wp_bipush (v := zI (-9)) d_MO_readText_257 rfl ?_
            refine wz_icmp_ne (tgt := 331) d_MO_readText_259 (by decide) (by omega) (by omega) (fun h259 => ?_) (fun h259 => ?_)
            · refine wp_drop (lv' := [some _, none, none]) ⟨rfl, trivial⟩ ?_
              exact rt_bad331 r5 (by show pE σ + 1 + 2 * i + 1 ≤ 200 ∧ -9 ≤ ((pE σ + 1 + 2 * i + 1 : Nat) : Int) ∧ ((pE σ + 1 + 2 * i + 1 : Nat) : Int) ≤ 200; omega) (by show ((pE σ + 1 + 2 * i + 1 : Nat) : Int) ≠ -9; omega) eF
            · exact absurd h259 (by omega)
        · have w1 := fgA_no (s := (pE σ + 1 + 2 * i, -9)) rfl c2'
          rw [w1] at r5
          rw [fgA_f (s := (pE σ + 1 + 2 * i, ((pE σ + 1 + 2 * i : Nat) : Int))) (by show ((pE σ + 1 + 2 * i : Nat) : Int) ≠ -9; omega)] at r5
          have eF : r_fault σ = ((pE σ + 1 + 2 * i : Nat) : Int) := by
            have e2 : pH σ = (((pE σ + 1 + 2 * i : Nat) : Int), i) := by rw [eH, e, hymN, if_pos hc, if_neg c2']
            rw [r_fault, if_pos hO, if_neg hq0, if_neg hp9', if_neg hE, if_neg hS', e2, if_pos (by show ((pE σ + 1 + 2 * i : Nat) : Int) ≠ -9; omega)]
          have r17' : _ = zI ((pE σ + 1 + 2 * i : Nat) : Int) := r5.2.2.2.1
          refine wp_aload_n d_MO_readText_253 rfl ?_
          refine wz_getI (r17') d_MO_readText_254 f_MO_84 (by decide) rfl rfl ?_
          refine wp_bipush (v := zI (-9)) d_MO_readText_257 rfl ?_
          refine wz_icmp_ne (tgt := 331) d_MO_readText_259 (by decide) (by omega) (by omega) (fun h259 => ?_) (fun h259 => ?_)
          · refine wp_drop (lv' := [some _, none, none]) ⟨rfl, trivial⟩ ?_
            exact rt_bad331 r5 (by show pE σ + 1 + 2 * i ≤ 200 ∧ -9 ≤ ((pE σ + 1 + 2 * i : Nat) : Int) ∧ ((pE σ + 1 + 2 * i : Nat) : Int) ≤ 200; omega) (by show ((pE σ + 1 + 2 * i : Nat) : Int) ≠ -9; omega) eF
          · exact absurd h259 (by omega)
    refine wp_aload_n d_MO_readText_253 rfl ?_
    refine wz_getI (r17) d_MO_readText_254 f_MO_84 (by decide) rfl rfl ?_
    refine wp_bipush (v := zI (-9)) d_MO_readText_257 rfl ?_
    refine wz_icmp_ne (tgt := 331) d_MO_readText_259 (by decide) (by omega) (by omega) (fun h259 => ?_) (fun h259 => ?_)
    · exact absurd rfl h259
    · refine wp_aload_n d_MO_readText_262 rfl ?_
      refine wz_getI (r.2.2.2.2.2.2) d_MO_readText_263 f_MO_105 (by decide) rfl rfl ?_
      refine wz_if_eq (tgt := 280) d_MO_readText_266 (by decide) (by omega) (fun h266 => ?_) (fun h266 => ?_)
      · exact body (Or.inl (by omega))
      · refine wp_aload_n d_MO_readText_269 rfl ?_
        refine wz_getI (r16) d_MO_readText_270 f_MO_87 (by decide) rfl rfl ?_
        refine wp_aload_n d_MO_readText_273 rfl ?_
        refine wz_getI ((r.tl hA)) d_MO_readText_274 f_MO_79 (by decide) rfl rfl ?_
        refine wz_icmp_ge (tgt := 331) d_MO_readText_277 (by decide) (by omega) (by omega) (fun h277 => ?_) (fun h277 => ?_)
        · refine wp_drop (lv' := [some _, none, none]) ⟨rfl, trivial⟩ ?_
          exact ending i h r g1 g2 g3 (by rw [e, hymN, if_neg (by omega)]) hle
        · exact body (Or.inr (by omega))
theorem rt_people (ok : Ok σ) (hA : AM σ hi) (hO : sg σ 0 = 79) (hq1 : 1 ≤ pQ σ) :
    ∀ k i, i + k = 12 → ∀ h : HI, RM hi h (1 + pQ σ + 4 * i, -9) (pQ σ) i 0 → (∀ p, p < pQ σ → h 42 p = zI (newS σ 1 p)) → RPe σ h i → pPp σ = peoN σ (pQ σ) k i → Wp M_MO_readText 8 (PoR σ hi hl) 113 [some (.ref 41), none, none] [] h hl := by
  have hn := ok.nums
  have b1 := pQ_le σ
  have b3 := pE_b σ
  have hq0 : ¬ pQ σ = 0 := by omega
  have after : ∀ (i : Nat) (h : HI), i ≤ 12 → RM hi h (1 + pQ σ + 4 * i, -9) (pQ σ) i 0 → (∀ p, p < pQ σ → h 42 p = zI (newS σ 1 p)) → RPe σ h i → pPp σ = (-9, i) → Wp M_MO_readText 8 (PoR σ hi hl) 225 [some (.ref 41), none, none] [] h hl := by
    intro i h hi12 r g1 g2 e
    have hp9 : (pPp σ).1 = -9 := by rw [e]
    have hp9' : ¬ (pPp σ).1 ≠ -9 := fun q => q hp9
    have hp2 : (pPp σ).2 = i := by rw [e]
    have hE : pE σ = 1 + pQ σ + 4 * i := by unfold pE; rw [hp2]
    have hEl := pE_le hq1 hp9
    have hsg := sg_b ok (pE σ)
    have r' : RM hi h (pE σ, -9) (pQ σ) (pPp σ).2 0 := by rw [hE, hp2]; exact r
    have hh : hrM σ (pE σ, -9) = sg σ (pE σ) := by rw [hrM, if_pos rfl]
    refine wp_aload_n d_MO_readText_225 rfl ?_
    refine wp_callV (ct_MO_here (s := (pE σ, -9)) 0 ok hA r' (by show pE σ ≤ 200 ∧ -9 ≤ (-9 : Int) ∧ (-9 : Int) ≤ 200; omega)) d_MO_readText_226 k_MO_90 (by decide) rfl rfl rfl rfl (Nat.le_of_ble_eq_true rfl) (by omega) ?_
    rintro _ _ _ ⟨rfl, rfl, rfl⟩
    rw [hh]
    refine wp_bipush (v := zI 47) d_MO_readText_229 rfl ?_
    refine wz_icmp_ne (tgt := 331) d_MO_readText_231 (by decide) (by omega) (by omega) (fun h231 => ?_) (fun h231 => ?_)
    · refine rt_good331 ok hA r' hEl (fun q => ?_) (fun q => ?_)
      · rw [r_fault, if_pos hO, if_neg hq0, if_neg hp9', if_neg (by omega), if_pos h231]
      · have e9 : r_fault σ = -9 := by rw [r_fault, if_pos hO, if_neg hq0, if_neg hp9', if_pos q]
        have hH2 : (pH σ).2 = 0 := by unfold pH; rw [if_pos q]
        exact ⟨e9, by rw [e9], rfl, r'.1, r'.2.1, fun _ => ⟨r'.2.2.2.2.1, r'.2.2.2.2.2.1, by rw [hH2]; exact r'.2.2.2.2.2.2, g1, by rw [hp2]; exact g2, fun j hj => absurd hj (by omega)⟩⟩
    · have hlt := sg_lt (σ := σ) (i := pE σ) (by omega)
      have r16 : h 41 16 = zI (pE σ : Int) := r'.2.2.1
      refine wp_aload_n d_MO_readText_234 rfl ?_
      refine wp_dup d_MO_readText_235 rfl ?_
      refine wz_getI (r16) d_MO_readText_236 f_MO_87 (by decide) rfl rfl ?_
      refine wp_iconst (v := zI 1) d_MO_readText_239 rfl ?_
      refine wz_iadd d_MO_readText_240 ?_
      refine wp_putI d_MO_readText_241 f_MO_87 pk_MO_16 (by decide) rfl rfl ?_
      have r2 := r'.atA (pE σ + 1)
      refine wp_iconst (v := zI 1) d_MO_readText_244 rfl ?_
      refine wp_aload_n d_MO_readText_245 rfl ?_
      refine wz_getI (r2.2.2.2.2.1) d_MO_readText_246 f_MO_99 (by decide) rfl rfl ?_
      refine wp_ishl d_MO_readText_249 ?_
      refine wp_iconst (v := zI 1) d_MO_readText_250 rfl ?_
      refine wp_isub d_MO_readText_251 ?_
      refine wp_istore_n (lv' := [_, _, _]) d_MO_readText_252 (by decide) rfl ?_
      exact rt_hymn (h0 := h) ok hA hO hq1 hp9 (by omega) h231 (mk_low b1) (mk_high b1) 24 0 (by omega) _ r2 (fun p hp => rd1 (by decide) (g1 p hp)) (fun m hm f hf => rd1 (by decide) (g2 m (by omega) f hf)) (fun j hj => absurd hj (by omega)) rfl (by omega)
  intro k
  induction k with
  | zero =>
    intro i hik h r g1 g2 e
    refine wp_aload_n d_MO_readText_113 rfl ?_
    refine wz_getI (r.2.2.2.2.2.1) d_MO_readText_114 f_MO_102 (by decide) rfl rfl ?_
    refine wp_bipush (v := zI 12) d_MO_readText_117 rfl ?_
    refine wz_icmp_ge (tgt := 225) d_MO_readText_119 (by decide) (by omega) (by omega) (fun h119 => ?_) (fun h119 => ?_)
    · exact after i h (by omega) r g1 g2 e
    · exact absurd h119 (by omega)
  | succ k ih =>
    intro i hik h r g1 g2 e
    have hsg := sg_b ok (1 + pQ σ + 4 * i)
    have hh : hrM σ (1 + pQ σ + 4 * i, -9) = sg σ (1 + pQ σ + 4 * i) := by rw [hrM, if_pos rfl]
    refine wp_aload_n d_MO_readText_113 rfl ?_
    refine wz_getI (r.2.2.2.2.2.1) d_MO_readText_114 f_MO_102 (by decide) rfl rfl ?_
    refine wp_bipush (v := zI 12) d_MO_readText_117 rfl ?_
    refine wz_icmp_ge (tgt := 225) d_MO_readText_119 (by decide) (by omega) (by omega) (fun h119 => ?_) (fun h119 => ?_)
    · exact absurd h119 (by omega)
    · refine wp_aload_n d_MO_readText_122 rfl ?_
      refine wp_callV (ct_MO_here (s := (1 + pQ σ + 4 * i, -9)) 0 ok hA r (by show 1 + pQ σ + 4 * i ≤ 200 ∧ -9 ≤ (-9 : Int) ∧ (-9 : Int) ≤ 200; omega)) d_MO_readText_123 k_MO_90 (by decide) rfl rfl rfl rfl (Nat.le_of_ble_eq_true rfl) (by omega) ?_
      rintro _ _ _ ⟨rfl, rfl, rfl⟩
      rw [hh]
      refine wp_bipush (v := zI 77) d_MO_readText_126 rfl ?_
      refine wz_icmp_ne (tgt := 225) d_MO_readText_128 (by decide) (by omega) (by omega) (fun h128 => ?_) (fun h128 => ?_)
      · exact after i h (by omega) r g1 g2 (by rw [e, peoN, if_neg h128])
      · have r16 : h 41 16 = zI ((1 + pQ σ + 4 * i : Nat) : Int) := r.2.2.1
        refine wp_aload_n d_MO_readText_131 rfl ?_
        refine wp_dup d_MO_readText_132 rfl ?_
        refine wz_getI (r16) d_MO_readText_133 f_MO_87 (by decide) rfl rfl ?_
        refine wp_iconst (v := zI 1) d_MO_readText_136 rfl ?_
        refine wz_iadd d_MO_readText_137 ?_
        refine wp_putI d_MO_readText_138 f_MO_87 pk_MO_16 (by decide) rfl rfl ?_
        have r1 := r.atA (1 + pQ σ + 4 * i + 1)
        refine wp_iconst (v := zI 5) d_MO_readText_141 rfl ?_
        refine wp_aload_n d_MO_readText_142 rfl ?_
        refine wz_getI (r1.2.2.2.2.2.1) d_MO_readText_143 f_MO_102 (by decide) rfl rfl ?_
        refine wz_imul d_MO_readText_146 ?_
        refine wp_istore_n (lv' := [_, _, _]) d_MO_readText_147 (by decide) rfl ?_
        refine wp_aload_n d_MO_readText_148 rfl ?_
        refine wp_getR d_MO_readText_149 f_MO_13 (by decide) rfl rfl ?_
        refine wp_iload_n d_MO_readText_152 rfl ?_
        refine wp_aload_n d_MO_readText_153 rfl ?_
        refine wp_iconst (v := zI 1) d_MO_readText_154 rfl ?_
        refine wp_bipush (v := zI 9) d_MO_readText_155 rfl ?_
        obtain ⟨s1, hs1⟩ : ∃ s, s = (1 + pQ σ + 4 * i + 1, (-9 : Int)) := ⟨_, rfl⟩
        have hb1 : s1.1 ≤ 200 ∧ -9 ≤ s1.2 ∧ s1.2 ≤ 200 := by rw [hs1]; show 1 + pQ σ + 4 * i + 1 ≤ 200 ∧ -9 ≤ (-9 : Int) ∧ (-9 : Int) ≤ 200; omega
        have r1' : RM hi (setI h 41 16 (zI ((1 + pQ σ + 4 * i + 1 : Nat) : Int))) s1 (pQ σ) i 0 := by rw [hs1]; exact r1
        refine wp_callV (ct_MO_figure (s := s1) (x := 1) (y := 9) ok hA r1' hb1 (by omega) (by omega)) d_MO_readText_157 k_MO_112 (by decide) rfl rfl rfl rfl (Nat.le_of_ble_eq_true rfl) (by omega) ?_
        rintro _ h2 _ ⟨rfl, rfl, r2, c2⟩
        obtain ⟨s2, hs2⟩ : ∃ s, s = fgA σ s1 1 9 := ⟨_, rfl⟩
        obtain ⟨v1, hv1⟩ : ∃ v, v = fgV σ s1 1 9 := ⟨_, rfl⟩
        rw [← hs2] at r2
        rw [← hv1]
        have hb2 : s2.1 ≤ 200 ∧ -9 ≤ s2.2 ∧ s2.2 ≤ 200 := by
          rw [hs2, hs1]
          unfold fgA
          split
          · show 1 + pQ σ + 4 * i + 1 + 1 ≤ 200 ∧ -9 ≤ (-9 : Int) ∧ (-9 : Int) ≤ 200
            omega
          · show 1 + pQ σ + 4 * i + 1 ≤ 200 ∧ -9 ≤ ((1 + pQ σ + 4 * i + 1 : Nat) : Int) ∧ ((1 + pQ σ + 4 * i + 1 : Nat) : Int) ≤ 200
            omega
        refine wz_iast ((show _ = ((5 * i : Nat) : Int) by omega)) ((by omega)) d_MO_readText_160 (by decide) rfl (by decide) ?_
        refine wp_aload_n d_MO_readText_161 rfl ?_
        refine wp_getR d_MO_readText_162 f_MO_13 (by decide) rfl rfl ?_
        refine wp_iload_n d_MO_readText_165 rfl ?_
        refine wp_iconst (v := zI 1) d_MO_readText_166 rfl ?_
        refine wz_iadd d_MO_readText_167 ?_
        refine wp_aload_n d_MO_readText_168 rfl ?_
        refine wp_iconst (v := zI 1) d_MO_readText_169 rfl ?_
        refine wp_iconst (v := zI 3) d_MO_readText_170 rfl ?_
        have r3 : RM hi (setI h2 43 (5 * i) (zI v1)) s2 (pQ σ) i 0 := r2.row (by omega)
        refine wp_callV (ct_MO_figure (s := s2) (x := 1) (y := 3) ok hA r3 hb2 (by omega) (by omega)) d_MO_readText_171 k_MO_112 (by decide) rfl rfl rfl rfl (Nat.le_of_ble_eq_true rfl) (by omega) ?_
        rintro _ h4 _ ⟨rfl, rfl, r4, c4⟩
        obtain ⟨s3, hs3⟩ : ∃ s, s = fgA σ s2 1 3 := ⟨_, rfl⟩
        obtain ⟨v2, hv2⟩ : ∃ v, v = fgV σ s2 1 3 := ⟨_, rfl⟩
        rw [← hs3] at r4
        rw [← hv2]
        have hb3 : s3.1 ≤ 200 ∧ -9 ≤ s3.2 ∧ s3.2 ≤ 200 := by
          rw [hs3, hs2, hs1]
          unfold fgA
          repeat' split
          all_goals simp
          all_goals omega
        refine wz_iast ((show _ = ((5 * i + 1 : Nat) : Int) by omega)) ((by omega)) d_MO_readText_174 (by decide) rfl (by decide) ?_
        refine wp_aload_n d_MO_readText_175 rfl ?_
        refine wp_getR d_MO_readText_176 f_MO_13 (by decide) rfl rfl ?_
        refine wp_iload_n d_MO_readText_179 rfl ?_
        refine wp_iconst (v := zI 2) d_MO_readText_180 rfl ?_
        refine wz_iadd d_MO_readText_181 ?_
        refine wp_aload_n d_MO_readText_182 rfl ?_
        refine wp_iconst (v := zI 0) d_MO_readText_183 rfl ?_
        refine wp_aload_n d_MO_readText_184 rfl ?_
        refine wz_getI (((r4.row (k := 43) (by omega)).2.2.2.2.1)) d_MO_readText_185 f_MO_99 (by decide) rfl rfl ?_
        refine wp_iconst (v := zI 1) d_MO_readText_188 rfl ?_
        refine wz_isub d_MO_readText_189 ?_
        have r5 : RM hi (setI h4 43 (5 * i + 1) (zI v2)) s3 (pQ σ) i 0 := r4.row (by omega)
        refine wp_callV (ct_MO_figure (s := s3) (x := 0) (y := (pQ σ : Int) - 1) ok hA r5 hb3 (by omega) (by omega)) d_MO_readText_190 k_MO_112 (by decide) rfl rfl rfl rfl (Nat.le_of_ble_eq_true rfl) (by omega) ?_
        rintro _ h6 _ ⟨rfl, rfl, r6, c6⟩
        obtain ⟨s4, hs4⟩ : ∃ s, s = fgA σ s3 0 ((pQ σ : Int) - 1) := ⟨_, rfl⟩
        obtain ⟨v3, hv3⟩ : ∃ v, v = fgV σ s3 0 ((pQ σ : Int) - 1) := ⟨_, rfl⟩
        rw [← hs4] at r6
        rw [← hv3]
        refine wz_iast ((show _ = ((5 * i + 2 : Nat) : Int) by omega)) ((by omega)) d_MO_readText_193 (by decide) rfl (by decide) ?_
        refine wp_aload_n d_MO_readText_194 rfl ?_
        refine wp_getR d_MO_readText_195 f_MO_13 (by decide) rfl rfl ?_
        refine wp_iload_n d_MO_readText_198 rfl ?_
        refine wp_iconst (v := zI 3) d_MO_readText_199 rfl ?_
        refine wz_iadd d_MO_readText_200 ?_
        refine wp_iconst (v := zI 0) d_MO_readText_201 rfl ?_
        refine wz_iast ((show _ = ((5 * i + 3 : Nat) : Int) by omega)) ((by omega)) d_MO_readText_202 (by decide) rfl (by decide) ?_
        refine wp_aload_n d_MO_readText_203 rfl ?_
        refine wp_getR d_MO_readText_204 f_MO_13 (by decide) rfl rfl ?_
        refine wp_iload_n d_MO_readText_207 rfl ?_
        refine wp_iconst (v := zI 4) d_MO_readText_208 rfl ?_
        refine wz_iadd d_MO_readText_209 ?_
        refine wp_iconst (v := zI 0) d_MO_readText_210 rfl ?_
        refine wz_iast ((show _ = ((5 * i + 4 : Nat) : Int) by omega)) ((by omega)) d_MO_readText_211 (by decide) rfl (by decide) ?_
        have r7 : RM hi (setI (setI (setI h6 43 (5 * i + 2) (zI v3)) 43 (5 * i + 3) (zI 0)) 43 (5 * i + 4) (zI 0)) s4 (pQ σ) i 0 := ((r6.row (by omega)).row (by omega)).row (by omega)
        refine wp_aload_n d_MO_readText_212 rfl ?_
        refine wp_dup d_MO_readText_213 rfl ?_
        refine wz_getI (r7.2.2.2.2.2.1) d_MO_readText_214 f_MO_102 (by decide) rfl rfl ?_
        refine wp_iconst (v := zI 1) d_MO_readText_217 rfl ?_
        refine wz_iadd d_MO_readText_218 ?_
        refine wp_putI d_MO_readText_219 f_MO_102 pk_MO_4 (by decide) rfl rfl ?_
        refine wp_goto (tgt := 113) d_MO_readText_222 (by decide) ?_
        refine wp_drop (lv' := [some _, none, none]) ⟨rfl, trivial⟩ ?_
        have r8 := r7.nm (i + 1)
        by_cases k1 : isF σ (1 + pQ σ + 4 * i + 1) 1 9
        · obtain ⟨w1, w2⟩ := fgA_ok (s := (1 + pQ σ + 4 * i + 1, (-9 : Int))) rfl k1
          rw [hs1, w1] at hs2
          rw [hs1, w2] at hv1
          by_cases k2 : isF σ (1 + pQ σ + 4 * i + 2) 1 3
          · obtain ⟨w3, w4⟩ := fgA_ok (s := (1 + pQ σ + 4 * i + 1 + 1, (-9 : Int))) rfl k2
            rw [hs2, w3] at hs3
            rw [hs2, w4] at hv2
            by_cases k3 : isF σ (1 + pQ σ + 4 * i + 3) 0 ((pQ σ : Int) - 1)
            · obtain ⟨w5, w6⟩ := fgA_ok (s := (1 + pQ σ + 4 * i + 1 + 1 + 1, (-9 : Int))) rfl k3
              rw [hs3, w5] at hs4
              rw [hs3, w6] at hv3
              rw [hs4] at r8
              have cA : ∀ (y : Int32) j, j ≠ 5 * i + 2 → j ≠ 5 * i + 3 → j ≠ 5 * i + 4 → setI (setI (setI (setI h6 43 (5 * i + 2) (zI v3)) 43 (5 * i + 3) (zI 0)) 43 (5 * i + 4) (zI 0)) 41 4 y 43 j = setI h4 43 (5 * i + 1) (zI v2) 43 j := fun y j q1 q2 q3 => rd1 (by decide) (rdS q3 (rdS q2 (rdS q1 (by rw [c6 43 (by omega)]))))
              refine ih (i + 1) (by omega) _ r8 (fun p hp => ?_) (fun m hm f hf => ?_) (by rw [e, peoN, if_pos h128, if_pos k1, if_pos k2, if_pos k3])
              · refine rd1 (by decide) (rd1 (by decide) (rd1 (by decide) (rd1 (by decide) ?_)))
                rw [c6 42 (by omega), setI_ne _ _ _ (by decide), c4 42 (by omega), setI_ne _ _ _ (by decide), c2 42 (by omega), setI_ne _ _ _ (by decide)]
                exact g1 p hp
              · by_cases z : m = i
                · subst z
                  rcases (show f = 0 ∨ f = 1 ∨ f = 2 ∨ f = 3 ∨ f = 4 by omega) with rfl | rfl | rfl | rfl | rfl
                  · rw [cA _ _ (by omega) (by omega) (by omega)]
                    refine rdS (by omega) ?_
                    rw [c4 43 (by omega), show 5 * m + 0 = 5 * m from rfl]
                    refine rdA ?_
                    show zI v1 = zI ((fgN σ (1 + pQ σ + 4 * m + 1) : Nat) : Int)
                    rw [hv1, ← fg_eq k1 (by omega)]
                  · rw [cA _ _ (by omega) (by omega) (by omega)]
                    refine rdA ?_
                    show zI v2 = zI ((fgN σ (1 + pQ σ + 4 * m + 2) : Nat) : Int)
                    rw [hv2, ← fg_eq k2 (by omega)]
                  · refine rd1 (by decide) (rdS (by omega) (rdS (by omega) (rdA ?_)))
                    show zI v3 = zI ((fgN σ (1 + pQ σ + 4 * m + 3) : Nat) : Int)
                    rw [hv3, ← fg_eq k3 (by omega)]
                  · exact rd1 (by decide) (rdS (by omega) (rdA rfl))
                  · exact rd1 (by decide) (rdA rfl)
                · rw [cA _ _ (by omega) (by omega) (by omega)]
                  refine rdS (by omega) ?_
                  rw [c4 43 (by omega)]
                  refine rdS (by omega) ?_
                  rw [c2 43 (by omega), setI_ne _ _ _ (by decide)]
                  exact g2 m (by omega) f hf
            · have w5 := fgA_no (s := (1 + pQ σ + 4 * i + 1 + 1 + 1, (-9 : Int))) rfl k3
              rw [hs3, w5] at hs4
              rw [hs4] at r8
              refine rt_bad113 ok hA r8 (by omega) (by show 1 + pQ σ + 4 * i + 1 + 1 + 1 ≤ 200 ∧ -9 ≤ ((1 + pQ σ + 4 * i + 1 + 1 + 1 : Nat) : Int) ∧ ((1 + pQ σ + 4 * i + 1 + 1 + 1 : Nat) : Int) ≤ 200; omega) (by show ((1 + pQ σ + 4 * i + 1 + 1 + 1 : Nat) : Int) ≠ -9; omega) ?_
              have e2 : pPp σ = (((1 + pQ σ + 4 * i + 3 : Nat) : Int), i) := by rw [e, peoN, if_pos h128, if_pos k1, if_pos k2, if_neg k3]
              rw [r_fault, if_pos hO, if_neg hq0, e2, if_pos (by show ((1 + pQ σ + 4 * i + 3 : Nat) : Int) ≠ -9; omega)]
          · have w3 := fgA_no (s := (1 + pQ σ + 4 * i + 1 + 1, (-9 : Int))) rfl k2
            rw [hs2, w3] at hs3
            have w5 := fgA_f (σ := σ) (s := (1 + pQ σ + 4 * i + 1 + 1, ((1 + pQ σ + 4 * i + 1 + 1 : Nat) : Int))) (x := 0) (y := (pQ σ : Int) - 1) (by show ((1 + pQ σ + 4 * i + 1 + 1 : Nat) : Int) ≠ -9; omega)
            rw [hs3, w5] at hs4
            rw [hs4] at r8
            refine rt_bad113 ok hA r8 (by omega) (by show 1 + pQ σ + 4 * i + 1 + 1 ≤ 200 ∧ -9 ≤ ((1 + pQ σ + 4 * i + 1 + 1 : Nat) : Int) ∧ ((1 + pQ σ + 4 * i + 1 + 1 : Nat) : Int) ≤ 200; omega) (by show ((1 + pQ σ + 4 * i + 1 + 1 : Nat) : Int) ≠ -9; omega) ?_
            have e2 : pPp σ = (((1 + pQ σ + 4 * i + 2 : Nat) : Int), i) := by rw [e, peoN, if_pos h128, if_pos k1, if_neg k2]
            rw [r_fault, if_pos hO, if_neg hq0, e2, if_pos (by show ((1 + pQ σ + 4 * i + 2 : Nat) : Int) ≠ -9; omega)]
        · have w1 := fgA_no (s := (1 + pQ σ + 4 * i + 1, (-9 : Int))) rfl k1
          rw [hs1, w1] at hs2
          have w3 := fgA_f (σ := σ) (s := (1 + pQ σ + 4 * i + 1, ((1 + pQ σ + 4 * i + 1 : Nat) : Int))) (x := 1) (y := 3) (by show ((1 + pQ σ + 4 * i + 1 : Nat) : Int) ≠ -9; omega)
          rw [hs2, w3] at hs3
          have w5 := fgA_f (σ := σ) (s := (1 + pQ σ + 4 * i + 1, ((1 + pQ σ + 4 * i + 1 : Nat) : Int))) (x := 0) (y := (pQ σ : Int) - 1) (by show ((1 + pQ σ + 4 * i + 1 : Nat) : Int) ≠ -9; omega)
          rw [hs3, w5] at hs4
          rw [hs4] at r8
          refine rt_bad113 ok hA r8 (by omega) (by show 1 + pQ σ + 4 * i + 1 ≤ 200 ∧ -9 ≤ ((1 + pQ σ + 4 * i + 1 : Nat) : Int) ∧ ((1 + pQ σ + 4 * i + 1 : Nat) : Int) ≤ 200; omega) (by show ((1 + pQ σ + 4 * i + 1 : Nat) : Int) ≠ -9; omega) ?_
          have e2 : pPp σ = (((1 + pQ σ + 4 * i + 1 : Nat) : Int), i) := by rw [e, peoN, if_pos h128, if_neg k1]
          rw [r_fault, if_pos hO, if_neg hq0, e2, if_pos (by show ((1 + pQ σ + 4 * i + 1 : Nat) : Int) ≠ -9; omega)]
theorem rt_pipes (ok : Ok σ) (hA : AM σ hi) (hO : sg σ 0 = 79) :
    ∀ k i, i + k = 6 → ∀ h : HI, RM hi h (1 + i, -9) i 0 0 → (∀ p, p < i → h 42 p = zI (newS σ 1 p)) → pQ σ = pipN σ k i → Wp M_MO_readText 8 (PoR σ hi hl) 42 [some (.ref 41), none, none] [] h hl := by
  have body : ∀ i k, i + (k + 1) = 6 → isF σ (1 + i) 1 9 → (∀ h : HI, RM hi h (1 + (i + 1), -9) (i + 1) 0 0 → (∀ p, p < i + 1 → h 42 p = zI (newS σ 1 p)) → Wp M_MO_readText 8 (PoR σ hi hl) 42 [some (.ref 41), none, none] [] h hl) → ∀ h : HI, RM hi h (1 + i, -9) i 0 0 → (∀ p, p < i → h 42 p = zI (newS σ 1 p)) → Wp M_MO_readText 8 (PoR σ hi hl) 84 [some (.ref 41), none, none] [] h hl := by
    intro i k hik hF cont h r g
    refine wp_aload_n d_MO_readText_84 rfl ?_
    refine wp_getR d_MO_readText_85 f_MO_7 (by decide) rfl rfl ?_
    refine wp_aload_n d_MO_readText_88 rfl ?_
    refine wz_getI (r.2.2.2.2.1) d_MO_readText_89 f_MO_99 (by decide) rfl rfl ?_
    refine wp_aload_n d_MO_readText_92 rfl ?_
    refine wp_iconst (v := zI 1) d_MO_readText_93 rfl ?_
    refine wp_bipush (v := zI 9) d_MO_readText_94 rfl ?_
    refine wp_callV (ct_MO_figure (s := (1 + i, -9)) (x := 1) (y := 9) ok hA r (by show 1 + i ≤ 200 ∧ -9 ≤ (-9 : Int) ∧ (-9 : Int) ≤ 200; omega) (by omega) (by omega)) d_MO_readText_96 k_MO_112 (by decide) rfl rfl rfl rfl (Nat.le_of_ble_eq_true rfl) (by omega) ?_
    rintro _ h2 _ ⟨rfl, rfl, r2, c2⟩
    obtain ⟨w1, w2⟩ := fgA_ok (s := (1 + i, (-9 : Int))) rfl hF
    rw [w1] at r2
    rw [w2]
    refine wz_iast (rfl) ((by omega)) d_MO_readText_99 (by decide) rfl (by decide) ?_
    have r3 : RM hi (setI h2 42 i (zI (sg σ (1 + i) - 48))) (1 + i + 1, -9) i 0 0 := r2.row (by omega)
    refine wp_aload_n d_MO_readText_100 rfl ?_
    refine wp_dup d_MO_readText_101 rfl ?_
    refine wz_getI (r3.2.2.2.2.1) d_MO_readText_102 f_MO_99 (by decide) rfl rfl ?_
    refine wp_iconst (v := zI 1) d_MO_readText_105 rfl ?_
    refine wz_iadd d_MO_readText_106 ?_
    refine wp_putI d_MO_readText_107 f_MO_99 pk_MO_3 (by decide) rfl rfl ?_
    refine wp_goto (tgt := 42) d_MO_readText_110 (by decide) ?_
    have r4 := r3.np (i + 1)
    refine cont _ r4 (fun p hp => ?_)
    by_cases z : p = i
    · subst z
      refine rd1 (by decide) (rdA ?_)
      show _ = zI ((fgN σ (1 + p) : Nat) : Int)
      rw [fg_eq hF (by omega)]
    · refine rd1 (by decide) (rdS z ?_)
      rw [c2 42 (by omega)]
      exact g p (by omega)
  intro k
  induction k with
  | zero =>
    intro i hik h r g e
    have eq : pQ σ = i := e
    have r17 : h 41 17 = zI (-9) := r.2.2.2.1
    refine wp_aload_n d_MO_readText_42 rfl ?_
    refine wz_getI (r.2.2.2.2.1) d_MO_readText_43 f_MO_99 (by decide) rfl rfl ?_
    refine wz_if_ne (tgt := 58) d_MO_readText_46 (by decide) (by omega) (fun h46 => ?_) (fun h46 => ?_)
    · refine wp_aload_n d_MO_readText_58 rfl ?_
      refine wz_getI (r.2.2.2.2.1) d_MO_readText_59 f_MO_99 (by decide) rfl rfl ?_
      refine wp_bipush (v := zI 6) d_MO_readText_62 rfl ?_
      refine wz_icmp_ge (tgt := 113) d_MO_readText_64 (by decide) (by omega) (by omega) (fun h64 => ?_) (fun h64 => ?_)
      · exact rt_people ok hA hO (by omega) 12 0 (by omega) h (by rw [eq]; exact r) (by rw [eq]; exact g) (fun m hm => absurd hm (by omega)) rfl
      · exact absurd h64 (by omega)
    · exact absurd h46 (by omega)
  | succ k ih =>
    intro i hik h r g e
    have r17 : h 41 17 = zI (-9) := r.2.2.2.1
    have hsg := sg_b ok (1 + i)
    have hh : hrM σ (1 + i, -9) = sg σ (1 + i) := by rw [hrM, if_pos rfl]
    refine wp_aload_n d_MO_readText_42 rfl ?_
    refine wz_getI (r.2.2.2.2.1) d_MO_readText_43 f_MO_99 (by decide) rfl rfl ?_
    refine wz_if_ne (tgt := 58) d_MO_readText_46 (by decide) (by omega) (fun h46 => ?_) (fun h46 => ?_)
    · refine wp_aload_n d_MO_readText_58 rfl ?_
      refine wz_getI (r.2.2.2.2.1) d_MO_readText_59 f_MO_99 (by decide) rfl rfl ?_
      refine wp_bipush (v := zI 6) d_MO_readText_62 rfl ?_
      refine wz_icmp_ge (tgt := 113) d_MO_readText_64 (by decide) (by omega) (by omega) (fun h64 => ?_) (fun h64 => ?_)
      · exact absurd h64 (by omega)
      · refine wp_aload_n d_MO_readText_67 rfl ?_
        refine wp_callV (ct_MO_here (s := (1 + i, -9)) 0 ok hA r (by show 1 + i ≤ 200 ∧ -9 ≤ (-9 : Int) ∧ (-9 : Int) ≤ 200; omega)) d_MO_readText_68 k_MO_90 (by decide) rfl rfl rfl rfl (Nat.le_of_ble_eq_true rfl) (by omega) ?_
        rintro _ _ _ ⟨rfl, rfl, rfl⟩
        rw [hh]
        refine wz_i2l d_MO_readText_71 (by omega) ?_
        refine wz_ldc2 (z := 49) d_MO_readText_72 cs_MO_108 rfl ?_
        refine wz_ldc2 (z := 57) d_MO_readText_75 cs_MO_110 rfl ?_
        refine wp_callS (ct_MO_in (x := sg σ (1 + i)) (y := 49) (z := 57) 0 (by omega) (by omega) (by omega)) d_MO_readText_78 k_MO_75 rfl rfl (Nat.le_of_ble_eq_true rfl) (by omega) ?_
        rintro _ _ _ ⟨rfl, rfl, rfl⟩
        refine wz_if_eqB (tgt := 113) d_MO_readText_81 (by decide) (fun h81 => ?_) (fun h81 => ?_)
        · have eq : pQ σ = i := by rw [e, pipN, if_neg (by omega)]
          exact rt_people ok hA hO (by omega) 12 0 (by omega) h (by rw [eq]; exact r) (by rw [eq]; exact g) (fun m hm => absurd hm (by omega)) rfl
        · have hF : isF σ (1 + i) 1 9 := by omega
          exact body i k (by omega) hF (fun h' r' g' => ih (i + 1) (by omega) h' r' g' (by rw [e, pipN, if_pos hF])) h r g
    · have i0 : i = 0 := by omega
      subst i0
      refine wp_aload_n d_MO_readText_49 rfl ?_
      refine wz_getI (r17) d_MO_readText_50 f_MO_84 (by decide) rfl rfl ?_
      refine wp_bipush (v := zI (-9)) d_MO_readText_53 rfl ?_
      refine wz_icmp_eq (tgt := 84) d_MO_readText_55 (by decide) (by omega) (by omega) (fun h55 => ?_) (fun h55 => ?_)
      · by_cases hF : isF σ (1 + 0) 1 9
        · exact body 0 k (by omega) hF (fun h' r' g' => ih (0 + 1) (by omega) h' r' g' (by rw [e, pipN, if_pos hF])) h r g
        · have eq : pQ σ = 0 := by rw [e, pipN, if_neg hF]
          have eF : r_fault σ = 1 := by rw [r_fault, if_pos hO, if_pos eq]
          refine wp_aload_n d_MO_readText_84 rfl ?_
          refine wp_getR d_MO_readText_85 f_MO_7 (by decide) rfl rfl ?_
          refine wp_aload_n d_MO_readText_88 rfl ?_
          refine wz_getI (r.2.2.2.2.1) d_MO_readText_89 f_MO_99 (by decide) rfl rfl ?_
          refine wp_aload_n d_MO_readText_92 rfl ?_
          refine wp_iconst (v := zI 1) d_MO_readText_93 rfl ?_
          refine wp_bipush (v := zI 9) d_MO_readText_94 rfl ?_
          refine wp_callV (ct_MO_figure (s := (1 + 0, -9)) (x := 1) (y := 9) ok hA r (by show 1 + 0 ≤ 200 ∧ -9 ≤ (-9 : Int) ∧ (-9 : Int) ≤ 200; omega) (by omega) (by omega)) d_MO_readText_96 k_MO_112 (by decide) rfl rfl rfl rfl (Nat.le_of_ble_eq_true rfl) (by omega) ?_
          rintro _ h2 _ ⟨rfl, rfl, r2, c2⟩
          have w1 := fgA_no (s := (1 + 0, (-9 : Int))) rfl hF
          rw [w1] at r2
          refine wz_iast (j := 0) rfl (by decide) d_MO_readText_99 (by decide) rfl (by decide) ?_
          have r3 : ∀ v, RM hi (setI h2 42 0 v) (1, 1) 0 0 0 := fun v => r2.row (by omega)
          refine wp_aload_n d_MO_readText_100 rfl ?_
          refine wp_dup d_MO_readText_101 rfl ?_
          refine wz_getI ((r3 _).2.2.2.2.1) d_MO_readText_102 f_MO_99 (by decide) rfl rfl ?_
          refine wp_iconst (v := zI 1) d_MO_readText_105 rfl ?_
          refine wz_iadd d_MO_readText_106 ?_
          refine wp_putI d_MO_readText_107 f_MO_99 pk_MO_3 (by decide) rfl rfl ?_
          refine wp_goto (tgt := 42) d_MO_readText_110 (by decide) ?_
          have r4 := (r3 (zI (fgV σ (1 + 0, -9) 1 9))).np 1
          refine wp_aload_n d_MO_readText_42 rfl ?_
          refine wz_getI (r4.2.2.2.2.1) d_MO_readText_43 f_MO_99 (by decide) rfl rfl ?_
          refine wz_if_ne (tgt := 58) d_MO_readText_46 (by decide) (by omega) (fun h46 => ?_) (fun h46 => ?_)
          · refine wp_aload_n d_MO_readText_58 rfl ?_
            refine wz_getI (r4.2.2.2.2.1) d_MO_readText_59 f_MO_99 (by decide) rfl rfl ?_
            refine wp_bipush (v := zI 6) d_MO_readText_62 rfl ?_
            refine wz_icmp_ge (tgt := 113) d_MO_readText_64 (by decide) (by omega) (by omega) (fun h64 => ?_) (fun h64 => ?_)
            · exact absurd h64 (by decide)
            · refine wp_aload_n d_MO_readText_67 rfl ?_
              refine wp_callV (ct_MO_here (s := (1, 1)) 0 ok hA r4 (by decide)) d_MO_readText_68 k_MO_90 (by decide) rfl rfl rfl rfl (Nat.le_of_ble_eq_true rfl) (by omega) ?_
              rintro _ _ _ ⟨rfl, rfl, rfl⟩
              rw [show hrM σ (1, 1) = -1 from by rw [hrM, if_neg (by decide)]]
              refine wz_i2l d_MO_readText_71 (by omega) ?_
              refine wz_ldc2 (z := 49) d_MO_readText_72 cs_MO_108 rfl ?_
              refine wz_ldc2 (z := 57) d_MO_readText_75 cs_MO_110 rfl ?_
              refine wp_callS (ct_MO_in (x := -1) (y := 49) (z := 57) 0 (by omega) (by omega) (by omega)) d_MO_readText_78 k_MO_75 rfl rfl (Nat.le_of_ble_eq_true rfl) (by omega) ?_
              rintro _ _ _ ⟨rfl, rfl, rfl⟩
              refine wz_if_eqB (tgt := 113) d_MO_readText_81 (by decide) (fun h81 => ?_) (fun h81 => ?_)
              · exact rt_bad113 ok hA r4 (by omega) (by decide) (by decide) eF
              · exact absurd h81 (by decide)
          · exact absurd h46 (by decide)
      · exact absurd rfl h55
theorem ct_MO_readText (ok : Ok σ) (hA : AM σ hi) : Ct M_MO_readText 8 [.ref 41] hi hl (PoR σ hi hl) := by
  have hsg := sg_b ok 0
  have start : RM hi (setI (setI (setI (setI (setI hi 41 16 (zI 0)) 41 17 (zI (-9))) 41 3 (zI 0)) 41 4 (zI 0)) 41 5 (zI 0)) (0, -9) 0 0 0 := by
    refine ⟨fun c h1 _ _ _ => by rw [setI_ne _ _ _ h1, setI_ne _ _ _ h1, setI_ne _ _ _ h1, setI_ne _ _ _ h1, setI_ne _ _ _ h1], fun f h1 h2 => rdS (by omega) (rdS (by omega) (rdS (by omega) (rdS (by omega) (rdS (by omega) rfl)))), ?_, ?_, ?_, ?_, ?_⟩
    · exact rdS (by decide) (rdS (by decide) (rdS (by decide) (rdS (by decide) (rdA rfl))))
    · exact rdS (by decide) (rdS (by decide) (rdS (by decide) (rdA rfl)))
    · exact rdS (by decide) (rdS (by decide) (rdA rfl))
    · exact rdS (by decide) (rdA rfl)
    · exact rdA rfl
  refine ct_intro (lv := [_, _, _]) (by decide +kernel) (Nat.le_of_ble_eq_true rfl) rfl ?_
  refine wp_aload_n d_MO_readText_0 rfl ?_
  refine wp_iconst (v := zI 0) d_MO_readText_1 rfl ?_
  refine wp_putI d_MO_readText_2 f_MO_87 pk_MO_16 (by decide) rfl rfl ?_
  refine wp_aload_n d_MO_readText_5 rfl ?_
  refine wp_bipush (v := zI (-9)) d_MO_readText_6 rfl ?_
  refine wp_putI d_MO_readText_8 f_MO_84 pk_MO_17 (by decide) rfl rfl ?_
  refine wp_aload_n d_MO_readText_11 rfl ?_
  refine wp_iconst (v := zI 0) d_MO_readText_12 rfl ?_
  refine wp_putI d_MO_readText_13 f_MO_99 pk_MO_3 (by decide) rfl rfl ?_
  refine wp_aload_n d_MO_readText_16 rfl ?_
  refine wp_iconst (v := zI 0) d_MO_readText_17 rfl ?_
  refine wp_putI d_MO_readText_18 f_MO_102 pk_MO_4 (by decide) rfl rfl ?_
  refine wp_aload_n d_MO_readText_21 rfl ?_
  refine wp_iconst (v := zI 0) d_MO_readText_22 rfl ?_
  refine wp_putI d_MO_readText_23 f_MO_105 pk_MO_5 (by decide) rfl rfl ?_
  refine wp_aload_n d_MO_readText_26 rfl ?_
  refine wp_callV (ct_MO_here (s := (0, -9)) 0 ok hA start (by decide)) d_MO_readText_27 k_MO_90 (by decide) rfl rfl rfl rfl (Nat.le_of_ble_eq_true rfl) (by omega) ?_
  rintro _ _ _ ⟨rfl, rfl, rfl⟩
  rw [show hrM σ (0, -9) = sg σ 0 from by rw [hrM, if_pos rfl]]
  refine wp_bipush (v := zI 79) d_MO_readText_30 rfl ?_
  refine wz_icmp_eq (tgt := 37) d_MO_readText_32 (by decide) (by omega) (by omega) (fun h32 => ?_) (fun h32 => ?_)
  · refine wp_aload_n d_MO_readText_37 rfl ?_
    refine wp_iconst (v := zI 1) d_MO_readText_38 rfl ?_
    refine wp_putI d_MO_readText_39 f_MO_87 pk_MO_16 (by decide) rfl rfl ?_
    exact rt_pipes ok hA h32 6 0 (by omega) _ (start.atA 1) (fun p hp => absurd hp (by omega)) rfl
  · refine wp_iconst (v := zI 0) d_MO_readText_35 rfl ?_
    have e : r_fault σ = 0 := by rw [r_fault, if_neg h32]
    exact wp_iret d_MO_readText_36 (Or.inl rfl) (⟨by rw [e], rfl, start.1, start.2.1, fun q => absurd (e.symm.trans q) (by decide)⟩)
end REFORGAN
