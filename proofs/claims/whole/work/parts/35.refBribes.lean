/-! BRIBES: the reference's way -/
section BRR
variable {σ : SG} {hi : HI} {hl : HL} {p : Nat}
theorem AM_bet {h : HI} {a : Nat} (hA : AM σ hi) (e0 : ∀ f, 9 ≤ f → f ≤ 15 → h 41 f = hi 41 f) (e : ∀ c, (45 ≤ c ∧ c ≤ 48 ∧ c ≠ 46) ∨ 58 ≤ c → h c = hi c) (e1 : ∀ k, (∀ m, m < nM σ → k ≠ 5 * m + 4) → h 46 k = hi 46 k) (e2 : ∀ m, m < nM σ → h 46 (5 * m + 4) = zI (br (bet σ a) m)) : AM (bet σ a) h := by
  have q1 : ∀ m, h 46 (5 * m) = hi 46 (5 * m) := fun m => e1 _ (fun _ _ => by omega)
  have q2 : ∀ m, h 46 (5 * m + 1) = hi 46 (5 * m + 1) := fun m => e1 _ (fun _ _ => by omega)
  have q3 : ∀ m, h 46 (5 * m + 2) = hi 46 (5 * m + 2) := fun m => e1 _ (fun _ _ => by omega)
  have q4 : ∀ m, h 46 (5 * m + 3) = hi 46 (5 * m + 3) := fun m => e1 _ (fun _ _ => by omega)
  refine ⟨⟨(e0 10 (by omega) (by omega)).trans hA.n, (e0 12 (by omega) (by omega)).trans hA.late, (e0 13 (by omega) (by omega)).trans hA.room, fun m hm => (q1 m).trans (hA.lu hm), fun m hm => (q2 m).trans (hA.fo hm), fun m hm => (q3 m).trans (hA.pl hm), fun m hm => (q4 m).trans (hA.ph hm), fun m hm => e2 m hm⟩, ⟨(e0 9 (by omega) (by omega)).trans hA.np, (e0 11 (by omega) (by omega)).trans hA.nb, fun p hp => ?_, fun j hj => ?_⟩, ⟨(e0 15 (by omega) (by omega)).trans hA.tl, fun i hi' => ?_⟩, ?_⟩
  · rw [e 45 (by omega)]; exact hA.dr hp
  · rw [e 47 (by omega)]; exact hA.sn hj
  · rw [e 48 (by omega)]; exact hA.2.2.1.2 i hi'
  · have h4 := hA.2.2.2
    intro s hs
    rw [e 58 (by omega), e 59 (by omega), e 60 (by omega)]
    exact ⟨(h4 s hs).1, fun hk => ⟨((h4 s hs).2 hk).1, ((h4 s hs).2 hk).2.1, fun m hm f hf => by rw [bet_kf]; exact ((h4 s hs).2 hk).2.2 m hm f hf⟩⟩
/-- what lies still as sets are tried -/
def BW (σ : SG) (hi h : HI) : Prop := (∀ c, c ≠ 46 → c ≠ 49 → c ≠ 50 → c ≠ 56 → h c = hi c) ∧ (∀ k, (∀ m, m < nM σ → k ≠ 5 * m + 4) → h 46 k = hi 46 k) ∧ ∀ m, m < nM σ → h 56 m = zI (br σ m)
theorem BW.n {h : HI} (w : BW σ hi h) (hA : AM σ hi) : h 41 10 = zI (nM σ) := by rw [w.1 41 (by omega) (by omega) (by omega) (by omega)]; exact hA.n
theorem BW.set {h : HI} (w : BW σ hi h) {m : Nat} {x : Int32} (hm : m < nM σ) : BW σ hi (setI h 46 (5 * m + 4) x) := ⟨fun c q1 q2 q3 q4 => by rw [setI_ne _ _ _ q1]; exact w.1 c q1 q2 q3 q4, fun k hk => rdS (hk m hm) (w.2.1 k hk), fun k hk => rd1 (by decide) (w.2.2 k hk)⟩
theorem ct_MO_isSteady {h : HI} {a : Nat} (ok : Ok σ) (hA : AM σ hi) (w : BW σ hi h) (ha : a < 4096) : Ct M_MO_isSteady 4 [.ref 41, .int (zI a)] h hl (fun r hi' hl' => r = some (.int (bI (tot (bet σ a) (lt σ) = 0))) ∧ hl = hl' ∧ BW σ hi hi') := by
  have hn := ok.nums
  have loop : ∀ k i : Nat, i + k = nM σ → ∀ g : HI, BW σ hi g → (∀ m, m < i → g 46 (5 * m + 4) = zI (br (bet σ a) m)) → Wp M_MO_isSteady 4 (fun r hi' hl' => r = some (.int (bI (tot (bet σ a) (lt σ) = 0))) ∧ hl = hl' ∧ BW σ hi hi') 2 [some (.ref 41), some (.int (zI a)), some (.int (zI i))] [] g hl := by
    intro k
    induction k with
    | zero =>
      intro i hik g w e
      have hAb : AM (bet σ a) g := AM_bet hA (fun f _ _ => by rw [w.1 41 (by omega) (by omega) (by omega) (by omega)]) (fun c hc => w.1 c (by omega) (by omega) (by omega) (by omega)) w.2.1 (fun m hm => e m (by omega))
      refine wp_iload_n d_MO_isSteady_2 rfl ?_
      refine wp_aload_n d_MO_isSteady_3 rfl ?_
      refine wz_getI ((w.n hA)) d_MO_isSteady_4 f_MO_123 (by decide) rfl rfl ?_
      refine wz_icmp_ge (tgt := 50) d_MO_isSteady_7 (by decide) (by omega) (by omega) (fun h7 => ?_) (fun h7 => ?_)
      · refine wp_aload_n d_MO_isSteady_50 rfl ?_
        refine wp_callV (ct_MO_totalOf (σ := bet σ a) (Ok_bet ok a) hAb) d_MO_isSteady_51 k_MO_166 (by decide) rfl rfl rfl rfl (Nat.le_of_ble_eq_true rfl) (by omega) ?_
        rintro _ h2 _ ⟨rfl, rfl, e2⟩
        have w2 : BW σ hi h2 := ⟨fun c q1 q2 q3 q4 => by rw [e2 c q2 q3]; exact w.1 c q1 q2 q3 q4, fun k hk => by rw [e2 46 (by omega) (by omega)]; exact w.2.1 k hk, fun m hm => by rw [e2 56 (by omega) (by omega)]; exact w.2.2 m hm⟩
        have et : tot (bet σ a) (lt (bet σ a)) = tot (bet σ a) (lt σ) := rfl
        rw [et]
        have bt' := totN_b (Ok_bet ok a) (lt σ) (nP σ) (Nat.le_refl _)
        have bt2 : 0 ≤ tot (bet σ a) (lt σ) ∧ tot (bet σ a) (lt σ) ≤ 48216 * (nP σ : Int) := bt'
        refine wz_if_ne (tgt := 61) d_MO_isSteady_54 (by decide) (by omega) (fun h54 => ?_) (fun h54 => ?_)
        · refine wp_iconst (v := zI 0) d_MO_isSteady_61 rfl ?_
          exact wp_iret d_MO_isSteady_62 (Or.inr ⟨rfl, by first | exact bI_01 _ | exact Or.inl rfl | exact Or.inr rfl⟩) (⟨by rw [bI_f h54]; rfl, rfl, w2⟩)
        · refine wp_iconst (v := zI 1) d_MO_isSteady_57 rfl ?_
          refine wp_goto (tgt := 62) d_MO_isSteady_58 (by decide) ?_
          exact wp_iret d_MO_isSteady_62 (Or.inr ⟨rfl, by first | exact bI_01 _ | exact Or.inl rfl | exact Or.inr rfl⟩) (⟨by rw [bI_t h54]; rfl, rfl, w2⟩)
      · exact absurd h7 (by omega)
    | succ k ih =>
      intro i hik g w e
      have hmm := ok.m (show i < nM σ by omega)
      have next : ∀ x : Int32, x = zI (br (bet σ a) i) → Wp M_MO_isSteady 4 (fun r hi' hl' => r = some (.int (bI (tot (bet σ a) (lt σ) = 0))) ∧ hl = hl' ∧ BW σ hi hi') 43 [some (.ref 41), some (.int (zI a)), some (.int (zI i))] [.int x, .int (zI (5 * (i : Int) + 4)), .ref 46] g hl := by
        intro x hx
        refine wz_iast (j := 5 * i + 4) (by omega) (by omega) d_MO_isSteady_43 (by decide) rfl (by decide) ?_
        refine wz_iinc (lv' := [_, _, _]) d_MO_isSteady_44 rfl (by decide) rfl ?_
        refine wp_goto (tgt := 2) d_MO_isSteady_47 (by decide) ?_
        refine ih (i + 1) (by omega) _ (w.set (by omega)) (fun m hm => ?_)
        by_cases q : m = i
        · subst q; exact rdA hx
        · exact rdS (by omega) (e m (by omega))
      refine wp_iload_n d_MO_isSteady_2 rfl ?_
      refine wp_aload_n d_MO_isSteady_3 rfl ?_
      refine wz_getI ((w.n hA)) d_MO_isSteady_4 f_MO_123 (by decide) rfl rfl ?_
      refine wz_icmp_ge (tgt := 50) d_MO_isSteady_7 (by decide) (by omega) (by omega) (fun h7 => ?_) (fun h7 => ?_)
      · exact absurd h7 (by omega)
      · refine wp_aload_n d_MO_isSteady_10 rfl ?_
        refine wp_getR d_MO_isSteady_11 f_MO_22 (by decide) rfl rfl ?_
        refine wp_iconst (v := zI 5) d_MO_isSteady_14 rfl ?_
        refine wp_iload_n d_MO_isSteady_15 rfl ?_
        refine wz_imul d_MO_isSteady_16 ?_
        refine wp_iconst (v := zI 4) d_MO_isSteady_17 rfl ?_
        refine wz_iadd d_MO_isSteady_18 ?_
        refine wp_aload_n d_MO_isSteady_19 rfl ?_
        refine wp_getR d_MO_isSteady_20 f_MO_52 (by decide) rfl rfl ?_
        refine wp_iload_n d_MO_isSteady_23 rfl ?_
        refine wz_iald ((w.2.2 i (by omega))) (rfl) ((by omega)) d_MO_isSteady_24 (by decide) rfl (by decide) ?_
        refine wp_iconst (v := zI 1) d_MO_isSteady_25 rfl ?_
        refine wz_icmp_eq (tgt := 38) d_MO_isSteady_26 (by decide) (by omega) (by omega) (fun h26 => ?_) (fun h26 => ?_)
        · refine wp_iconst (v := zI 1) d_MO_isSteady_38 rfl ?_
          refine wp_goto (tgt := 43) d_MO_isSteady_39 (by decide) ?_
          refine next _ ?_
          rw [bet_br]
          have : br σ i = 1 := by omega
          split
          · rfl
          · rw [this]; rfl
        · refine wp_iload_n d_MO_isSteady_29 rfl ?_
          refine wp_iload_n d_MO_isSteady_30 rfl ?_
          refine wp_ishr d_MO_isSteady_31 ?_
          refine wp_iconst (v := zI 1) d_MO_isSteady_32 rfl ?_
          refine wp_iand d_MO_isSteady_33 ?_
          rw [zI_bit (by omega) (by omega)]
          by_cases hb : a.testBit i = true
          · rw [bI_t hb, zI_1]
            refine wp_iconst (v := zI 1) d_MO_isSteady_34 rfl ?_
            refine wz_icmp_ne (tgt := 42) d_MO_isSteady_35 (by decide) (by omega) (by omega) (fun h35 => ?_) (fun h35 => ?_)
            · exact absurd rfl h35
            · refine wp_iconst (v := zI 1) d_MO_isSteady_38 rfl ?_
              refine wp_goto (tgt := 43) d_MO_isSteady_39 (by decide) ?_
              refine next _ ?_
              rw [bet_br, if_pos hb]; rfl
          · rw [bI_f hb, zI_0]
            refine wp_iconst (v := zI 1) d_MO_isSteady_34 rfl ?_
            refine wz_icmp_ne (tgt := 42) d_MO_isSteady_35 (by decide) (by omega) (by omega) (fun h35 => ?_) (fun h35 => ?_)
            · refine wp_iconst (v := zI 0) d_MO_isSteady_42 rfl ?_
              refine next _ ?_
              rw [bet_br, if_neg hb, show br σ i = 0 by omega]; rfl
            · exact absurd h35 (by decide)
  refine ct_intro (lv := [_, _, _]) (by decide +kernel) (Nat.le_of_ble_eq_true rfl) rfl ?_
  refine wp_iconst (v := zI 0) d_MO_isSteady_0 rfl ?_
  refine wp_istore_n (lv' := [_, _, _]) d_MO_isSteady_1 (by decide) rfl ?_
  exact loop (nM σ) 0 (by omega) h w (fun m hm => absurd hm (by omega))
theorem cm_bribes (ok : Ok σ) (hA : AM σ hi) : Ct M_MO_bribes 9 [.ref 41] hi hl (pM σ (zI (rb σ (2 ^ nM σ))) hi) := by
  have hn := ok.nums
  have hN : 2 ^ nM σ ≤ 4096 := Nat.pow_le_pow_right (n := 2) (by omega) hn.2.2.1
  have hbl := bset_lt ok (nM σ) (Nat.le_refl _)
  have eshl : zI 1 <<< (zI ((nM σ : Nat) : Int) &&& 31) = zI ((2 ^ nM σ : Nat) : Int) := by rw [show (1 : Int) = ((1 : Nat) : Int) from rfl, zI_shl (by omega) (by omega), Nat.one_mul]
  have last : ∀ x1 : Int32, ∀ h1 : HI, BW σ hi h1 → ∀ k i : Nat, i + k = nM σ → ∀ g : HI, (∀ c, c ≠ 46 → g c = h1 c) → (∀ k, (∀ m, i ≤ m → m < nM σ → k ≠ 5 * m + 4) → g 46 k = hi 46 k) → Wp M_MO_bribes 9 (pM σ (zI (rb σ (2 ^ nM σ))) hi) 117 [some (.ref 41), some (.int x1), some (.int (zI (rb σ (2 ^ nM σ)))), some (.int (zI i)), none] [] g hl := by
    intro x1 h1 w k
    induction k with
    | zero =>
      intro i hik g e0 e1
      have e46 : g 46 = hi 46 := funext fun k => e1 k (fun m q1 q2 => absurd q1 (by omega))
      have hA' : AM σ g := hA.keep (fun f _ _ => by rw [e0 41 (by omega), w.1 41 (by omega) (by omega) (by omega) (by omega)]) (fun c hc => by
        by_cases z : c = 46
        · rw [z]; exact e46
        · rw [e0 c z, w.1 c z (by omega) (by omega) (by omega)])
      refine wp_iload_n d_MO_bribes_117 rfl ?_
      refine wp_aload_n d_MO_bribes_118 rfl ?_
      refine wz_getI (hA'.n) d_MO_bribes_119 f_MO_123 (by decide) rfl rfl ?_
      refine wz_icmp_ge (tgt := 147) d_MO_bribes_122 (by decide) (by omega) (by omega) (fun h122 => ?_) (fun h122 => ?_)
      · refine wp_iload_n d_MO_bribes_147 rfl ?_
        exact wp_iret d_MO_bribes_148 (Or.inl rfl) (⟨rfl, hA', fun c hc => by rw [e0 c (by omega), w.1 c (by omega) (by omega) (by omega) (by omega)]⟩)
      · exact absurd h122 (by omega)
    | succ k ih =>
      intro i hik g e0 e1
      have e56 : g 56 i = zI (br σ i) := by rw [e0 56 (by omega)]; exact w.2.2 i (by omega)
      refine wp_iload_n d_MO_bribes_117 rfl ?_
      refine wp_aload_n d_MO_bribes_118 rfl ?_
      refine wz_getI ((by rw [e0 41 (by omega)]; exact w.n hA)) d_MO_bribes_119 f_MO_123 (by decide) rfl rfl ?_
      refine wz_icmp_ge (tgt := 147) d_MO_bribes_122 (by decide) (by omega) (by omega) (fun h122 => ?_) (fun h122 => ?_)
      · exact absurd h122 (by omega)
      · refine wp_aload_n d_MO_bribes_125 rfl ?_
        refine wp_getR d_MO_bribes_126 f_MO_22 (by decide) rfl rfl ?_
        refine wp_iconst (v := zI 5) d_MO_bribes_129 rfl ?_
        refine wp_iload_n d_MO_bribes_130 rfl ?_
        refine wz_imul d_MO_bribes_131 ?_
        refine wp_iconst (v := zI 4) d_MO_bribes_132 rfl ?_
        refine wz_iadd d_MO_bribes_133 ?_
        refine wp_aload_n d_MO_bribes_134 rfl ?_
        refine wp_getR d_MO_bribes_135 f_MO_52 (by decide) rfl rfl ?_
        refine wp_iload_n d_MO_bribes_138 rfl ?_
        refine wz_iald (e56) (rfl) ((by omega)) d_MO_bribes_139 (by decide) rfl (by decide) ?_
        refine wz_iast (j := 5 * i + 4) (by omega) (by omega) d_MO_bribes_140 (by decide) rfl (by decide) ?_
        refine wz_iinc (lv' := [_, _, _, _, _]) d_MO_bribes_141 rfl (by decide) rfl ?_
        refine wp_goto (tgt := 117) d_MO_bribes_144 (by decide) ?_
        refine ih (i + 1) (by omega) _ (fun c hc => by rw [setI_ne _ _ _ hc, e0 c hc]) (fun k hk => ?_)
        by_cases q : k = 5 * i + 4
        · subst q
          refine rdA ?_
          exact (hA.br (show i < nM σ by omega)).symm
        · refine rdS q (e1 k (fun m q1 q2 => ?_))
          by_cases z : m = i
          · rw [z]; exact q
          · exact hk m (by omega) q2
  have mid : ∀ k a : Nat, a + k = 2 ^ nM σ → ∀ h : HI, BW σ hi h → Wp M_MO_bribes 9 (pM σ (zI (rb σ (2 ^ nM σ))) hi) 50 [some (.ref 41), some (.int (zI (bset σ (nM σ)))), some (.int (zI (rb σ a))), some (.int (zI a)), none] [] h hl := by
    intro k
    induction k with
    | zero =>
      intro a hak h w
      refine wp_iload_n d_MO_bribes_50 rfl ?_
      refine wp_iconst (v := zI 1) d_MO_bribes_51 rfl ?_
      refine wp_aload_n d_MO_bribes_52 rfl ?_
      refine wz_getI ((w.n hA)) d_MO_bribes_53 f_MO_123 (by decide) rfl rfl ?_
      refine wp_ishl d_MO_bribes_56 ?_
      refine wz_top eshl ?_
      refine wz_icmp_ge (tgt := 115) d_MO_bribes_57 (by decide) (by omega) (by omega) (fun h57 => ?_) (fun h57 => ?_)
      · refine wp_iconst (v := zI 0) d_MO_bribes_115 rfl ?_
        refine wp_istore_n (lv' := [_, _, _, _, _]) d_MO_bribes_116 (by decide) rfl ?_
        rw [show a = 2 ^ nM σ by omega]
        exact last _ h w (nM σ) 0 (by omega) h (fun _ _ => rfl) (fun k hk => w.2.1 k (fun m hm => hk m (by omega) hm))
      · exact absurd h57 (by omega)
    | succ k ih =>
      intro a hak h w
      have ih' := ih (a + 1) (by omega)
      rw [rb] at ih'
      have bR : inR (rb σ a) := by
        rcases rb_spec σ a with ⟨e, _⟩ | ⟨b, b1, b2, _⟩
        · rw [e]; show inR (-9); omega
        · rw [b2]; show inR (b : Int); omega
      have hal : a &&& bset σ (nM σ) ≤ a := Nat.and_le_left
      have no : ∀ h : HI, BW σ hi h → ¬ (a &&& bset σ (nM σ) = 0 ∧ (rb σ a = -9 ∨ cnt a 12 < cnt (rb σ a).toNat 12) ∧ tot (bet σ a) (lt σ) = 0) → Wp M_MO_bribes 9 (pM σ (zI (rb σ (2 ^ nM σ))) hi) 107 [some (.ref 41), some (.int (zI (bset σ (nM σ)))), some (.int (zI (rb σ a))), some (.int (zI a)), none] [] h hl := by
        intro h w q
        refine wp_iload_n d_MO_bribes_107 rfl ?_
        refine wp_istore_n (lv' := [_, _, _, _, _]) d_MO_bribes_108 (by decide) rfl ?_
        refine wz_iinc (lv' := [_, _, _, _, _]) d_MO_bribes_109 rfl (by decide) rfl ?_
        refine wp_goto (tgt := 50) d_MO_bribes_112 (by decide) ?_
        have := ih' h w
        rw [if_neg q] at this
        exact this
      have skip : ¬ (a &&& bset σ (nM σ) = 0 ∧ (rb σ a = -9 ∨ cnt a 12 < cnt (rb σ a).toNat 12)) → Wp M_MO_bribes 9 (pM σ (zI (rb σ (2 ^ nM σ))) hi) 87 [some (.ref 41), some (.int (zI (bset σ (nM σ)))), some (.int (zI (rb σ a))), some (.int (zI a)), none] [] h hl := by
        intro q
        refine wp_iconst (v := zI 0) d_MO_bribes_87 rfl ?_
        refine wp_istore (lv' := [_, _, _, _, _]) d_MO_bribes_88 (by decide) rfl ?_
        refine wp_iload d_MO_bribes_90 rfl ?_
        refine wz_if_eq (tgt := 107) d_MO_bribes_92 (by decide) (by omega) (fun h92 => ?_) (fun h92 => ?_)
        · refine wp_drop (lv' := [some _, some _, some _, some _, none]) ⟨rfl, rfl, rfl, rfl, trivial⟩ ?_
          exact no h w (fun z => q ⟨z.1, z.2.1⟩)
        · exact absurd rfl h92
      have try' : a &&& bset σ (nM σ) = 0 → (rb σ a = -9 ∨ cnt a 12 < cnt (rb σ a).toNat 12) → Wp M_MO_bribes 9 (pM σ (zI (rb σ (2 ^ nM σ))) hi) 83 [some (.ref 41), some (.int (zI (bset σ (nM σ)))), some (.int (zI (rb σ a))), some (.int (zI a)), none] [] h hl := by
        intro q1 q2
        refine wp_iconst (v := zI 1) d_MO_bribes_83 rfl ?_
        refine wp_goto (tgt := 88) d_MO_bribes_84 (by decide) ?_
        refine wp_istore (lv' := [_, _, _, _, _]) d_MO_bribes_88 (by decide) rfl ?_
        refine wp_iload d_MO_bribes_90 rfl ?_
        refine wz_if_eq (tgt := 107) d_MO_bribes_92 (by decide) (by omega) (fun h92 => ?_) (fun h92 => ?_)
        · exact absurd h92 (by decide)
        · refine wp_aload_n d_MO_bribes_95 rfl ?_
          refine wp_iload_n d_MO_bribes_96 rfl ?_
          refine wp_callV (ct_MO_isSteady (a := a) ok hA w (by omega)) d_MO_bribes_97 k_MO_181 (by decide) rfl rfl rfl rfl (Nat.le_of_ble_eq_true rfl) (by omega) ?_
          rintro _ h2 _ ⟨rfl, rfl, w2⟩
          refine wz_if_eqB (tgt := 107) d_MO_bribes_100 (by decide) (fun h100 => ?_) (fun h100 => ?_)
          · refine wp_drop (lv' := [some _, some _, some _, some _, none]) ⟨rfl, rfl, rfl, rfl, trivial⟩ ?_
            exact no h2 w2 (fun z => h100 z.2.2)
          · refine wp_iload_n d_MO_bribes_103 rfl ?_
            refine wp_goto (tgt := 108) d_MO_bribes_104 (by decide) ?_
            refine wp_istore_n (lv' := [_, _, _, _, _]) d_MO_bribes_108 (by decide) rfl ?_
            refine wz_iinc (lv' := [_, _, _, _, _]) d_MO_bribes_109 rfl (by decide) rfl ?_
            refine wp_goto (tgt := 50) d_MO_bribes_112 (by decide) ?_
            refine wp_drop (lv' := [some _, some _, some _, some _, none]) ⟨rfl, rfl, rfl, rfl, trivial⟩ ?_
            have := ih' h2 w2
            rw [if_pos ⟨q1, q2, h100⟩] at this
            exact this
      refine wp_iload_n d_MO_bribes_50 rfl ?_
      refine wp_iconst (v := zI 1) d_MO_bribes_51 rfl ?_
      refine wp_aload_n d_MO_bribes_52 rfl ?_
      refine wz_getI ((w.n hA)) d_MO_bribes_53 f_MO_123 (by decide) rfl rfl ?_
      refine wp_ishl d_MO_bribes_56 ?_
      refine wz_top eshl ?_
      refine wz_icmp_ge (tgt := 115) d_MO_bribes_57 (by decide) (by omega) (by omega) (fun h57 => ?_) (fun h57 => ?_)
      · exact absurd h57 (by omega)
      · refine wp_iload_n d_MO_bribes_60 rfl ?_
        refine wp_iload_n d_MO_bribes_61 rfl ?_
        refine wp_iand d_MO_bribes_62 ?_
        rw [zI_and]
        refine wz_if_ne (tgt := 87) d_MO_bribes_63 (by decide) (by omega) (fun h63 => ?_) (fun h63 => ?_)
        · exact skip (fun z => by have := z.1; omega)
        · refine wp_iload_n d_MO_bribes_66 rfl ?_
          refine wp_bipush (v := zI (-9)) d_MO_bribes_67 rfl ?_
          refine wz_icmp_eq (tgt := 83) d_MO_bribes_69 (by decide) (by omega) (by omega) (fun h69 => ?_) (fun h69 => ?_)
          · exact try' (by omega) (Or.inl h69)
          · obtain ⟨b, b1, hb2⟩ : ∃ b : Nat, b < a ∧ rb σ a = b := by
              rcases rb_spec σ a with ⟨e, _⟩ | ⟨b, b1, b2, _⟩
              · exact absurd e h69
              · exact ⟨b, b1, b2⟩
            have k1 := cnt_n a 12
            have k2 := cnt_n b 12
            rw [hb2, Int.toNat_natCast] at skip try'
            rw [hb2]
            refine wp_iload_n d_MO_bribes_72 rfl ?_
            refine wp_callS (ct_MO_ones (set := a) 0 (by omega)) d_MO_bribes_73 k_MO_169 rfl rfl (Nat.le_of_ble_eq_true rfl) (by omega) ?_
            rintro _ _ _ ⟨rfl, rfl, rfl⟩
            refine wp_iload_n d_MO_bribes_76 rfl ?_
            refine wp_callS (ct_MO_ones (set := b) 0 (by omega)) d_MO_bribes_77 k_MO_169 rfl rfl (Nat.le_of_ble_eq_true rfl) (by omega) ?_
            rintro _ _ _ ⟨rfl, rfl, rfl⟩
            refine wz_icmp_ge (tgt := 87) d_MO_bribes_80 (by decide) (by omega) (by omega) (fun h80 => ?_) (fun h80 => ?_)
            · exact skip (fun z => by rcases z.2 with y | y <;> omega)
            · exact try' (by omega) (Or.inr (by omega))
  have first : ∀ k i : Nat, i + k = nM σ → ∀ h : HI, (∀ c, c ≠ 56 → h c = hi c) → (∀ m, m < i → h 56 m = zI (br σ m)) → Wp M_MO_bribes 9 (pM σ (zI (rb σ (2 ^ nM σ))) hi) 4 [some (.ref 41), some (.int (zI (bset σ i))), some (.int (zI i)), none, none] [] h hl := by
    intro k
    induction k with
    | zero =>
      intro i hik h e0 e1
      refine wp_iload_n d_MO_bribes_4 rfl ?_
      refine wp_aload_n d_MO_bribes_5 rfl ?_
      refine wz_getI ((by rw [e0 41 (by omega)]; exact hA.n)) d_MO_bribes_6 f_MO_123 (by decide) rfl rfl ?_
      refine wz_icmp_ge (tgt := 45) d_MO_bribes_9 (by decide) (by omega) (by omega) (fun h9 => ?_) (fun h9 => ?_)
      · refine wp_bipush (v := zI (-9)) d_MO_bribes_45 rfl ?_
        refine wp_istore_n (lv' := [_, _, _, _, _]) d_MO_bribes_47 (by decide) rfl ?_
        refine wp_iconst (v := zI 0) d_MO_bribes_48 rfl ?_
        refine wp_istore_n (lv' := [_, _, _, _, _]) d_MO_bribes_49 (by decide) rfl ?_
        rw [show i = nM σ by omega]
        exact mid (2 ^ nM σ) 0 (by omega) h ⟨fun c _ _ _ q => e0 c q, fun k _ => by rw [e0 46 (by omega)], fun m hm => e1 m (by omega)⟩
      · exact absurd h9 (by omega)
    | succ k ih =>
      intro i hik h e0 e1
      have hmm := ok.m (show i < nM σ by omega)
      have e46 : h 46 (5 * i + 4) = zI (br σ i) := by rw [e0 46 (by omega)]; exact hA.br (by omega)
      refine wp_iload_n d_MO_bribes_4 rfl ?_
      refine wp_aload_n d_MO_bribes_5 rfl ?_
      refine wz_getI ((by rw [e0 41 (by omega)]; exact hA.n)) d_MO_bribes_6 f_MO_123 (by decide) rfl rfl ?_
      refine wz_icmp_ge (tgt := 45) d_MO_bribes_9 (by decide) (by omega) (by omega) (fun h9 => ?_) (fun h9 => ?_)
      · exact absurd h9 (by omega)
      · refine wp_aload_n d_MO_bribes_12 rfl ?_
        refine wp_getR d_MO_bribes_13 f_MO_52 (by decide) rfl rfl ?_
        refine wp_iload_n d_MO_bribes_16 rfl ?_
        refine wp_aload_n d_MO_bribes_17 rfl ?_
        refine wp_getR d_MO_bribes_18 f_MO_22 (by decide) rfl rfl ?_
        refine wp_iconst (v := zI 5) d_MO_bribes_21 rfl ?_
        refine wp_iload_n d_MO_bribes_22 rfl ?_
        refine wz_imul d_MO_bribes_23 ?_
        refine wp_iconst (v := zI 4) d_MO_bribes_24 rfl ?_
        refine wz_iadd d_MO_bribes_25 ?_
        refine wz_iald (e46) ((by omega)) ((by omega)) d_MO_bribes_26 (by decide) rfl (by decide) ?_
        refine wz_iast (rfl) ((by omega)) d_MO_bribes_27 (by decide) rfl (by decide) ?_
        refine wp_iload_n d_MO_bribes_28 rfl ?_
        refine wp_aload_n d_MO_bribes_29 rfl ?_
        refine wp_getR d_MO_bribes_30 f_MO_52 (by decide) rfl rfl ?_
        refine wp_iload_n d_MO_bribes_33 rfl ?_
        refine wz_iald ((rdA rfl)) (rfl) ((by omega)) d_MO_bribes_34 (by decide) rfl (by decide) ?_
        refine wp_iload_n d_MO_bribes_35 rfl ?_
        refine wp_ishl d_MO_bribes_36 ?_
        have h2 : 2 ^ i ≤ 4096 := Nat.pow_le_pow_right (n := 2) (by omega) (show i ≤ 12 by omega)
        have h3 : br σ i * 2 ^ i ≤ 1 * 4096 := Nat.mul_le_mul hmm.2.2.2.2.2.2 h2
        refine wz_top (zI_shl (n := br σ i) (i := i) (by omega) (by omega)) ?_
        refine wp_ior d_MO_bribes_37 ?_
        rw [zI_or]
        refine wp_istore_n (lv' := [_, _, _, _, _]) d_MO_bribes_38 (by decide) rfl ?_
        refine wz_iinc (lv' := [_, _, _, _, _]) d_MO_bribes_39 rfl (by decide) rfl ?_
        refine wp_goto (tgt := 4) d_MO_bribes_42 (by decide) ?_
        refine ih (i + 1) (by omega) _ (fun c hc => by rw [setI_ne _ _ _ hc, e0 c hc]) (fun m hm => ?_)
        by_cases q : m = i
        · subst q; exact rdA rfl
        · exact rdS q (e1 m (by omega))
  refine ct_intro (lv := [_, _, _, _, _]) (by decide +kernel) (Nat.le_of_ble_eq_true rfl) rfl ?_
  refine wp_iconst (v := zI 0) d_MO_bribes_0 rfl ?_
  refine wp_istore_n (lv' := [_, _, _, _, _]) d_MO_bribes_1 (by decide) rfl ?_
  refine wp_iconst (v := zI 0) d_MO_bribes_2 rfl ?_
  refine wp_istore_n (lv' := [_, _, _, _, _]) d_MO_bribes_3 (by decide) rfl ?_
  exact first (nM σ) 0 (by omega) hi (fun _ _ => rfl) (fun m hm => absurd hm (by omega))
end BRR
