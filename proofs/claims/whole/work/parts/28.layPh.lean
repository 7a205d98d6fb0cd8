/-! PHASES: the reference's search -/
section LPH
variable {σ : SG} {hi : HI} {hl : HL} {p : Nat} {a b : Int}
theorem lp_copy {P : Option Value → HI → HL → Prop} {h : HI} {f : Nat → Int} {x1 x2 x3 x4 x5 x6 : Int32} (ok : Ok σ) (hn10 : h 41 10 = zI (nM σ)) (hf : ∀ m, m < nM σ → h 46 (5 * m + 3) = zI (f m)) (K : ∀ h' : HI, (∀ c, c ≠ 52 → h' c = h c) → (∀ m, m < nM σ → h' 52 m = zI (f m)) → Wp M_MO_layPhases 3 P 222 [some (.ref 41), some (.int x1), some (.int x2), some (.int x3), some (.int x4), some (.int x5), some (.int x6), none, none, none] [] h' hl) :
    ∀ k i : Nat, i + k = nM σ → ∀ g : HI, (∀ c, c ≠ 52 → g c = h c) → (∀ m, m < i → g 52 m = zI (f m)) → Wp M_MO_layPhases 3 P 189 [some (.ref 41), some (.int x1), some (.int x2), some (.int x3), some (.int x4), some (.int x5), some (.int x6), none, none, some (.int (zI i))] [] g hl := by
  have hn := ok.nums
  intro k
  induction k with
  | zero =>
    intro i hik g e0 e1
    refine wp_iload d_MO_layPhases_189 rfl ?_
    refine wp_aload_n d_MO_layPhases_191 rfl ?_
    refine wz_getI ((by rw [e0 41 (by omega)]; exact hn10)) d_MO_layPhases_192 f_MO_123 (by decide) rfl rfl ?_
    refine wz_icmp_ge (tgt := 222) d_MO_layPhases_195 (by decide) (by omega) (by omega) (fun h195 => ?_) (fun h195 => ?_)
    · refine wp_drop (lv' := [some _, some _, some _, some _, some _, some _, some _, none, none, none]) ⟨rfl, rfl, rfl, rfl, rfl, rfl, rfl, trivial⟩ ?_
      exact K g e0 (fun m hm => e1 m (by omega))
    · exact absurd h195 (by omega)
  | succ k ih =>
    intro i hik g e0 e1
    refine wp_iload d_MO_layPhases_189 rfl ?_
    refine wp_aload_n d_MO_layPhases_191 rfl ?_
    refine wz_getI ((by rw [e0 41 (by omega)]; exact hn10)) d_MO_layPhases_192 f_MO_123 (by decide) rfl rfl ?_
    refine wz_icmp_ge (tgt := 222) d_MO_layPhases_195 (by decide) (by omega) (by omega) (fun h195 => ?_) (fun h195 => ?_)
    · exact absurd h195 (by omega)
    · have e46 : g 46 (5 * i + 3) = zI (f i) := by rw [e0 46 (by omega)]; exact hf i (by omega)
      refine wp_aload_n d_MO_layPhases_198 rfl ?_
      refine wp_getR d_MO_layPhases_199 f_MO_40 (by decide) rfl rfl ?_
      refine wp_iload d_MO_layPhases_202 rfl ?_
      refine wp_aload_n d_MO_layPhases_204 rfl ?_
      refine wp_getR d_MO_layPhases_205 f_MO_22 (by decide) rfl rfl ?_
      refine wp_iconst (v := zI 5) d_MO_layPhases_208 rfl ?_
      refine wp_iload d_MO_layPhases_209 rfl ?_
      refine wz_imul d_MO_layPhases_211 ?_
      refine wp_iconst (v := zI 3) d_MO_layPhases_212 rfl ?_
      refine wz_iadd d_MO_layPhases_213 ?_
      refine wz_iald (e46) ((by omega)) ((by omega)) d_MO_layPhases_214 (by decide) rfl (by decide) ?_
      refine wz_iast (rfl) ((by omega)) d_MO_layPhases_215 (by decide) rfl (by decide) ?_
      refine wz_iinc (lv' := [_, _, _, _, _, _, _, _, _, _]) d_MO_layPhases_216 rfl (by decide) rfl ?_
      refine wp_goto (tgt := 189) d_MO_layPhases_219 (by decide) ?_
      refine ih (i + 1) (by omega) _ (fun c hc => by rw [setI_ne _ _ _ hc, e0 c hc]) (fun m hm => ?_)
      by_cases q : m = i
      · subst q; exact rdA rfl
      · exact rdS q (e1 m (by omega))
theorem lp_rest {P : Option Value → HI → HL → Prop} {h1 : HI} {x1 x2 x3 x4 x5 : Int32} (ok : Ok σ) (hA : AM σ hi) (h41 : h1 41 10 = zI (nM σ)) (h51 : ∀ m, m < nM σ → h1 51 m = zI (ph σ m)) (K : ∀ h' : HI, (∀ c, c ≠ 46 → h' c = h1 c) → h' 46 = hi 46 → P (some (.int x5)) h' hl) :
    ∀ k i : Nat, i + k = nM σ → ∀ g : HI, (∀ c, c ≠ 46 → g c = h1 c) → (∀ k, (∀ m, i ≤ m → m < nM σ → k ≠ 5 * m + 3) → g 46 k = hi 46 k) → Wp M_MO_layPhases 3 P 231 [some (.ref 41), some (.int x1), some (.int x2), some (.int x3), some (.int x4), some (.int x5), some (.int (zI i)), none, none, none] [] g hl := by
  have hn := ok.nums
  intro k
  induction k with
  | zero =>
    intro i hik g e0 e1
    refine wp_iload d_MO_layPhases_231 rfl ?_
    refine wp_aload_n d_MO_layPhases_233 rfl ?_
    refine wz_getI ((by rw [e0 41 (by omega)]; exact h41)) d_MO_layPhases_234 f_MO_123 (by decide) rfl rfl ?_
    refine wz_icmp_ge (tgt := 264) d_MO_layPhases_237 (by decide) (by omega) (by omega) (fun h237 => ?_) (fun h237 => ?_)
    · refine wp_iload d_MO_layPhases_264 rfl ?_
      exact wp_iret d_MO_layPhases_266 (Or.inl rfl) (K g e0 (funext fun k => e1 k (fun m h1 h2 => absurd h1 (by omega))))
    · exact absurd h237 (by omega)
  | succ k ih =>
    intro i hik g e0 e1
    have e51 : g 51 i = zI (ph σ i) := by rw [e0 51 (by omega)]; exact h51 i (by omega)
    refine wp_iload d_MO_layPhases_231 rfl ?_
    refine wp_aload_n d_MO_layPhases_233 rfl ?_
    refine wz_getI ((by rw [e0 41 (by omega)]; exact h41)) d_MO_layPhases_234 f_MO_123 (by decide) rfl rfl ?_
    refine wz_icmp_ge (tgt := 264) d_MO_layPhases_237 (by decide) (by omega) (by omega) (fun h237 => ?_) (fun h237 => ?_)
    · exact absurd h237 (by omega)
    · refine wp_aload_n d_MO_layPhases_240 rfl ?_
      refine wp_getR d_MO_layPhases_241 f_MO_22 (by decide) rfl rfl ?_
      refine wp_iconst (v := zI 5) d_MO_layPhases_244 rfl ?_
      refine wp_iload d_MO_layPhases_245 rfl ?_
      refine wz_imul d_MO_layPhases_247 ?_
      refine wp_iconst (v := zI 3) d_MO_layPhases_248 rfl ?_
      refine wz_iadd d_MO_layPhases_249 ?_
      refine wp_aload_n d_MO_layPhases_250 rfl ?_
      refine wp_getR d_MO_layPhases_251 f_MO_37 (by decide) rfl rfl ?_
      refine wp_iload d_MO_layPhases_254 rfl ?_
      refine wz_iald (e51) (rfl) ((by omega)) d_MO_layPhases_256 (by decide) rfl (by decide) ?_
      refine wz_iast (j := 5 * i + 3) (by omega) (by omega) d_MO_layPhases_257 (by decide) rfl (by decide) ?_
      refine wz_iinc (lv' := [_, _, _, _, _, _, _, _, _, _]) d_MO_layPhases_258 rfl (by decide) rfl ?_
      refine wp_goto (tgt := 231) d_MO_layPhases_261 (by decide) ?_
      refine ih (i + 1) (by omega) _ (fun c hc => by rw [setI_ne _ _ _ hc, e0 c hc]) (fun k hk => ?_)
      by_cases q : k = 5 * i + 3
      · subst q
        refine rdA ?_
        exact (hA.ph (show i < nM σ by omega)).symm
      · refine rdS q (e1 k (fun m h1 h2 => ?_))
        by_cases z : m = i
        · rw [z]; exact q
        · exact hk m (by omega) h2
/-- the figures of the way v are laid -/
theorem lp_inner {P : Option Value → HI → HL → Prop} {h : HI} {v : Nat} {x1 x3 x4 x5 : Int32} (ok : Ok σ) (hv : v ≤ 20000) (hlu : ∀ m, m < nM σ → h 46 (5 * m) = zI (lu σ m)) (K : ∀ h' : HI, (∀ c, c ≠ 46 → h' c = h c) → (∀ k, (∀ m, (sit σ p).testBit m = true → k ≠ 5 * m + 3) → h' 46 k = h 46 k) → (∀ i, i < nS σ p → h' 46 (5 * mb (sit σ p) i + 3) = zI (dg σ p i v)) → Wp M_MO_layPhases 3 P 162 [some (.ref 41), some (.int x1), some (.int (zI (sit σ p))), some (.int x3), some (.int x4), some (.int x5), some (.int (zI v)), none, none, none] [] h' hl) :
    ∀ k : Nat, k ≤ nS σ p → ∀ g : HI, (∀ c, c ≠ 46 → g c = h c) → (∀ k, (∀ m, (sit σ p).testBit m = true → k ≠ 5 * m + 3) → g 46 k = h 46 k) → (∀ i, k ≤ i → i < nS σ p → g 46 (5 * mb (sit σ p) i + 3) = zI (dg σ p i v)) → Wp M_MO_layPhases 3 P 102 [some (.ref 41), some (.int x1), some (.int (zI (sit σ p))), some (.int x3), some (.int x4), some (.int x5), some (.int (zI v)), some (.int (zI ((v / Rq σ p (nS σ p - k) k : Nat) : Int))), some (.int (zI ((k : Int) - 1))), none] [] g hl := by
  have hn := ok.nums
  have hs := sit_lt ok p
  have hS := nS_le σ p
  intro k
  induction k with
  | zero =>
    intro hk g e0 e1 e2
    refine wp_iload d_MO_layPhases_102 rfl ?_
    refine wz_if_lt (tgt := 162) d_MO_layPhases_104 (by decide) (by omega) (fun h104 => ?_) (fun h104 => ?_)
    · refine wp_drop (lv' := [some _, some _, some _, some _, some _, some _, some _, none, none, none]) ⟨rfl, rfl, rfl, rfl, rfl, rfl, rfl, trivial⟩ ?_
      exact K g e0 e1 (fun i hi => e2 i (by omega) hi)
    · exact absurd h104 (by omega)
  | succ k ih =>
    intro hk g e0 e1 e2
    have hm := (mb_sit ok (show k < nS σ p by omega)).1
    have hbit := (mb_spec (show k < cnt (sit σ p) 12 from hk)).2.1
    have hlu9 := ok.m hm
    have eL : ∀ g' : HI, (∀ k, (∀ m, (sit σ p).testBit m = true → k ≠ 5 * m + 3) → g' 46 k = h 46 k) → g' 46 (5 * mb (sit σ p) k) = zI (lu σ (mb (sit σ p) k)) := fun g' e => by
      rw [e _ (fun m _ => by omega)]; exact hlu _ hm
    obtain ⟨L, hL⟩ : ∃ L : Nat, L = v / Rq σ p (nS σ p - (k + 1)) (k + 1) := ⟨_, rfl⟩
    have hLv : L ≤ 20000 := by
      have := Nat.div_le_self v (Rq σ p (nS σ p - (k + 1)) (k + 1))
      omega
    have ed : L % (lu σ (mb (sit σ p) k) + 1) = dg σ p k v := by rw [hL]; rfl
    have ev : L / (lu σ (mb (sit σ p) k) + 1) = v / Rq σ p (nS σ p - k) k := by
      rw [hL, Nat.div_div_eq_div_mul, show nS σ p - k = (nS σ p - (k + 1)) + 1 by omega, Rq_succ, Nat.mul_comm]
      rfl
    rw [← hL, show (((k + 1 : Nat) : Int) - 1) = (k : Int) by omega]
    refine wp_iload d_MO_layPhases_102 rfl ?_
    refine wz_if_lt (tgt := 162) d_MO_layPhases_104 (by decide) (by omega) (fun h104 => ?_) (fun h104 => ?_)
    · exact absurd h104 (by omega)
    · refine wp_iload_n d_MO_layPhases_107 rfl ?_
      refine wp_iload d_MO_layPhases_108 rfl ?_
      refine wp_callS (ct_MO_member (set := sit σ p) (i := k) 0 hs hk) d_MO_layPhases_110 k_MO_172 rfl rfl (Nat.le_of_ble_eq_true rfl) (by omega) ?_
      rintro _ _ _ ⟨rfl, rfl, rfl⟩
      refine wp_istore (lv' := [_, _, _, _, _, _, _, _, _, _]) d_MO_layPhases_113 (by decide) rfl ?_
      refine wp_aload_n d_MO_layPhases_115 rfl ?_
      refine wp_getR d_MO_layPhases_116 f_MO_22 (by decide) rfl rfl ?_
      refine wp_iconst (v := zI 5) d_MO_layPhases_119 rfl ?_
      refine wp_iload d_MO_layPhases_120 rfl ?_
      refine wz_imul d_MO_layPhases_122 ?_
      refine wp_iconst (v := zI 3) d_MO_layPhases_123 rfl ?_
      refine wz_iadd d_MO_layPhases_124 ?_
      refine wp_iload d_MO_layPhases_125 rfl ?_
      refine wp_aload_n d_MO_layPhases_127 rfl ?_
      refine wp_getR d_MO_layPhases_128 f_MO_22 (by decide) rfl rfl ?_
      refine wp_iconst (v := zI 5) d_MO_layPhases_131 rfl ?_
      refine wp_iload d_MO_layPhases_132 rfl ?_
      refine wz_imul d_MO_layPhases_134 ?_
      refine wz_iald ((eL g e1)) ((by omega)) ((by omega)) d_MO_layPhases_135 (by decide) rfl (by decide) ?_
      refine wp_iconst (v := zI 1) d_MO_layPhases_136 rfl ?_
      refine wz_iadd d_MO_layPhases_137 ?_
      refine wz_irem d_MO_layPhases_138 (by omega) (by omega) (by omega) (by omega) ?_
      rw [show ((L : Int) % ((lu σ (mb (sit σ p) k) : Int) + 1)) = ((dg σ p k v : Nat) : Int) by rw [← ed]; simp]
      refine wz_iast (j := 5 * mb (sit σ p) k + 3) (by omega) (by omega) d_MO_layPhases_139 (by decide) rfl (by decide) ?_
      have e1' : ∀ q, (∀ m, (sit σ p).testBit m = true → q ≠ 5 * m + 3) → setI g 46 (5 * mb (sit σ p) k + 3) (zI (dg σ p k v)) 46 q = h 46 q := fun q hq => rdS (hq _ hbit) (e1 q hq)
      refine wp_iload d_MO_layPhases_140 rfl ?_
      refine wp_aload_n d_MO_layPhases_142 rfl ?_
      refine wp_getR d_MO_layPhases_143 f_MO_22 (by decide) rfl rfl ?_
      refine wp_iconst (v := zI 5) d_MO_layPhases_146 rfl ?_
      refine wp_iload d_MO_layPhases_147 rfl ?_
      refine wz_imul d_MO_layPhases_149 ?_
      refine wz_iald ((eL _ e1')) ((by omega)) ((by omega)) d_MO_layPhases_150 (by decide) rfl (by decide) ?_
      refine wp_iconst (v := zI 1) d_MO_layPhases_151 rfl ?_
      refine wz_iadd d_MO_layPhases_152 ?_
      refine wz_idiv d_MO_layPhases_153 (by omega) (by omega) (by omega) (by omega) ?_
      rw [show ((L : Int) / ((lu σ (mb (sit σ p) k) : Int) + 1)) = ((v / Rq σ p (nS σ p - k) k : Nat) : Int) by rw [← ev]; simp]
      refine wp_istore (lv' := [_, _, _, _, _, _, _, _, _, _]) d_MO_layPhases_154 (by decide) rfl ?_
      refine wz_iinc (lv' := [_, _, _, _, _, _, _, _, _, _]) d_MO_layPhases_156 rfl (by decide) rfl ?_
      refine wp_goto (tgt := 102) d_MO_layPhases_159 (by decide) ?_
      refine wp_drop (lv' := [some _, some _, some _, some _, some _, some _, some _, some _, some _, none]) ⟨rfl, rfl, rfl, rfl, rfl, rfl, rfl, rfl, rfl, trivial⟩ ?_
      refine ih (by omega) _ (fun c hc => by rw [setI_ne _ _ _ hc, e0 c hc]) e1' (fun i h1 h2 => ?_)
      by_cases q : i = k
      · subst q; exact rdA rfl
      · refine rdS (fun z => q ?_) (e2 i (by omega) h2)
        have a1 := (mb_spec (show i < cnt (sit σ p) 12 from h2)).2.2
        have a2 := (mb_spec (show k < cnt (sit σ p) 12 from hk)).2.2
        rw [show mb (sit σ p) i = mb (sit σ p) k by omega] at a1
        omega
/-- before the way v -/
def LW (σ : SG) (p : Nat) (hi h1 h : HI) (v : Nat) : Prop := (∀ c, c ≠ 46 → c ≠ 49 → c ≠ 50 → c ≠ 52 → h c = h1 c) ∧ (∀ k, (∀ m, (sit σ p).testBit m = true → k ≠ 5 * m + 3) → h 46 k = hi 46 k) ∧ (0 < v → ∀ i, i < nS σ p → h 52 (mb (sit σ p) i) = zI (dg σ p i (fm (VV σ p) v).2))
def lst (σ : SG) (p v : Nat) : Int := if v = 0 then 0 else (fm (VV σ p) v).1
theorem lp_way {P : Option Value → HI → HL → Prop} {h1 : HI} (ok : Ok σ) (hA : AM σ hi) (hpp : p < nP σ) (h4 : nS σ p ≤ 4) (e51 : ∀ c, c ≠ 51 → h1 c = hi c) (K : ∀ h' : HI, LW σ p hi h1 h' (Rq σ p (nS σ p) 0) → Wp M_MO_layPhases 3 P 228 [some (.ref 41), some (.int (zI p)), some (.int (zI (sit σ p))), some (.int (zI (nS σ p))), some (.int (zI (Rq σ p (nS σ p) 0))), some (.int (zI (bw σ p).1)), none, none, none, none] [] h' hl) :
    ∀ k v : Nat, v + k = Rq σ p (nS σ p) 0 → ∀ h : HI, LW σ p hi h1 h v → Wp M_MO_layPhases 3 P 86 [some (.ref 41), some (.int (zI p)), some (.int (zI (sit σ p))), some (.int (zI (nS σ p))), some (.int (zI (Rq σ p (nS σ p) 0))), some (.int (zI (lst σ p v))), some (.int (zI v)), none, none, none] [] h hl := by
  have hn := ok.nums
  have hs := sit_lt ok p
  have hR : Rq σ p (nS σ p) 0 ≤ 10000 := Nat.le_trans (RR_le ok (nS σ p) 0 (by omega)) (Nat.pow_le_pow_right (by omega) h4)
  have hR0 : 0 < Rq σ p (nS σ p) 0 := RR_pos _ _ _ _
  intro k
  induction k with
  | zero =>
    intro v hvk h w
    refine wp_iload d_MO_layPhases_86 rfl ?_
    refine wp_iload d_MO_layPhases_88 rfl ?_
    refine wz_icmp_ge (tgt := 228) d_MO_layPhases_90 (by decide) (by omega) (by omega) (fun h90 => ?_) (fun h90 => ?_)
    · refine wp_drop (lv' := [some _, some _, some _, some _, some _, some _, none, none, none, none]) ⟨rfl, rfl, rfl, rfl, rfl, rfl, trivial⟩ ?_
      have e : lst σ p v = (bw σ p).1 := by rw [lst, if_neg (by omega), bw, ← hvk]; rfl
      rw [e]
      refine K h ?_
      rw [← hvk]
      exact w
    · exact absurd h90 (by omega)
  | succ k ih =>
    intro v hvk h w
    obtain ⟨w0, w1, w2⟩ := w
    have bV := VV_b ok hpp v
    have bF := fm_b (VV_b ok hpp) v
    have bL : inR (lst σ p v) := by unfold lst; split <;> omega
    refine wp_iload d_MO_layPhases_86 rfl ?_
    refine wp_iload d_MO_layPhases_88 rfl ?_
    refine wz_icmp_ge (tgt := 228) d_MO_layPhases_90 (by decide) (by omega) (by omega) (fun h90 => ?_) (fun h90 => ?_)
    · exact absurd h90 (by omega)
    · refine wp_iload d_MO_layPhases_93 rfl ?_
      refine wp_istore (lv' := [_, _, _, _, _, _, _, _, _, _]) d_MO_layPhases_95 (by decide) rfl ?_
      refine wp_iload_n d_MO_layPhases_97 rfl ?_
      refine wp_iconst (v := zI 1) d_MO_layPhases_98 rfl ?_
      refine wz_isub d_MO_layPhases_99 ?_
      refine wp_istore (lv' := [_, _, _, _, _, _, _, _, _, _]) d_MO_layPhases_100 (by decide) rfl ?_
      have inn := lp_inner (P := P) (hl := hl) (h := h) (v := v) (p := p) (x1 := zI p) (x3 := zI (nS σ p)) (x4 := zI (Rq σ p (nS σ p) 0)) (x5 := zI (lst σ p v)) ok (by omega) (fun m hm => by rw [w1 _ (fun m' _ => by omega)]; exact hA.lu hm) ?_ (nS σ p) (Nat.le_refl _) h (fun _ _ => rfl) (fun _ _ => rfl) (fun i h1 h2 => absurd h2 (by omega))
      · rw [Nat.sub_self] at inn
        have e1 : Rq σ p 0 (nS σ p) = 1 := rfl
        rw [e1, Nat.div_one] at inn
        exact inn
      · intro h2 e0 e1 e2
        have hAp : AM (psi σ p v) h2 := by
          refine AM_psi hA (fun f _ _ => ?_) (fun c hc => ?_) (fun k hk => ?_) (fun m hm => ?_)
          · rw [e0 41 (by omega), w0 41 (by omega) (by omega) (by omega) (by omega), e51 41 (by omega)]
          · rw [e0 c (by omega), w0 c (by omega) (by omega) (by omega) (by omega), e51 c (by omega)]
          · rw [e1 k hk, w1 k hk]
          · have hc : cnt (sit σ p) m < nS σ p := by
              have a := cnt_le (sit σ p) (show m + 1 ≤ 12 from bit12 ok hm)
              rw [cnt, if_pos hm] at a
              exact a
            have := e2 _ hc
            rw [mb_at hm (bit12 ok hm)] at this
            exact this
        refine wp_aload_n d_MO_layPhases_162 rfl ?_
        refine wp_iload_n d_MO_layPhases_163 rfl ?_
        refine wp_iload_n d_MO_layPhases_164 rfl ?_
        refine wp_callV (ct_MO_blow (σ := psi σ p v) (p := p) (set := sit σ p) (Ok_psi ok v) hAp hpp hs) d_MO_layPhases_165 k_MO_163 (by decide) rfl rfl rfl rfl (Nat.le_of_ble_eq_true rfl) (by omega) ?_
        rintro _ h3 _ ⟨rfl, rfl, e3, -, -⟩
        rw [sag_psi ok v]
        have f0 : ∀ c, c ≠ 46 → c ≠ 49 → c ≠ 50 → c ≠ 52 → h3 c = h1 c := fun c q1 q2 q3 q4 => by rw [e3 c q2 q3, e0 c q1, w0 c q1 q2 q3 q4]
        have f1 : ∀ k, (∀ m, (sit σ p).testBit m = true → k ≠ 5 * m + 3) → h3 46 k = hi 46 k := fun k hk => by rw [e3 46 (by omega) (by omega), e1 k hk, w1 k hk]
        have hAp3 : AM (psi σ p v) h3 := hAp.keepS (fun c q1 q2 => e3 c q1 q2)
        have take : (v = 0 ∨ VV σ p v < (fm (VV σ p) v).1) → Wp M_MO_layPhases 3 P 182 [some (.ref 41), some (.int (zI p)), some (.int (zI (sit σ p))), some (.int (zI (nS σ p))), some (.int (zI (Rq σ p (nS σ p) 0))), some (.int (zI (lst σ p v))), some (.int (zI v)), none, some (.int (zI (VV σ p v))), none] [] h3 hl := by
          intro hc
          have ef : fm (VV σ p) (v + 1) = (VV σ p v, v) := by
            rw [fm, if_pos]
            rcases hc with z | z
            · rw [z]
              rw [z] at bV
              show VV σ p 0 < 2147483647
              omega
            · exact z
          refine wp_iload d_MO_layPhases_182 rfl ?_
          refine wp_istore (lv' := [_, _, _, _, _, _, _, _, _, _]) d_MO_layPhases_184 (by decide) rfl ?_
          refine wp_iconst (v := zI 0) d_MO_layPhases_186 rfl ?_
          refine wp_istore (lv' := [_, _, _, _, _, _, _, _, _, _]) d_MO_layPhases_187 (by decide) rfl ?_
          refine wp_drop (lv' := [some _, some _, some _, some _, some _, some _, some _, none, none, some _]) ⟨rfl, rfl, rfl, rfl, rfl, rfl, rfl, rfl, trivial⟩ ?_
          refine lp_copy (P := P) (h := h3) (f := fun m => (ph (psi σ p v) m : Int)) ok hAp3.n (fun m hm => hAp3.ph hm) (fun h4 e4 f4 => ?_) (nM σ) 0 (by omega) h3 (fun _ _ => rfl) (fun m hm => absurd hm (by omega))
          refine wz_iinc (lv' := [_, _, _, _, _, _, _, _, _, _]) d_MO_layPhases_222 rfl (by decide) rfl ?_
          refine wp_goto (tgt := 86) d_MO_layPhases_225 (by decide) ?_
          have ih' := ih (v + 1) (by omega) h4 ⟨fun c q1 q2 q3 q4 => by rw [e4 c q4, f0 c q1 q2 q3 q4], fun k hk => by rw [e4 46 (by omega), f1 k hk], fun _ i hi => ?_⟩
          · have el : lst σ p (v + 1) = VV σ p v := by rw [lst, if_neg (by omega), ef]
            rw [el] at ih'
            exact ih'
          · have hm := mb_spec (show i < cnt (sit σ p) 12 from hi)
            rw [ef, f4 _ (mb_sit ok hi).1, psi_ph, if_pos hm.2.1, hm.2.2]
        refine wp_istore (lv' := [_, _, _, _, _, _, _, _, _, _]) d_MO_layPhases_168 (by decide) rfl ?_
        refine wp_iload d_MO_layPhases_170 rfl ?_
        refine wz_if_eq (tgt := 182) d_MO_layPhases_172 (by decide) (by omega) (fun h172 => ?_) (fun h172 => ?_)
        · refine wp_drop (lv' := [some _, some _, some _, some _, some _, some _, some _, none, some _, none]) ⟨rfl, rfl, rfl, rfl, rfl, rfl, rfl, rfl, trivial⟩ ?_
          exact take (Or.inl (by omega))
        · refine wp_iload d_MO_layPhases_175 rfl ?_
          refine wp_iload d_MO_layPhases_177 rfl ?_
          refine wz_icmp_ge (tgt := 222) d_MO_layPhases_179 (by decide) (by omega) (by omega) (fun h179 => ?_) (fun h179 => ?_)
          · have hc : (fm (VV σ p) v).1 ≤ VV σ p v := by rw [lst, if_neg (by omega)] at h179; exact h179
            have ef : fm (VV σ p) (v + 1) = fm (VV σ p) v := by rw [fm, if_neg (by omega)]
            refine wz_iinc (lv' := [_, _, _, _, _, _, _, _, _, _]) d_MO_layPhases_222 rfl (by decide) rfl ?_
            refine wp_goto (tgt := 86) d_MO_layPhases_225 (by decide) ?_
            refine wp_drop (lv' := [some _, some _, some _, some _, some _, some _, some _, none, none, none]) ⟨rfl, rfl, rfl, rfl, rfl, rfl, rfl, trivial⟩ ?_
            have ih' := ih (v + 1) (by omega) h3 ⟨f0, f1, fun _ i hi => by rw [ef, e3 52 (by omega) (by omega), e0 52 (by omega)]; exact w2 (by omega) i hi⟩
            have el : lst σ p (v + 1) = lst σ p v := by rw [lst, if_neg (by omega), ef, lst, if_neg (by omega)]
            rw [el] at ih'
            exact ih'
          · refine wp_drop (lv' := [some _, some _, some _, some _, some _, some _, some _, none, some _, none]) ⟨rfl, rfl, rfl, rfl, rfl, rfl, rfl, rfl, trivial⟩ ?_
            exact take (Or.inr (by rw [lst, if_neg (by omega)] at h179; exact h179))
theorem ct_MO_layPhases (ok : Ok σ) (hA : AM σ hi) (hpp : p < nP σ) (h4 : nS σ p ≤ 4) : Ct M_MO_layPhases 3 [.ref 41, .int (zI p)] hi hl (fun r hi' hl' => r = some (.int (zI (bw σ p).1)) ∧ hl = hl' ∧ (∀ c, c ≠ 49 → c ≠ 50 → c ≠ 51 → c ≠ 52 → hi' c = hi c) ∧ ∀ i, i < nS σ p → hi' 52 (mb (sit σ p) i) = zI (dg σ p i (bw σ p).2)) := by
  have hn := ok.nums
  have hs := sit_lt ok p
  have hR0 : 0 < Rq σ p (nS σ p) 0 := RR_pos _ _ _ _
  have first : ∀ k i : Nat, i + k = nM σ → ∀ h : HI, (∀ c, c ≠ 51 → h c = hi c) → (∀ m, m < i → h 51 m = zI (ph σ m)) → Wp M_MO_layPhases 3 (fun r hi' hl' => r = some (.int (zI (bw σ p).1)) ∧ hl = hl' ∧ (∀ c, c ≠ 49 → c ≠ 50 → c ≠ 51 → c ≠ 52 → hi' c = hi c) ∧ ∀ i, i < nS σ p → hi' 52 (mb (sit σ p) i) = zI (dg σ p i (bw σ p).2)) 17 [some (.ref 41), some (.int (zI p)), some (.int (zI (sit σ p))), some (.int (zI (nS σ p))), some (.int (zI (Rq σ p (cnt (sit σ p) i) 0))), some (.int (zI i)), none, none, none, none] [] h hl := by
    intro k
    induction k with
    | zero =>
      intro i hik h e0 e1
      rw [show i = nM σ by omega, cnt_sit ok p]
      refine wp_iload d_MO_layPhases_17 rfl ?_
      refine wp_aload_n d_MO_layPhases_19 rfl ?_
      refine wz_getI ((by rw [e0 41 (by omega)]; exact hA.n)) d_MO_layPhases_20 f_MO_123 (by decide) rfl rfl ?_
      refine wz_icmp_ge (tgt := 80) d_MO_layPhases_23 (by decide) (by omega) (by omega) (fun h23 => ?_) (fun h23 => ?_)
      · refine wp_iconst (v := zI 0) d_MO_layPhases_80 rfl ?_
        refine wp_istore (lv' := [_, _, _, _, _, _, _, _, _, _]) d_MO_layPhases_81 (by decide) rfl ?_
        refine wp_iconst (v := zI 0) d_MO_layPhases_83 rfl ?_
        refine wp_istore (lv' := [_, _, _, _, _, _, _, _, _, _]) d_MO_layPhases_84 (by decide) rfl ?_
        refine lp_way (h1 := h) ok hA hpp h4 e0 (fun h2 w => ?_) (Rq σ p (nS σ p) 0) 0 (by omega) h ⟨fun _ _ _ _ _ => rfl, fun k _ => by rw [e0 46 (by omega)], fun q => absurd q (by omega)⟩
        obtain ⟨w0, w1, w2⟩ := w
        refine wp_iconst (v := zI 0) d_MO_layPhases_228 rfl ?_
        refine wp_istore (lv' := [_, _, _, _, _, _, _, _, _, _]) d_MO_layPhases_229 (by decide) rfl ?_
        have x41 : ∀ f, h2 41 f = hi 41 f := fun f => by rw [w0 41 (by omega) (by omega) (by omega) (by omega), e0 41 (by omega)]
        refine lp_rest (h1 := h2) ok hA (by rw [x41]; exact hA.n) (fun m hm => by rw [w0 51 (by omega) (by omega) (by omega) (by omega)]; exact e1 m (by omega)) (fun h3 g0 g1 => ⟨rfl, rfl, fun c q1 q2 q3 q4 => ?_, fun i hi => ?_⟩) (nM σ) 0 (by omega) h2 (fun _ _ => rfl) (fun k hk => w1 k (fun m hm => hk m (by omega) ((sit_bit σ p m).mp hm).1))
        · by_cases z : c = 46
          · rw [z]; exact g1
          · rw [g0 c z, w0 c z q1 q2 q4, e0 c q3]
        · rw [g0 52 (by omega)]; exact w2 hR0 i hi
      · exact absurd h23 (by omega)
    | succ k ih =>
      intro i hik h e0 e1
      have hmm := ok.m (show i < nM σ by omega)
      refine wp_iload d_MO_layPhases_17 rfl ?_
      refine wp_aload_n d_MO_layPhases_19 rfl ?_
      refine wz_getI ((by rw [e0 41 (by omega)]; exact hA.n)) d_MO_layPhases_20 f_MO_123 (by decide) rfl rfl ?_
      refine wz_icmp_ge (tgt := 80) d_MO_layPhases_23 (by decide) (by omega) (by omega) (fun h23 => ?_) (fun h23 => ?_)
      · exact absurd h23 (by omega)
      · have e46 : h 46 (5 * i + 3) = zI (ph σ i) := by rw [e0 46 (by omega)]; exact hA.ph (by omega)
        refine wp_aload_n d_MO_layPhases_26 rfl ?_
        refine wp_getR d_MO_layPhases_27 f_MO_37 (by decide) rfl rfl ?_
        refine wp_iload d_MO_layPhases_30 rfl ?_
        refine wp_aload_n d_MO_layPhases_32 rfl ?_
        refine wp_getR d_MO_layPhases_33 f_MO_22 (by decide) rfl rfl ?_
        refine wp_iconst (v := zI 5) d_MO_layPhases_36 rfl ?_
        refine wp_iload d_MO_layPhases_37 rfl ?_
        refine wz_imul d_MO_layPhases_39 ?_
        refine wp_iconst (v := zI 3) d_MO_layPhases_40 rfl ?_
        refine wz_iadd d_MO_layPhases_41 ?_
        refine wz_iald (e46) ((by omega)) ((by omega)) d_MO_layPhases_42 (by decide) rfl (by decide) ?_
        refine wz_iast (rfl) ((by omega)) d_MO_layPhases_43 (by decide) rfl (by decide) ?_
        refine wp_iload d_MO_layPhases_44 rfl ?_
        refine wp_iload_n d_MO_layPhases_46 rfl ?_
        refine wp_iload d_MO_layPhases_47 rfl ?_
        refine wp_ishr d_MO_layPhases_49 ?_
        refine wp_iconst (v := zI 1) d_MO_layPhases_50 rfl ?_
        refine wp_iand d_MO_layPhases_51 ?_
        rw [zI_bit (by omega) (by omega)]
        have g1 : ∀ m, m < i + 1 → setI h 51 i (zI (ph σ i)) 51 m = zI (ph σ m) := fun m hm => by
          by_cases q : m = i
          · subst q; exact rdA rfl
          · exact rdS q (e1 m (by omega))
        have g0 : ∀ c, c ≠ 51 → setI h 51 i (zI (ph σ i)) c = hi c := fun c hc => by rw [setI_ne _ _ _ hc, e0 c hc]
        have ih' := ih (i + 1) (by omega) _ g0 g1
        by_cases hb : (sit σ p).testBit i = true
        · rw [bI_t hb, zI_1]
          have e : Rq σ p (cnt (sit σ p) (i + 1)) 0 = Rq σ p (cnt (sit σ p) i) 0 * (lu σ i + 1) := by
            rw [cnt, if_pos hb, Rq, RR_split, Nat.zero_add, RR, RR, rx, mb_at hb (by omega), Nat.mul_one]
            rfl
          rw [e] at ih'
          refine wp_iconst (v := zI 1) d_MO_layPhases_52 rfl ?_
          refine wz_icmp_ne (tgt := 70) d_MO_layPhases_53 (by decide) (by omega) (by omega) (fun h53 => ?_) (fun h53 => ?_)
          · exact absurd rfl h53
          · have e46' : setI h 51 i (zI (ph σ i)) 46 (5 * i) = zI (lu σ i) := rd1 (by decide) (by rw [e0 46 (by omega)]; exact hA.lu (by omega))
            refine wp_aload_n d_MO_layPhases_56 rfl ?_
            refine wp_getR d_MO_layPhases_57 f_MO_22 (by decide) rfl rfl ?_
            refine wp_iconst (v := zI 5) d_MO_layPhases_60 rfl ?_
            refine wp_iload d_MO_layPhases_61 rfl ?_
            refine wz_imul d_MO_layPhases_63 ?_
            refine wz_iald (e46') ((by omega)) ((by omega)) d_MO_layPhases_64 (by decide) rfl (by decide) ?_
            refine wp_iconst (v := zI 1) d_MO_layPhases_65 rfl ?_
            refine wz_iadd d_MO_layPhases_66 ?_
            refine wp_goto (tgt := 71) d_MO_layPhases_67 (by decide) ?_
            refine wz_imul d_MO_layPhases_71 ?_
            refine wp_istore (lv' := [_, _, _, _, _, _, _, _, _, _]) d_MO_layPhases_72 (by decide) rfl ?_
            refine wz_iinc (lv' := [_, _, _, _, _, _, _, _, _, _]) d_MO_layPhases_74 rfl (by decide) rfl ?_
            refine wp_goto (tgt := 17) d_MO_layPhases_77 (by decide) ?_
            exact ih'
        · rw [bI_f hb, zI_0]
          have e : Rq σ p (cnt (sit σ p) (i + 1)) 0 = Rq σ p (cnt (sit σ p) i) 0 := by rw [cnt, if_neg hb, Nat.add_zero]
          rw [e] at ih'
          refine wp_iconst (v := zI 1) d_MO_layPhases_52 rfl ?_
          refine wz_icmp_ne (tgt := 70) d_MO_layPhases_53 (by decide) (by omega) (by omega) (fun h53 => ?_) (fun h53 => ?_)
          · refine wp_iconst (v := zI 1) d_MO_layPhases_70 rfl ?_
            refine wz_imul d_MO_layPhases_71 ?_
            rw [Int.mul_one]
            refine wp_istore (lv' := [_, _, _, _, _, _, _, _, _, _]) d_MO_layPhases_72 (by decide) rfl ?_
            refine wz_iinc (lv' := [_, _, _, _, _, _, _, _, _, _]) d_MO_layPhases_74 rfl (by decide) rfl ?_
            refine wp_goto (tgt := 17) d_MO_layPhases_77 (by decide) ?_
            exact ih'
          · exact absurd h53 (by decide)
  refine ct_intro (lv := [_, _, _, _, _, _, _, _, _, _]) (by decide +kernel) (Nat.le_of_ble_eq_true rfl) rfl ?_
  refine wp_aload_n d_MO_layPhases_0 rfl ?_
  refine wp_iload_n d_MO_layPhases_1 rfl ?_
  refine wp_callV (ct_MO_sitters (p := p) 0 ok hA (by omega)) d_MO_layPhases_2 k_MO_160 (by decide) rfl rfl rfl rfl (Nat.le_of_ble_eq_true rfl) (by omega) ?_
  rintro _ _ _ ⟨rfl, rfl, rfl⟩
  refine wp_istore_n (lv' := [_, _, _, _, _, _, _, _, _, _]) d_MO_layPhases_5 (by decide) rfl ?_
  refine wp_iload_n d_MO_layPhases_6 rfl ?_
  refine wp_callS (ct_MO_ones (set := sit σ p) 0 hs) d_MO_layPhases_7 k_MO_169 rfl rfl (Nat.le_of_ble_eq_true rfl) (by omega) ?_
  rintro _ _ _ ⟨rfl, rfl, rfl⟩
  refine wp_istore_n (lv' := [_, _, _, _, _, _, _, _, _, _]) d_MO_layPhases_10 (by decide) rfl ?_
  refine wp_iconst (v := zI 1) d_MO_layPhases_11 rfl ?_
  refine wp_istore (lv' := [_, _, _, _, _, _, _, _, _, _]) d_MO_layPhases_12 (by decide) rfl ?_
  refine wp_iconst (v := zI 0) d_MO_layPhases_14 rfl ?_
  refine wp_istore (lv' := [_, _, _, _, _, _, _, _, _, _]) d_MO_layPhases_15 (by decide) rfl ?_
  exact first (nM σ) 0 (by omega) hi (fun _ _ => rfl) (fun m hm => absurd hm (by omega))
theorem cm_phases (ok : Ok σ) (hA : AM σ hi) (ha : inR a) : Ct M_MO_phases 9 [.ref 41, .int (zI a)] hi hl (pM σ (zI (r_phases σ a)) hi) := by
  have hn := ok.nums
  refine ct_intro (lv := [_, _]) (by decide +kernel) (Nat.le_of_ble_eq_true rfl) rfl ?_
  refine wp_aload_n d_MO_phases_0 rfl ?_
  refine wp_iload_n d_MO_phases_1 rfl ?_
  refine wp_callV (ct_MO_isPipe ok hA ha) d_MO_phases_2 k_MO_135 (by decide) rfl rfl rfl rfl (Nat.le_of_ble_eq_true rfl) (by omega) ?_
  rintro _ _ _ ⟨rfl, rfl, rfl⟩
  refine wz_if_neB (tgt := 10) d_MO_phases_5 (by decide) (fun h5 => ?_) (fun h5 => ?_)
  · obtain ⟨p, rfl, hpp⟩ := toN h5
    have hS := nS_le σ p
    refine wp_aload_n d_MO_phases_10 rfl ?_
    refine wp_iload_n d_MO_phases_11 rfl ?_
    refine wp_callV (ct_MO_sitters (p := p) 0 ok hA (by omega)) d_MO_phases_12 k_MO_160 (by decide) rfl rfl rfl rfl (Nat.le_of_ble_eq_true rfl) (by omega) ?_
    rintro _ _ _ ⟨rfl, rfl, rfl⟩
    refine wp_callS (ct_MO_ones (set := sit σ p) 0 (sit_lt ok p)) d_MO_phases_15 k_MO_169 rfl rfl (Nat.le_of_ble_eq_true rfl) (by omega) ?_
    rintro _ _ _ ⟨rfl, rfl, rfl⟩
    have eS : cnt (sit σ p) 12 = nS σ p := rfl
    rw [eS]
    refine wp_iconst (v := zI 4) d_MO_phases_18 rfl ?_
    refine wz_icmp_le (tgt := 27) d_MO_phases_19 (by decide) (by omega) (by omega) (fun h19 => ?_) (fun h19 => ?_)
    · refine wp_aload_n d_MO_phases_27 rfl ?_
      refine wp_iload_n d_MO_phases_28 rfl ?_
      refine wp_callV (ct_MO_layPhases (p := p) ok hA hpp (by omega)) d_MO_phases_29 k_MO_175 (by decide) rfl rfl rfl rfl (Nat.le_of_ble_eq_true rfl) (by omega) ?_
      rintro _ h2 _ ⟨rfl, rfl, e2, -⟩
      exact wp_iret d_MO_phases_32 (Or.inl rfl) (⟨by rw [r_phases, if_pos h5, nC, if_pos (by omega)], hA.keep (fun f _ _ => by rw [e2 41 (by omega) (by omega) (by omega) (by omega)]) (fun c hc => e2 c (by omega) (by omega) (by omega) (by omega)), fun c hc => e2 c (by omega) (by omega) (by omega) (by omega)⟩)
    · refine wp_bipush (v := zI (-3)) d_MO_phases_22 rfl ?_
      refine wp_goto (tgt := 32) d_MO_phases_24 (by decide) ?_
      exact wp_iret d_MO_phases_32 (Or.inl rfl) (pM_of hA (by rw [r_phases, if_pos h5, nC, if_neg (by omega)]))
  · refine wp_iconst (v := zI (-1)) d_MO_phases_8 rfl ?_
    exact wp_iret d_MO_phases_9 (Or.inl rfl) (pM_of hA (by rw [r_phases, if_neg h5]))
theorem cm_phaseAt (ok : Ok σ) (hA : AM σ hi) (ha : inR a) (hb : inR b) : Ct M_MO_phaseAt 9 [.ref 41, .int (zI a), .int (zI b)] hi hl (pM σ (zI (r_phaseAt σ a b)) hi) := by
  have hn := ok.nums
  refine ct_intro (lv := [_, _, _, _]) (by decide +kernel) (Nat.le_of_ble_eq_true rfl) rfl ?_
  refine wp_aload_n d_MO_phaseAt_0 rfl ?_
  refine wp_iload_n d_MO_phaseAt_1 rfl ?_
  refine wp_callV (ct_MO_isPipe ok hA ha) d_MO_phaseAt_2 k_MO_135 (by decide) rfl rfl rfl rfl (Nat.le_of_ble_eq_true rfl) (by omega) ?_
  rintro _ _ _ ⟨rfl, rfl, rfl⟩
  refine wz_if_neB (tgt := 10) d_MO_phaseAt_5 (by decide) (fun h5 => ?_) (fun h5 => ?_)
  · obtain ⟨p, rfl, hpp⟩ := toN h5
    have hS := nS_le σ p
    have hs := sit_lt ok p
    have eS : cnt (sit σ p) 12 = nS σ p := rfl
    refine wp_aload_n d_MO_phaseAt_10 rfl ?_
    refine wp_iload_n d_MO_phaseAt_11 rfl ?_
    refine wp_callV (ct_MO_sitters (p := p) 0 ok hA (by omega)) d_MO_phaseAt_12 k_MO_160 (by decide) rfl rfl rfl rfl (Nat.le_of_ble_eq_true rfl) (by omega) ?_
    rintro _ _ _ ⟨rfl, rfl, rfl⟩
    refine wp_istore_n (lv' := [_, _, _, _]) d_MO_phaseAt_15 (by decide) rfl ?_
    refine wp_iload_n d_MO_phaseAt_16 rfl ?_
    refine wp_callS (ct_MO_ones (set := sit σ p) 0 hs) d_MO_phaseAt_17 k_MO_169 rfl rfl (Nat.le_of_ble_eq_true rfl) (by omega) ?_
    rintro _ _ _ ⟨rfl, rfl, rfl⟩
    rw [eS]
    refine wp_iconst (v := zI 4) d_MO_phaseAt_20 rfl ?_
    refine wz_icmp_le (tgt := 27) d_MO_phaseAt_21 (by decide) (by omega) (by omega) (fun h21 => ?_) (fun h21 => ?_)
    · refine wp_aload_n d_MO_phaseAt_27 rfl ?_
      refine wp_iload_n d_MO_phaseAt_28 rfl ?_
      refine wp_callV (ct_MO_layPhases (p := p) ok hA hpp (by omega)) d_MO_phaseAt_29 k_MO_175 (by decide) rfl rfl rfl rfl (Nat.le_of_ble_eq_true rfl) (by omega) ?_
      rintro _ h2 _ ⟨rfl, rfl, e2, f2⟩
      have hA2 : AM σ h2 := hA.keep (fun f _ _ => by rw [e2 41 (by omega) (by omega) (by omega) (by omega)]) (fun c hc => e2 c (by omega) (by omega) (by omega) (by omega))
      have hk : ∀ c, c < 41 → h2 c = hi c := fun c hc => e2 c (by omega) (by omega) (by omega) (by omega)
      refine wp_pop d_MO_phaseAt_32 rfl ?_
      refine wp_iload_n d_MO_phaseAt_33 rfl ?_
      refine wz_i2l d_MO_phaseAt_34 (by omega) ?_
      refine wp_lconst (v := lZ 0) d_MO_phaseAt_35 rfl ?_
      refine wp_iload_n d_MO_phaseAt_36 rfl ?_
      refine wp_callS (ct_MO_ones (set := sit σ p) 0 hs) d_MO_phaseAt_37 k_MO_169 rfl rfl (Nat.le_of_ble_eq_true rfl) (by omega) ?_
      rintro _ _ _ ⟨rfl, rfl, rfl⟩
      rw [eS]
      refine wp_iconst (v := zI 1) d_MO_phaseAt_40 rfl ?_
      refine wz_isub d_MO_phaseAt_41 ?_
      refine wz_i2l d_MO_phaseAt_42 (by omega) ?_
      refine wp_callS (ct_MO_in (x := b) (y := 0) (z := (nS σ p : Int) - 1) 0 (by omega) (by omega) (by omega)) d_MO_phaseAt_43 k_MO_75 rfl rfl (Nat.le_of_ble_eq_true rfl) (by omega) ?_
      rintro _ _ _ ⟨rfl, rfl, rfl⟩
      refine wz_if_eqB (tgt := 62) d_MO_phaseAt_46 (by decide) (fun h46 => ?_) (fun h46 => ?_)
      · refine wp_bipush (v := zI (-9)) d_MO_phaseAt_62 rfl ?_
        exact wp_iret d_MO_phaseAt_64 (Or.inl rfl) (⟨by rw [r_phaseAt, if_pos h5, nC, if_pos (by omega), if_neg (by omega)], hA2, hk⟩)
      · obtain ⟨i, rfl, hin⟩ := toN (show 0 ≤ b ∧ b < nS σ p by omega)
        have hm := mb_spec (show i < cnt (sit σ p) 12 from hin)
        refine wp_aload_n d_MO_phaseAt_49 rfl ?_
        refine wp_getR d_MO_phaseAt_50 f_MO_40 (by decide) rfl rfl ?_
        refine wp_iload_n d_MO_phaseAt_53 rfl ?_
        refine wp_iload_n d_MO_phaseAt_54 rfl ?_
        refine wp_callS (ct_MO_member (set := sit σ p) (i := i) 0 hs hin) d_MO_phaseAt_55 k_MO_172 rfl rfl (Nat.le_of_ble_eq_true rfl) (by omega) ?_
        rintro _ _ _ ⟨rfl, rfl, rfl⟩
        refine wz_iald ((f2 i hin)) (rfl) ((by omega)) d_MO_phaseAt_58 (by decide) rfl (by decide) ?_
        refine wp_goto (tgt := 64) d_MO_phaseAt_59 (by decide) ?_
        exact wp_iret d_MO_phaseAt_64 (Or.inl rfl) (⟨by rw [r_phaseAt, if_pos h5, nC, if_pos (by omega), if_pos (by omega), nC], hA2, hk⟩)
    · refine wp_bipush (v := zI (-3)) d_MO_phaseAt_24 rfl ?_
      exact wp_iret d_MO_phaseAt_26 (Or.inl rfl) (pM_of hA (by rw [r_phaseAt, if_pos h5, nC, if_neg (by omega)]))
  · refine wp_iconst (v := zI (-1)) d_MO_phaseAt_8 rfl ?_
    exact wp_iret d_MO_phaseAt_9 (Or.inl rfl) (pM_of hA (by rw [r_phaseAt, if_neg h5]))
end LPH
