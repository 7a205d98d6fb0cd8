/-! SEATS: the reference's way -/
section SER
variable {σ : SG} {hi : HI} {hl : HL} {a b : Int}
/-- who sits at p of those from k on -/
def svk (σ : SG) (v k p : Nat) : Nat := bs (fun m => decide (k ≤ m) && decide (sd σ v m = p)) (nM σ)
theorem svk_0 (σ : SG) (v p : Nat) : svk σ v 0 p = sv σ v p := by
  apply Nat.eq_of_testBit_eq
  intro i
  rw [svk, sv, bs_bit, bs_bit]
  simp
theorem svk_n (σ : SG) (v p : Nat) : svk σ v (nM σ) p = 0 := by
  apply Nat.eq_of_testBit_eq
  intro i
  rw [svk, bs_bit]
  by_cases h : i < nM σ
  · simp [show ¬ nM σ ≤ i by omega]
  · simp [h]
theorem svk_in {v k : Nat} (hk : k < nM σ) : svk σ v (k + 1) (sd σ v k) ||| 2 ^ k = svk σ v k (sd σ v k) := by
  apply Nat.eq_of_testBit_eq
  intro i
  rw [Nat.testBit_or, svk, svk, bs_bit, bs_bit]
  by_cases h : i = k
  · subst h
    simp [hk, Nat.testBit_two_pow_self]
  · rw [Nat.testBit_two_pow_of_ne (fun q => h q.symm)]
    by_cases z : k ≤ i
    · simp [z, show k + 1 ≤ i by omega]
    · simp [z, show ¬ k + 1 ≤ i by omega]
theorem svk_out {v k p : Nat} (hp : p ≠ sd σ v k) : svk σ v (k + 1) p = svk σ v k p := by
  apply Nat.eq_of_testBit_eq
  intro i
  rw [svk, svk, bs_bit, bs_bit]
  by_cases h : i = k
  · subst h
    simp [show ¬ sd σ v i = p from fun q => hp q.symm]
  · by_cases z : k ≤ i
    · simp [z, show k + 1 ≤ i by omega]
    · simp [z, show ¬ k + 1 ≤ i by omega]
def lsT (σ : SG) (v : Nat) : Int := if v = 0 then 0 else (fm (TT σ) v).1
/-- what lies still while the ways are tried -/
def SW (σ : SG) (hi h : HI) : Prop := (∀ c, c ≠ 49 → c ≠ 50 → c ≠ 53 → c ≠ 54 → c ≠ 55 → h c = hi c) ∧ ∀ p x, p < nP σ → x < 2 ^ nM σ → h 53 (64 * p + x) = zI (sag σ p x (lt σ))
theorem SW.n {h : HI} (w : SW σ hi h) (hA : AM σ hi) : h 41 10 = zI (nM σ) := by rw [w.1 41 (by omega) (by omega) (by omega) (by omega) (by omega)]; exact hA.n
theorem SW.np {h : HI} (w : SW σ hi h) (hA : AM σ hi) : h 41 9 = zI (nP σ) := by rw [w.1 41 (by omega) (by omega) (by omega) (by omega) (by omega)]; exact hA.np
theorem SW.set {h : HI} (w : SW σ hi h) {c j : Nat} {x : Int32} (hc : c = 54 ∨ c = 55) : SW σ hi (setI h c j x) := ⟨fun d q1 q2 q3 q4 q5 => by rw [setI_ne _ _ _ (by omega)]; exact w.1 d q1 q2 q3 q4 q5, fun p y hp hy => rd1 (by omega) (w.2 p y hp hy)⟩
theorem ls_zero {P : Option Value → HI → HL → Prop} {x1 x2 x3 x4 : Int32} (ok : Ok σ) (hA : AM σ hi) (K : ∀ h' : HI, SW σ hi h' → (∀ p, p < nP σ → h' 55 p = zI 0) → Wp M_MO_laySeats 3 P 115 [some (.ref 41), some (.int x1), some (.int x2), some (.int x3), some (.int x4), none, none, none] [] h' hl) :
    ∀ k i : Nat, i + k = nP σ → ∀ h : HI, SW σ hi h → (∀ p, p < i → h 55 p = zI 0) → Wp M_MO_laySeats 3 P 92 [some (.ref 41), some (.int x1), some (.int x2), some (.int x3), some (.int x4), some (.int (zI i)), none, none] [] h hl := by
  have hn := ok.nums
  intro k
  induction k with
  | zero =>
    intro i hik h w e
    refine wp_iload d_MO_laySeats_92 rfl ?_
    refine wp_aload_n d_MO_laySeats_94 rfl ?_
    refine wz_getI ((w.np hA)) d_MO_laySeats_95 f_MO_69 (by decide) rfl rfl ?_
    refine wz_icmp_ge (tgt := 115) d_MO_laySeats_98 (by decide) (by omega) (by omega) (fun h98 => ?_) (fun h98 => ?_)
    · refine wp_drop (lv' := [some _, some _, some _, some _, some _, none, none, none]) ⟨rfl, rfl, rfl, rfl, rfl, trivial⟩ ?_
      exact K h w (fun p hp => e p (by omega))
    · exact absurd h98 (by omega)
  | succ k ih =>
    intro i hik h w e
    refine wp_iload d_MO_laySeats_92 rfl ?_
    refine wp_aload_n d_MO_laySeats_94 rfl ?_
    refine wz_getI ((w.np hA)) d_MO_laySeats_95 f_MO_69 (by decide) rfl rfl ?_
    refine wz_icmp_ge (tgt := 115) d_MO_laySeats_98 (by decide) (by omega) (by omega) (fun h98 => ?_) (fun h98 => ?_)
    · exact absurd h98 (by omega)
    · refine wp_aload_n d_MO_laySeats_101 rfl ?_
      refine wp_getR d_MO_laySeats_102 f_MO_49 (by decide) rfl rfl ?_
      refine wp_iload d_MO_laySeats_105 rfl ?_
      refine wp_iconst (v := zI 0) d_MO_laySeats_107 rfl ?_
      refine wz_iast (rfl) ((by omega)) d_MO_laySeats_108 (by decide) rfl (by decide) ?_
      refine wz_iinc (lv' := [_, _, _, _, _, _, _, _]) d_MO_laySeats_109 rfl (by decide) rfl ?_
      refine wp_goto (tgt := 92) d_MO_laySeats_112 (by decide) ?_
      refine ih (i + 1) (by omega) _ (w.set (Or.inr rfl)) (fun p hp => ?_)
      by_cases q : p = i
      · subst q; exact rdA rfl
      · exact rdS q (e p (by omega))
theorem ls_dig {P : Option Value → HI → HL → Prop} {v : Nat} {x1 x2 x3 x4 : Int32} (ok : Ok σ) (hA : AM σ hi) (h6 : nM σ ≤ 6) (hv : v ≤ 100000) (K : ∀ h' : HI, SW σ hi h' → (∀ p, p < nP σ → h' 55 p = zI (sv σ v p)) → Wp M_MO_laySeats 3 P 166 [some (.ref 41), some (.int x1), some (.int x2), some (.int x3), some (.int x4), none, none, none] [] h' hl) :
    ∀ k : Nat, k ≤ nM σ → ∀ h : HI, SW σ hi h → (∀ p, p < nP σ → h 55 p = zI (svk σ v k p)) → Wp M_MO_laySeats 3 P 127 [some (.ref 41), some (.int x1), some (.int x2), some (.int x3), some (.int x4), some (.int (zI ((v / nP σ ^ (nM σ - k) : Nat) : Int))), some (.int (zI ((k : Int) - 1))), none] [] h hl := by
  have hn := ok.nums
  intro k
  induction k with
  | zero =>
    intro hk h w e
    refine wp_iload d_MO_laySeats_127 rfl ?_
    refine wz_if_lt (tgt := 166) d_MO_laySeats_129 (by decide) (by omega) (fun h129 => ?_) (fun h129 => ?_)
    · refine wp_drop (lv' := [some _, some _, some _, some _, some _, none, none, none]) ⟨rfl, rfl, rfl, rfl, rfl, trivial⟩ ?_
      exact K h w (fun p hp => by rw [e p hp, svk_0])
    · exact absurd h129 (by omega)
  | succ k ih =>
    intro hk h w e
    obtain ⟨L, hL⟩ : ∃ L : Nat, L = v / nP σ ^ (nM σ - (k + 1)) := ⟨_, rfl⟩
    have hLv : L ≤ 100000 := by
      have := Nat.div_le_self v (nP σ ^ (nM σ - (k + 1)))
      omega
    have ed : L % nP σ = sd σ v k := by rw [hL]; rfl
    have ev : L / nP σ = v / nP σ ^ (nM σ - k) := by rw [hL, Nat.div_div_eq_div_mul, ← Nat.pow_succ, show (nM σ - (k + 1)).succ = nM σ - k by omega]
    have hd := sd_lt ok v k
    rw [← hL, show (((k + 1 : Nat) : Int) - 1) = (k : Int) by omega]
    refine wp_iload d_MO_laySeats_127 rfl ?_
    refine wz_if_lt (tgt := 166) d_MO_laySeats_129 (by decide) (by omega) (fun h129 => ?_) (fun h129 => ?_)
    · exact absurd h129 (by omega)
    · refine wp_aload_n d_MO_laySeats_132 rfl ?_
      refine wp_getR d_MO_laySeats_133 f_MO_49 (by decide) rfl rfl ?_
      refine wp_iload d_MO_laySeats_136 rfl ?_
      refine wp_aload_n d_MO_laySeats_138 rfl ?_
      refine wz_getI ((w.np hA)) d_MO_laySeats_139 f_MO_69 (by decide) rfl rfl ?_
      refine wz_irem d_MO_laySeats_142 (by omega) (by omega) (by omega) (by omega) ?_
      rw [show ((L : Int) % (nP σ : Int)) = ((sd σ v k : Nat) : Int) by rw [← ed]; simp]
      refine wp_dup2 d_MO_laySeats_143 rfl rfl ?_
      refine wz_iald ((e _ hd)) (rfl) ((by omega)) d_MO_laySeats_144 (by decide) rfl (by decide) ?_
      refine wp_iconst (v := zI 1) d_MO_laySeats_145 rfl ?_
      refine wp_iload d_MO_laySeats_146 rfl ?_
      refine wp_ishl d_MO_laySeats_148 ?_
      refine wz_top (y := zI ((2 ^ k : Nat) : Int)) (by rw [show (1 : Int) = ((1 : Nat) : Int) from rfl, zI_shl (by omega) (by have := Nat.pow_le_pow_right (show 0 < 2 by omega) (show k ≤ 6 by omega); omega), Nat.one_mul]) ?_
      refine wp_ior d_MO_laySeats_149 ?_
      rw [zI_or, svk_in (by omega)]
      refine wz_iast (rfl) ((by omega)) d_MO_laySeats_150 (by decide) rfl (by decide) ?_
      refine wp_iload d_MO_laySeats_151 rfl ?_
      refine wp_aload_n d_MO_laySeats_153 rfl ?_
      refine wz_getI ((rd1 (by decide) (w.np hA))) d_MO_laySeats_154 f_MO_69 (by decide) rfl rfl ?_
      refine wz_idiv d_MO_laySeats_157 (by omega) (by omega) (by omega) (by omega) ?_
      rw [show ((L : Int) / (nP σ : Int)) = ((v / nP σ ^ (nM σ - k) : Nat) : Int) by rw [← ev]; simp]
      refine wp_istore (lv' := [_, _, _, _, _, _, _, _]) d_MO_laySeats_158 (by decide) rfl ?_
      refine wz_iinc (lv' := [_, _, _, _, _, _, _, _]) d_MO_laySeats_160 rfl (by decide) rfl ?_
      refine wp_goto (tgt := 127) d_MO_laySeats_163 (by decide) ?_
      refine ih (by omega) _ (w.set (Or.inr rfl)) (fun p hp => ?_)
      by_cases q : p = sd σ v k
      · subst q; exact rdA rfl
      · exact rdS q (by rw [e p hp, svk_out q])
theorem ls_sum {P : Option Value → HI → HL → Prop} {v : Nat} {x1 x2 x3 x4 : Int32} {h : HI} (ok : Ok σ) (hA : AM σ hi) (h6 : nM σ ≤ 6) (w : SW σ hi h) (e : ∀ p, p < nP σ → h 55 p = zI (sv σ v p)) (K : Wp M_MO_laySeats 3 P 210 [some (.ref 41), some (.int x1), some (.int x2), some (.int x3), some (.int x4), none, some (.int (zI (TT σ v))), none] [] h hl) :
    ∀ k i : Nat, i + k = nP σ → Wp M_MO_laySeats 3 P 172 [some (.ref 41), some (.int x1), some (.int x2), some (.int x3), some (.int x4), none, some (.int (zI (smf (fun p => sag σ p (sv σ v p) (lt σ)) i))), some (.int (zI i))] [] h hl := by
  have hn := ok.nums
  intro k
  induction k with
  | zero =>
    intro i hik
    refine wp_iload d_MO_laySeats_172 rfl ?_
    refine wp_aload_n d_MO_laySeats_174 rfl ?_
    refine wz_getI ((w.np hA)) d_MO_laySeats_175 f_MO_69 (by decide) rfl rfl ?_
    refine wz_icmp_ge (tgt := 210) d_MO_laySeats_178 (by decide) (by omega) (by omega) (fun h178 => ?_) (fun h178 => ?_)
    · refine wp_drop (lv' := [some _, some _, some _, some _, some _, none, some _, none]) ⟨rfl, rfl, rfl, rfl, rfl, rfl, trivial⟩ ?_
      have : smf (fun p => sag σ p (sv σ v p) (lt σ)) i = TT σ v := by rw [show i = nP σ by omega]; rfl
      rw [this]
      exact K
    · exact absurd h178 (by omega)
  | succ k ih =>
    intro i hik
    have hs : sv σ v i < 2 ^ nM σ := bs_lt _ _
    have hs6 := Nat.pow_le_pow_right (show 0 < 2 by omega) h6
    refine wp_iload d_MO_laySeats_172 rfl ?_
    refine wp_aload_n d_MO_laySeats_174 rfl ?_
    refine wz_getI ((w.np hA)) d_MO_laySeats_175 f_MO_69 (by decide) rfl rfl ?_
    refine wz_icmp_ge (tgt := 210) d_MO_laySeats_178 (by decide) (by omega) (by omega) (fun h178 => ?_) (fun h178 => ?_)
    · exact absurd h178 (by omega)
    · refine wp_iload d_MO_laySeats_181 rfl ?_
      refine wp_aload_n d_MO_laySeats_183 rfl ?_
      refine wp_getR d_MO_laySeats_184 f_MO_43 (by decide) rfl rfl ?_
      refine wp_bipush (v := zI 64) d_MO_laySeats_187 rfl ?_
      refine wp_iload d_MO_laySeats_189 rfl ?_
      refine wz_imul d_MO_laySeats_191 ?_
      refine wp_aload_n d_MO_laySeats_192 rfl ?_
      refine wp_getR d_MO_laySeats_193 f_MO_49 (by decide) rfl rfl ?_
      refine wp_iload d_MO_laySeats_196 rfl ?_
      refine wz_iald ((e i (by omega))) (rfl) ((by omega)) d_MO_laySeats_198 (by decide) rfl (by decide) ?_
      refine wz_iadd d_MO_laySeats_199 ?_
      refine wz_iald ((w.2 i _ (by omega) hs)) ((by omega)) ((by omega)) d_MO_laySeats_200 (by decide) rfl (by decide) ?_
      refine wz_iadd d_MO_laySeats_201 ?_
      refine wp_istore (lv' := [_, _, _, _, _, _, _, _]) d_MO_laySeats_202 (by decide) rfl ?_
      refine wz_iinc (lv' := [_, _, _, _, _, _, _, _]) d_MO_laySeats_204 rfl (by decide) rfl ?_
      refine wp_goto (tgt := 172) d_MO_laySeats_207 (by decide) ?_
      exact ih (i + 1) (by omega)
theorem ls_way {P : Option Value → HI → HL → Prop} (ok : Ok σ) (hA : AM σ hi) (h6 : nM σ ≤ 6) (K : ∀ h' : HI, SW σ hi h' → Wp M_MO_laySeats 3 P 252 [some (.ref 41), some (.int (zI (ws σ))), some (.int (zI (bt σ).1)), some (.int (zI (bt σ).2)), none, none, none, none] [] h' hl) :
    ∀ k v : Nat, v + k = ws σ → ∀ h : HI, SW σ hi h → Wp M_MO_laySeats 3 P 83 [some (.ref 41), some (.int (zI (ws σ))), some (.int (zI (lsT σ v))), some (.int (zI (fm (TT σ) v).2)), some (.int (zI v)), none, none, none] [] h hl := by
  have hn := ok.nums
  have hw0 := ws_pos ok
  have hw1 : ws σ ≤ 46656 := Nat.le_trans (Nat.pow_le_pow_left hn.2.1 _) (Nat.pow_le_pow_right (by omega) h6)
  intro k
  induction k with
  | zero =>
    intro v hvk h w
    refine wp_iload d_MO_laySeats_83 rfl ?_
    refine wp_iload_n d_MO_laySeats_85 rfl ?_
    refine wz_icmp_ge (tgt := 252) d_MO_laySeats_86 (by decide) (by omega) (by omega) (fun h86 => ?_) (fun h86 => ?_)
    · refine wp_drop (lv' := [some _, some _, some _, some _, none, none, none, none]) ⟨rfl, rfl, rfl, rfl, trivial⟩ ?_
      have e1 : lsT σ v = (bt σ).1 := by rw [lsT, if_neg (by omega), show v = ws σ by omega]; rfl
      have e2 : (fm (TT σ) v).2 = (bt σ).2 := by rw [show v = ws σ by omega]; rfl
      rw [e1, e2]
      exact K h w
    · exact absurd h86 (by omega)
  | succ k ih =>
    intro v hvk h w
    have bT := TT_b ok v
    have bF := fm_b (V := TT σ) (fun v => by have := TT_b ok v; omega) v
    have bL : inR (lsT σ v) := by unfold lsT; split <;> omega
    refine wp_iload d_MO_laySeats_83 rfl ?_
    refine wp_iload_n d_MO_laySeats_85 rfl ?_
    refine wz_icmp_ge (tgt := 252) d_MO_laySeats_86 (by decide) (by omega) (by omega) (fun h86 => ?_) (fun h86 => ?_)
    · exact absurd h86 (by omega)
    · refine wp_iconst (v := zI 0) d_MO_laySeats_89 rfl ?_
      refine wp_istore (lv' := [_, _, _, _, _, _, _, _]) d_MO_laySeats_90 (by decide) rfl ?_
      refine ls_zero ok hA (fun h2 w2 z2 => ?_) (nP σ) 0 (by omega) h w (fun p hp => absurd hp (by omega))
      refine wp_iload d_MO_laySeats_115 rfl ?_
      refine wp_istore (lv' := [_, _, _, _, _, _, _, _]) d_MO_laySeats_117 (by decide) rfl ?_
      refine wp_aload_n d_MO_laySeats_119 rfl ?_
      refine wz_getI ((w2.n hA)) d_MO_laySeats_120 f_MO_123 (by decide) rfl rfl ?_
      refine wp_iconst (v := zI 1) d_MO_laySeats_123 rfl ?_
      refine wz_isub d_MO_laySeats_124 ?_
      refine wp_istore (lv' := [_, _, _, _, _, _, _, _]) d_MO_laySeats_125 (by decide) rfl ?_
      have dd := ls_dig (P := P) (hl := hl) (v := v) (x1 := zI (ws σ)) (x2 := zI (lsT σ v)) (x3 := zI (fm (TT σ) v).2) (x4 := zI v) ok hA h6 (by omega) ?_ (nM σ) (Nat.le_refl _) h2 w2 (fun p hp => by rw [z2 p hp, svk_n]; rfl)
      · rw [Nat.sub_self, Nat.pow_zero, Nat.div_one] at dd
        exact dd
      · intro h3 w3 z3
        refine wp_iconst (v := zI 0) d_MO_laySeats_166 rfl ?_
        refine wp_istore (lv' := [_, _, _, _, _, _, _, _]) d_MO_laySeats_167 (by decide) rfl ?_
        refine wp_iconst (v := zI 0) d_MO_laySeats_169 rfl ?_
        refine wp_istore (lv' := [_, _, _, _, _, _, _, _]) d_MO_laySeats_170 (by decide) rfl ?_
        refine ls_sum ok hA h6 w3 z3 ?_ (nP σ) 0 (by omega)
        have take : v = 0 ∨ TT σ v < (fm (TT σ) v).1 → Wp M_MO_laySeats 3 P 83 [some (.ref 41), some (.int (zI (ws σ))), some (.int (zI (TT σ v))), some (.int (zI v)), some (.int (zI ((v : Int) + 1))), none, none, none] [] h3 hl := by
          intro hc
          have ef : fm (TT σ) (v + 1) = (TT σ v, v) := by
            rw [fm, if_pos]
            rcases hc with z | z
            · rw [z]
              rw [z] at bT
              show TT σ 0 < 2147483647
              omega
            · exact z
          have ih' := ih (v + 1) (by omega) h3 w3
          have el : lsT σ (v + 1) = TT σ v := by rw [lsT, if_neg (by omega), ef]
          rw [el, ef] at ih'
          exact ih'
        refine wp_iload d_MO_laySeats_210 rfl ?_
        refine wz_if_eq (tgt := 221) d_MO_laySeats_212 (by decide) (by omega) (fun h212 => ?_) (fun h212 => ?_)
        · refine wp_iload d_MO_laySeats_221 rfl ?_
          refine wp_goto (tgt := 227) d_MO_laySeats_223 (by decide) ?_
          refine wp_istore_n (lv' := [_, _, _, _, _, _, _, _]) d_MO_laySeats_227 (by decide) rfl ?_
          refine wp_iload d_MO_laySeats_228 rfl ?_
          refine wz_if_eq (tgt := 239) d_MO_laySeats_230 (by decide) (by omega) (fun h230 => ?_) (fun h230 => ?_)
          · refine wp_iload d_MO_laySeats_239 rfl ?_
            refine wp_goto (tgt := 245) d_MO_laySeats_241 (by decide) ?_
            refine wp_istore_n (lv' := [_, _, _, _, _, _, _, _]) d_MO_laySeats_245 (by decide) rfl ?_
            refine wz_iinc (lv' := [_, _, _, _, _, _, _, _]) d_MO_laySeats_246 rfl (by decide) rfl ?_
            refine wp_goto (tgt := 83) d_MO_laySeats_249 (by decide) ?_
            refine wp_drop (lv' := [some _, some _, some _, some _, some _, none, none, none]) ⟨rfl, rfl, rfl, rfl, rfl, trivial⟩ ?_
            exact take (Or.inl (by omega))
          · exact absurd h212 (by omega)
        · refine wp_iload d_MO_laySeats_215 rfl ?_
          refine wp_iload_n d_MO_laySeats_217 rfl ?_
          refine wz_icmp_ge (tgt := 226) d_MO_laySeats_218 (by decide) (by omega) (by omega) (fun h218 => ?_) (fun h218 => ?_)
          · refine wp_iload_n d_MO_laySeats_226 rfl ?_
            refine wp_istore_n (lv' := [_, _, _, _, _, _, _, _]) d_MO_laySeats_227 (by decide) rfl ?_
            refine wp_iload d_MO_laySeats_228 rfl ?_
            refine wz_if_eq (tgt := 239) d_MO_laySeats_230 (by decide) (by omega) (fun h230 => ?_) (fun h230 => ?_)
            · exact absurd h230 (by omega)
            · refine wp_iload d_MO_laySeats_233 rfl ?_
              refine wp_iload_n d_MO_laySeats_235 rfl ?_
              refine wz_icmp_ge (tgt := 244) d_MO_laySeats_236 (by decide) (by omega) (by omega) (fun h236 => ?_) (fun h236 => ?_)
              · refine wp_iload_n d_MO_laySeats_244 rfl ?_
                refine wp_istore_n (lv' := [_, _, _, _, _, _, _, _]) d_MO_laySeats_245 (by decide) rfl ?_
                refine wz_iinc (lv' := [_, _, _, _, _, _, _, _]) d_MO_laySeats_246 rfl (by decide) rfl ?_
                refine wp_goto (tgt := 83) d_MO_laySeats_249 (by decide) ?_
                refine wp_drop (lv' := [some _, some _, some _, some _, some _, none, none, none]) ⟨rfl, rfl, rfl, rfl, rfl, trivial⟩ ?_
                have hc : (fm (TT σ) v).1 ≤ TT σ v := by rw [lsT, if_neg (by omega)] at h218; exact h218
                have ef : fm (TT σ) (v + 1) = fm (TT σ) v := by rw [fm, if_neg (by omega)]
                have ih' := ih (v + 1) (by omega) h3 w3
                have el : lsT σ (v + 1) = lsT σ v := by rw [lsT, if_neg (by omega), ef, lsT, if_neg (by omega)]
                rw [el, ef] at ih'
                exact ih'
              · exact absurd h236 (by omega)
          · refine wp_iload d_MO_laySeats_221 rfl ?_
            refine wp_goto (tgt := 227) d_MO_laySeats_223 (by decide) ?_
            refine wp_istore_n (lv' := [_, _, _, _, _, _, _, _]) d_MO_laySeats_227 (by decide) rfl ?_
            refine wp_iload d_MO_laySeats_228 rfl ?_
            refine wz_if_eq (tgt := 239) d_MO_laySeats_230 (by decide) (by omega) (fun h230 => ?_) (fun h230 => ?_)
            · exact absurd h230 (by omega)
            · refine wp_iload d_MO_laySeats_233 rfl ?_
              refine wp_iload_n d_MO_laySeats_235 rfl ?_
              refine wz_icmp_ge (tgt := 244) d_MO_laySeats_236 (by decide) (by omega) (by omega) (fun h236 => ?_) (fun h236 => ?_)
              · exact absurd h236 (by omega)
              · refine wp_iload d_MO_laySeats_239 rfl ?_
                refine wp_goto (tgt := 245) d_MO_laySeats_241 (by decide) ?_
                refine wp_istore_n (lv' := [_, _, _, _, _, _, _, _]) d_MO_laySeats_245 (by decide) rfl ?_
                refine wz_iinc (lv' := [_, _, _, _, _, _, _, _]) d_MO_laySeats_246 rfl (by decide) rfl ?_
                refine wp_goto (tgt := 83) d_MO_laySeats_249 (by decide) ?_
                refine wp_drop (lv' := [some _, some _, some _, some _, some _, none, none, none]) ⟨rfl, rfl, rfl, rfl, rfl, trivial⟩ ?_
                exact take (Or.inr (by rw [lsT, if_neg (by omega)] at h218; exact h218))
theorem ls_out {P : Option Value → HI → HL → Prop} {x1 x2 : Int32} {v : Nat} (ok : Ok σ) (hA : AM σ hi) (h6 : nM σ ≤ 6) (hv : v ≤ 100000) (K : ∀ h' : HI, SW σ hi h' → (∀ m, m < nM σ → h' 54 m = zI (sd σ v m)) → P (some (.int x2)) h' hl) :
    ∀ k : Nat, k ≤ nM σ → ∀ h : HI, SW σ hi h → (∀ m, k ≤ m → m < nM σ → h 54 m = zI (sd σ v m)) → Wp M_MO_laySeats 3 P 260 [some (.ref 41), some (.int x1), some (.int x2), some (.int (zI ((v / nP σ ^ (nM σ - k) : Nat) : Int))), some (.int (zI ((k : Int) - 1))), none, none, none] [] h hl := by
  have hn := ok.nums
  intro k
  induction k with
  | zero =>
    intro hk h w e
    refine wp_iload d_MO_laySeats_260 rfl ?_
    refine wz_if_lt (tgt := 291) d_MO_laySeats_262 (by decide) (by omega) (fun h262 => ?_) (fun h262 => ?_)
    · refine wp_iload_n d_MO_laySeats_291 rfl ?_
      exact wp_iret d_MO_laySeats_292 (Or.inl rfl) (K h w (fun m hm => e m (by omega) hm))
    · exact absurd h262 (by omega)
  | succ k ih =>
    intro hk h w e
    obtain ⟨L, hL⟩ : ∃ L : Nat, L = v / nP σ ^ (nM σ - (k + 1)) := ⟨_, rfl⟩
    have hLv : L ≤ 100000 := by
      have := Nat.div_le_self v (nP σ ^ (nM σ - (k + 1)))
      omega
    have ed : L % nP σ = sd σ v k := by rw [hL]; rfl
    have ev : L / nP σ = v / nP σ ^ (nM σ - k) := by rw [hL, Nat.div_div_eq_div_mul, ← Nat.pow_succ, show (nM σ - (k + 1)).succ = nM σ - k by omega]
    rw [← hL, show (((k + 1 : Nat) : Int) - 1) = (k : Int) by omega]
    refine wp_iload d_MO_laySeats_260 rfl ?_
    refine wz_if_lt (tgt := 291) d_MO_laySeats_262 (by decide) (by omega) (fun h262 => ?_) (fun h262 => ?_)
    · exact absurd h262 (by omega)
    · refine wp_aload_n d_MO_laySeats_265 rfl ?_
      refine wp_getR d_MO_laySeats_266 f_MO_46 (by decide) rfl rfl ?_
      refine wp_iload d_MO_laySeats_269 rfl ?_
      refine wp_iload_n d_MO_laySeats_271 rfl ?_
      refine wp_aload_n d_MO_laySeats_272 rfl ?_
      refine wz_getI ((w.np hA)) d_MO_laySeats_273 f_MO_69 (by decide) rfl rfl ?_
      refine wz_irem d_MO_laySeats_276 (by omega) (by omega) (by omega) (by omega) ?_
      rw [show ((L : Int) % (nP σ : Int)) = ((sd σ v k : Nat) : Int) by rw [← ed]; simp]
      refine wz_iast (rfl) ((by omega)) d_MO_laySeats_277 (by decide) rfl (by decide) ?_
      refine wp_iload_n d_MO_laySeats_278 rfl ?_
      refine wp_aload_n d_MO_laySeats_279 rfl ?_
      refine wz_getI ((rd1 (by decide) (w.np hA))) d_MO_laySeats_280 f_MO_69 (by decide) rfl rfl ?_
      refine wz_idiv d_MO_laySeats_283 (by omega) (by omega) (by omega) (by omega) ?_
      rw [show ((L : Int) / (nP σ : Int)) = ((v / nP σ ^ (nM σ - k) : Nat) : Int) by rw [← ev]; simp]
      refine wp_istore_n (lv' := [_, _, _, _, _, _, _, _]) d_MO_laySeats_284 (by decide) rfl ?_
      refine wz_iinc (lv' := [_, _, _, _, _, _, _, _]) d_MO_laySeats_285 rfl (by decide) rfl ?_
      refine wp_goto (tgt := 260) d_MO_laySeats_288 (by decide) ?_
      refine ih (by omega) _ (w.set (Or.inl rfl)) (fun m h1 h2 => ?_)
      by_cases q : m = k
      · subst q; exact rdA rfl
      · exact rdS q (e m (by omega) h2)
theorem ct_MO_laySeats (ok : Ok σ) (hA : AM σ hi) (h6 : nM σ ≤ 6) : Ct M_MO_laySeats 3 [.ref 41] hi hl (fun r hi' hl' => r = some (.int (zI (bt σ).1)) ∧ hl = hl' ∧ (∀ c, c ≠ 49 → c ≠ 50 → c ≠ 53 → c ≠ 54 → c ≠ 55 → hi' c = hi c) ∧ ∀ m, m < nM σ → hi' 54 m = zI (sd σ (bt σ).2 m)) := by
  have hn := ok.nums
  have hs6 := Nat.pow_le_pow_right (show 0 < 2 by omega) h6
  have htp := Nat.two_pow_pos (nM σ)
  have hw0 := ws_pos ok
  have hw1 : ws σ ≤ 46656 := Nat.le_trans (Nat.pow_le_pow_left hn.2.1 _) (Nat.pow_le_pow_right (by omega) h6)
  have hbt : (bt σ).2 < ws σ := (fm_spec (V := TT σ) (fun v => by have := TT_b ok v; omega) (ws σ) hw0).1
  have rest : ∀ h : HI, SW σ hi h → Wp M_MO_laySeats 3 (fun r hi' hl' => r = some (.int (zI (bt σ).1)) ∧ hl = hl' ∧ (∀ c, c ≠ 49 → c ≠ 50 → c ≠ 53 → c ≠ 54 → c ≠ 55 → hi' c = hi c) ∧ ∀ m, m < nM σ → hi' 54 m = zI (sd σ (bt σ).2 m)) 76 [some (.ref 41), some (.int (zI (ws σ))), none, none, none, none, none, none] [] h hl := by
    intro h w
    refine wp_iconst (v := zI 0) d_MO_laySeats_76 rfl ?_
    refine wp_istore_n (lv' := [_, _, _, _, _, _, _, _]) d_MO_laySeats_77 (by decide) rfl ?_
    refine wp_iconst (v := zI 0) d_MO_laySeats_78 rfl ?_
    refine wp_istore_n (lv' := [_, _, _, _, _, _, _, _]) d_MO_laySeats_79 (by decide) rfl ?_
    refine wp_iconst (v := zI 0) d_MO_laySeats_80 rfl ?_
    refine wp_istore (lv' := [_, _, _, _, _, _, _, _]) d_MO_laySeats_81 (by decide) rfl ?_
    refine ls_way ok hA h6 (fun h2 w2 => ?_) (ws σ) 0 (by omega) h w
    refine wp_aload_n d_MO_laySeats_252 rfl ?_
    refine wz_getI ((w2.n hA)) d_MO_laySeats_253 f_MO_123 (by decide) rfl rfl ?_
    refine wp_iconst (v := zI 1) d_MO_laySeats_256 rfl ?_
    refine wz_isub d_MO_laySeats_257 ?_
    refine wp_istore (lv' := [_, _, _, _, _, _, _, _]) d_MO_laySeats_258 (by decide) rfl ?_
    have oo := ls_out (P := fun r hi' hl' => r = some (.int (zI (bt σ).1)) ∧ hl = hl' ∧ (∀ c, c ≠ 49 → c ≠ 50 → c ≠ 53 → c ≠ 54 → c ≠ 55 → hi' c = hi c) ∧ ∀ m, m < nM σ → hi' 54 m = zI (sd σ (bt σ).2 m)) (hl := hl) (x1 := zI (ws σ)) (x2 := zI (bt σ).1) (v := (bt σ).2) ok hA h6 (by omega) (fun h3 w3 f3 => ⟨rfl, rfl, w3.1, f3⟩) (nM σ) (Nat.le_refl _) h2 w2 (fun m h1 h2 => absurd h1 (by omega))
    rw [Nat.sub_self, Nat.pow_zero, Nat.div_one] at oo
    exact oo
  have ways : ∀ k i : Nat, i + k = nM σ → ∀ h : HI, SW σ hi h → Wp M_MO_laySeats 3 (fun r hi' hl' => r = some (.int (zI (bt σ).1)) ∧ hl = hl' ∧ (∀ c, c ≠ 49 → c ≠ 50 → c ≠ 53 → c ≠ 54 → c ≠ 55 → hi' c = hi c) ∧ ∀ m, m < nM σ → hi' 54 m = zI (sd σ (bt σ).2 m)) 55 [some (.ref 41), some (.int (zI ((nP σ ^ i : Nat) : Int))), some (.int (zI i)), none, none, none, none, none] [] h hl := by
    intro k
    induction k with
    | zero =>
      intro i hik h w
      refine wp_iload_n d_MO_laySeats_55 rfl ?_
      refine wp_aload_n d_MO_laySeats_56 rfl ?_
      refine wz_getI ((w.n hA)) d_MO_laySeats_57 f_MO_123 (by decide) rfl rfl ?_
      refine wz_icmp_ge (tgt := 76) d_MO_laySeats_60 (by decide) (by omega) (by omega) (fun h60 => ?_) (fun h60 => ?_)
      · refine wp_drop (lv' := [some _, some _, none, none, none, none, none, none]) ⟨rfl, rfl, trivial⟩ ?_
        rw [show i = nM σ by omega]
        exact rest h w
      · exact absurd h60 (by omega)
    | succ k ih =>
      intro i hik h w
      have ih' := ih (i + 1) (by omega) h w
      rw [Nat.pow_succ, Int.natCast_mul] at ih'
      refine wp_iload_n d_MO_laySeats_55 rfl ?_
      refine wp_aload_n d_MO_laySeats_56 rfl ?_
      refine wz_getI ((w.n hA)) d_MO_laySeats_57 f_MO_123 (by decide) rfl rfl ?_
      refine wz_icmp_ge (tgt := 76) d_MO_laySeats_60 (by decide) (by omega) (by omega) (fun h60 => ?_) (fun h60 => ?_)
      · exact absurd h60 (by omega)
      · refine wp_iload_n d_MO_laySeats_63 rfl ?_
        refine wp_aload_n d_MO_laySeats_64 rfl ?_
        refine wz_getI ((w.np hA)) d_MO_laySeats_65 f_MO_69 (by decide) rfl rfl ?_
        refine wz_imul d_MO_laySeats_68 ?_
        refine wp_istore_n (lv' := [_, _, _, _, _, _, _, _]) d_MO_laySeats_69 (by decide) rfl ?_
        refine wz_iinc (lv' := [_, _, _, _, _, _, _, _]) d_MO_laySeats_70 rfl (by decide) rfl ?_
        refine wp_goto (tgt := 55) d_MO_laySeats_73 (by decide) ?_
        exact ih'
  have inner : ∀ p : Nat, p < nP σ → (∀ h : HI, (∀ c, c ≠ 49 → c ≠ 50 → c ≠ 53 → h c = hi c) → (∀ q x, q < p + 1 → x < 2 ^ nM σ → h 53 (64 * q + x) = zI (sag σ q x (lt σ))) → Wp M_MO_laySeats 3 (fun r hi' hl' => r = some (.int (zI (bt σ).1)) ∧ hl = hl' ∧ (∀ c, c ≠ 49 → c ≠ 50 → c ≠ 53 → c ≠ 54 → c ≠ 55 → hi' c = hi c) ∧ ∀ m, m < nM σ → hi' 54 m = zI (sd σ (bt σ).2 m)) 45 [some (.ref 41), some (.int (zI p)), none, none, none, none, none, none] [] h hl) →
      ∀ k i : Nat, i + k = 2 ^ nM σ → ∀ h : HI, (∀ c, c ≠ 49 → c ≠ 50 → c ≠ 53 → h c = hi c) → (∀ q x, q < p → x < 2 ^ nM σ → h 53 (64 * q + x) = zI (sag σ q x (lt σ))) → (∀ x, x < i → h 53 (64 * p + x) = zI (sag σ p x (lt σ))) → Wp M_MO_laySeats 3 (fun r hi' hl' => r = some (.int (zI (bt σ).1)) ∧ hl = hl' ∧ (∀ c, c ≠ 49 → c ≠ 50 → c ≠ 53 → c ≠ 54 → c ≠ 55 → hi' c = hi c) ∧ ∀ m, m < nM σ → hi' 54 m = zI (sd σ (bt σ).2 m)) 12 [some (.ref 41), some (.int (zI p)), some (.int (zI i)), none, none, none, none, none] [] h hl := by
    intro p hp K k
    have eshl : zI 1 <<< (zI ((nM σ : Nat) : Int) &&& 31) = zI ((2 ^ nM σ : Nat) : Int) := by rw [show (1 : Int) = ((1 : Nat) : Int) from rfl, zI_shl (by omega) (by omega), Nat.one_mul]
    induction k with
    | zero =>
      intro i hik h e0 e1 e2
      refine wp_iload_n d_MO_laySeats_12 rfl ?_
      refine wp_iconst (v := zI 1) d_MO_laySeats_13 rfl ?_
      refine wp_aload_n d_MO_laySeats_14 rfl ?_
      refine wz_getI ((by rw [e0 41 (by omega) (by omega) (by omega)]; exact hA.n)) d_MO_laySeats_15 f_MO_123 (by decide) rfl rfl ?_
      refine wp_ishl d_MO_laySeats_18 ?_
      refine wz_top eshl ?_
      refine wz_icmp_ge (tgt := 45) d_MO_laySeats_19 (by decide) (by omega) (by omega) (fun h19 => ?_) (fun h19 => ?_)
      · refine wp_drop (lv' := [some _, some _, none, none, none, none, none, none]) ⟨rfl, rfl, trivial⟩ ?_
        refine K h e0 (fun q x hq hx => ?_)
        by_cases z : q = p
        · rw [z]; exact e2 x (by omega)
        · exact e1 q x (by omega) hx
      · exact absurd h19 (by omega)
    | succ k ih =>
      intro i hik h e0 e1 e2
      have hA' : AM σ h := hA.keep (fun f _ _ => by rw [e0 41 (by omega) (by omega) (by omega)]) (fun c hc => e0 c (by omega) (by omega) (by omega))
      refine wp_iload_n d_MO_laySeats_12 rfl ?_
      refine wp_iconst (v := zI 1) d_MO_laySeats_13 rfl ?_
      refine wp_aload_n d_MO_laySeats_14 rfl ?_
      refine wz_getI (hA'.n) d_MO_laySeats_15 f_MO_123 (by decide) rfl rfl ?_
      refine wp_ishl d_MO_laySeats_18 ?_
      refine wz_top eshl ?_
      refine wz_icmp_ge (tgt := 45) d_MO_laySeats_19 (by decide) (by omega) (by omega) (fun h19 => ?_) (fun h19 => ?_)
      · exact absurd h19 (by omega)
      · refine wp_aload_n d_MO_laySeats_22 rfl ?_
        refine wp_getR d_MO_laySeats_23 f_MO_43 (by decide) rfl rfl ?_
        refine wp_bipush (v := zI 64) d_MO_laySeats_26 rfl ?_
        refine wp_iload_n d_MO_laySeats_28 rfl ?_
        refine wz_imul d_MO_laySeats_29 ?_
        refine wp_iload_n d_MO_laySeats_30 rfl ?_
        refine wz_iadd d_MO_laySeats_31 ?_
        refine wp_aload_n d_MO_laySeats_32 rfl ?_
        refine wp_iload_n d_MO_laySeats_33 rfl ?_
        refine wp_iload_n d_MO_laySeats_34 rfl ?_
        refine wp_callV (ct_MO_blow (p := p) (set := i) ok hA' hp (by omega)) d_MO_laySeats_35 k_MO_163 (by decide) rfl rfl rfl rfl (Nat.le_of_ble_eq_true rfl) (by omega) ?_
        rintro _ h2 _ ⟨rfl, rfl, f2, -, -⟩
        refine wz_iast (j := 64 * p + i) (by omega) (by omega) d_MO_laySeats_38 (by decide) rfl (by decide) ?_
        refine wz_iinc (lv' := [_, _, _, _, _, _, _, _]) d_MO_laySeats_39 rfl (by decide) rfl ?_
        refine wp_goto (tgt := 12) d_MO_laySeats_42 (by decide) ?_
        refine ih (i + 1) (by omega) _ (fun c q1 q2 q3 => by rw [setI_ne _ _ _ q3, f2 c q1 q2, e0 c q1 q2 q3]) (fun q x hq hx => rdS (by omega) (by rw [f2 53 (by omega) (by omega)]; exact e1 q x hq hx)) (fun x hx => ?_)
        by_cases z : x = i
        · subst z; exact rdA rfl
        · exact rdS (by omega) (by rw [f2 53 (by omega) (by omega)]; exact e2 x (by omega))
  have pipes : ∀ k i : Nat, i + k = nP σ → ∀ h : HI, (∀ c, c ≠ 49 → c ≠ 50 → c ≠ 53 → h c = hi c) → (∀ q x, q < i → x < 2 ^ nM σ → h 53 (64 * q + x) = zI (sag σ q x (lt σ))) → Wp M_MO_laySeats 3 (fun r hi' hl' => r = some (.int (zI (bt σ).1)) ∧ hl = hl' ∧ (∀ c, c ≠ 49 → c ≠ 50 → c ≠ 53 → c ≠ 54 → c ≠ 55 → hi' c = hi c) ∧ ∀ m, m < nM σ → hi' 54 m = zI (sd σ (bt σ).2 m)) 2 [some (.ref 41), some (.int (zI i)), none, none, none, none, none, none] [] h hl := by
    intro k
    induction k with
    | zero =>
      intro i hik h e0 e1
      refine wp_iload_n d_MO_laySeats_2 rfl ?_
      refine wp_aload_n d_MO_laySeats_3 rfl ?_
      refine wz_getI ((by rw [e0 41 (by omega) (by omega) (by omega)]; exact hA.np)) d_MO_laySeats_4 f_MO_69 (by decide) rfl rfl ?_
      refine wz_icmp_ge (tgt := 51) d_MO_laySeats_7 (by decide) (by omega) (by omega) (fun h7 => ?_) (fun h7 => ?_)
      · refine wp_iconst (v := zI 1) d_MO_laySeats_51 rfl ?_
        refine wp_istore_n (lv' := [_, _, _, _, _, _, _, _]) d_MO_laySeats_52 (by decide) rfl ?_
        refine wp_iconst (v := zI 0) d_MO_laySeats_53 rfl ?_
        refine wp_istore_n (lv' := [_, _, _, _, _, _, _, _]) d_MO_laySeats_54 (by decide) rfl ?_
        exact ways (nM σ) 0 (by omega) h ⟨fun c q1 q2 q3 _ _ => e0 c q1 q2 q3, fun p x hp hx => e1 p x (by omega) hx⟩
      · exact absurd h7 (by omega)
    | succ k ih =>
      intro i hik h e0 e1
      refine wp_iload_n d_MO_laySeats_2 rfl ?_
      refine wp_aload_n d_MO_laySeats_3 rfl ?_
      refine wz_getI ((by rw [e0 41 (by omega) (by omega) (by omega)]; exact hA.np)) d_MO_laySeats_4 f_MO_69 (by decide) rfl rfl ?_
      refine wz_icmp_ge (tgt := 51) d_MO_laySeats_7 (by decide) (by omega) (by omega) (fun h7 => ?_) (fun h7 => ?_)
      · exact absurd h7 (by omega)
      · refine wp_iconst (v := zI 0) d_MO_laySeats_10 rfl ?_
        refine wp_istore_n (lv' := [_, _, _, _, _, _, _, _]) d_MO_laySeats_11 (by decide) rfl ?_
        refine inner i (by omega) (fun h2 f0 f1 => ?_) (2 ^ nM σ) 0 (by omega) h e0 e1 (fun x hx => absurd hx (by omega))
        refine wz_iinc (lv' := [_, _, _, _, _, _, _, _]) d_MO_laySeats_45 rfl (by decide) rfl ?_
        refine wp_goto (tgt := 2) d_MO_laySeats_48 (by decide) ?_
        exact ih (i + 1) (by omega) h2 f0 f1
  refine ct_intro (lv := [_, _, _, _, _, _, _, _]) (by decide +kernel) (Nat.le_of_ble_eq_true rfl) rfl ?_
  refine wp_iconst (v := zI 0) d_MO_laySeats_0 rfl ?_
  refine wp_istore_n (lv' := [_, _, _, _, _, _, _, _]) d_MO_laySeats_1 (by decide) rfl ?_
  exact pipes (nP σ) 0 (by omega) hi (fun _ _ _ _ => rfl) (fun q x hq _ => absurd hq (by omega))
theorem cm_seats (ok : Ok σ) (hA : AM σ hi) : Ct M_MO_seats 9 [.ref 41] hi hl (pM σ (zI (r_seats σ)) hi) := by
  have hn := ok.nums
  refine ct_intro (lv := [_]) (by decide +kernel) (Nat.le_of_ble_eq_true rfl) rfl ?_
  refine wp_aload_n d_MO_seats_0 rfl ?_
  refine wz_getI (hA.n) d_MO_seats_1 f_MO_123 (by decide) rfl rfl ?_
  refine wp_bipush (v := zI 6) d_MO_seats_4 rfl ?_
  refine wz_icmp_le (tgt := 14) d_MO_seats_6 (by decide) (by omega) (by omega) (fun h6 => ?_) (fun h6 => ?_)
  · refine wp_aload_n d_MO_seats_14 rfl ?_
    refine wp_callV (ct_MO_laySeats ok hA (by omega)) d_MO_seats_15 k_MO_178 (by decide) rfl rfl rfl rfl (Nat.le_of_ble_eq_true rfl) (by omega) ?_
    rintro _ h2 _ ⟨rfl, rfl, e2, -⟩
    exact wp_iret d_MO_seats_18 (Or.inl rfl) (⟨by rw [r_seats, if_pos (by omega)], hA.keep (fun f _ _ => by rw [e2 41 (by omega) (by omega) (by omega) (by omega) (by omega)]) (fun c hc => e2 c (by omega) (by omega) (by omega) (by omega) (by omega)), fun c hc => e2 c (by omega) (by omega) (by omega) (by omega) (by omega)⟩)
  · refine wp_bipush (v := zI (-3)) d_MO_seats_9 rfl ?_
    refine wp_goto (tgt := 18) d_MO_seats_11 (by decide) ?_
    exact wp_iret d_MO_seats_18 (Or.inl rfl) (pM_of hA (by rw [r_seats, if_neg (by omega)]))
theorem cm_seatAt (ok : Ok σ) (hA : AM σ hi) (ha : inR a) : Ct M_MO_seatAt 9 [.ref 41, .int (zI a)] hi hl (pM σ (zI (r_seatAt σ a)) hi) := by
  have hn := ok.nums
  refine ct_intro (lv := [_, _]) (by decide +kernel) (Nat.le_of_ble_eq_true rfl) rfl ?_
  refine wp_aload_n d_MO_seatAt_0 rfl ?_
  refine wp_iload_n d_MO_seatAt_1 rfl ?_
  refine wp_callV (ct_MO_isPerson ok hA ha) d_MO_seatAt_2 k_MO_142 (by decide) rfl rfl rfl rfl (Nat.le_of_ble_eq_true rfl) (by omega) ?_
  rintro _ _ _ ⟨rfl, rfl, rfl⟩
  refine wz_if_neB (tgt := 10) d_MO_seatAt_5 (by decide) (fun h5 => ?_) (fun h5 => ?_)
  · obtain ⟨m, rfl, hm⟩ := toN h5
    refine wp_aload_n d_MO_seatAt_10 rfl ?_
    refine wz_getI (hA.n) d_MO_seatAt_11 f_MO_123 (by decide) rfl rfl ?_
    refine wp_bipush (v := zI 6) d_MO_seatAt_14 rfl ?_
    refine wz_icmp_le (tgt := 22) d_MO_seatAt_16 (by decide) (by omega) (by omega) (fun h16 => ?_) (fun h16 => ?_)
    · refine wp_aload_n d_MO_seatAt_22 rfl ?_
      refine wp_callV (ct_MO_laySeats ok hA (by omega)) d_MO_seatAt_23 k_MO_178 (by decide) rfl rfl rfl rfl (Nat.le_of_ble_eq_true rfl) (by omega) ?_
      rintro _ h2 _ ⟨rfl, rfl, e2, f2⟩
      refine wp_pop d_MO_seatAt_26 rfl ?_
      refine wp_aload_n d_MO_seatAt_27 rfl ?_
      refine wp_getR d_MO_seatAt_28 f_MO_46 (by decide) rfl rfl ?_
      refine wp_iload_n d_MO_seatAt_31 rfl ?_
      refine wz_iald ((f2 m hm)) (rfl) ((by omega)) d_MO_seatAt_32 (by decide) rfl (by decide) ?_
      exact wp_iret d_MO_seatAt_33 (Or.inl rfl) (⟨by rw [r_seatAt, if_pos h5, if_pos (by omega), nC], hA.keep (fun f _ _ => by rw [e2 41 (by omega) (by omega) (by omega) (by omega) (by omega)]) (fun c hc => e2 c (by omega) (by omega) (by omega) (by omega) (by omega)), fun c hc => e2 c (by omega) (by omega) (by omega) (by omega) (by omega)⟩)
    · refine wp_bipush (v := zI (-3)) d_MO_seatAt_19 rfl ?_
      exact wp_iret d_MO_seatAt_21 (Or.inl rfl) (pM_of hA (by rw [r_seatAt, if_pos h5, if_neg (by omega)]))
  · refine wp_iconst (v := zI (-1)) d_MO_seatAt_8 rfl ?_
    exact wp_iret d_MO_seatAt_9 (Or.inl rfl) (pM_of hA (by rw [r_seatAt, if_neg h5]))
end SER
