/-! THE LAW: the judgement again, with its script -/
def scr (L : Nat) (xs : Nat → Int32) (Ω : Om) (s : State) : Prop := va_X (Ω.1 101) L xs s s.heap ∧ Ω.1 101 < s.heap.size ∧ ¬ inA Ω (Ω.1 101)
def PostL : Option Value → HI → HL → Prop := fun v _ _ => v = some (.int 1)
def Wl (L : Nat) (xs : Nat → Int32) (pc : Nat) (lv : LV) (st : List Value) (hi : HI) (hl : HL) : Prop :=
  ∀ (Ω : Om) (p : Program) (l : Launch) (e : Env) (R : Room) (s : State) (m : MethodId) (args : Array Value) (below : List Frame) (meth : Method) (c : Code) (cells slots : Nat) (Q : State → Prop),
    scr L xs Ω s → bCx M_LW_law 20 PostL Ω p l e R s m args below meth c cells slots Q → ∀ (H : Heap) (locs : List Loc) (ls : Array Slot), va_P Ω.2.1 classes (wcells Ω hi hl) H → va_S (inA Ω) s.heap H locs → hasL Ω ls M_LW_law.2.2.1 lv →
      W p l e R s m args below meth c H locs cells slots Q (F0 m pc ls (trs Ω st))
section WL
variable {L : Nat} {xs : Nat → Int32} {pc : Nat} {lv : LV} {st : List Value} {hi : HI} {hl : HL}
theorem wl_go {pc' : Nat} {st' : List Value} (h : ∀ (Ω : Om) (p : Program) (l : Launch) (e : Env) (R : Room) (s : State) (m : MethodId) (args : Array Value) (below : List Frame) (meth : Method) (c : Code) (cells slots : Nat) (Q : State → Prop) (H : Heap) (locs : List Loc) (ls : Array Slot), p.tables.exec = Jvm.exec → c.code = M_LW_law.2.1 → s.vm.findClass M_LW_law.1.cls = some m.cls → (∀ w ∈ gtbl, w.before args s = true) → hasL Ω ls M_LW_law.2.2.1 lv → W p l e R s m args below meth c H locs cells slots Q (F0 m pc' ls (trs Ω st')) → W p l e R s m args below meth c H locs cells slots Q (F0 m pc ls (trs Ω st)))
    (k : Wl L xs pc' lv st' hi hl) : Wl L xs pc lv st hi hl := fun Ω p l e R s m args below meth c cells slots Q X C H locs ls hP hS hL =>
  h Ω p l e R s m args below meth c cells slots Q H locs ls C.1 C.2.1 C.2.2.2.1 C.2.2.2.2.1 hL (k Ω p l e R s m args below meth c cells slots Q X C H locs ls hP hS hL)
theorem wl_iconst {n : Int} {v : Int32} (hd : decode M_LW_law.2.1 pc = .ok (.iconst n, 1)) (hv : Int32.ofInt n = v) (k : Wl L xs (pc + 1) lv (.int v :: st) hi hl) : Wl L xs pc lv st hi hl := wl_go (fun _ _ _ _ _ _ _ _ _ _ _ _ _ _ _ _ _ hx hb _ _ _ k => lv_iconst hx hb hd hv k) k
theorem wl_bipush {n : Int} {v : Int32} (hd : decode M_LW_law.2.1 pc = .ok (.bipush n, 2)) (hv : (Int8.ofInt n).toInt32 = v) (k : Wl L xs (pc + 2) lv (.int v :: st) hi hl) : Wl L xs pc lv st hi hl := wl_go (fun _ _ _ _ _ _ _ _ _ _ _ _ _ _ _ _ _ hx hb _ _ _ k => lv_bipush hx hb hd hv k) k
theorem wl_ldc2 {index : Nat} {v : Int64} (hd : decode M_LW_law.2.1 pc = .ok (.ldc2_w index, 3)) (hw : Cond.constantLong M_LW_law.1.cls index v ∈ gtbl) (k : Wl L xs (pc + 3) lv (.long v :: st) hi hl) : Wl L xs pc lv st hi hl := wl_go (fun _ _ _ _ _ _ _ _ _ _ _ _ _ _ _ _ _ hx hb ho ht _ k => lv_ldc2 hx hb ho (ht _ hw) hd k) k
theorem wl_iload_n {n : Fin 4} {x : Int32} (hd : decode M_LW_law.2.1 pc = .ok (.iload_n n, 1)) (hg : lvg lv n = some (.int x)) (k : Wl L xs (pc + 1) lv (.int x :: st) hi hl) : Wl L xs pc lv st hi hl := wl_go (fun _ _ _ _ _ _ _ _ _ _ _ _ _ _ _ _ _ hx hb _ _ hL k => lv_iload_n hx hb hd rfl (hL.2.2 _ _ (lvg_at hg)) k) k
theorem wl_aload_n {n : Fin 4} {x : Nat} (hd : decode M_LW_law.2.1 pc = .ok (.aload_n n, 1)) (hg : lvg lv n = some (.ref x)) (k : Wl L xs (pc + 1) lv (.ref x :: st) hi hl) : Wl L xs pc lv st hi hl := wl_go (fun _ _ _ _ _ _ _ _ _ _ _ _ _ _ _ _ _ hx hb _ _ hL k => lv_aload_n hx hb hd rfl (hL.2.2 _ _ (lvg_at hg)) k) k
theorem wl_iadd {x y : Int32} (hd : decode M_LW_law.2.1 pc = .ok (.iadd, 1)) (k : Wl L xs (pc + 1) lv (.int (x + y) :: st) hi hl) : Wl L xs pc lv (.int y :: .int x :: st) hi hl := wl_go (fun _ _ _ _ _ _ _ _ _ _ _ _ _ _ _ _ _ hx hb _ _ _ k => lv_iadd hx hb hd k) k
theorem wl_isub {x y : Int32} (hd : decode M_LW_law.2.1 pc = .ok (.isub, 1)) (k : Wl L xs (pc + 1) lv (.int (x - y) :: st) hi hl) : Wl L xs pc lv (.int y :: .int x :: st) hi hl := wl_go (fun _ _ _ _ _ _ _ _ _ _ _ _ _ _ _ _ _ hx hb _ _ _ k => lv_isub hx hb hd k) k
theorem wl_iand {x y : Int32} (hd : decode M_LW_law.2.1 pc = .ok (.iand, 1)) (k : Wl L xs (pc + 1) lv (.int (x &&& y) :: st) hi hl) : Wl L xs pc lv (.int y :: .int x :: st) hi hl := wl_go (fun _ _ _ _ _ _ _ _ _ _ _ _ _ _ _ _ _ hx hb _ _ _ k => lv_iand hx hb hd k) k
theorem wl_land {x y : Int64} (hd : decode M_LW_law.2.1 pc = .ok (.land, 1)) (k : Wl L xs (pc + 1) lv (.long (x &&& y) :: st) hi hl) : Wl L xs pc lv (.long y :: .long x :: st) hi hl := wl_go (fun _ _ _ _ _ _ _ _ _ _ _ _ _ _ _ _ _ hx hb _ _ _ k => lv_land hx hb hd k) k
theorem wl_lor {x y : Int64} (hd : decode M_LW_law.2.1 pc = .ok (.lor, 1)) (k : Wl L xs (pc + 1) lv (.long (x ||| y) :: st) hi hl) : Wl L xs pc lv (.long y :: .long x :: st) hi hl := wl_go (fun _ _ _ _ _ _ _ _ _ _ _ _ _ _ _ _ _ hx hb _ _ _ k => lv_lor hx hb hd k) k
theorem wl_lshl {x : Int64} {y : Int32} (hd : decode M_LW_law.2.1 pc = .ok (.lshl, 1)) (k : Wl L xs (pc + 1) lv (.long (x <<< (y.toInt64 &&& 63)) :: st) hi hl) : Wl L xs pc lv (.int y :: .long x :: st) hi hl := wl_go (fun _ _ _ _ _ _ _ _ _ _ _ _ _ _ _ _ _ hx hb _ _ _ k => lv_lshl hx hb hd rfl k) k
theorem wl_i2l {x : Int32} (hd : decode M_LW_law.2.1 pc = .ok (.i2l, 1)) (k : Wl L xs (pc + 1) lv (.long x.toInt64 :: st) hi hl) : Wl L xs pc lv (.int x :: st) hi hl := wl_go (fun _ _ _ _ _ _ _ _ _ _ _ _ _ _ _ _ _ hx hb _ _ _ k => lv_i2l hx hb hd rfl k) k
theorem wl_lcmp {x y : Int64} (hd : decode M_LW_law.2.1 pc = .ok (.lcmp, 1)) (k : Wl L xs (pc + 1) lv (.int (lg_cmp x y) :: st) hi hl) : Wl L xs pc lv (.long y :: .long x :: st) hi hl := wl_go (fun _ _ _ _ _ _ _ _ _ _ _ _ _ _ _ _ _ hx hb _ _ _ k => W.lcmp hx hb hd k) k
theorem wl_goto {off : Int} {tgt : Nat} (hd : decode M_LW_law.2.1 pc = .ok (.goto off, 3)) (ht : (pc : Int) + off = (tgt : Int)) (k : Wl L xs tgt lv st hi hl) : Wl L xs pc lv st hi hl := wl_go (fun _ _ _ _ _ _ _ _ _ _ _ _ _ _ _ _ _ hx hb _ _ _ k => lv_goto hx hb hd ht k) k
theorem wl_if_eq {x : Int32} {off : Int} {tgt : Nat} (hd : decode M_LW_law.2.1 pc = .ok (.ifCond .eq off, 3)) (ht : (pc : Int) + off = (tgt : Int)) (kt : x = 0 → Wl L xs tgt lv st hi hl) (kf : ¬ x = 0 → Wl L xs (pc + 3) lv st hi hl) : Wl L xs pc lv (.int x :: st) hi hl := fun Ω p l e R s m args below meth c cells slots Q X C H locs ls hP hS hL => lv_if_eq C.1 C.2.1 hd ht (fun h => kt h Ω p l e R s m args below meth c cells slots Q X C H locs ls hP hS hL) (fun h => kf h Ω p l e R s m args below meth c cells slots Q X C H locs ls hP hS hL)
theorem wl_icmp_eq {x y : Int32} {off : Int} {tgt : Nat} (hd : decode M_LW_law.2.1 pc = .ok (.if_icmp .eq off, 3)) (ht : (pc : Int) + off = (tgt : Int)) (kt : x = y → Wl L xs tgt lv st hi hl) (kf : ¬ x = y → Wl L xs (pc + 3) lv st hi hl) : Wl L xs pc lv (.int y :: .int x :: st) hi hl := fun Ω p l e R s m args below meth c cells slots Q X C H locs ls hP hS hL => lv_icmp_eq C.1 C.2.1 hd ht (fun h => kt h Ω p l e R s m args below meth c cells slots Q X C H locs ls hP hS hL) (fun h => kf h Ω p l e R s m args below meth c cells slots Q X C H locs ls hP hS hL)
theorem wl_icmp_gt {x y : Int32} {off : Int} {tgt : Nat} (hd : decode M_LW_law.2.1 pc = .ok (.if_icmp .gt off, 3)) (ht : (pc : Int) + off = (tgt : Int)) (kt : y < x → Wl L xs tgt lv st hi hl) (kf : ¬ y < x → Wl L xs (pc + 3) lv st hi hl) : Wl L xs pc lv (.int y :: .int x :: st) hi hl := fun Ω p l e R s m args below meth c cells slots Q X C H locs ls hP hS hL => lv_icmp_gt C.1 C.2.1 hd ht (fun h => kt h Ω p l e R s m args below meth c cells slots Q X C H locs ls hP hS hL) (fun h => kf h Ω p l e R s m args below meth c cells slots Q X C H locs ls hP hS hL)
theorem wl_switchOut {dflt lo hj : Int} {offs : Array Int} {len : Nat} {x : Int32} {tgt : Nat} (hd : decode M_LW_law.2.1 pc = .ok (.tableswitch dflt lo hj offs, len)) (h : x.toInt < lo ∨ hj < x.toInt) (ht : (pc : Int) + dflt = (tgt : Int)) (k : Wl L xs tgt lv st hi hl) : Wl L xs pc lv (.int x :: st) hi hl := wl_go (fun _ _ _ _ _ _ _ _ _ _ _ _ _ _ _ _ _ hx hb _ _ _ k => lv_tableOut hx hb hd h ht k) k
theorem wl_switchIn {dflt lo hj : Int} {offs : Array Int} {len : Nat} {x : Int32} {off : Int} {tgt : Nat} (hd : decode M_LW_law.2.1 pc = .ok (.tableswitch dflt lo hj offs, len)) (h1 : ¬ x.toInt < lo) (h2 : ¬ hj < x.toInt) (ho : offs[(x.toInt - lo).toNat]? = some off) (ht : (pc : Int) + off = (tgt : Int)) (k : Wl L xs tgt lv st hi hl) : Wl L xs pc lv (.int x :: st) hi hl := wl_go (fun _ _ _ _ _ _ _ _ _ _ _ _ _ _ _ _ _ hx hb _ _ _ k => lv_tableIn hx hb hd h1 h2 ho ht k) k
theorem wl_iinc {n : Nat} {b : Int} {x v : Int32} {lv' : LV} (hd : decode M_LW_law.2.1 pc = .ok (.iinc n b, 3)) (hg : lvg lv n = some (.int x)) (hv : x + Int32.ofInt b = v) (hn : n < M_LW_law.2.2.1) (hlv : lset lv n (.int v) = lv') (k : Wl L xs (pc + 3) lv' st hi hl) : Wl L xs pc lv st hi hl := by
  intro Ω p l e R s m args below meth c cells slots Q X C H locs ls hP hS hL
  have hm : (n, Value.int x) ∈ asc Ω 0 lv := (asc_mem Ω lv 0 _).mpr ⟨n, .int x, lvg_at hg, by rw [Nat.zero_add]; rfl⟩
  obtain ⟨k0, hk0⟩ := List.getElem?_of_mem hm
  exact lv_iinc C.1 C.2.1 hd (hasL_asc.mp hL) hk0 hv hn rfl (fun ls' hl' => k Ω p l e R s m args below meth c cells slots Q X C H locs ls' hP hS (hlv ▸ hasL_store hl'))
theorem wl_iret {v : Int32} (hd : decode M_LW_law.2.1 pc = .ok (.ireturn, 1)) (ho : bOkI M_LW_law.2.2.2 v) (hp : PostL (some (.int v)) hi hl) : Wl L xs pc lv [.int v] hi hl := fun Ω p l e R s m args below meth c cells slots Q X C H locs ls hP hS hL => (C.2.2.2.2.2.2.2 pc ls hi hl H locs hP hS).1 v hd ho hp
theorem wl_callV {My : MD} {d' : Nat} {Post' : Option Value → HI → HL → Prop} {pc idx n q ci : Nat} {lv : LV} {as st stk : List Value} {hi : HI} {hl : HL} {fs : List (Option (Option Nat))} {T : u_T} {N : Nat}
    (hct : Ct My d' (.ref q :: as) hi hl Post') (hd : decode M_LW_law.2.1 pc = .ok (.invokevirtual idx, 3)) (hc : CallV M_LW_law.1.cls idx My n) (hq : q < 61) (hs : shp q = .inr (ci, fs)) (hcl : classes[ci]? = some (My.1.cls, T, N)) (hst : stk = as.reverse ++ (.ref q :: st)) (hn : as.length = n) (hcat : (st.map fun v => v.category).sum ≤ 8) (hdd : d' < 20)
    (k : ∀ v hi' hl', Post' v hi' hl' → Wl L xs (pc + 3) lv (v.toList ++ st) hi' hl') : Wl L xs pc lv stk hi hl := by
  intro Ω p l e R s m args below meth c cells slots Q X C H locs ls hP hS hL
  have C0 := C
  obtain ⟨hx, hb, hml, hown, hts, ⟨r1, r2, r3, r4⟩, hK, -⟩ := C
  obtain ⟨k1, k2, k3, k4, k5, k6, k7⟩ := hc
  have he : (wcells Ω hi hl)[q]? = some (Ω.1 q, .inr (ci, fvals Ω.1 (hi q) (hl q) 0 fs)) := by rw [wcells_at Ω hi hl hq, hs]; rfl
  have hG : GoodIn gtbl (wsV M_LW_law.1.cls idx My.1.cls My.1 (wsM My)) := tbl_in (by
    intro w hw
    simp only [wsV, wsM, List.mem_append, List.mem_cons, List.not_mem_nil, or_false] at hw
    rcases hw with (rfl | rfl | rfl | rfl) | rfl | hw
    · exact k1
    · exact k2
    · exact k3
    · exact k4
    · exact k5
    · exact hw)
  have hrun := va_runV (e := e) (below := below) (meth := meth) (g := F0 m pc ls (trs Ω stk)) (As := trs Ω as) (rest := trs Ω st) (cc := M_LW_law.2.1) (b := Ω.1 q) ⟨hx, hb, hml, hown, hts⟩ (hct l Ω) (cwV n hts hG rfl rfl rfl ⟨rfl, k6⟩ ⟨by show d' + 1 ≤ R.frames; omega, by show 8 + (My.2.2.1 + 11) + 64 * d' ≤ R.locals; omega⟩)
    (locs := locs) (cells := cells) (slots := slots) (H := H) ⟨blindM Ω _ hi hl, va_recv hK.1 hP hcl he, fun U hU hW => ⟨rfl, by rw [hU]; exact hP, bK_at hK hS hU hW⟩⟩ rfl (by rw [List.length_map]; exact hn) hL.1 (by rw [hst]; show List.map (trv Ω) (as.reverse ++ (.ref q :: st)) = _; simp [trs]; rfl) (lv_room (by rw [cat_sum]; exact hcat)) hd ⟨r3, r4⟩
  refine va_callM hrun hS (fun v hi' hl' H1 locs1 hp hP1 hS1 => ?_)
  rw [ret_trs]
  exact k v hi' hl' hp Ω p l e R s m args below meth c cells slots Q X C0 H1 locs1 ls hP1 hS1 hL
theorem wlz_iadd {a b : Int} (hd : decode M_LW_law.2.1 pc = .ok (.iadd, 1)) (k : Wl L xs (pc + 1) lv (.int (zI (a + b)) :: st) hi hl) : Wl L xs pc lv (.int (zI b) :: .int (zI a) :: st) hi hl := wl_iadd hd (by rw [zI_add]; exact k)
theorem wlz_isub {a b : Int} (hd : decode M_LW_law.2.1 pc = .ok (.isub, 1)) (k : Wl L xs (pc + 1) lv (.int (zI (a - b)) :: st) hi hl) : Wl L xs pc lv (.int (zI b) :: .int (zI a) :: st) hi hl := wl_isub hd (by rw [zI_sub]; exact k)
theorem wlz_iinc {n : Nat} {b a : Int} {lv' : LV} (hd : decode M_LW_law.2.1 pc = .ok (.iinc n b, 3)) (hg : lvg lv n = some (.int (zI a))) (hn : n < M_LW_law.2.2.1) (hlv : lset lv n (.int (zI (a + b))) = lv') (k : Wl L xs (pc + 3) lv' st hi hl) : Wl L xs pc lv st hi hl := wl_iinc hd hg (zI_add a b) hn hlv k
theorem wlz_icmp_gt {a b off : Int} {tgt : Nat} (hd : decode M_LW_law.2.1 pc = .ok (.if_icmp .gt off, 3)) (ht : (pc : Int) + off = (tgt : Int)) (ha : inR a) (hb : inR b) (kt : b < a → Wl L xs tgt lv st hi hl) (kf : a ≤ b → Wl L xs (pc + 3) lv st hi hl) : Wl L xs pc lv (.int (zI b) :: .int (zI a) :: st) hi hl := wl_icmp_gt hd ht (fun h => kt ((zI_lt hb ha).mp h)) (fun h => kf (Int.not_lt.mp (fun q => h ((zI_lt hb ha).mpr q))))
theorem wlz_if_eq {a off : Int} {tgt : Nat} (hd : decode M_LW_law.2.1 pc = .ok (.ifCond .eq off, 3)) (ht : (pc : Int) + off = (tgt : Int)) (ha : inR a) (kt : a = 0 → Wl L xs tgt lv st hi hl) (kf : ¬ a = 0 → Wl L xs (pc + 3) lv st hi hl) : Wl L xs pc lv (.int (zI a) :: st) hi hl := by
  have hb : inR 0 := by omega
  exact wl_if_eq hd ht (fun h => kt ((zI_eq ha hb).mp h)) (fun h => kf (fun q => h ((zI_eq ha hb).mpr q)))
theorem wl_top {x y : Int32} (h : x = y) (k : Wl L xs pc lv (.int y :: st) hi hl) : Wl L xs pc lv (.int x :: st) hi hl := h ▸ k
/-- a number of the script -/
def sc (xs : Nat → Int32) (j : Nat) : Int := (xs j).toInt
theorem sc_in (xs : Nat → Int32) (j : Nat) : inR (sc xs j) := inR_of (xs j)
theorem wl_sld {a : Int} {j : Nat} (hd : decode M_LW_law.2.1 pc = .ok (.iaload, 1)) (hj : a = (j : Int)) (hjL : j < L) (hL : L < 2 ^ 31) (k : Wl L xs (pc + 1) lv (.int (zI (sc xs j)) :: st) hi hl) : Wl L xs pc lv (.int (zI a) :: .ref 101 :: st) hi hl := by
  subst hj
  intro Ω p l e R s m args below meth c cells slots Q X C H locs ls hP hS hL'
  have e1 : (zI (j : Int)).toNatClampNeg = j := by rw [zI_nat, nI_clamp (by omega)]
  have hin : vp_in (zI (j : Int)) L := by
    unfold vp_in
    rw [e1]
    rintro (h | h)
    · rw [zI_0, zI_lt (by omega) (by omega)] at h
      omega
    · omega
  have kk := k Ω p l e R s m args below meth c cells slots Q X C H locs ls hP hS hL'
  have e2 : zI (sc xs j) = xs ((zI (j : Int)).toNatClampNeg) := by rw [e1]; exact zI_of (xs j)
  rw [e2] at kk
  exact va_sld C.1 C.2.1 X.1 X.2.1 X.2.2 hS hin hd kk
theorem wl_slen (hd : decode M_LW_law.2.1 pc = .ok (.arraylength, 1)) (k : Wl L xs (pc + 1) lv (.int (zI (L : Int)) :: st) hi hl) : Wl L xs pc lv (.ref 101 :: st) hi hl := by
  intro Ω p l e R s m args below meth c cells slots Q X C H locs ls hP hS hL'
  have kk := k Ω p l e R s m args below meth c cells slots Q X C H locs ls hP hS hL'
  rw [zI_nat] at kk
  exact va_slen C.1 C.2.1 X.1 X.2.1 X.2.2 hS hd kk
theorem and63 (x : Int32) : ∃ n : Nat, n < 64 ∧ x &&& zI 63 = zI (n : Int) := by
  refine ⟨(x &&& zI 63).toBitVec.toNat, ?_, ?_⟩
  · rw [Int32.toBitVec_and, BitVec.toNat_and]
    have h1 : (zI 63).toBitVec.toNat = 63 := by decide
    rw [h1]
    have := Nat.and_le_right (n := x.toBitVec.toNat) (m := 63)
    omega
  · apply Int32.toBitVec_inj.mp
    rw [zI_nat]
    show (x &&& zI 63).toBitVec = BitVec.ofNat 32 _
    rw [BitVec.ofNat_toNat, BitVec.setWidth_eq]
theorem cmp_self (x : Int64) : lg_cmp x x = 0 := by
  unfold lg_cmp
  simp
end WL
