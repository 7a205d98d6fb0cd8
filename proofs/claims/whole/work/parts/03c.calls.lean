/-! CONTRACTS over the judgement, and calls by them -/
def rmD (d : Nat) : Room := { frames := d, cells := 0, slots := 0, locals := 64 * d }
def wsM (M : MD) : List Cond := .code M.1 M.2.1 M.2.2.1 M.2.2.2 :: gtbl
def PcM (Ω : Om) (as : List Value) (hi : HI) (hl : HL) : Array Value → State → Prop := fun v U => v = (trs Ω as).toArray ∧ va_P Ω.2.1 classes (wcells Ω hi hl) U.heap ∧ bK Ω U
def QcM (Ω : Om) (Post : Option Value → HI → HL → Prop) : Array Value → State → Outcome → State → Prop := fun _ st o t => (∃ (v : Option Value) (hi' : HI) (hl' : HL), o = .returned (v.map (trv Ω)) ∧ Post v hi' hl' ∧ va_P Ω.2.1 classes (wcells Ω hi' hl') t.heap) ∧ va_F (inA Ω) st t
/-- M, called with these arguments and contents, and with room for d calls one in another, returns with Post -/
def Ct (M : MD) (d : Nat) (as : List Value) (hi : HI) (hl : HL) (Post : Option Value → HI → HL → Prop) : Prop := ∀ (l : Launch) (Ω : Om), Met l M.1 (wsM M) (rmD d) (PcM Ω as hi hl) (QcM Ω Post) 0 0 (inA Ω)
theorem met_ofWF {l : Launch} {y : MethodName} {ws ws' : List Cond} {rm : Room} {Pc : Array Value → State → Prop} {Qc : Array Value → State → Outcome → State → Prop} {mc ms : Nat} {free : Addr → Prop} {cc : ByteArray} {maxL : Nat} {ret : Option FieldType}
    (hy : plainFor y = true) (hw : ws = Cond.code y cc maxL ret :: ws')
    (body : ∀ p e s m args below meth c s₁, BodyLoose p l y (headSpec ws rm) cc maxL ret e s m args below meth c s₁ → c.maxLocals = maxL → Pc args s →
      W p l e (headSpec ws rm).room s m args below meth c s.heap [] 0 0 (MQ below Qc args s mc ms free) (entryFrame m args maxL)) : Met l y ws rm Pc Qc mc ms free := by
  refine MetFree.of_bodySF (code := cc) (maxLocals := maxL) (ret := ret) hy ?_ ?_
  · intro args s m h hn
    obtain ⟨meth, c, h1, h2, h3, h4, h5, h6, -, -⟩ := Cond.code_spec hn (atoms_spec (ws := ws) h _ (by rw [hw]; exact List.mem_cons_self))
    exact ⟨meth, c, h1, h2, h3, h4, h5, h6⟩
  · intro p e s m args below meth c s₁ B hml hP _
    have hh0 : s₁.heap = s.heap := by rw [B.state]; rfl
    obtain ⟨t, a1, o, b1, b2, b3⟩ := body p e s m args below meth c s₁ B hml hP s₁ hh0 (Stand.of_body B)
    exact ⟨t, o, a1, b1, b2, ⟨b3.1, b3.2⟩⟩
def lv0a : List Value → LV
  | [] => []
  | .long x :: vs => some (.long x) :: none :: lv0a vs
  | .double x :: vs => some (.double x) :: none :: lv0a vs
  | v :: vs => some v :: lv0a vs
def lv0 (n : Nat) (as : List Value) : LV := lv0a as ++ List.replicate (n - (lv0a as).length) none
theorem lv0a_cat (v : Value) (vs : List Value) : lv0a (v :: vs) = if v.category = 2 then some v :: none :: lv0a vs else some v :: lv0a vs := by cases v <;> rfl
theorem lv0a_mem (Ω : Om) : ∀ (as : List Value) (b i : Nat) (v : Value), (lv0a as)[i]? = some (some v) → (b + i, trv Ω v) ∈ lv_args b (trs Ω as)
  | [], b, i, v, h => by simp [lv0a] at h
  | w :: as, b, i, v, h => by
    rw [lv0a_cat] at h
    show (b + i, trv Ω v) ∈ (b, trv Ω w) :: lv_args (if (trv Ω w).category = 2 then b + 2 else b + 1) (trs Ω as)
    rw [trv_cat]
    by_cases hc : w.category = 2
    · rw [if_pos hc] at h ⊢
      match i, h with
      | 0, h => simp at h; subst h; exact List.mem_cons_self
      | 1, h => simp at h
      | i + 2, h =>
        have := lv0a_mem Ω as (b + 2) i v (by simpa using h)
        rw [show b + (i + 2) = b + 2 + i by omega]
        exact List.mem_cons_of_mem _ this
    · rw [if_neg hc] at h ⊢
      match i, h with
      | 0, h => simp at h; subst h; exact List.mem_cons_self
      | i + 1, h =>
        have := lv0a_mem Ω as (b + 1) i v (by simpa using h)
        rw [show b + (i + 1) = b + 1 + i by omega]
        exact List.mem_cons_of_mem _ this
theorem lv0_mem (Ω : Om) {n : Nat} {as : List Value} {i : Nat} {v : Value} (h : (lv0 n as)[i]? = some (some v)) : (i, trv Ω v) ∈ lv_args 0 (trs Ω as) := by
  have h1 : (lv0a as)[i]? = some (some v) := by
    unfold lv0 at h
    by_cases hi : i < (lv0a as).length
    · rwa [List.getElem?_append_left hi] at h
    · rw [List.getElem?_append_right (by omega)] at h
      have := List.eq_of_mem_replicate (List.mem_of_getElem? h)
      cases this
  have := lv0a_mem Ω as 0 i v h1
  rwa [Nat.zero_add] at this
theorem nar_b {v : Int32} (h : v = 0 ∨ v = 1) : narrow .boolean (.int v) = .int v := by rcases h with rfl | rfl <;> rfl
theorem slot_len (Ω : Om) (as : List Value) : (lg_sl (trs Ω as)).length = (lg_sl as).length := by
  induction as with
  | nil => rfl
  | cons v vs ih =>
    simp only [lg_sl, trs, List.map_cons, List.flatMap_cons, List.length_append, trv_cat] at ih ⊢
    rw [ih]
    congr 1
    by_cases hc : v.category = 2 <;> simp [hc]
/-- a contract out of the walk of the body -/
theorem ct_intro {M : MD} {d : Nat} {as : List Value} {hi : HI} {hl : HL} {Post : Option Value → HI → HL → Prop} {lv : LV} (hy : plainFor M.1 = true) (hlen : (lg_sl as).length ≤ M.2.2.1) (hlv : lv0 M.2.2.1 as = lv) (h : Wp M d Post 0 lv [] hi hl) : Ct M d as hi hl Post := by
  intro l Ω
  subst hlv
  refine met_ofWF (cc := M.2.1) (maxL := M.2.2.1) (ret := M.2.2.2) hy rfl ?_
  intro p e s m args below meth c s₁ B hml hv
  obtain ⟨rfl, hP, hK⟩ := hv
  have hts : ∀ w ∈ wsM M, w.before (trs Ω as).toArray s = true := atoms_spec (ws := wsM M) B.pre
  have hlocks := B.notSynchronized
  have hx := B.exec
  have hb := B.bytes
  have hr := B.returns
  rw [lg_entry_eq]
  have hl0 := lv_entry (trs Ω as) (n := M.2.2.1) (by rw [slot_len]; exact hlen)
  refine h Ω p l e _ s m _ below meth c 0 0 _ ⟨hx, hb, hml, findClass_of_methodNamed B.named, fun w hw => hts w (List.mem_cons_of_mem _ hw), ⟨Nat.le_refl _, Nat.le_refl _, Nat.zero_le _, Nat.zero_le _⟩, hK, ?_⟩ s.heap [] _ hP va_S.rf ⟨hl0.1, hl0.2.1, fun i v hi => hl0.2.2 (i, trv Ω v) (lv0_mem Ω hi)⟩
  intro pc ls hi' hl' H locs hP' hS'
  refine ⟨fun v hd ho hp => ?_, fun v hd ho hp => ?_, fun hd ho hp => ?_⟩
  · rcases ho with ho | ⟨ho, hv⟩
    · exact W.iret (v := v) hx hb (by rw [hr]; exact ho) (fun t ht hW => ⟨⟨some (.int v), hi', hl', rfl, hp, by rw [ht]; exact hP'⟩, hS'.F ht⟩) hS'.2.2 hd
    · exact W.zret (v := v) hx hb (by rw [hr]; exact ho) (nar_b hv) (fun t ht hW => ⟨⟨some (.int v), hi', hl', rfl, hp, by rw [ht]; exact hP'⟩, hS'.F ht⟩) hS'.2.2 hd
  · exact W.lret (v := v) hx hb (by rw [hr]; exact ho) (fun t ht hW => ⟨⟨some (.long v), hi', hl', rfl, hp, by rw [ht]; exact hP'⟩, hS'.F ht⟩) hS'.2.2 hd
  · exact W.vret hx hb (by rw [hr]; exact ho) (fun t ht hW => ⟨⟨none, hi', hl', rfl, hp, by rw [ht]; exact hP'⟩, hS'.F ht⟩) hS'.2.2 hd
theorem ct_conseq {M : MD} {d : Nat} {as : List Value} {hi : HI} {hl : HL} {Post Post' : Option Value → HI → HL → Prop} (h : Ct M d as hi hl Post) (hp : ∀ v hi hl, Post v hi hl → Post' v hi hl) : Ct M d as hi hl Post' := fun l Ω =>
  MetFree.mono (h l Ω) (fun _ _ h => h) (fun _ _ _ _ _ h => h) (fun _ _ _ _ _ hq => ⟨⟨hq.1.1.imp fun v ⟨hi', hl', h1, h2, h3⟩ => ⟨hi', hl', h1, hp _ _ _ h2, h3⟩, hq.1.2⟩, hq.2⟩)
theorem tbl_in {ws : List Cond} (h : ∀ w ∈ ws, w ∈ gtbl) : GoodIn gtbl ws := fun w hw => ⟨h w hw, good_of_word (List.mem_filter.mp (h w hw)).2⟩
def CallV (own : String) (idx : Nat) (My : MD) (n : Nat) : Prop := Cond.methodLink own idx My.1 ∈ gtbl ∧ Cond.instanceMethod My.1 ∈ gtbl ∧ Cond.selects My.1.cls My.1 My.1 ∈ gtbl ∧ Cond.initialized My.1.cls ∈ gtbl ∧ Cond.code My.1 My.2.1 My.2.2.1 My.2.2.2 ∈ gtbl ∧
  (My.1.cls ≠ "java/lang/invoke/MethodHandle" ∧ My.1.cls ≠ "java/lang/invoke/VarHandle" ∧ (parseMethodDescriptor My.1.desc).map (fun d => d.parameters.length) = some n) ∧ My.2.2.1 ≤ 45
def CallS (own : String) (idx : Nat) (My : MD) (n : Nat) : Prop := Cond.methodLink own idx My.1 ∈ gtbl ∧ Cond.static My.1 ∈ gtbl ∧ Cond.initialized My.1.cls ∈ gtbl ∧ Cond.code My.1 My.2.1 My.2.2.1 My.2.2.2 ∈ gtbl ∧
  (My.1.cls ≠ "java/lang/invoke/MethodHandle" ∧ My.1.cls ≠ "java/lang/invoke/VarHandle" ∧ (parseMethodDescriptor My.1.desc).map (fun d => d.parameters.length) = some n) ∧ My.2.2.1 ≤ 45
theorem nest_warm {s U : State} (hW : s.WarmedH U.vm) (h : ∀ w ∈ nests, va_Nw w s) : ∀ w ∈ nests, va_Nw w U := by
  intro w hw
  have h1 := h w hw
  have h2 := (List.mem_filter.mp hw).2
  cases w <;> first | exact va_Nw.warmF hW h1 | (simp [isNestW] at h2; done)
theorem nest_same {s U : State} (hv : s.vm = U.vm) (h : ∀ w ∈ nests, va_Nw w s) : ∀ w ∈ nests, va_Nw w U := by
  intro w hw
  have h1 := h w hw
  have h2 := (List.mem_filter.mp hw).2
  cases w <;> first | exact va_Nw.same rfl hv h1 | (simp [isNestW] at h2; done)
theorem bK_at {Ω : Om} {s U : State} {H : Heap} {locs : List Loc} (h : bK Ω s) (hS : va_S (inA Ω) s.heap H locs) (hU : U.heap = H) (hW : s.WarmedH U.vm) : bK Ω U := by
  obtain ⟨h1, h2, h3, h4, h5⟩ := h
  refine ⟨va_K.moved hW.alike h1, h2, ?_, ?_, nest_warm hW h5⟩
  · rw [hU]; exact (h3.kept hS.2.1).moved hW.alike
  · rw [hU]; exact (h4.kept hS.2.1).moved hW.alike
theorem blindM (Ω : Om) (as : List Value) (hi : HI) (hl : HL) : FrameBlind (PcM Ω as hi hl) := by
  intro a U g mk q
  obtain ⟨q0, qP, q1, q2, q3, q4, q5⟩ := q
  exact ⟨q0, qP, va_K.moved (u := U) (U := U.calling g mk a) (Vm.Alike.refl U.vm) q1, q2, va_Z.moved (u := U) (U := U.calling g mk a) (Vm.Alike.refl U.vm) q3, va_T.moved (u := U) (U := U.calling g mk a) (Vm.Alike.refl U.vm) q4, nest_same (s := U) (U := U.calling g mk a) rfl q5⟩
theorem va_callM {Ω : Om} {p : Program} {l : Launch} {e : Env} {R : Room} {s : State} {m : MethodId} {args : Array Value} {below : List Frame} {meth : Method} {c : Code} {H : Heap} {locs : List Loc} {cells slots pc : Nat} {ls : Array Slot} {rest st0 : List Value} {a : Array Value} {Q : State → Prop} {Post : Option Value → HI → HL → Prop}
    (hr : va_Run p l e R s m args below meth c H locs cells slots 0 0 (F0 m pc ls st0) rest (QcM Ω Post a) (inA Ω)) (hS : va_S (inA Ω) s.heap H locs)
    (kk : ∀ (v : Option Value) (hi' : HI) (hl' : HL) (H1 : Heap) (locs1 : List Loc), Post v hi' hl' → va_P Ω.2.1 classes (wcells Ω hi' hl') H1 → va_S (inA Ω) s.heap H1 locs1 → W p l e R s m args below meth c H1 locs1 cells slots Q (F0 m (pc + 3) ls ((v.map (trv Ω)).toList ++ rest))) : W p l e R s m args below meth c H locs cells slots Q (F0 m pc ls st0) := by
  intro T hT X
  obtain ⟨v, st₀, t, T', L, h0, X', hL, e1, e2, ⟨⟨v', hi', hl', hv, hp, hP⟩, hz, hk⟩, st⟩ := hr T hT X
  cases hv
  rw [h0] at hz hk
  obtain ⟨t2, a1, b1⟩ := kk v' hi' hl' T'.heap (locs ++ L) hp (by rw [e1]; exact hP)
    ⟨Nat.le_trans hS.1 (by rw [e1]; exact hz), fun q h1 h2 => by rw [e1, hk q (Nat.lt_of_lt_of_le h1 hS.1) h2]; exact hS.2.1 q h1 h2, fun q hq => by
      rcases List.mem_append.mp hq with h | h
      · exact hS.2.2 q h
      · exact hL q h⟩ T' rfl X'
  exact ⟨t2, st t2 a1, b1⟩
theorem cat_sum (Ω : Om) (st : List Value) : ((trs Ω st).map fun v => v.category).sum = (st.map fun v => v.category).sum := by
  rw [show (trs Ω st).map (fun v => v.category) = st.map (fun v => v.category) from by simp [trs, trv_cat]]
theorem ret_trs (Ω : Om) (v : Option Value) (st : List Value) : (v.map (trv Ω)).toList ++ trs Ω st = trs Ω (v.toList ++ st) := by cases v <;> simp [trs]
theorem wp_callV {M My : MD} {d d' : Nat} {Post Post' : Option Value → HI → HL → Prop} {pc idx n q ci : Nat} {lv : LV} {as st stk : List Value} {hi : HI} {hl : HL} {fs : List (Option (Option Nat))} {T : u_T} {N : Nat}
    (hct : Ct My d' (.ref q :: as) hi hl Post') (hd : decode M.2.1 pc = .ok (.invokevirtual idx, 3)) (hc : CallV M.1.cls idx My n) (hq : q < 61) (hs : shp q = .inr (ci, fs)) (hcl : classes[ci]? = some (My.1.cls, T, N)) (hst : stk = as.reverse ++ (.ref q :: st)) (hn : as.length = n) (hcat : (st.map fun v => v.category).sum ≤ 8) (hdd : d' < d)
    (k : ∀ v hi' hl', Post' v hi' hl' → Wp M d Post (pc + 3) lv (v.toList ++ st) hi' hl') : Wp M d Post pc lv stk hi hl := by
  intro Ω p l e R s m args below meth c cells slots Q C H locs ls hP hS hL
  have C0 := C
  obtain ⟨hx, hb, hml, hown, hts, ⟨r1, r2, r3, r4⟩, hK, -⟩ := C
  obtain ⟨k1, k2, k3, k4, k5, k6, k7⟩ := hc
  have he : (wcells Ω hi hl)[q]? = some (Ω.1 q, .inr (ci, fvals Ω.1 (hi q) (hl q) 0 fs)) := by rw [wcells_at Ω hi hl hq, hs]; rfl
  have hG : GoodIn gtbl (wsV M.1.cls idx My.1.cls My.1 (wsM My)) := tbl_in (by
    intro w hw
    simp only [wsV, wsM, List.mem_append, List.mem_cons, List.not_mem_nil, or_false] at hw
    rcases hw with (rfl | rfl | rfl | rfl) | rfl | hw
    · exact k1
    · exact k2
    · exact k3
    · exact k4
    · exact k5
    · exact hw)
  have hrun := va_runV (e := e) (below := below) (meth := meth) (g := F0 m pc ls (trs Ω stk)) (As := trs Ω as) (rest := trs Ω st) (cc := M.2.1) (b := Ω.1 q) ⟨hx, hb, hml, hown, hts⟩ (hct l Ω) (cwV n hts hG rfl rfl rfl ⟨rfl, k6⟩ ⟨by show d' + 1 ≤ R.frames; omega, by show 8 + (My.2.2.1 + 11) + 64 * d' ≤ R.locals; omega⟩)
    (locs := locs) (cells := cells) (slots := slots) (H := H) ⟨blindM Ω _ hi hl, va_recv hK.1 hP hcl he, fun U hU hW => ⟨rfl, by rw [hU]; exact hP, bK_at hK hS hU hW⟩⟩ rfl (by rw [List.length_map]; exact hn) hL.1 (by rw [hst]; show List.map (trv Ω) (as.reverse ++ (.ref q :: st)) = _; simp [trs]; rfl) (lv_room (by rw [cat_sum]; exact hcat)) hd ⟨r3, r4⟩
  refine va_callM hrun hS (fun v hi' hl' H1 locs1 hp hP1 hS1 => ?_)
  rw [ret_trs]
  exact k v hi' hl' hp Ω p l e R s m args below meth c cells slots Q C0 H1 locs1 ls hP1 hS1 hL
theorem wp_callS {M My : MD} {d d' : Nat} {Post Post' : Option Value → HI → HL → Prop} {pc idx n : Nat} {lv : LV} {as st stk : List Value} {hi : HI} {hl : HL}
    (hct : Ct My d' as hi hl Post') (hd : decode M.2.1 pc = .ok (.invokestatic idx, 3)) (hc : CallS M.1.cls idx My n) (hst : stk = as.reverse ++ st) (hn : as.length = n) (hcat : (st.map fun v => v.category).sum ≤ 8) (hdd : d' < d)
    (k : ∀ v hi' hl', Post' v hi' hl' → Wp M d Post (pc + 3) lv (v.toList ++ st) hi' hl') : Wp M d Post pc lv stk hi hl := by
  intro Ω p l e R s m args below meth c cells slots Q C H locs ls hP hS hL
  have C0 := C
  obtain ⟨hx, hb, hml, hown, hts, ⟨r1, r2, r3, r4⟩, hK, -⟩ := C
  obtain ⟨k1, k2, k4, k5, k6, k7⟩ := hc
  have hG : GoodIn gtbl (va_wsS M.1.cls idx My.1 (wsM My)) := tbl_in (by
    intro w hw
    simp only [va_wsS, wsM, List.mem_append, List.mem_cons, List.not_mem_nil, or_false] at hw
    rcases hw with (rfl | rfl | rfl) | rfl | hw
    · exact k1
    · exact k2
    · exact k4
    · exact k5
    · exact hw)
  have hrun := va_runS (e := e) (below := below) (meth := meth) (g := F0 m pc ls (trs Ω stk)) (As := trs Ω as) (rest := trs Ω st) (cc := M.2.1) ⟨hx, hb, hml, hown, hts⟩ (hct l Ω) (va_cwS n hts hG rfl rfl rfl k6 ⟨by show d' + 1 ≤ R.frames; omega, by show 8 + (My.2.2.1 + 11) + 64 * d' ≤ R.locals; omega⟩)
    (locs := locs) (cells := cells) (slots := slots) (H := H) ⟨blindM Ω _ hi hl, fun U hU hW => ⟨rfl, by rw [hU]; exact hP, bK_at hK hS hU hW⟩⟩ rfl (by rw [List.length_map]; exact hn) hL.1 (by rw [hst]; simp [trs]) (lv_room (by rw [cat_sum]; exact hcat)) hd ⟨r3, r4⟩
  refine va_callM hrun hS (fun v hi' hl' H1 locs1 hp hP1 hS1 => ?_)
  rw [ret_trs]
  exact k v hi' hl' hp Ω p l e R s m args below meth c cells slots Q C0 H1 locs1 ls hP1 hS1 hL
