/-! MAKING THE WORLD: a judgement over cells that are made one by one -/
/-- the classes, the arrays' classes, where the new cells begin -/
abbrev Dl : Type := va_G × (Nat → ClassId) × Nat
abbrev tysN (Δ : Dl) : List (ClassId × FieldType) := [(Δ.2.1 0, .int), (Δ.2.1 1, .byte), (Δ.2.1 2, .boolean), (Δ.2.1 3, .long), (Δ.2.1 4, .object "BlownByAll$People")]
def bA (Δ : Dl) : Nat → Prop := fun q => Δ.2.2 ≤ q
def bcel (α : Nat → Nat) (E : Nat → va_E) (ks : List Nat) : va_W := ks.map (fun k => (α k, E k))
def upf {T : Type} (f : Nat → T) (k : Nat) (v : T) : Nat → T := fun j => if j = k then v else f j
theorem upf_at {T : Type} (f : Nat → T) (k : Nat) (v : T) : upf f k v k = v := by simp [upf]
theorem upf_ne {T : Type} (f : Nat → T) {k j : Nat} (v : T) (h : j ≠ k) : upf f k v j = f j := by simp [upf, h]
theorem bcel_at {α : Nat → Nat} {E : Nat → va_E} {ks : List Nat} {i k : Nat} (h : ks[i]? = some k) : (bcel α E ks)[i]? = some (α k, E k) := by simp [bcel, h]
theorem bcel_set {A : Nat → Prop} {α : Nat → Nat} {E : Nat → va_E} {ks : List Nat} (hD : va_D A (bcel α E ks)) {i k : Nat} {e : va_E} (h : ks[i]? = some k) : (bcel α E ks).set i (α k, e) = bcel α (upf E k e) ks := by
  have hl : i < ks.length := (List.getElem?_eq_some_iff.mp h).1
  apply List.ext_getElem?
  intro j
  by_cases hj : j = i
  · subst hj
    rw [List.getElem?_set_self (by simp [bcel]; exact hl), bcel_at h, upf_at]
  · rw [List.getElem?_set_ne (fun q => hj q.symm)]
    cases hk : ks[j]? with
    | none => simp [bcel, hk]
    | some k' =>
      have hne : k' ≠ k := fun q => by
        subst q
        exact hj (hD.1 j i _ _ (bcel_at hk) (bcel_at h) rfl)
      rw [bcel_at hk, bcel_at hk, upf_ne _ _ hne]
theorem bcel_push {α : Nat → Nat} {E : Nat → va_E} {ks : List Nat} {k q : Nat} {e : va_E} (hk : k ∉ ks) : bcel α E ks ++ [(q, e)] = bcel (upf α k q) (upf E k e) (ks ++ [k]) := by
  unfold bcel
  rw [List.map_append]
  congr 1
  · refine List.map_congr_left (fun j hj => ?_)
    have : j ≠ k := fun z => hk (z ▸ hj)
    rw [upf_ne _ _ this, upf_ne _ _ this]
  · simp [upf_at]
abbrev Xt : Type := Program → Launch → Env → Room → State → MethodId → Array Value → List Frame → Method → Code → (State → Prop) → Prop
abbrev Pt3 : Type := (Nat → Nat) → (Nat → va_E) → List Nat → Prop
abbrev Oi (Δ : Dl) : Om := (fun k => k, Δ.1, Δ.2.1)
theorem trv_i (Δ : Dl) (v : Value) : trv (Oi Δ) v = v := by cases v <;> rfl
theorem trs_i (Δ : Dl) (st : List Value) : trs (Oi Δ) st = st := by
  show st.map (trv (Oi Δ)) = st
  induction st with
  | nil => rfl
  | cons v r ih => rw [List.map_cons, ih, trv_i]
def nRet (Δ : Dl) (M : MD) (mc ms : Nat) (Post : Pt3) (p : Program) (l : Launch) (e : Env) (R : Room) (s : State) (m : MethodId) (args : Array Value) (below : List Frame) (meth : Method) (c : Code) (Q : State → Prop) : Prop :=
  ∀ (pc : Nat) (ls : Array Slot) (α : Nat → Nat) (E : Nat → va_E) (ks : List Nat) (H : Heap) (locs : List Loc), va_P Δ.1 classes (bcel α E ks) H → va_D (bA Δ) (bcel α E ks) → va_S (bA Δ) s.heap H locs → decode M.2.1 pc = .ok (.return_, 1) → Post α E ks → W p l e R s m args below meth c H locs mc ms Q (F0 m pc ls [])
def nCx (Δ : Dl) (M : MD) (d mc ms : Nat) (X : Xt) (Post : Pt3) (p : Program) (l : Launch) (e : Env) (R : Room) (s : State) (m : MethodId) (args : Array Value) (below : List Frame) (meth : Method) (c : Code) (Q : State → Prop) : Prop :=
  (p.tables.exec = Jvm.exec) ∧
  (c.code = M.2.1) ∧
  (c.maxLocals = M.2.2.1) ∧
  (s.vm.findClass M.1.cls = some m.cls) ∧
  (∀ w ∈ gtbl, w.before args s = true) ∧
  (d ≤ R.frames) ∧
  (64 * d ≤ R.locals) ∧
  (mc ≤ R.cells) ∧
  (ms ≤ R.slots) ∧
  (va_K Δ.1 classes (tysN Δ) s) ∧
  (Δ.2.2 ≤ s.heap.size) ∧
  (va_AO "BlownByAll$People" s) ∧
  (M.1.name = "<init>" → meth.name = "<init>") ∧
  (nRet Δ M mc ms Post p l e R s m args below meth c Q) ∧
  (X p l e R s m args below meth c Q)
theorem nCx.hx {Δ : Dl} {M : MD} {d mc ms : Nat} {X : Xt} {Post : Pt3} {p : Program} {l : Launch} {e : Env} {R : Room} {s : State} {m : MethodId} {args : Array Value} {below : List Frame} {meth : Method} {c : Code} {Q : State → Prop} (h : nCx Δ M d mc ms X Post p l e R s m args below meth c Q) : p.tables.exec = Jvm.exec := h.1
theorem nCx.hb {Δ : Dl} {M : MD} {d mc ms : Nat} {X : Xt} {Post : Pt3} {p : Program} {l : Launch} {e : Env} {R : Room} {s : State} {m : MethodId} {args : Array Value} {below : List Frame} {meth : Method} {c : Code} {Q : State → Prop} (h : nCx Δ M d mc ms X Post p l e R s m args below meth c Q) : c.code = M.2.1 := h.2.1
theorem nCx.hml {Δ : Dl} {M : MD} {d mc ms : Nat} {X : Xt} {Post : Pt3} {p : Program} {l : Launch} {e : Env} {R : Room} {s : State} {m : MethodId} {args : Array Value} {below : List Frame} {meth : Method} {c : Code} {Q : State → Prop} (h : nCx Δ M d mc ms X Post p l e R s m args below meth c Q) : c.maxLocals = M.2.2.1 := h.2.2.1
theorem nCx.hown {Δ : Dl} {M : MD} {d mc ms : Nat} {X : Xt} {Post : Pt3} {p : Program} {l : Launch} {e : Env} {R : Room} {s : State} {m : MethodId} {args : Array Value} {below : List Frame} {meth : Method} {c : Code} {Q : State → Prop} (h : nCx Δ M d mc ms X Post p l e R s m args below meth c Q) : s.vm.findClass M.1.cls = some m.cls := h.2.2.2.1
theorem nCx.hts {Δ : Dl} {M : MD} {d mc ms : Nat} {X : Xt} {Post : Pt3} {p : Program} {l : Launch} {e : Env} {R : Room} {s : State} {m : MethodId} {args : Array Value} {below : List Frame} {meth : Method} {c : Code} {Q : State → Prop} (h : nCx Δ M d mc ms X Post p l e R s m args below meth c Q) : ∀ w ∈ gtbl, w.before args s = true := h.2.2.2.2.1
theorem nCx.r1 {Δ : Dl} {M : MD} {d mc ms : Nat} {X : Xt} {Post : Pt3} {p : Program} {l : Launch} {e : Env} {R : Room} {s : State} {m : MethodId} {args : Array Value} {below : List Frame} {meth : Method} {c : Code} {Q : State → Prop} (h : nCx Δ M d mc ms X Post p l e R s m args below meth c Q) : d ≤ R.frames := h.2.2.2.2.2.1
theorem nCx.r2 {Δ : Dl} {M : MD} {d mc ms : Nat} {X : Xt} {Post : Pt3} {p : Program} {l : Launch} {e : Env} {R : Room} {s : State} {m : MethodId} {args : Array Value} {below : List Frame} {meth : Method} {c : Code} {Q : State → Prop} (h : nCx Δ M d mc ms X Post p l e R s m args below meth c Q) : 64 * d ≤ R.locals := h.2.2.2.2.2.2.1
theorem nCx.r3 {Δ : Dl} {M : MD} {d mc ms : Nat} {X : Xt} {Post : Pt3} {p : Program} {l : Launch} {e : Env} {R : Room} {s : State} {m : MethodId} {args : Array Value} {below : List Frame} {meth : Method} {c : Code} {Q : State → Prop} (h : nCx Δ M d mc ms X Post p l e R s m args below meth c Q) : mc ≤ R.cells := h.2.2.2.2.2.2.2.1
theorem nCx.r4 {Δ : Dl} {M : MD} {d mc ms : Nat} {X : Xt} {Post : Pt3} {p : Program} {l : Launch} {e : Env} {R : Room} {s : State} {m : MethodId} {args : Array Value} {below : List Frame} {meth : Method} {c : Code} {Q : State → Prop} (h : nCx Δ M d mc ms X Post p l e R s m args below meth c Q) : ms ≤ R.slots := h.2.2.2.2.2.2.2.2.1
theorem nCx.hK {Δ : Dl} {M : MD} {d mc ms : Nat} {X : Xt} {Post : Pt3} {p : Program} {l : Launch} {e : Env} {R : Room} {s : State} {m : MethodId} {args : Array Value} {below : List Frame} {meth : Method} {c : Code} {Q : State → Prop} (h : nCx Δ M d mc ms X Post p l e R s m args below meth c Q) : va_K Δ.1 classes (tysN Δ) s := h.2.2.2.2.2.2.2.2.2.1
theorem nCx.hbase {Δ : Dl} {M : MD} {d mc ms : Nat} {X : Xt} {Post : Pt3} {p : Program} {l : Launch} {e : Env} {R : Room} {s : State} {m : MethodId} {args : Array Value} {below : List Frame} {meth : Method} {c : Code} {Q : State → Prop} (h : nCx Δ M d mc ms X Post p l e R s m args below meth c Q) : Δ.2.2 ≤ s.heap.size := h.2.2.2.2.2.2.2.2.2.2.1
theorem nCx.hAO {Δ : Dl} {M : MD} {d mc ms : Nat} {X : Xt} {Post : Pt3} {p : Program} {l : Launch} {e : Env} {R : Room} {s : State} {m : MethodId} {args : Array Value} {below : List Frame} {meth : Method} {c : Code} {Q : State → Prop} (h : nCx Δ M d mc ms X Post p l e R s m args below meth c Q) : va_AO "BlownByAll$People" s := h.2.2.2.2.2.2.2.2.2.2.2.1
theorem nCx.hname {Δ : Dl} {M : MD} {d mc ms : Nat} {X : Xt} {Post : Pt3} {p : Program} {l : Launch} {e : Env} {R : Room} {s : State} {m : MethodId} {args : Array Value} {below : List Frame} {meth : Method} {c : Code} {Q : State → Prop} (h : nCx Δ M d mc ms X Post p l e R s m args below meth c Q) : M.1.name = "<init>" → meth.name = "<init>" := h.2.2.2.2.2.2.2.2.2.2.2.2.1
theorem nCx.hret {Δ : Dl} {M : MD} {d mc ms : Nat} {X : Xt} {Post : Pt3} {p : Program} {l : Launch} {e : Env} {R : Room} {s : State} {m : MethodId} {args : Array Value} {below : List Frame} {meth : Method} {c : Code} {Q : State → Prop} (h : nCx Δ M d mc ms X Post p l e R s m args below meth c Q) : nRet Δ M mc ms Post p l e R s m args below meth c Q := h.2.2.2.2.2.2.2.2.2.2.2.2.2.1
theorem nCx.hX {Δ : Dl} {M : MD} {d mc ms : Nat} {X : Xt} {Post : Pt3} {p : Program} {l : Launch} {e : Env} {R : Room} {s : State} {m : MethodId} {args : Array Value} {below : List Frame} {meth : Method} {c : Code} {Q : State → Prop} (h : nCx Δ M d mc ms X Post p l e R s m args below meth c Q) : X p l e R s m args below meth c Q := h.2.2.2.2.2.2.2.2.2.2.2.2.2.2
/-- THE JUDGEMENT: M, at pc, with the cells ks made so far (nc cells, ns places), goes on to its end with Post -/
def WN (Δ : Dl) (M : MD) (d mc ms : Nat) (X : Xt) (Post : Pt3) (pc : Nat) (lv : LV) (st : List Value) (α : Nat → Nat) (E : Nat → va_E) (ks : List Nat) (nc ns : Nat) : Prop :=
  ∀ (p : Program) (l : Launch) (e : Env) (R : Room) (s : State) (m : MethodId) (args : Array Value) (below : List Frame) (meth : Method) (c : Code) (Q : State → Prop), nCx Δ M d mc ms X Post p l e R s m args below meth c Q →
    ∀ (H : Heap) (locs : List Loc) (ls : Array Slot), va_P Δ.1 classes (bcel α E ks) H → va_D (bA Δ) (bcel α E ks) → va_S (bA Δ) s.heap H locs → hasL (Oi Δ) ls M.2.2.1 lv → W p l e R s m args below meth c H locs nc ns Q (F0 m pc ls st)
/-- a link by the nest goes to another class -/
theorem nest_far : nests.all (fun w => match w with | .fieldLinkNest own _ C _ _ _ => decide (own ≠ C) | _ => true) = true := by decide +kernel
theorem noNest {own C n ds host : String} {idx : Nat} (h : C = own) (hm : Cond.fieldLinkNest own idx C n ds host ∈ nests) : False := by
  have := List.all_eq_true.mp nest_far _ hm
  simp [h] at this
section WNS
variable {Δ : Dl} {M : MD} {d mc ms : Nat} {X : Xt} {Post : Pt3} {pc : Nat} {lv : LV} {st : List Value} {α : Nat → Nat} {E : Nat → va_E} {ks : List Nat} {nc ns : Nat}
theorem wn_go {pc' : Nat} {st' : List Value} (h : ∀ (p : Program) (l : Launch) (e : Env) (R : Room) (s : State) (m : MethodId) (args : Array Value) (below : List Frame) (meth : Method) (c : Code) (Q : State → Prop) (H : Heap) (locs : List Loc) (ls : Array Slot), p.tables.exec = Jvm.exec → c.code = M.2.1 → hasL (Oi Δ) ls M.2.2.1 lv → W p l e R s m args below meth c H locs nc ns Q (F0 m pc' ls st') → W p l e R s m args below meth c H locs nc ns Q (F0 m pc ls st))
    (k : WN Δ M d mc ms X Post pc' lv st' α E ks nc ns) : WN Δ M d mc ms X Post pc lv st α E ks nc ns := fun p l e R s m args below meth c Q C H locs ls hP hD hS hL =>
  h p l e R s m args below meth c Q H locs ls C.hx C.hb hL (k p l e R s m args below meth c Q C H locs ls hP hD hS hL)
theorem wn_iconst {n : Int} {v : Int32} (hd : decode M.2.1 pc = .ok (.iconst n, 1)) (hv : Int32.ofInt n = v) (k : WN Δ M d mc ms X Post (pc + 1) lv (.int v :: st) α E ks nc ns) : WN Δ M d mc ms X Post pc lv st α E ks nc ns := wn_go (fun _ _ _ _ _ _ _ _ _ _ _ _ _ _ hx hb _ k => lv_iconst hx hb hd hv k) k
theorem wn_bipush {n : Int} {v : Int32} (hd : decode M.2.1 pc = .ok (.bipush n, 2)) (hv : (Int8.ofInt n).toInt32 = v) (k : WN Δ M d mc ms X Post (pc + 2) lv (.int v :: st) α E ks nc ns) : WN Δ M d mc ms X Post pc lv st α E ks nc ns := wn_go (fun _ _ _ _ _ _ _ _ _ _ _ _ _ _ hx hb _ k => lv_bipush hx hb hd hv k) k
theorem wn_sipush {n : Int} {v : Int32} (hd : decode M.2.1 pc = .ok (.sipush n, 3)) (hv : (Int16.ofInt n).toInt32 = v) (k : WN Δ M d mc ms X Post (pc + 3) lv (.int v :: st) α E ks nc ns) : WN Δ M d mc ms X Post pc lv st α E ks nc ns := wn_go (fun _ _ _ _ _ _ _ _ _ _ _ _ _ _ hx hb _ k => lv_sipush hx hb hd hv k) k
theorem wn_iload_n {n : Fin 4} {x : Int32} (hd : decode M.2.1 pc = .ok (.iload_n n, 1)) (hg : lvg lv n = some (.int x)) (k : WN Δ M d mc ms X Post (pc + 1) lv (.int x :: st) α E ks nc ns) : WN Δ M d mc ms X Post pc lv st α E ks nc ns := wn_go (fun _ _ _ _ _ _ _ _ _ _ _ _ _ _ hx hb hL k => lv_iload_n hx hb hd rfl (hL.2.2 _ _ (lvg_at hg)) k) k
theorem wn_aload_n {n : Fin 4} {x : Nat} (hd : decode M.2.1 pc = .ok (.aload_n n, 1)) (hg : lvg lv n = some (.ref x)) (k : WN Δ M d mc ms X Post (pc + 1) lv (.ref x :: st) α E ks nc ns) : WN Δ M d mc ms X Post pc lv st α E ks nc ns := wn_go (fun _ _ _ _ _ _ _ _ _ _ _ _ _ _ hx hb hL k => lv_aload_n hx hb hd rfl (hL.2.2 _ _ (lvg_at hg)) k) k
theorem wn_dup {va : Value} (hd : decode M.2.1 pc = .ok (.dup, 1)) (hc : va.category = 1) (k : WN Δ M d mc ms X Post (pc + 1) lv (va :: va :: st) α E ks nc ns) : WN Δ M d mc ms X Post pc lv (va :: st) α E ks nc ns := wn_go (fun _ _ _ _ _ _ _ _ _ _ _ _ _ _ hx hb _ k => lv_dup hx hb hd hc k) k
theorem wn_goto {off : Int} {tgt : Nat} (hd : decode M.2.1 pc = .ok (.goto off, 3)) (ht : (pc : Int) + off = (tgt : Int)) (k : WN Δ M d mc ms X Post tgt lv st α E ks nc ns) : WN Δ M d mc ms X Post pc lv st α E ks nc ns := wn_go (fun _ _ _ _ _ _ _ _ _ _ _ _ _ _ hx hb _ k => lv_goto hx hb hd ht k) k
theorem wn_icmp_ge {x y : Int32} {off : Int} {tgt : Nat} (hd : decode M.2.1 pc = .ok (.if_icmp .ge off, 3)) (ht : (pc : Int) + off = (tgt : Int)) (kt : y ≤ x → WN Δ M d mc ms X Post tgt lv st α E ks nc ns) (kf : ¬ y ≤ x → WN Δ M d mc ms X Post (pc + 3) lv st α E ks nc ns) : WN Δ M d mc ms X Post pc lv (.int y :: .int x :: st) α E ks nc ns := fun p l e R s m args below meth c Q C H locs ls hP hD hS hL => lv_icmp_ge C.hx C.hb hd ht (fun h => kt h p l e R s m args below meth c Q C H locs ls hP hD hS hL) (fun h => kf h p l e R s m args below meth c Q C H locs ls hP hD hS hL)
theorem wn_istore_n {n : Fin 4} {x : Int32} {lv' : LV} (hd : decode M.2.1 pc = .ok (.istore_n n, 1)) (hn : (n : Nat) < M.2.2.1) (hlv : lset lv n (.int x) = lv') (k : WN Δ M d mc ms X Post (pc + 1) lv' st α E ks nc ns) : WN Δ M d mc ms X Post pc lv (.int x :: st) α E ks nc ns := fun p l e R s m args below meth c Q C H locs ls hP hD hS hL => lv_istore_n C.hx C.hb hd rfl (hasL_asc.mp hL) hn rfl (fun ls' hl' => k p l e R s m args below meth c Q C H locs ls' hP hD hS (hlv ▸ hasL_store hl'))
theorem wn_astore_n {n : Fin 4} {x : Nat} {lv' : LV} (hd : decode M.2.1 pc = .ok (.astore_n n, 1)) (hn : (n : Nat) < M.2.2.1) (hlv : lset lv n (.ref x) = lv') (k : WN Δ M d mc ms X Post (pc + 1) lv' st α E ks nc ns) : WN Δ M d mc ms X Post pc lv (.ref x :: st) α E ks nc ns := fun p l e R s m args below meth c Q C H locs ls hP hD hS hL => lv_astore_n C.hx C.hb hd rfl (hasL_asc.mp hL) hn rfl (fun ls' hl' => k p l e R s m args below meth c Q C H locs ls' hP hD hS (hlv ▸ hasL_store hl'))
theorem wn_iinc {n : Nat} {b : Int} {x v : Int32} {lv' : LV} (hd : decode M.2.1 pc = .ok (.iinc n b, 3)) (hg : lvg lv n = some (.int x)) (hv : x + Int32.ofInt b = v) (hn : n < M.2.2.1) (hlv : lset lv n (.int v) = lv') (k : WN Δ M d mc ms X Post (pc + 3) lv' st α E ks nc ns) : WN Δ M d mc ms X Post pc lv st α E ks nc ns := by
  intro p l e R s m args below meth c Q C H locs ls hP hD hS hL
  have hm : (n, Value.int x) ∈ asc (Oi Δ) 0 lv := (asc_mem (Oi Δ) lv 0 _).mpr ⟨n, .int x, lvg_at hg, by rw [Nat.zero_add]; rfl⟩
  obtain ⟨k0, hk0⟩ := List.getElem?_of_mem hm
  exact lv_iinc C.hx C.hb hd (hasL_asc.mp hL) hk0 hv hn rfl (fun ls' hl' => k p l e R s m args below meth c Q C H locs ls' hP hD hS (hlv ▸ hasL_store hl'))
def NewOk (own : String) (idx : Nat) (C : String) (T : u_T) (N : Nat) (ty : Nat → FieldType) (ci : Nat) : Prop := classes[ci]? = some (C, T, N) ∧ (∀ w ∈ u_ws C T N, w ∈ gtbl) ∧ (∀ k, k < N → parseFieldDescriptor (T k).2.2.1 = some (ty k)) ∧ Cond.classLink own idx C ∈ gtbl ∧ Cond.instantiable C N ∈ gtbl ∧ Cond.initialized C ∈ gtbl
theorem nA {p : Program} {l : Launch} {e : Env} {R : Room} {s : State} {m : MethodId} {args : Array Value} {below : List Frame} {meth : Method} {c : Code} {Q : State → Prop} (C : nCx Δ M d mc ms X Post p l e R s m args below meth c Q) : ∀ q, s.heap.size ≤ q → bA Δ q := fun _ h => Nat.le_trans C.hbase h
theorem wn_new {idx ci k N : Nat} {C : String} {T : u_T} {ty : Nat → FieldType} {fs : List Value} (hn : NewOk M.1.cls idx C T N ty ci) (hfs : ∀ j, j < N → defaultValue (ty j) = vp_V fs j) (hd : decode M.2.1 pc = .ok (.new idx, 3)) (hk : k ∉ ks) (h1 : nc + 1 ≤ mc) (h2 : ns + N ≤ ms)
    (kk : ∀ q, WN Δ M d mc ms X Post (pc + 3) lv (.ref q :: st) (upf α k q) (upf E k (.inr (ci, fs))) (ks ++ [k]) (nc + 1) (ns + N)) : WN Δ M d mc ms X Post pc lv st α E ks nc ns := by
  intro p l e R s m args below meth c Q Cx H locs ls hP hD hS hL
  obtain ⟨n1, n2, n3, n4, n5, n6⟩ := hn
  exact va_new (D := Δ.1) Cx.hx Cx.hb Cx.hts n2 ty n3 Cx.hown (Cx.hts _ n4) (Cx.hts _ n5) (Cx.hts _ n6) Cx.hK hP hD hS (nA Cx) n1 hfs (Nat.le_trans h1 Cx.r3) (Nat.le_trans h2 Cx.r4) hd
    (fun q H1 hP1 hD1 hS1 => kk q p l e R s m args below meth c Q Cx H1 locs ls (by rw [← bcel_push hk]; exact hP1) (by rw [← bcel_push hk]; exact hD1) hS1 hL)
theorem wn_newa {atype : ArrayType} {ty : FieldType} {t k N' : Nat} {n : Int32} {a0 : vp_A} (hd : decode M.2.1 pc = .ok (.newarray atype, 2)) (harr : Cond.arrayClass ty ∈ gtbl) (hty : newarray.typeOf atype = ty) (ht : (tysN Δ)[t]? = some (Δ.2.1 t, ty)) (hra : ∀ (U : State) (cA : ClassId), va_RA U cA ty → U.vm.findClass ("[" ++ ty.toString) = some cA) (ha : ∀ cA : ClassId, vp_cell cA a0 = arrV cA N' (fun _ => defaultValue ty)) (hn : ¬ n < 0) (hN : n.toNatClampNeg = N') (hby : N' * componentBytes ty ≤ 536870912) (hk : k ∉ ks) (h1 : nc + 1 ≤ mc) (h2 : ns + N' ≤ ms)
    (kk : ∀ q, WN Δ M d mc ms X Post (pc + 2) lv (.ref q :: st) (upf α k q) (upf E k (.inl (Δ.2.1 t, a0))) (ks ++ [k]) (nc + 1) (ns + N')) : WN Δ M d mc ms X Post pc lv (.int n :: st) α E ks nc ns := by
  intro p l e R s m args below meth c Q Cx H locs ls hP hD hS hL
  refine va_newa (D := Δ.1) Cx.hx Cx.hb (by rw [hty]; exact Cx.hts _ harr) hty Cx.hK hP hD hS (nA Cx) ha hn hN hby (Nat.le_trans h1 Cx.r3) (Nat.le_trans h2 Cx.r4) hd (fun q cA H1 hK1 hP1 hD1 hS1 => ?_)
  have e1 := hra _ _ (hK1.2 5 (cA, ty) rfl).2
  have e2 := hra _ _ (Cx.hK.2 t _ ht).2
  have e3 : cA = Δ.2.1 t := Option.some.inj (e1.symm.trans e2)
  subst e3
  exact kk q p l e R s m args below meth c Q Cx H1 locs ls (by rw [← bcel_push hk]; exact hP1) (by rw [← bcel_push hk]; exact hD1) hS1 hL
theorem wn_newq {idx k N' : Nat} {n : Int32} (hd : decode M.2.1 pc = .ok (.anewarray idx, 3)) (hcl : Cond.classLink M.1.cls idx "BlownByAll$People" ∈ gtbl) (hn : ¬ n < 0) (hN : n.toNatClampNeg = N') (hby : N' * 4 ≤ 536870912) (hk : k ∉ ks) (h1 : nc + 1 ≤ mc) (h2 : ns + N' ≤ ms)
    (kk : ∀ q, WN Δ M d mc ms X Post (pc + 3) lv (.ref q :: st) (upf α k q) (upf E k (.inl (Δ.2.1 4, N', .inr (.inr (.inr (.inr (fun _ => none))))))) (ks ++ [k]) (nc + 1) (ns + N')) : WN Δ M d mc ms X Post pc lv (.int n :: st) α E ks nc ns := by
  intro p l e R s m args below meth c Q Cx H locs ls hP hD hS hL
  refine va_newq (D := Δ.1) Cx.hx Cx.hb Cx.hown (Cx.hts _ hcl) Cx.hAO Cx.hK hP hD hS (nA Cx) hn hN hby (Nat.le_trans h1 Cx.r3) (Nat.le_trans h2 Cx.r4) hd (fun q cA H1 hK1 hP1 hD1 hS1 => ?_)
  obtain ⟨_, _, _, _, _, e1⟩ := (hK1.2 5 (cA, .object "BlownByAll$People") rfl).2
  obtain ⟨_, _, _, _, _, e2⟩ := (Cx.hK.2 4 (Δ.2.1 4, .object "BlownByAll$People") rfl).2
  have e3 : cA = Δ.2.1 4 := Option.some.inj (e1.symm.trans e2)
  subst e3
  exact kk q p l e R s m args below meth c Q Cx H1 locs ls (by rw [← bcel_push hk]; exact hP1) (by rw [← bcel_push hk]; exact hD1) hS1 hL
/-- the field f of the class ci is final -/
def finOk (ci f : Nat) (ty : FieldType) : Prop := ∀ C T N, classes[ci]? = some (C, T, N) → (T f).2.2.2 = true ∧ parseFieldDescriptor (T f).2.2.1 = some ty
theorem finOk_of {ci f : Nat} {ty : FieldType} {C : String} {T : u_T} {N : Nat} (hc : classes[ci]? = some (C, T, N)) (h1 : (T f).2.2.2 = true) (h2 : parseFieldDescriptor (T f).2.2.1 = some ty) : finOk ci f ty := by
  intro C' T' N' h
  rw [hc] at h
  cases h
  exact ⟨h1, h2⟩
theorem wn_putF {idx ci f k a : Nat} {fs : List Value} {v : Value} {ty : FieldType} (hf : Fld M.1.cls idx ci f) (hfo : finOk ci f ty) (hcl : ∀ C T N, classes[ci]? = some (C, T, N) → C = M.1.cls) (hin : M.1.name = "<init>") (hd : decode M.2.1 pc = .ok (.putfield idx, 3)) (he : E k = .inr (ci, fs)) (ha : α k = a) (hk : k ∈ ks) (hn : narrow ty v = v) (hfit : fits ty v = true) (hl : f < fs.length)
    (kk : WN Δ M d mc ms X Post (pc + 3) lv st α (upf E k (.inr (ci, fs.set f v))) ks nc ns) : WN Δ M d mc ms X Post pc lv (v :: .ref a :: st) α E ks nc ns := by
  subst ha
  intro p l e R s m args below meth c Q Cx H locs ls hP hD hS hL
  obtain ⟨Cn, T, N, ty0, hc, hkN, hin2, hty0, hnm, hlk, hsm⟩ := hf
  obtain ⟨hfin, hdsc⟩ := hfo Cn T N hc
  have hC := hcl Cn T N hc
  obtain ⟨i, hi⟩ := List.getElem?_of_mem hk
  have hw : (bcel α E ks)[i]? = some (α k, .inr (ci, fs)) := by rw [bcel_at hi, he]
  rcases hlk with g1 | ⟨host, g1⟩
  · exact va_putF (D := Δ.1) Cx.hx Cx.hb Cx.hts hin2 ty0 hty0 hnm Cx.hown Cx.hK hP hD hS i hw hc f hkN (Cx.hts _ g1) (fun x h => by rw [← hsm]; exact h) hfin (Cx.hname hin) (by rw [hsm]; exact hC) hdsc hn hfit hl hd (fun H1 locs1 hP1 hD1 hS1 => kk p l e R s m args below meth c Q Cx H1 locs1 ls (by rw [← bcel_set hD hi]; exact hP1) (by rw [← bcel_set hD hi]; exact hD1) hS1 hL)
  · exact (noNest hC g1).elim
theorem wn_put {idx ci f k a : Nat} {fs : List Value} {v : Value} {ty : FieldType} (hf : Fld M.1.cls idx ci f) (hfo : putOk ci f ty) (hcl : ∀ C T N, classes[ci]? = some (C, T, N) → C = M.1.cls) (hd : decode M.2.1 pc = .ok (.putfield idx, 3)) (he : E k = .inr (ci, fs)) (ha : α k = a) (hk : k ∈ ks) (hn : narrow ty v = v) (hfit : fits ty v = true) (hl : f < fs.length)
    (kk : WN Δ M d mc ms X Post (pc + 3) lv st α (upf E k (.inr (ci, fs.set f v))) ks nc ns) : WN Δ M d mc ms X Post pc lv (v :: .ref a :: st) α E ks nc ns := by
  subst ha
  intro p l e R s m args below meth c Q Cx H locs ls hP hD hS hL
  obtain ⟨Cn, T, N, ty0, hc, hkN, hin2, hty0, hnm, hlk, hsm⟩ := hf
  obtain ⟨hfin, hdsc⟩ := hfo Cn T N hc
  have hC := hcl Cn T N hc
  obtain ⟨i, hi⟩ := List.getElem?_of_mem hk
  have hw : (bcel α E ks)[i]? = some (α k, .inr (ci, fs)) := by rw [bcel_at hi, he]
  rcases hlk with g1 | ⟨host, g1⟩
  · exact va_put (D := Δ.1) Cx.hx Cx.hb Cx.hts hin2 ty0 hty0 hnm Cx.hown Cx.hK hP hD hS i hw hc f hkN (Cx.hts _ g1) (fun x h => by rw [← hsm]; exact h) hfin hdsc hn hfit hl hd (fun H1 locs1 hP1 hD1 hS1 => kk p l e R s m args below meth c Q Cx H1 locs1 ls (by rw [← bcel_set hD hi]; exact hP1) (by rw [← bcel_set hD hi]; exact hD1) hS1 hL)
  · exact (noNest hC g1).elim
theorem wn_get {idx ci f k a : Nat} {fs : List Value} {v : Value} (hf : Fld M.1.cls idx ci f) (hcl : ∀ C T N, classes[ci]? = some (C, T, N) → C = M.1.cls) (hd : decode M.2.1 pc = .ok (.getfield idx, 3)) (he : E k = .inr (ci, fs)) (ha : α k = a) (hk : k ∈ ks) (hv : fs[f]? = some v)
    (kk : WN Δ M d mc ms X Post (pc + 3) lv (v :: st) α E ks nc ns) : WN Δ M d mc ms X Post pc lv (.ref a :: st) α E ks nc ns := by
  subst ha
  intro p l e R s m args below meth c Q Cx H locs ls hP hD hS hL
  obtain ⟨Cn, T, N, ty0, hc, hkN, hin2, hty0, hnm, hlk, hsm⟩ := hf
  have hC := hcl Cn T N hc
  obtain ⟨i, hi⟩ := List.getElem?_of_mem hk
  have hw : (bcel α E ks)[i]? = some (α k, .inr (ci, fs)) := by rw [bcel_at hi, he]
  rcases hlk with g1 | ⟨host, g1⟩
  · exact va_get (D := Δ.1) Cx.hx Cx.hb Cx.hts hin2 Cx.hown Cx.hK hP i hw hc f hkN (Cx.hts _ g1) (fun x h => by rw [← hsm]; exact h) hv hd (kk p l e R s m args below meth c Q Cx H locs ls hP hD hS hL)
  · exact (noNest hC g1).elim
theorem wn_iast {k a n : Nat} {f : Nat → Int32} {i x : Int32} (hd : decode M.2.1 pc = .ok (.iastore, 1)) (he : E k = .inl (Δ.2.1 0, n, .inl f)) (ha : α k = a) (hk : k ∈ ks) (hin : vp_in i n)
    (kk : WN Δ M d mc ms X Post (pc + 1) lv st α (upf E k (.inl (Δ.2.1 0, n, .inl (upd f i.toNatClampNeg x)))) ks nc ns) : WN Δ M d mc ms X Post pc lv (.int x :: .int i :: .ref a :: st) α E ks nc ns := by
  subst ha
  intro p l e R s m args below meth c Q Cx H locs ls hP hD hS hL
  obtain ⟨i0, hi⟩ := List.getElem?_of_mem hk
  have hw : (bcel α E ks)[i0]? = some (α k, .inl (Δ.2.1 0, n, .inl f)) := by rw [bcel_at hi, he]
  exact va_iast (D := Δ.1) Cx.hx Cx.hb Cx.hK hP hD hS i0 0 hw rfl hin hd (fun H1 locs1 hP1 hD1 hS1 => kk p l e R s m args below meth c Q Cx H1 locs1 ls (by rw [← bcel_set hD hi]; exact hP1) (by rw [← bcel_set hD hi]; exact hD1) hS1 hL)
theorem wn_astq {k k2 a v n : Nat} {f : Nat → Option Nat} {vs : List Value} {T : u_T} {N : Nat} {i : Int32} (hd : decode M.2.1 pc = .ok (.aastore, 1)) (he : E k = .inl (Δ.2.1 4, n, .inr (.inr (.inr (.inr f))))) (ha : α k = a) (hk : k ∈ ks) (he2 : E k2 = .inr (2, vs)) (ha2 : α k2 = v) (hk2 : k2 ∈ ks) (hc : classes[2]? = some ("BlownByAll$People", T, N)) (hin : vp_in i n)
    (kk : WN Δ M d mc ms X Post (pc + 1) lv st α (upf E k (.inl (Δ.2.1 4, n, .inr (.inr (.inr (.inr (va_up f i.toNatClampNeg (some v)))))))) ks nc ns) : WN Δ M d mc ms X Post pc lv (.ref v :: .int i :: .ref a :: st) α E ks nc ns := by
  subst ha
  subst ha2
  intro p l e R s m args below meth c Q Cx H locs ls hP hD hS hL
  obtain ⟨i0, hi⟩ := List.getElem?_of_mem hk
  obtain ⟨i2, hi2⟩ := List.getElem?_of_mem hk2
  have hw : (bcel α E ks)[i0]? = some (α k, .inl (Δ.2.1 4, n, .inr (.inr (.inr (.inr f))))) := by rw [bcel_at hi, he]
  have hw2 : (bcel α E ks)[i2]? = some (α k2, .inr (2, vs)) := by rw [bcel_at hi2, he2]
  exact va_astq (D := Δ.1) (r := ("BlownByAll$People", T, N)) Cx.hx Cx.hb Cx.hK hP hD hS i0 4 i2 2 hw rfl hw2 hc hin hd (fun H1 locs1 hP1 hD1 hS1 => kk p l e R s m args below meth c Q Cx H1 locs1 ls (by rw [← bcel_set hD hi]; exact hP1) (by rw [← bcel_set hD hi]; exact hD1) hS1 hL)
theorem wn_objInit {idx a : Nat} (hd : decode M.2.1 pc = .ok (.invokespecial idx, 3)) (hl : Cond.methodLink M.1.cls idx Lib.objectInit ∈ gtbl) (hi : Cond.instanceMethod Lib.objectInit ∈ gtbl) (hc : Cond.code Lib.objectInit ⟨#[0xb1]⟩ 1 none ∈ gtbl) (hdd : 1 ≤ d) (hcat : (st.map fun v => v.category).sum ≤ 8)
    (kk : WN Δ M d mc ms X Post (pc + 3) lv st α E ks nc ns) : WN Δ M d mc ms X Post pc lv (.ref a :: st) α E ks nc ns := by
  intro p l e R s m args below meth c Q Cx H locs ls hP hD hS hL
  refine W.objInit Cx.hx Cx.hb Cx.hown (Cx.hts _ hl) (Cx.hts _ hi) (Cx.hts _ hc) rfl (by rw [Cx.hml]; exact hL.1) rfl hd (Nat.le_trans hdd Cx.r1) (Nat.le_trans ?_ Cx.r2) ?_
  · show 2 * 0 + (st.map fun v => v.category).sum + 12 ≤ 64 * d
    omega
  · exact kk p l e R s m args below meth c Q Cx H locs ls hP hD hS hL
theorem wn_ret (hd : decode M.2.1 pc = .ok (.return_, 1)) (h1 : nc = mc) (h2 : ns = ms) (hp : Post α E ks) : WN Δ M d mc ms X Post pc lv [] α E ks nc ns := by
  intro p l e R s m args below meth c Q Cx H locs ls hP hD hS hL
  subst h1
  subst h2
  exact Cx.hret pc ls α E ks H locs hP hD hS hd hp
/-! contracts of constructors -/
def PcN (Δ : Dl) (as : List Value) (α : Nat → Nat) (E : Nat → va_E) (ks : List Nat) : Array Value → State → Prop := fun v U => v = as.toArray ∧ va_P Δ.1 classes (bcel α E ks) U.heap ∧ va_D (bA Δ) (bcel α E ks) ∧ va_K Δ.1 classes (tysN Δ) U ∧ Δ.2.2 ≤ U.heap.size ∧ va_AO "BlownByAll$People" U
def QcN (Δ : Dl) (Post : Pt3) : Array Value → State → Outcome → State → Prop := va_Qv (S := (Nat → Nat) × (Nat → va_E) × List Nat) (fun u => Post u.1 u.2.1 u.2.2) (fun u t => va_P Δ.1 classes (bcel u.1 u.2.1 u.2.2) t.heap ∧ va_D (bA Δ) (bcel u.1 u.2.1 u.2.2)) (bA Δ)
def rmN (d mc ms : Nat) : Room := { frames := d, cells := mc, slots := ms, locals := 64 * d }
def CtN (Δ : Dl) (My : MD) (d mc ms : Nat) (as : List Value) (α : Nat → Nat) (E : Nat → va_E) (ks : List Nat) (Post : Pt3) : Prop := ∀ l : Launch, Met l My.1 (wsM My) (rmN d mc ms) (PcN Δ as α E ks) (QcN Δ Post) mc ms (bA Δ)
theorem ctn_intro {as : List Value} (hy : plainFor M.1 = true) (hnone : M.2.2.2 = none) (hlen : (lg_sl as).length ≤ M.2.2.1) (hlv : lv0 M.2.2.1 as = lv) (h : WN Δ M d mc ms (fun _ _ _ _ _ _ _ _ _ _ _ => True) Post 0 lv [] α E ks 0 0) : CtN Δ M d mc ms as α E ks Post := by
  intro l
  subst hlv
  refine met_ofWF (cc := M.2.1) (maxL := M.2.2.1) (ret := M.2.2.2) hy rfl ?_
  intro p e s m args below meth c s₁ B hml hv
  obtain ⟨rfl, hP, hD, hK, hbase, hAO⟩ := hv
  have hts : ∀ w ∈ wsM M, w.before as.toArray s = true := atoms_spec (ws := wsM M) B.pre
  have hlocks := B.notSynchronized
  have hx := B.exec
  have hb := B.bytes
  have hr := B.returns
  rw [lg_entry_eq]
  have hl0 := lv_entry as (n := M.2.2.1) hlen
  refine h p l e _ s m _ below meth c _ ⟨hx, hb, hml, findClass_of_methodNamed B.named, fun w hw => hts w (List.mem_cons_of_mem _ hw), Nat.le_refl _, Nat.le_refl _, Nat.le_refl _, Nat.le_refl _, hK, hbase, hAO, fun q => (name_of_methodNamed B.named B.method).1.trans q, ?_, trivial⟩ s.heap [] _ hP hD va_S.rf ⟨hl0.1, hl0.2.1, fun i v hi => hl0.2.2 (i, trv (Oi Δ) v) ?_⟩
  · intro pc ls α' E' ks' H locs hP' hD' hS' hd hp
    exact W.vret hx hb (by rw [hr]; exact hnone) (fun t ht hW => ⟨⟨(α', E', ks'), rfl, hp, by rw [ht]; exact hP', hD'⟩, hS'.F ht⟩) hS'.2.2 hd
  · have := lv0_mem (Oi Δ) hi
    rw [trs_i] at this
    exact this
def CallI (own : String) (idx : Nat) (My : MD) (n : Nat) : Prop := Cond.methodLink own idx My.1 ∈ gtbl ∧ Cond.instanceMethod My.1 ∈ gtbl ∧ Cond.initialized My.1.cls ∈ gtbl ∧ Cond.code My.1 My.2.1 My.2.2.1 none ∈ gtbl ∧ (My.1.cls ≠ "java/lang/invoke/MethodHandle" ∧ My.1.cls ≠ "java/lang/invoke/VarHandle" ∧ (parseMethodDescriptor My.1.desc).map (fun d => d.parameters.length) = some n) ∧ My.1.name = "<init>" ∧ My.2.2.2 = none ∧ My.2.2.1 ≤ 45
theorem wn_callI {My : MD} {d' mc' ms' idx n b : Nat} {as stk : List Value} {Post' : Pt3} (hct : CtN Δ My d' mc' ms' (.ref b :: as) α E ks Post') (hd : decode M.2.1 pc = .ok (.invokespecial idx, 3)) (hc : CallI M.1.cls idx My n) (hst : stk = as.reverse ++ (.ref b :: st)) (hn : as.length = n) (hcat : (st.map fun v => v.category).sum ≤ 8) (hdd : d' < d) (h1 : nc + mc' ≤ mc) (h2 : ns + ms' ≤ ms)
    (k : ∀ α' E' ks', Post' α' E' ks' → WN Δ M d mc ms X Post (pc + 3) lv st α' E' ks' (nc + mc') (ns + ms')) : WN Δ M d mc ms X Post pc lv stk α E ks nc ns := by
  intro p l e R s m args below meth c Q Cx H locs ls hP hD hS hL
  obtain ⟨k1, k2, k3, k4, k5, k6, k7, k8⟩ := hc
  have r1 := Cx.r1
  have r2 := Cx.r2
  have hG : GoodIn gtbl (wsM My) := tbl_in (by
    intro w hw
    simp only [wsM, List.mem_cons] at hw
    rcases hw with rfl | hw
    · rw [k7]; exact k4
    · exact hw)
  have hrun := va_runI (e := e) (below := below) (meth := meth) (g := F0 m pc ls stk) (As := as) (rest := st) (cc := M.2.1) (b := b) ⟨Cx.hx, Cx.hb, Cx.hml, Cx.hown, Cx.hts⟩ (hct l) (cwI (rm := rmN d' mc' ms') (ws' := gtbl) (bytes := My.2.1) (maxL := My.2.2.1) n Cx.hts hG (by rw [wsM, k7]) rfl rfl (Cx.hts _ k3) (Cx.hts _ k1) (Cx.hts _ k2) k6 k5 ⟨by show d' + 1 ≤ R.frames; omega, by show 8 + (My.2.2.1 + 11) + 64 * d' ≤ R.locals; omega⟩)
    (locs := locs) (cells := nc) (slots := ns) (H := H) ⟨fun a U g mk q => by obtain ⟨q0, q1, q2, q3, q4, q5⟩ := q; exact ⟨q0, q1, q2, va_K.moved (u := U) (U := U.calling g mk a) (Vm.Alike.refl U.vm) q3, q4, va_AO.moved (u := U) (U := U.calling g mk a) (Vm.Alike.refl U.vm) q5⟩, fun U hU hW => ⟨rfl, by rw [hU]; exact hP, hD, va_K.moved hW.alike Cx.hK, by rw [hU]; exact Nat.le_trans Cx.hbase hS.1, va_AO.moved hW.alike Cx.hAO⟩⟩ rfl hn hL.1 hst (lv_room hcat) hd ⟨Nat.le_trans h1 Cx.r3, Nat.le_trans h2 Cx.r4⟩
  exact va_callv hrun hS (fun q _ h => h) (fun q h => h) (fun u t H1 locs1 ht hvm hp hB hz hk hS1 => k u.1 u.2.1 u.2.2 hp p l e R s m args below meth c Q Cx H1 locs1 ls (by rw [← ht]; exact hB.1) hB.2 hS1 hL)
end WNS
