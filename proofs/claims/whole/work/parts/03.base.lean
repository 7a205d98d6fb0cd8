/-! THE WORLD AS FUNCTIONS, AND A JUDGEMENT OVER IT: all cells are made by the two constructors and stay; so the heap is two functions (cell, place ↦ int; cell, place ↦ long), and the machine's steps are told over them -/
abbrev HI : Type := Nat → Nat → Int32
/-- the tables' words that every callee inherits, and the nest's links, which go by the state -/
def gtbl : List Cond := lw_tbl.filter goodWord
def isNestW : Cond → Bool
  | .fieldLinkNest .. => true
  | _ => false
def nests : List Cond := lw_tbl.filter isNestW
theorem gt_in (i : Nat) {w : Cond} (h : lw_tbl[i]? = some w) (hg : goodWord w = true) : w ∈ gtbl := List.mem_filter.mpr ⟨List.mem_of_getElem? h, hg⟩
theorem ne_in (i : Nat) {w : Cond} (h : lw_tbl[i]? = some w) (hg : isNestW w = true) : w ∈ nests := List.mem_filter.mpr ⟨List.mem_of_getElem? h, hg⟩
theorem gt_sub {ws : List Cond} (h : ∀ w ∈ ws, w ∈ lw_tbl) (hg : ws.all goodWord = true) : ∀ w ∈ ws, w ∈ gtbl := fun w hw => List.mem_filter.mpr ⟨h w hw, List.all_eq_true.mp hg w hw⟩
abbrev HL : Type := Nat → Nat → Int64
/-- a world's layout: the cells' addresses (100: the static table's, 101: the script's), the classes' numbers, the arrays' classes -/
abbrev Om : Type := (Nat → Nat) × va_G × (Nat → ClassId)
def shp (k : Nat) : Sh := shapes.getD k (.inl (0, 0))
def slotRef (i : Nat) : Option Nat := match i with
  | 0 => some 12
  | 1 => some 18
  | _ => none
def fval (α : Nat → Nat) (fi : Nat → Int32) (fl : Nat → Int64) (t : Option (Option Nat)) (i : Nat) : Value := match t with
  | none => .int (fi i)
  | some none => .long (fl i)
  | some (some r) => .ref (α r)
def fvals (α : Nat → Nat) (fi : Nat → Int32) (fl : Nat → Int64) : Nat → List (Option (Option Nat)) → List Value
  | _, [] => []
  | i, t :: ts => fval α fi fl t i :: fvals α fi fl (i + 1) ts
def ent (Ω : Om) (s : Sh) (fi : Nat → Int32) (fl : Nat → Int64) : va_E := match s with
  | .inl (3, n) => .inl (Ω.2.2 3, n, .inr (.inl fl))
  | .inl (4, n) => .inl (Ω.2.2 4, n, .inr (.inr (.inr (.inr (fun i => (slotRef i).map Ω.1)))))
  | .inl (t, n) => .inl (Ω.2.2 t, n, .inl fi)
  | .inr (ci, fs) => .inr (ci, fvals Ω.1 fi fl 0 fs)
def wcells (Ω : Om) (hi : HI) (hl : HL) : va_W := (List.range 61).map (fun k => (Ω.1 k, ent Ω (shp k) (hi k) (hl k)))
theorem wcells_at (Ω : Om) (hi : HI) (hl : HL) {k : Nat} (hk : k < 61) : (wcells Ω hi hl)[k]? = some (Ω.1 k, ent Ω (shp k) (hi k) (hl k)) := by
  simp [wcells, hk]
theorem wcells_set (Ω : Om) {hi hi' : HI} {hl hl' : HL} {k : Nat} {e : va_E} (hk : k < 61) (he : e = ent Ω (shp k) (hi' k) (hl' k)) (ho : ∀ j, j ≠ k → hi' j = hi j ∧ hl' j = hl j) : (wcells Ω hi hl).set k (Ω.1 k, e) = wcells Ω hi' hl' := by
  apply List.ext_getElem?
  intro j
  by_cases hj : j = k
  · subst hj
    rw [wcells_at Ω hi' hl' hk, List.getElem?_set_self (by simp [wcells]; exact hk), he]
  · rw [List.getElem?_set_ne (fun q => hj q.symm)]
    by_cases h : j < 61
    · rw [wcells_at Ω hi hl h, wcells_at Ω hi' hl' h, (ho j hj).1, (ho j hj).2]
    · rw [List.getElem?_eq_none (by simp [wcells]; omega), List.getElem?_eq_none (by simp [wcells]; omega)]
def inA (Ω : Om) : Nat → Prop := fun q => ∃ k, k < 61 ∧ q = Ω.1 k
def apartO (Ω : Om) : Prop := ∀ i j, i < 61 → j < 61 → Ω.1 i = Ω.1 j → i = j
theorem wD {Ω : Om} (h : apartO Ω) (hi : HI) (hl : HL) : va_D (inA Ω) (wcells Ω hi hl) := by
  have at' : ∀ (i : Nat) (q : Nat × va_E), (wcells Ω hi hl)[i]? = some q → i < 61 ∧ q.1 = Ω.1 i := by
    intro i q hq
    by_cases hk : i < 61
    · rw [wcells_at Ω hi hl hk] at hq
      cases hq
      exact ⟨hk, rfl⟩
    · rw [List.getElem?_eq_none (by simp [wcells]; omega)] at hq
      cases hq
  refine ⟨fun i j p q hp hq e => ?_, fun k q hq => ?_⟩
  · obtain ⟨a1, a2⟩ := at' i p hp
    obtain ⟨b1, b2⟩ := at' j q hq
    exact h i j a1 b1 (by rw [← a2, ← b2]; exact e)
  · obtain ⟨a1, a2⟩ := at' k q hq
    exact ⟨k, a1, a2⟩
abbrev tysO (Ω : Om) : List (ClassId × FieldType) := [(Ω.2.2 0, .int), (Ω.2.2 1, .byte), (Ω.2.2 2, .boolean), (Ω.2.2 3, .long), (Ω.2.2 4, .object "BlownByAll$People")]
def figs (j : Nat) : Value := match j with
  | 0 => .int 7776
  | 1 => .int 1296
  | 2 => .int 216
  | 3 => .int 36
  | 4 => .int 6
  | _ => .int 1
/-- what stands of a state beside the cells -/
def bK (Ω : Om) (U : State) : Prop := va_K Ω.2.1 classes (tysO Ω) U ∧ apartO Ω ∧ va_Z "BlownByAll$SeatPlan" "FIGURE_OF" "[I" (.ref (Ω.1 100)) (inA Ω) U U.heap ∧ va_T .int (Ω.1 100) 6 figs (inA Ω) U U.heap ∧ ∀ w ∈ nests, va_Nw w U
def trv (Ω : Om) (v : Value) : Value := match v with
  | .ref k => .ref (Ω.1 k)
  | v => v
abbrev trs (Ω : Om) (st : List Value) : List Value := st.map (trv Ω)
theorem trv_cat (Ω : Om) (v : Value) : (trv Ω v).category = v.category := by cases v <;> rfl
/-- the locals, place by place -/
abbrev LV : Type := List (Option Value)
def hasL (Ω : Om) (ls : Array Slot) (nL : Nat) (lv : LV) : Prop := ls.size = nL ∧ lv_wf ls ∧ ∀ (i : Nat) (v : Value), lv[i]? = some (some v) → ls[i]? = some (.val (trv Ω v))
def lvg : LV → Nat → Option Value
  | [], _ => none
  | o :: _, 0 => o
  | _ :: r, i + 1 => lvg r i
theorem lvg_at : ∀ {lv : LV} {i : Nat} {v : Value}, lvg lv i = some v → lv[i]? = some (some v)
  | [], _, _, h => by cases h
  | o :: _, 0, _, h => by simp only [lvg] at h; simp [h]
  | _ :: r, i + 1, _, h => by simp only [lvg] at h; simpa using lvg_at h
def keepO (o : Option Value) : Option Value := match o with
  | some (.long _) => none
  | some (.double _) => none
  | o => o
def lsetA (o : Option Value) (t : LV) : LV := match o with
  | some (.long _) => none :: t
  | some (.double _) => none :: t
  | o => o :: t
theorem lsetA_eq (o : Option Value) (t : LV) : lsetA o t = keepO o :: t := by
  cases o with
  | none => rfl
  | some w => cases w <;> rfl
/-- a store into one place: a long that stood a place ahead is gone -/
def lset : LV → Nat → Value → LV
  | [], _, _ => []
  | _ :: r, 0, v => some v :: r
  | o :: r, 1, v => lsetA o (lset r 0 v)
  | o :: r, i + 2, v => o :: lset r (i + 1) v
/-- a store of a long -/
def lset2 : LV → Nat → Value → LV
  | [], _, _ => []
  | [_], 0, v => [some v]
  | _ :: _ :: r, 0, v => some v :: none :: r
  | o :: r, 1, v => lsetA o (lset2 r 0 v)
  | o :: r, i + 2, v => o :: lset2 r (i + 1) v
def asc (Ω : Om) : Nat → LV → List (Nat × Value)
  | _, [] => []
  | i, none :: r => asc Ω (i + 1) r
  | i, some v :: r => (i, trv Ω v) :: asc Ω (i + 1) r
theorem asc_mem (Ω : Om) : ∀ (lv : LV) (b : Nat) (q : Nat × Value), q ∈ asc Ω b lv ↔ ∃ (i : Nat) (v : Value), lv[i]? = some (some v) ∧ q = (b + i, trv Ω v)
  | [], b, q => by simp [asc]
  | none :: r, b, q => by
    rw [asc, asc_mem Ω r (b + 1) q]
    constructor
    · rintro ⟨i, v, h, rfl⟩
      exact ⟨i + 1, v, by simpa using h, by rw [Nat.add_assoc, Nat.add_comm 1 i]⟩
    · rintro ⟨i, v, h, rfl⟩
      cases i with
      | zero => simp at h
      | succ i => exact ⟨i, v, by simpa using h, by rw [Nat.add_assoc, Nat.add_comm 1 i]⟩
  | some w :: r, b, q => by
    rw [asc, List.mem_cons, asc_mem Ω r (b + 1) q]
    constructor
    · rintro (rfl | ⟨i, v, h, rfl⟩)
      · exact ⟨0, w, rfl, rfl⟩
      · exact ⟨i + 1, v, by simpa using h, by rw [Nat.add_assoc, Nat.add_comm 1 i]⟩
    · rintro ⟨i, v, h, rfl⟩
      cases i with
      | zero =>
        left
        simp at h
        rw [h]; rfl
      | succ i => exact Or.inr ⟨i, v, by simpa using h, by rw [Nat.add_assoc, Nat.add_comm 1 i]⟩
theorem hasL_asc {Ω : Om} {ls : Array Slot} {nL : Nat} {lv : LV} : hasL Ω ls nL lv ↔ lv_has ls nL (asc Ω 0 lv) := by
  constructor
  · rintro ⟨h1, h2, h3⟩
    refine ⟨h1, h2, fun q hq => ?_⟩
    obtain ⟨i, v, h, rfl⟩ := (asc_mem Ω lv 0 q).mp hq
    rw [Nat.zero_add]
    exact h3 i v h
  · rintro ⟨h1, h2, h3⟩
    refine ⟨h1, h2, fun i v h => ?_⟩
    have := h3 (0 + i, trv Ω v) ((asc_mem Ω lv 0 _).mpr ⟨i, v, h, rfl⟩)
    rwa [Nat.zero_add] at this
theorem keepO_some {o : Option Value} {v : Value} (h : keepO o = some v) : o = some v ∧ ¬ v.category = 2 := by
  cases o with
  | none => cases h
  | some w => cases w <;> simp [keepO] at h <;> subst h <;> exact ⟨rfl, by simp [Value.category]⟩
theorem lset_at : ∀ {lv : LV} {i : Nat} {x : Value} {j : Nat} {v : Value}, (lset lv i x)[j]? = some (some v) → (j = i ∧ v = x) ∨ (j ≠ i ∧ lv[j]? = some (some v) ∧ ¬ (j + 1 = i ∧ v.category = 2))
  | [], i, x, j, v, h => by simp [lset] at h
  | o :: r, 0, x, j, v, h => by
    simp only [lset] at h
    cases j with
    | zero => left; simp at h; exact ⟨rfl, h.symm⟩
    | succ j => right; exact ⟨by omega, by simpa using h, by omega⟩
  | o :: r, 1, x, j, v, h => by
    simp only [lset, lsetA_eq] at h
    cases j with
    | zero =>
      simp at h
      obtain ⟨h1, h2⟩ := keepO_some h
      right
      exact ⟨by omega, by simp [h1], fun q => h2 q.2⟩
    | succ j =>
      rw [List.getElem?_cons_succ] at h
      rcases lset_at h with ⟨h1, h2⟩ | ⟨h1, h2, h3⟩
      · left; exact ⟨by omega, h2⟩
      · right; exact ⟨by omega, by simpa using h2, by omega⟩
  | o :: r, i + 2, x, j, v, h => by
    simp only [lset] at h
    cases j with
    | zero => right; exact ⟨by omega, by simpa using h, by omega⟩
    | succ j =>
      rw [List.getElem?_cons_succ] at h
      rcases lset_at h with ⟨h1, h2⟩ | ⟨h1, h2, h3⟩
      · left; exact ⟨by omega, h2⟩
      · right; exact ⟨by omega, by simpa using h2, fun q => h3 ⟨by omega, q.2⟩⟩
theorem lset2_at : ∀ {lv : LV} {i : Nat} {x : Value} {j : Nat} {v : Value}, (lset2 lv i x)[j]? = some (some v) → (j = i ∧ v = x) ∨ (j ≠ i ∧ j ≠ i + 1 ∧ lv[j]? = some (some v) ∧ ¬ (j + 1 = i ∧ v.category = 2))
  | [], i, x, j, v, h => by simp [lset2] at h
  | [o], 0, x, j, v, h => by
    simp only [lset2] at h
    cases j with
    | zero => left; simp at h; exact ⟨rfl, h.symm⟩
    | succ j => simp at h
  | o :: o2 :: r, 0, x, j, v, h => by
    simp only [lset2] at h
    cases j with
    | zero => left; simp at h; exact ⟨rfl, h.symm⟩
    | succ j =>
      cases j with
      | zero => simp at h
      | succ j => right; exact ⟨by omega, by omega, by simpa using h, by omega⟩
  | o :: r, 1, x, j, v, h => by
    cases r with
    | nil =>
      simp only [lset2, lsetA_eq] at h
      cases j with
      | zero =>
        simp at h
        obtain ⟨h1, h2⟩ := keepO_some h
        right
        exact ⟨by omega, by omega, by simp [h1], fun q => h2 q.2⟩
      | succ j => simp at h
    | cons o2 r =>
      have e : lset2 (o :: o2 :: r) 1 x = keepO o :: lset2 (o2 :: r) 0 x := by simp [lset2, lsetA_eq]
      rw [e] at h
      cases j with
      | zero =>
        simp at h
        obtain ⟨h1, h2⟩ := keepO_some h
        right
        exact ⟨by omega, by omega, by simp [h1], fun q => h2 q.2⟩
      | succ j =>
        rw [List.getElem?_cons_succ] at h
        rcases lset2_at h with ⟨h1, h2⟩ | ⟨h1, h2, h3, h4⟩
        · left; exact ⟨by omega, h2⟩
        · right; exact ⟨by omega, by omega, by simpa using h3, by omega⟩
  | o :: r, i + 2, x, j, v, h => by
    have e : lset2 (o :: r) (i + 2) x = o :: lset2 r (i + 1) x := by cases r <;> simp [lset2]
    rw [e] at h
    cases j with
    | zero => right; exact ⟨by omega, by omega, by simpa using h, by omega⟩
    | succ j =>
      rw [List.getElem?_cons_succ] at h
      rcases lset2_at h with ⟨h1, h2⟩ | ⟨h1, h2, h3, h4⟩
      · left; exact ⟨by omega, h2⟩
      · right; exact ⟨by omega, by omega, by simpa using h3, fun q => h4 ⟨by omega, q.2⟩⟩
theorem hasL_store {Ω : Om} {ls' : Array Slot} {nL i : Nat} {lv : LV} {x : Value} (h : lv_has ls' nL ((i, trv Ω x) :: (asc Ω 0 lv).filter (fun q => !(q.1 == i) && !(q.1 + 1 == i && q.2.category == 2)))) : hasL Ω ls' nL (lset lv i x) := by
  refine ⟨h.1, h.2.1, fun j v hj => ?_⟩
  rcases lset_at hj with ⟨rfl, rfl⟩ | ⟨h1, h2, h3⟩
  · exact h.2.2 (j, trv Ω v) List.mem_cons_self
  · refine h.2.2 (j, trv Ω v) (List.mem_cons_of_mem _ (List.mem_filter.mpr ⟨(asc_mem Ω lv 0 _).mpr ⟨j, v, h2, by rw [Nat.zero_add]⟩, ?_⟩))
    simp only [trv_cat]
    by_cases hc : j + 1 = i
    · have : ¬ v.category = 2 := fun q => h3 ⟨hc, q⟩
      simp [h1, this]
    · simp [h1, hc]
theorem hasL_store2 {Ω : Om} {ls' : Array Slot} {nL i : Nat} {lv : LV} {x : Value} (h : lv_has ls' nL ((i, trv Ω x) :: (asc Ω 0 lv).filter (fun q => !(q.1 == i) && (!(q.1 == i + 1) && !(q.1 + 1 == i && q.2.category == 2))))) : hasL Ω ls' nL (lset2 lv i x) := by
  refine ⟨h.1, h.2.1, fun j v hj => ?_⟩
  rcases lset2_at hj with ⟨rfl, rfl⟩ | ⟨h1, h2, h3, h4⟩
  · exact h.2.2 (j, trv Ω v) List.mem_cons_self
  · refine h.2.2 (j, trv Ω v) (List.mem_cons_of_mem _ (List.mem_filter.mpr ⟨(asc_mem Ω lv 0 _).mpr ⟨j, v, h3, by rw [Nat.zero_add]⟩, ?_⟩))
    simp only [trv_cat]
    by_cases hc : j + 1 = i
    · have : ¬ v.category = 2 := fun q => h4 ⟨hc, q⟩
      simp [h1, h2, this]
    · simp [h1, h2, hc]
/-- fewer locals -/
def lle : LV → LV → Prop
  | [], _ => True
  | none :: r, [] => lle r []
  | some _ :: _, [] => False
  | none :: r, _ :: r' => lle r r'
  | some v :: r, o :: r' => o = some v ∧ lle r r'
theorem lle_at : ∀ {a b : LV}, lle a b → ∀ {i : Nat} {v : Value}, a[i]? = some (some v) → b[i]? = some (some v)
  | [], _, _, i, v, h => by simp at h
  | none :: r, [], hl, i, v, h => by
    cases i with
    | zero => simp at h
    | succ i => have := lle_at (b := []) (by simpa [lle] using hl) (by simpa using h : r[i]? = some (some v)); simp at this
  | some w :: r, [], hl, i, v, h => by simp [lle] at hl
  | none :: r, o :: r', hl, i, v, h => by
    cases i with
    | zero => simp at h
    | succ i => have := lle_at (by simpa [lle] using hl : lle r r') (by simpa using h : r[i]? = some (some v)); simpa using this
  | some w :: r, o :: r', hl, i, v, h => by
    simp only [lle] at hl
    cases i with
    | zero => simp at h ⊢; rw [hl.1, h]
    | succ i => have := lle_at hl.2 (by simpa using h : r[i]? = some (some v)); simpa using this
theorem hasL_le {Ω : Om} {ls : Array Slot} {nL : Nat} {a b : LV} (hl : lle a b) (h : hasL Ω ls nL b) : hasL Ω ls nL a := ⟨h.1, h.2.1, fun i v hi => h.2.2 i v (lle_at hl hi)⟩
/-- what may be answered by ireturn -/
def bOkI (r : Option FieldType) (v : Int32) : Prop := r = some .int ∨ (r = some .boolean ∧ (v = 0 ∨ v = 1))
def bRet (M : MD) (Post : Option Value → HI → HL → Prop) (Ω : Om) (p : Program) (l : Launch) (e : Env) (R : Room) (s : State) (m : MethodId) (args : Array Value) (below : List Frame) (meth : Method) (c : Code) (cells slots : Nat) (Q : State → Prop) : Prop :=
  ∀ (pc : Nat) (ls : Array Slot) (hi : HI) (hl : HL) (H : Heap) (locs : List Loc), va_P Ω.2.1 classes (wcells Ω hi hl) H → va_S (inA Ω) s.heap H locs →
    (∀ v : Int32, decode M.2.1 pc = .ok (.ireturn, 1) → bOkI M.2.2.2 v → Post (some (.int v)) hi hl → W p l e R s m args below meth c H locs cells slots Q (F0 m pc ls [.int v])) ∧
    (∀ v : Int64, decode M.2.1 pc = .ok (.lreturn, 1) → M.2.2.2 = some .long → Post (some (.long v)) hi hl → W p l e R s m args below meth c H locs cells slots Q (F0 m pc ls [.long v])) ∧
    (decode M.2.1 pc = .ok (.return_, 1) → M.2.2.2 = none → Post none hi hl → W p l e R s m args below meth c H locs cells slots Q (F0 m pc ls []))
def bCx (M : MD) (d : Nat) (Post : Option Value → HI → HL → Prop) (Ω : Om) (p : Program) (l : Launch) (e : Env) (R : Room) (s : State) (m : MethodId) (args : Array Value) (below : List Frame) (meth : Method) (c : Code) (cells slots : Nat) (Q : State → Prop) : Prop :=
  p.tables.exec = Jvm.exec ∧ c.code = M.2.1 ∧ c.maxLocals = M.2.2.1 ∧ s.vm.findClass M.1.cls = some m.cls ∧ (∀ w ∈ gtbl, w.before args s = true) ∧
  (d ≤ R.frames ∧ 64 * d ≤ R.locals ∧ cells ≤ R.cells ∧ slots ≤ R.slots) ∧ bK Ω s ∧ bRet M Post Ω p l e R s m args below meth c cells slots Q
/-- THE JUDGEMENT: the method M, with room for d calls one in another, at pc with these locals, operands and contents, comes to its end with Post -/
def Wp (M : MD) (d : Nat) (Post : Option Value → HI → HL → Prop) (pc : Nat) (lv : LV) (st : List Value) (hi : HI) (hl : HL) : Prop :=
  ∀ (Ω : Om) (p : Program) (l : Launch) (e : Env) (R : Room) (s : State) (m : MethodId) (args : Array Value) (below : List Frame) (meth : Method) (c : Code) (cells slots : Nat) (Q : State → Prop),
    bCx M d Post Ω p l e R s m args below meth c cells slots Q → ∀ (H : Heap) (locs : List Loc) (ls : Array Slot), va_P Ω.2.1 classes (wcells Ω hi hl) H → va_S (inA Ω) s.heap H locs → hasL Ω ls M.2.2.1 lv →
      W p l e R s m args below meth c H locs cells slots Q (F0 m pc ls (trs Ω st))
section WP
variable {M : MD} {d : Nat} {Post : Option Value → HI → HL → Prop} {pc : Nat} {lv : LV} {st : List Value} {hi : HI} {hl : HL}
theorem wp_conseq {Post' : Option Value → HI → HL → Prop} (h : ∀ v hi hl, Post' v hi hl → Post v hi hl) (k : Wp M d Post' pc lv st hi hl) : Wp M d Post pc lv st hi hl := by
  intro Ω p l e R s m args below meth c cells slots Q C
  obtain ⟨c1, c2, c3, c4, c5, c6, c7, c8⟩ := C
  refine k Ω p l e R s m args below meth c cells slots Q ⟨c1, c2, c3, c4, c5, c6, c7, fun pc ls hi hl H locs hP hS => ?_⟩
  obtain ⟨r1, r2, r3⟩ := c8 pc ls hi hl H locs hP hS
  exact ⟨fun v hd ho hp => r1 v hd ho (h _ _ _ hp), fun v hd ho hp => r2 v hd ho (h _ _ _ hp), fun hd ho hp => r3 hd ho (h _ _ _ hp)⟩
theorem wp_drop {lv' : LV} (h : lle lv' lv) (k : Wp M d Post pc lv' st hi hl) : Wp M d Post pc lv st hi hl := fun Ω p l e R s m args below meth c cells slots Q C H locs ls hP hS hL => k Ω p l e R s m args below meth c cells slots Q C H locs ls hP hS (hasL_le h hL)
/-- a step that touches the operands alone -/
theorem wp_go {pc' : Nat} {st' : List Value} (h : ∀ (Ω : Om) (p : Program) (l : Launch) (e : Env) (R : Room) (s : State) (m : MethodId) (args : Array Value) (below : List Frame) (meth : Method) (c : Code) (cells slots : Nat) (Q : State → Prop) (H : Heap) (locs : List Loc) (ls : Array Slot), p.tables.exec = Jvm.exec → c.code = M.2.1 → s.vm.findClass M.1.cls = some m.cls → (∀ w ∈ gtbl, w.before args s = true) → hasL Ω ls M.2.2.1 lv → W p l e R s m args below meth c H locs cells slots Q (F0 m pc' ls (trs Ω st')) → W p l e R s m args below meth c H locs cells slots Q (F0 m pc ls (trs Ω st)))
    (k : Wp M d Post pc' lv st' hi hl) : Wp M d Post pc lv st hi hl := fun Ω p l e R s m args below meth c cells slots Q C H locs ls hP hS hL =>
  h Ω p l e R s m args below meth c cells slots Q H locs ls C.1 C.2.1 C.2.2.2.1 C.2.2.2.2.1 hL (k Ω p l e R s m args below meth c cells slots Q C H locs ls hP hS hL)
theorem wp_iconst {n : Int} {v : Int32} (hd : decode M.2.1 pc = .ok (.iconst n, 1)) (hv : Int32.ofInt n = v) (k : Wp M d Post (pc + 1) lv (.int v :: st) hi hl) : Wp M d Post pc lv st hi hl := wp_go (fun _ _ _ _ _ _ _ _ _ _ _ _ _ _ _ _ _ hx hb _ _ _ k => lv_iconst hx hb hd hv k) k
theorem wp_bipush {n : Int} {v : Int32} (hd : decode M.2.1 pc = .ok (.bipush n, 2)) (hv : (Int8.ofInt n).toInt32 = v) (k : Wp M d Post (pc + 2) lv (.int v :: st) hi hl) : Wp M d Post pc lv st hi hl := wp_go (fun _ _ _ _ _ _ _ _ _ _ _ _ _ _ _ _ _ hx hb _ _ _ k => lv_bipush hx hb hd hv k) k
theorem wp_sipush {n : Int} {v : Int32} (hd : decode M.2.1 pc = .ok (.sipush n, 3)) (hv : (Int16.ofInt n).toInt32 = v) (k : Wp M d Post (pc + 3) lv (.int v :: st) hi hl) : Wp M d Post pc lv st hi hl := wp_go (fun _ _ _ _ _ _ _ _ _ _ _ _ _ _ _ _ _ hx hb _ _ _ k => lv_sipush hx hb hd hv k) k
theorem wp_lconst {n : Fin 2} {v : Int64} (hd : decode M.2.1 pc = .ok (.lconst n, 1)) (hv : Int64.ofNat (n : Nat) = v) (k : Wp M d Post (pc + 1) lv (.long v :: st) hi hl) : Wp M d Post pc lv st hi hl := wp_go (fun _ _ _ _ _ _ _ _ _ _ _ _ _ _ _ _ _ hx hb _ _ _ k => lv_lconst hx hb hd hv k) k
theorem wp_ldc {index : Nat} {v : Int32} (hd : decode M.2.1 pc = .ok (.ldc index, 2)) (hw : Cond.constant M.1.cls index v ∈ gtbl) (k : Wp M d Post (pc + 2) lv (.int v :: st) hi hl) : Wp M d Post pc lv st hi hl := wp_go (fun _ _ _ _ _ _ _ _ _ _ _ _ _ _ _ _ _ hx hb ho ht _ k => lv_ldc hx hb ho (ht _ hw) hd k) k
theorem wp_ldcw {index : Nat} {v : Int32} (hd : decode M.2.1 pc = .ok (.ldc_w index, 3)) (hw : Cond.constant M.1.cls index v ∈ gtbl) (k : Wp M d Post (pc + 3) lv (.int v :: st) hi hl) : Wp M d Post pc lv st hi hl := wp_go (fun _ _ _ _ _ _ _ _ _ _ _ _ _ _ _ _ _ hx hb ho ht _ k => lv_ldcw hx hb ho (ht _ hw) hd k) k
theorem wp_ldc2 {index : Nat} {v : Int64} (hd : decode M.2.1 pc = .ok (.ldc2_w index, 3)) (hw : Cond.constantLong M.1.cls index v ∈ gtbl) (k : Wp M d Post (pc + 3) lv (.long v :: st) hi hl) : Wp M d Post pc lv st hi hl := wp_go (fun _ _ _ _ _ _ _ _ _ _ _ _ _ _ _ _ _ hx hb ho ht _ k => lv_ldc2 hx hb ho (ht _ hw) hd k) k
theorem wp_iload_n {n : Fin 4} {x : Int32} (hd : decode M.2.1 pc = .ok (.iload_n n, 1)) (hg : lvg lv n = some (.int x)) (k : Wp M d Post (pc + 1) lv (.int x :: st) hi hl) : Wp M d Post pc lv st hi hl := wp_go (fun _ _ _ _ _ _ _ _ _ _ _ _ _ _ _ _ _ hx hb _ _ hL k => lv_iload_n hx hb hd rfl (hL.2.2 _ _ (lvg_at hg)) k) k
theorem wp_iload {n : Nat} {x : Int32} (hd : decode M.2.1 pc = .ok (.iload n, 2)) (hg : lvg lv n = some (.int x)) (k : Wp M d Post (pc + 2) lv (.int x :: st) hi hl) : Wp M d Post pc lv st hi hl := wp_go (fun _ _ _ _ _ _ _ _ _ _ _ _ _ _ _ _ _ hx hb _ _ hL k => lv_iload hx hb hd (hL.2.2 _ _ (lvg_at hg)) k) k
theorem wp_lload_n {n : Fin 4} {x : Int64} (hd : decode M.2.1 pc = .ok (.lload_n n, 1)) (hg : lvg lv n = some (.long x)) (k : Wp M d Post (pc + 1) lv (.long x :: st) hi hl) : Wp M d Post pc lv st hi hl := wp_go (fun _ _ _ _ _ _ _ _ _ _ _ _ _ _ _ _ _ hx hb _ _ hL k => lv_lload_n hx hb hd rfl (hL.2.2 _ _ (lvg_at hg)) k) k
theorem wp_lload {n : Nat} {x : Int64} (hd : decode M.2.1 pc = .ok (.lload n, 2)) (hg : lvg lv n = some (.long x)) (k : Wp M d Post (pc + 2) lv (.long x :: st) hi hl) : Wp M d Post pc lv st hi hl := wp_go (fun _ _ _ _ _ _ _ _ _ _ _ _ _ _ _ _ _ hx hb _ _ hL k => lv_lload hx hb hd (hL.2.2 _ _ (lvg_at hg)) k) k
theorem wp_aload_n {n : Fin 4} {x : Nat} (hd : decode M.2.1 pc = .ok (.aload_n n, 1)) (hg : lvg lv n = some (.ref x)) (k : Wp M d Post (pc + 1) lv (.ref x :: st) hi hl) : Wp M d Post pc lv st hi hl := wp_go (fun _ _ _ _ _ _ _ _ _ _ _ _ _ _ _ _ _ hx hb _ _ hL k => lv_aload_n hx hb hd rfl (hL.2.2 _ _ (lvg_at hg)) k) k
theorem wp_iadd {x y : Int32} (hd : decode M.2.1 pc = .ok (.iadd, 1)) (k : Wp M d Post (pc + 1) lv (.int (x + y) :: st) hi hl) : Wp M d Post pc lv (.int y :: .int x :: st) hi hl := wp_go (fun _ _ _ _ _ _ _ _ _ _ _ _ _ _ _ _ _ hx hb _ _ _ k => lv_iadd hx hb hd k) k
theorem wp_isub {x y : Int32} (hd : decode M.2.1 pc = .ok (.isub, 1)) (k : Wp M d Post (pc + 1) lv (.int (x - y) :: st) hi hl) : Wp M d Post pc lv (.int y :: .int x :: st) hi hl := wp_go (fun _ _ _ _ _ _ _ _ _ _ _ _ _ _ _ _ _ hx hb _ _ _ k => lv_isub hx hb hd k) k
theorem wp_imul {x y : Int32} (hd : decode M.2.1 pc = .ok (.imul, 1)) (k : Wp M d Post (pc + 1) lv (.int (x * y) :: st) hi hl) : Wp M d Post pc lv (.int y :: .int x :: st) hi hl := wp_go (fun _ _ _ _ _ _ _ _ _ _ _ _ _ _ _ _ _ hx hb _ _ _ k => lv_imul hx hb hd k) k
theorem wp_iand {x y : Int32} (hd : decode M.2.1 pc = .ok (.iand, 1)) (k : Wp M d Post (pc + 1) lv (.int (x &&& y) :: st) hi hl) : Wp M d Post pc lv (.int y :: .int x :: st) hi hl := wp_go (fun _ _ _ _ _ _ _ _ _ _ _ _ _ _ _ _ _ hx hb _ _ _ k => lv_iand hx hb hd k) k
theorem wp_ior {x y : Int32} (hd : decode M.2.1 pc = .ok (.ior, 1)) (k : Wp M d Post (pc + 1) lv (.int (x ||| y) :: st) hi hl) : Wp M d Post pc lv (.int y :: .int x :: st) hi hl := wp_go (fun _ _ _ _ _ _ _ _ _ _ _ _ _ _ _ _ _ hx hb _ _ _ k => lv_ior hx hb hd k) k
theorem wp_ixor {x y : Int32} (hd : decode M.2.1 pc = .ok (.ixor, 1)) (k : Wp M d Post (pc + 1) lv (.int (x ^^^ y) :: st) hi hl) : Wp M d Post pc lv (.int y :: .int x :: st) hi hl := wp_go (fun _ _ _ _ _ _ _ _ _ _ _ _ _ _ _ _ _ hx hb _ _ _ k => lv_ixor hx hb hd k) k
theorem wp_idiv {x y : Int32} (hd : decode M.2.1 pc = .ok (.idiv, 1)) (hne : ¬ y = 0) (k : Wp M d Post (pc + 1) lv (.int (x / y) :: st) hi hl) : Wp M d Post pc lv (.int y :: .int x :: st) hi hl := wp_go (fun _ _ _ _ _ _ _ _ _ _ _ _ _ _ _ _ _ hx hb _ _ _ k => lv_idiv hx hb hd hne k) k
theorem wp_irem {x y : Int32} (hd : decode M.2.1 pc = .ok (.irem, 1)) (hne : ¬ y = 0) (k : Wp M d Post (pc + 1) lv (.int (x - x / y * y) :: st) hi hl) : Wp M d Post pc lv (.int y :: .int x :: st) hi hl := wp_go (fun _ _ _ _ _ _ _ _ _ _ _ _ _ _ _ _ _ hx hb _ _ _ k => lv_irem hx hb hd hne k) k
theorem wp_ineg {x : Int32} (hd : decode M.2.1 pc = .ok (.ineg, 1)) (k : Wp M d Post (pc + 1) lv (.int (-x) :: st) hi hl) : Wp M d Post pc lv (.int x :: st) hi hl := wp_go (fun _ _ _ _ _ _ _ _ _ _ _ _ _ _ _ _ _ hx hb _ _ _ k => lv_ineg hx hb hd k) k
theorem wp_ishl {x y : Int32} (hd : decode M.2.1 pc = .ok (.ishl, 1)) (k : Wp M d Post (pc + 1) lv (.int (x <<< (y &&& 31)) :: st) hi hl) : Wp M d Post pc lv (.int y :: .int x :: st) hi hl := wp_go (fun _ _ _ _ _ _ _ _ _ _ _ _ _ _ _ _ _ hx hb _ _ _ k => lv_ishl hx hb hd k) k
theorem wp_ishr {x y : Int32} (hd : decode M.2.1 pc = .ok (.ishr, 1)) (k : Wp M d Post (pc + 1) lv (.int (x >>> (y &&& 31)) :: st) hi hl) : Wp M d Post pc lv (.int y :: .int x :: st) hi hl := wp_go (fun _ _ _ _ _ _ _ _ _ _ _ _ _ _ _ _ _ hx hb _ _ _ k => lv_ishr hx hb hd k) k
theorem wp_iushr {x y : Int32} (hd : decode M.2.1 pc = .ok (.iushr, 1)) (k : Wp M d Post (pc + 1) lv (.int (x.toUInt32 >>> (y.toUInt32 &&& Int32.toUInt32 31)).toInt32 :: st) hi hl) : Wp M d Post pc lv (.int y :: .int x :: st) hi hl := wp_go (fun _ _ _ _ _ _ _ _ _ _ _ _ _ _ _ _ _ hx hb _ _ _ k => lv_iushr hx hb hd rfl k) k
theorem wp_ladd {x y : Int64} (hd : decode M.2.1 pc = .ok (.ladd, 1)) (k : Wp M d Post (pc + 1) lv (.long (x + y) :: st) hi hl) : Wp M d Post pc lv (.long y :: .long x :: st) hi hl := wp_go (fun _ _ _ _ _ _ _ _ _ _ _ _ _ _ _ _ _ hx hb _ _ _ k => lv_ladd hx hb hd k) k
theorem wp_lsub {x y : Int64} (hd : decode M.2.1 pc = .ok (.lsub, 1)) (k : Wp M d Post (pc + 1) lv (.long (x - y) :: st) hi hl) : Wp M d Post pc lv (.long y :: .long x :: st) hi hl := wp_go (fun _ _ _ _ _ _ _ _ _ _ _ _ _ _ _ _ _ hx hb _ _ _ k => lv_lsub hx hb hd k) k
theorem wp_lmul {x y : Int64} (hd : decode M.2.1 pc = .ok (.lmul, 1)) (k : Wp M d Post (pc + 1) lv (.long (x * y) :: st) hi hl) : Wp M d Post pc lv (.long y :: .long x :: st) hi hl := wp_go (fun _ _ _ _ _ _ _ _ _ _ _ _ _ _ _ _ _ hx hb _ _ _ k => lv_lmul hx hb hd k) k
theorem wp_land {x y : Int64} (hd : decode M.2.1 pc = .ok (.land, 1)) (k : Wp M d Post (pc + 1) lv (.long (x &&& y) :: st) hi hl) : Wp M d Post pc lv (.long y :: .long x :: st) hi hl := wp_go (fun _ _ _ _ _ _ _ _ _ _ _ _ _ _ _ _ _ hx hb _ _ _ k => lv_land hx hb hd k) k
theorem wp_lor {x y : Int64} (hd : decode M.2.1 pc = .ok (.lor, 1)) (k : Wp M d Post (pc + 1) lv (.long (x ||| y) :: st) hi hl) : Wp M d Post pc lv (.long y :: .long x :: st) hi hl := wp_go (fun _ _ _ _ _ _ _ _ _ _ _ _ _ _ _ _ _ hx hb _ _ _ k => lv_lor hx hb hd k) k
theorem wp_ldiv {x y : Int64} (hd : decode M.2.1 pc = .ok (.ldiv, 1)) (hne : ¬ y = 0) (k : Wp M d Post (pc + 1) lv (.long (x / y) :: st) hi hl) : Wp M d Post pc lv (.long y :: .long x :: st) hi hl := wp_go (fun _ _ _ _ _ _ _ _ _ _ _ _ _ _ _ _ _ hx hb _ _ _ k => lv_ldiv hx hb hd hne k) k
theorem wp_lrem {x y : Int64} (hd : decode M.2.1 pc = .ok (.lrem, 1)) (hne : ¬ y = 0) (k : Wp M d Post (pc + 1) lv (.long (x - x / y * y) :: st) hi hl) : Wp M d Post pc lv (.long y :: .long x :: st) hi hl := wp_go (fun _ _ _ _ _ _ _ _ _ _ _ _ _ _ _ _ _ hx hb _ _ _ k => lv_lrem hx hb hd hne k) k
theorem wp_lshl {x : Int64} {y : Int32} (hd : decode M.2.1 pc = .ok (.lshl, 1)) (k : Wp M d Post (pc + 1) lv (.long (x <<< (y.toInt64 &&& 63)) :: st) hi hl) : Wp M d Post pc lv (.int y :: .long x :: st) hi hl := wp_go (fun _ _ _ _ _ _ _ _ _ _ _ _ _ _ _ _ _ hx hb _ _ _ k => lv_lshl hx hb hd rfl k) k
theorem wp_lshr {x : Int64} {y : Int32} (hd : decode M.2.1 pc = .ok (.lshr, 1)) (k : Wp M d Post (pc + 1) lv (.long (x >>> (y.toInt64 &&& 63)) :: st) hi hl) : Wp M d Post pc lv (.int y :: .long x :: st) hi hl := wp_go (fun _ _ _ _ _ _ _ _ _ _ _ _ _ _ _ _ _ hx hb _ _ _ k => lv_lshr hx hb hd rfl k) k
theorem wp_i2l {x : Int32} (hd : decode M.2.1 pc = .ok (.i2l, 1)) (k : Wp M d Post (pc + 1) lv (.long x.toInt64 :: st) hi hl) : Wp M d Post pc lv (.int x :: st) hi hl := wp_go (fun _ _ _ _ _ _ _ _ _ _ _ _ _ _ _ _ _ hx hb _ _ _ k => lv_i2l hx hb hd rfl k) k
theorem wp_l2i {x : Int64} (hd : decode M.2.1 pc = .ok (.l2i, 1)) (k : Wp M d Post (pc + 1) lv (.int x.toInt32 :: st) hi hl) : Wp M d Post pc lv (.long x :: st) hi hl := wp_go (fun _ _ _ _ _ _ _ _ _ _ _ _ _ _ _ _ _ hx hb _ _ _ k => lv_l2i hx hb hd rfl k) k
theorem wp_i2b {x : Int32} (hd : decode M.2.1 pc = .ok (.i2b, 1)) (k : Wp M d Post (pc + 1) lv (.int x.toInt8.toInt32 :: st) hi hl) : Wp M d Post pc lv (.int x :: st) hi hl := wp_go (fun _ _ _ _ _ _ _ _ _ _ _ _ _ _ _ _ _ hx hb _ _ _ k => lv_i2b hx hb hd rfl k) k
theorem wp_lcmp {x y : Int64} (hd : decode M.2.1 pc = .ok (.lcmp, 1)) (k : Wp M d Post (pc + 1) lv (.int (lg_cmp x y) :: st) hi hl) : Wp M d Post pc lv (.long y :: .long x :: st) hi hl := wp_go (fun _ _ _ _ _ _ _ _ _ _ _ _ _ _ _ _ _ hx hb _ _ _ k => W.lcmp hx hb hd k) k
theorem wp_dup {va : Value} (hd : decode M.2.1 pc = .ok (.dup, 1)) (hc : va.category = 1) (k : Wp M d Post (pc + 1) lv (va :: va :: st) hi hl) : Wp M d Post pc lv (va :: st) hi hl := wp_go (fun Ω _ _ _ _ _ _ _ _ _ _ _ _ _ _ _ _ hx hb _ _ _ k => lv_dup hx hb hd (by rw [trv_cat]; exact hc) k) k
theorem wp_pop {va : Value} (hd : decode M.2.1 pc = .ok (.pop, 1)) (hc : va.category = 1) (k : Wp M d Post (pc + 1) lv st hi hl) : Wp M d Post pc lv (va :: st) hi hl := wp_go (fun Ω _ _ _ _ _ _ _ _ _ _ _ _ _ _ _ _ hx hb _ _ _ k => lv_pop hx hb hd (by rw [trv_cat]; exact hc) k) k
theorem wp_dup2 {va vb : Value} (hd : decode M.2.1 pc = .ok (.dup2, 1)) (hc : va.category = 1) (hc2 : vb.category = 1) (k : Wp M d Post (pc + 1) lv (va :: vb :: va :: vb :: st) hi hl) : Wp M d Post pc lv (va :: vb :: st) hi hl := wp_go (fun Ω _ _ _ _ _ _ _ _ _ _ _ _ _ _ _ _ hx hb _ _ _ k => lv_dup2_11 hx hb hd (by rw [trv_cat]; exact hc) (by rw [trv_cat]; exact hc2) k) k
theorem wp_goto {off : Int} {tgt : Nat} (hd : decode M.2.1 pc = .ok (.goto off, 3)) (ht : (pc : Int) + off = (tgt : Int)) (k : Wp M d Post tgt lv st hi hl) : Wp M d Post pc lv st hi hl := wp_go (fun _ _ _ _ _ _ _ _ _ _ _ _ _ _ _ _ _ hx hb _ _ _ k => lv_goto hx hb hd ht k) k
end WP
